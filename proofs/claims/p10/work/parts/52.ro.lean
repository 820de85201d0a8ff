/-! laid by wip/hand/tg.py: methods of the class that only read, and those that ask -/
set_option maxRecDepth 100000 in
theorem mt_16 : MT[16]? = some M_16 := rfl
set_option maxRecDepth 100000 in
theorem mt_32 : MT[32]? = some M_32 := rfl
set_option maxRecDepth 100000 in
theorem mt_33 : MT[33]? = some M_33 := rfl
set_option maxRecDepth 100000 in
theorem mt_34 : MT[34]? = some M_34 := rfl
set_option maxRecDepth 100000 in
theorem mt_35 : MT[35]? = some M_35 := rfl
set_option maxRecDepth 100000 in
theorem mt_36 : MT[36]? = some M_36 := rfl
set_option maxRecDepth 100000 in
theorem mt_39 : MT[39]? = some M_39 := rfl
set_option maxRecDepth 100000 in
theorem mt_41 : MT[41]? = some M_41 := rfl
set_option maxRecDepth 100000 in
theorem mt_42 : MT[42]? = some M_42 := rfl
set_option maxRecDepth 100000 in
theorem mt_45 : MT[45]? = some M_45 := rfl
set_option maxRecDepth 100000 in
theorem mt_50 : MT[50]? = some M_50 := rfl
set_option maxRecDepth 100000 in
theorem mt_57 : MT[57]? = some M_57 := rfl
set_option maxRecDepth 100000 in
theorem mt_60 : MT[60]? = some M_60 := rfl
set_option maxRecDepth 100000 in
theorem mt_63 : MT[63]? = some M_63 := rfl
set_option maxRecDepth 100000 in
theorem mt_66 : MT[66]? = some M_66 := rfl
set_option maxRecDepth 100000 in
theorem mt_70 : MT[70]? = some M_70 := rfl
set_option maxRecDepth 100000 in
theorem mt_74 : MT[74]? = some M_74 := rfl
set_option maxRecDepth 100000 in
theorem mt_94 : MT[94]? = some M_94 := rfl
set_option maxRecDepth 100000 in
theorem mt_108 : MT[108]? = some M_108 := rfl
set_option maxRecDepth 100000 in
theorem mt_118 : MT[118]? = some M_118 := rfl
set_option maxRecDepth 100000 in
theorem mt_119 : MT[119]? = some M_119 := rfl
set_option maxRecDepth 100000 in
theorem mt_120 : MT[120]? = some M_120 := rfl
set_option maxRecDepth 100000 in
theorem mt_141 : MT[141]? = some M_141 := rfl
set_option maxRecDepth 100000 in
theorem mt_142 : MT[142]? = some M_142 := rfl
set_option maxRecDepth 100000 in
theorem mt_143 : MT[143]? = some M_143 := rfl
set_option maxRecDepth 100000 in
theorem mt_146 : MT[146]? = some M_146 := rfl
set_option maxRecDepth 100000 in
theorem mt_151 : MT[151]? = some M_151 := rfl
set_option maxRecDepth 100000 in
theorem mt_152 : MT[152]? = some M_152 := rfl
set_option maxRecDepth 100000 in
theorem mt_155 : MT[155]? = some M_155 := rfl
set_option maxRecDepth 100000 in
theorem mt_156 : MT[156]? = some M_156 := rfl
set_option maxRecDepth 100000 in
theorem mt_157 : MT[157]? = some M_157 := rfl
set_option maxRecDepth 100000 in
theorem mt_160 : MT[160]? = some M_160 := rfl
set_option maxRecDepth 100000 in
theorem mt_163 : MT[163]? = some M_163 := rfl
set_option maxRecDepth 100000 in
theorem mt_164 : MT[164]? = some M_164 := rfl
set_option maxRecDepth 100000 in
theorem mt_167 : MT[167]? = some M_167 := rfl
set_option maxRecDepth 100000 in
theorem mt_176 : MT[176]? = some M_176 := rfl
set_option maxRecDepth 100000 in
theorem mt_186 : MT[186]? = some M_186 := rfl
set_option maxRecDepth 100000 in
theorem mt_204 : MT[204]? = some M_204 := rfl
set_option maxRecDepth 100000 in
theorem mt_205 : MT[205]? = some M_205 := rfl
set_option maxRecDepth 100000 in
theorem mt_208 : MT[208]? = some M_208 := rfl
set_option maxRecDepth 100000 in
theorem mt_211 : MT[211]? = some M_211 := rfl
set_option maxRecDepth 100000 in
theorem mt_212 : MT[212]? = some M_212 := rfl
set_option maxRecDepth 100000 in
theorem mt_216 : MT[216]? = some M_216 := rfl
set_option maxRecDepth 100000 in
theorem mt_217 : MT[217]? = some M_217 := rfl
theorem te_16_0 : (pT M_16).find? (fun e => e.1 == 0) = some (0, .iload_n 2, 0, 0) := rfl
theorem te_16_1 : (pT M_16).find? (fun e => e.1 == 1) = some (1, .ifCond .ge 5, 0, 0) := rfl
theorem te_16_4 : (pT M_16).find? (fun e => e.1 == 4) = some (4, .iconst 1, 0, 0) := rfl
theorem te_16_5 : (pT M_16).find? (fun e => e.1 == 5) = some (5, .ireturn, 0, 0) := rfl
theorem te_16_6 : (pT M_16).find? (fun e => e.1 == 6) = some (6, .iload_n 2, 0, 0) := rfl
theorem te_16_7 : (pT M_16).find? (fun e => e.1 == 7) = some (7, .aload_n 0, 0, 0) := rfl
theorem te_16_8 : (pT M_16).find? (fun e => e.1 == 8) = some (8, .getfield 33, 0, 0) := rfl
theorem te_16_11 : (pT M_16).find? (fun e => e.1 == 11) = some (11, .if_icmp .ge 13, 0, 0) := rfl
theorem te_16_14 : (pT M_16).find? (fun e => e.1 == 14) = some (14, .aload_n 0, 0, 0) := rfl
theorem te_16_15 : (pT M_16).find? (fun e => e.1 == 15) = some (15, .getfield 9, 0, 1) := rfl
theorem te_16_18 : (pT M_16).find? (fun e => e.1 == 18) = some (18, .iload_n 2, 0, 0) := rfl
theorem te_16_19 : (pT M_16).find? (fun e => e.1 == 19) = some (19, .iaload, 0, 0) := rfl
theorem te_16_20 : (pT M_16).find? (fun e => e.1 == 20) = some (20, .iconst 5, 0, 0) := rfl
theorem te_16_21 : (pT M_16).find? (fun e => e.1 == 21) = some (21, .if_icmp .ne 5, 0, 0) := rfl
theorem te_16_24 : (pT M_16).find? (fun e => e.1 == 24) = some (24, .iconst 0, 0, 0) := rfl
theorem te_16_25 : (pT M_16).find? (fun e => e.1 == 25) = some (25, .ireturn, 0, 0) := rfl
theorem te_16_26 : (pT M_16).find? (fun e => e.1 == 26) = some (26, .iload_n 3, 0, 0) := rfl
theorem te_16_27 : (pT M_16).find? (fun e => e.1 == 27) = some (27, .ifCond .gt 8, 0, 0) := rfl
theorem te_16_30 : (pT M_16).find? (fun e => e.1 == 30) = some (30, .iload_n 2, 0, 0) := rfl
theorem te_16_31 : (pT M_16).find? (fun e => e.1 == 31) = some (31, .iload_n 1, 0, 0) := rfl
theorem te_16_32 : (pT M_16).find? (fun e => e.1 == 32) = some (32, .if_icmp .ge 7, 0, 0) := rfl
theorem te_16_35 : (pT M_16).find? (fun e => e.1 == 35) = some (35, .iconst 1, 0, 0) := rfl
theorem te_16_36 : (pT M_16).find? (fun e => e.1 == 36) = some (36, .goto 4, 0, 0) := rfl
theorem te_16_39 : (pT M_16).find? (fun e => e.1 == 39) = some (39, .iconst 0, 0, 0) := rfl
theorem te_16_40 : (pT M_16).find? (fun e => e.1 == 40) = some (40, .ireturn, 0, 0) := rfl
theorem te_32_0 : (pT M_32).find? (fun e => e.1 == 0) = some (0, .aload_n 0, 0, 0) := rfl
theorem te_32_1 : (pT M_32).find? (fun e => e.1 == 1) = some (1, .getfield 28, 7, 5) := rfl
theorem te_32_4 : (pT M_32).find? (fun e => e.1 == 4) = some (4, .aload_n 0, 0, 0) := rfl
theorem te_32_5 : (pT M_32).find? (fun e => e.1 == 5) = some (5, .getfield 24, 7, 6) := rfl
theorem te_32_8 : (pT M_32).find? (fun e => e.1 == 8) = some (8, .invokestatic 31, 33, 3) := rfl
theorem te_32_11 : (pT M_32).find? (fun e => e.1 == 11) = some (11, .ireturn, 0, 0) := rfl
theorem te_33_0 : (pT M_33).find? (fun e => e.1 == 0) = some (0, .iload_n 1, 0, 0) := rfl
theorem te_33_1 : (pT M_33).find? (fun e => e.1 == 1) = some (1, .ifCond .gt 7, 0, 0) := rfl
theorem te_33_4 : (pT M_33).find? (fun e => e.1 == 4) = some (4, .iconst 0, 0, 0) := rfl
theorem te_33_5 : (pT M_33).find? (fun e => e.1 == 5) = some (5, .goto 10, 0, 0) := rfl
theorem te_33_8 : (pT M_33).find? (fun e => e.1 == 8) = some (8, .iload_n 0, 0, 0) := rfl
theorem te_33_9 : (pT M_33).find? (fun e => e.1 == 9) = some (9, .ineg, 0, 0) := rfl
theorem te_33_10 : (pT M_33).find? (fun e => e.1 == 10) = some (10, .iload_n 1, 0, 0) := rfl
theorem te_33_11 : (pT M_33).find? (fun e => e.1 == 11) = some (11, .invokestatic 450, 34, 2) := rfl
theorem te_33_14 : (pT M_33).find? (fun e => e.1 == 14) = some (14, .ineg, 0, 0) := rfl
theorem te_33_15 : (pT M_33).find? (fun e => e.1 == 15) = some (15, .ireturn, 0, 0) := rfl
theorem te_34_0 : (pT M_34).find? (fun e => e.1 == 0) = some (0, .iload_n 0, 0, 0) := rfl
theorem te_34_1 : (pT M_34).find? (fun e => e.1 == 1) = some (1, .iload_n 1, 0, 0) := rfl
theorem te_34_2 : (pT M_34).find? (fun e => e.1 == 2) = some (2, .idiv, 0, 0) := rfl
theorem te_34_3 : (pT M_34).find? (fun e => e.1 == 3) = some (3, .istore_n 2, 0, 0) := rfl
theorem te_34_4 : (pT M_34).find? (fun e => e.1 == 4) = some (4, .iload_n 0, 0, 0) := rfl
theorem te_34_5 : (pT M_34).find? (fun e => e.1 == 5) = some (5, .iload_n 1, 0, 0) := rfl
theorem te_34_6 : (pT M_34).find? (fun e => e.1 == 6) = some (6, .ixor, 0, 0) := rfl
theorem te_34_7 : (pT M_34).find? (fun e => e.1 == 7) = some (7, .ifCond .ge 14, 0, 0) := rfl
theorem te_34_10 : (pT M_34).find? (fun e => e.1 == 10) = some (10, .iload_n 2, 0, 0) := rfl
theorem te_34_11 : (pT M_34).find? (fun e => e.1 == 11) = some (11, .iload_n 1, 0, 0) := rfl
theorem te_34_12 : (pT M_34).find? (fun e => e.1 == 12) = some (12, .imul, 0, 0) := rfl
theorem te_34_13 : (pT M_34).find? (fun e => e.1 == 13) = some (13, .iload_n 0, 0, 0) := rfl
theorem te_34_14 : (pT M_34).find? (fun e => e.1 == 14) = some (14, .if_icmp .eq 7, 0, 0) := rfl
theorem te_34_17 : (pT M_34).find? (fun e => e.1 == 17) = some (17, .iload_n 2, 0, 0) := rfl
theorem te_34_18 : (pT M_34).find? (fun e => e.1 == 18) = some (18, .iconst 1, 0, 0) := rfl
theorem te_34_19 : (pT M_34).find? (fun e => e.1 == 19) = some (19, .isub, 0, 0) := rfl
theorem te_34_20 : (pT M_34).find? (fun e => e.1 == 20) = some (20, .ireturn, 0, 0) := rfl
theorem te_34_21 : (pT M_34).find? (fun e => e.1 == 21) = some (21, .iload_n 2, 0, 0) := rfl
theorem te_34_22 : (pT M_34).find? (fun e => e.1 == 22) = some (22, .ireturn, 0, 0) := rfl
theorem te_35_0 : (pT M_35).find? (fun e => e.1 == 0) = some (0, .iconst 0, 0, 0) := rfl
theorem te_35_1 : (pT M_35).find? (fun e => e.1 == 1) = some (1, .istore_n 3, 0, 0) := rfl
theorem te_35_2 : (pT M_35).find? (fun e => e.1 == 2) = some (2, .iconst 0, 0, 0) := rfl
theorem te_35_3 : (pT M_35).find? (fun e => e.1 == 3) = some (3, .istore 4, 0, 0) := rfl
theorem te_35_5 : (pT M_35).find? (fun e => e.1 == 5) = some (5, .iload 4, 0, 0) := rfl
theorem te_35_7 : (pT M_35).find? (fun e => e.1 == 7) = some (7, .iconst 3, 0, 0) := rfl
theorem te_35_8 : (pT M_35).find? (fun e => e.1 == 8) = some (8, .if_icmp .ge 54, 0, 0) := rfl
theorem te_35_11 : (pT M_35).find? (fun e => e.1 == 11) = some (11, .iload 4, 0, 0) := rfl
theorem te_35_13 : (pT M_35).find? (fun e => e.1 == 13) = some (13, .iload_n 1, 0, 0) := rfl
theorem te_35_14 : (pT M_35).find? (fun e => e.1 == 14) = some (14, .if_icmp .ne 15, 0, 0) := rfl
theorem te_35_17 : (pT M_35).find? (fun e => e.1 == 17) = some (17, .aload_n 0, 0, 0) := rfl
theorem te_35_18 : (pT M_35).find? (fun e => e.1 == 18) = some (18, .getfield 30, 0, 7) := rfl
theorem te_35_21 : (pT M_35).find? (fun e => e.1 == 21) = some (21, .iload 4, 0, 0) := rfl
theorem te_35_23 : (pT M_35).find? (fun e => e.1 == 23) = some (23, .iaload, 0, 0) := rfl
theorem te_35_24 : (pT M_35).find? (fun e => e.1 == 24) = some (24, .iconst 1, 0, 0) := rfl
theorem te_35_25 : (pT M_35).find? (fun e => e.1 == 25) = some (25, .iadd, 0, 0) := rfl
theorem te_35_26 : (pT M_35).find? (fun e => e.1 == 26) = some (26, .goto 10, 0, 0) := rfl
theorem te_35_29 : (pT M_35).find? (fun e => e.1 == 29) = some (29, .aload_n 0, 0, 0) := rfl
theorem te_35_30 : (pT M_35).find? (fun e => e.1 == 30) = some (30, .getfield 30, 0, 7) := rfl
theorem te_35_33 : (pT M_35).find? (fun e => e.1 == 33) = some (33, .iload 4, 0, 0) := rfl
theorem te_35_35 : (pT M_35).find? (fun e => e.1 == 35) = some (35, .iaload, 0, 0) := rfl
theorem te_35_36 : (pT M_35).find? (fun e => e.1 == 36) = some (36, .istore 5, 0, 0) := rfl
theorem te_35_38 : (pT M_35).find? (fun e => e.1 == 38) = some (38, .iload_n 3, 0, 0) := rfl
theorem te_35_39 : (pT M_35).find? (fun e => e.1 == 39) = some (39, .iload_n 2, 0, 0) := rfl
theorem te_35_40 : (pT M_35).find? (fun e => e.1 == 40) = some (40, .aload_n 0, 0, 0) := rfl
theorem te_35_41 : (pT M_35).find? (fun e => e.1 == 41) = some (41, .iload 4, 0, 0) := rfl
theorem te_35_43 : (pT M_35).find? (fun e => e.1 == 43) = some (43, .invokevirtual 66, 36, 0) := rfl
theorem te_35_46 : (pT M_35).find? (fun e => e.1 == 46) = some (46, .imul, 0, 0) := rfl
theorem te_35_47 : (pT M_35).find? (fun e => e.1 == 47) = some (47, .iload 5, 0, 0) := rfl
theorem te_35_49 : (pT M_35).find? (fun e => e.1 == 49) = some (49, .invokestatic 69, 33, 3) := rfl
theorem te_35_52 : (pT M_35).find? (fun e => e.1 == 52) = some (52, .invokestatic 72, 40, 2) := rfl
theorem te_35_55 : (pT M_35).find? (fun e => e.1 == 55) = some (55, .istore_n 3, 0, 0) := rfl
theorem te_35_56 : (pT M_35).find? (fun e => e.1 == 56) = some (56, .iinc 4 1, 0, 0) := rfl
theorem te_35_59 : (pT M_35).find? (fun e => e.1 == 59) = some (59, .goto (-54), 0, 0) := rfl
theorem te_35_62 : (pT M_35).find? (fun e => e.1 == 62) = some (62, .iload_n 3, 0, 0) := rfl
theorem te_35_63 : (pT M_35).find? (fun e => e.1 == 63) = some (63, .ireturn, 0, 0) := rfl
theorem te_36_0 : (pT M_36).find? (fun e => e.1 == 0) = some (0, .iconst 0, 0, 0) := rfl
theorem te_36_1 : (pT M_36).find? (fun e => e.1 == 1) = some (1, .istore_n 2, 0, 0) := rfl
theorem te_36_2 : (pT M_36).find? (fun e => e.1 == 2) = some (2, .iconst 0, 0, 0) := rfl
theorem te_36_3 : (pT M_36).find? (fun e => e.1 == 3) = some (3, .istore_n 3, 0, 0) := rfl
theorem te_36_4 : (pT M_36).find? (fun e => e.1 == 4) = some (4, .iload_n 3, 0, 0) := rfl
theorem te_36_5 : (pT M_36).find? (fun e => e.1 == 5) = some (5, .aload_n 0, 0, 0) := rfl
theorem te_36_6 : (pT M_36).find? (fun e => e.1 == 6) = some (6, .getfield 33, 0, 0) := rfl
theorem te_36_9 : (pT M_36).find? (fun e => e.1 == 9) = some (9, .if_icmp .ge 29, 0, 0) := rfl
theorem te_36_12 : (pT M_36).find? (fun e => e.1 == 12) = some (12, .aload_n 0, 0, 0) := rfl
theorem te_36_13 : (pT M_36).find? (fun e => e.1 == 13) = some (13, .iload_n 3, 0, 0) := rfl
theorem te_36_14 : (pT M_36).find? (fun e => e.1 == 14) = some (14, .invokevirtual 52, 37, 0) := rfl
theorem te_36_17 : (pT M_36).find? (fun e => e.1 == 17) = some (17, .iload_n 1, 0, 0) := rfl
theorem te_36_18 : (pT M_36).find? (fun e => e.1 == 18) = some (18, .if_icmp .ne 14, 0, 0) := rfl
theorem te_36_21 : (pT M_36).find? (fun e => e.1 == 21) = some (21, .iload_n 2, 0, 0) := rfl
theorem te_36_22 : (pT M_36).find? (fun e => e.1 == 22) = some (22, .aload_n 0, 0, 0) := rfl
theorem te_36_23 : (pT M_36).find? (fun e => e.1 == 23) = some (23, .iload_n 3, 0, 0) := rfl
theorem te_36_24 : (pT M_36).find? (fun e => e.1 == 24) = some (24, .invokevirtual 55, 38, 0) := rfl
theorem te_36_27 : (pT M_36).find? (fun e => e.1 == 27) = some (27, .invokestatic 58, 39, 2) := rfl
theorem te_36_30 : (pT M_36).find? (fun e => e.1 == 30) = some (30, .iadd, 0, 0) := rfl
theorem te_36_31 : (pT M_36).find? (fun e => e.1 == 31) = some (31, .istore_n 2, 0, 0) := rfl
theorem te_36_32 : (pT M_36).find? (fun e => e.1 == 32) = some (32, .iinc 3 1, 0, 0) := rfl
theorem te_36_35 : (pT M_36).find? (fun e => e.1 == 35) = some (35, .goto (-31), 0, 0) := rfl
theorem te_36_38 : (pT M_36).find? (fun e => e.1 == 38) = some (38, .iload_n 2, 0, 0) := rfl
theorem te_36_39 : (pT M_36).find? (fun e => e.1 == 39) = some (39, .ireturn, 0, 0) := rfl
theorem te_39_0 : (pT M_39).find? (fun e => e.1 == 0) = some (0, .iload_n 0, 0, 0) := rfl
theorem te_39_1 : (pT M_39).find? (fun e => e.1 == 1) = some (1, .iload_n 0, 0, 0) := rfl
theorem te_39_2 : (pT M_39).find? (fun e => e.1 == 2) = some (2, .iconst 1, 0, 0) := rfl
theorem te_39_3 : (pT M_39).find? (fun e => e.1 == 3) = some (3, .iushr, 0, 0) := rfl
theorem te_39_4 : (pT M_39).find? (fun e => e.1 == 4) = some (4, .ldc_w 265, 0, 0) := rfl
theorem te_39_7 : (pT M_39).find? (fun e => e.1 == 7) = some (7, .iand, 0, 0) := rfl
theorem te_39_8 : (pT M_39).find? (fun e => e.1 == 8) = some (8, .isub, 0, 0) := rfl
theorem te_39_9 : (pT M_39).find? (fun e => e.1 == 9) = some (9, .istore_n 0, 0, 0) := rfl
theorem te_39_10 : (pT M_39).find? (fun e => e.1 == 10) = some (10, .iload_n 0, 0, 0) := rfl
theorem te_39_11 : (pT M_39).find? (fun e => e.1 == 11) = some (11, .ldc_w 266, 1, 0) := rfl
theorem te_39_14 : (pT M_39).find? (fun e => e.1 == 14) = some (14, .iand, 0, 0) := rfl
theorem te_39_15 : (pT M_39).find? (fun e => e.1 == 15) = some (15, .iload_n 0, 0, 0) := rfl
theorem te_39_16 : (pT M_39).find? (fun e => e.1 == 16) = some (16, .iconst 2, 0, 0) := rfl
theorem te_39_17 : (pT M_39).find? (fun e => e.1 == 17) = some (17, .iushr, 0, 0) := rfl
theorem te_39_18 : (pT M_39).find? (fun e => e.1 == 18) = some (18, .ldc_w 266, 1, 0) := rfl
theorem te_39_21 : (pT M_39).find? (fun e => e.1 == 21) = some (21, .iand, 0, 0) := rfl
theorem te_39_22 : (pT M_39).find? (fun e => e.1 == 22) = some (22, .iadd, 0, 0) := rfl
theorem te_39_23 : (pT M_39).find? (fun e => e.1 == 23) = some (23, .istore_n 0, 0, 0) := rfl
theorem te_39_24 : (pT M_39).find? (fun e => e.1 == 24) = some (24, .iload_n 0, 0, 0) := rfl
theorem te_39_25 : (pT M_39).find? (fun e => e.1 == 25) = some (25, .iload_n 0, 0, 0) := rfl
theorem te_39_26 : (pT M_39).find? (fun e => e.1 == 26) = some (26, .iconst 4, 0, 0) := rfl
theorem te_39_27 : (pT M_39).find? (fun e => e.1 == 27) = some (27, .iushr, 0, 0) := rfl
theorem te_39_28 : (pT M_39).find? (fun e => e.1 == 28) = some (28, .iadd, 0, 0) := rfl
theorem te_39_29 : (pT M_39).find? (fun e => e.1 == 29) = some (29, .ldc_w 267, 2, 0) := rfl
theorem te_39_32 : (pT M_39).find? (fun e => e.1 == 32) = some (32, .iand, 0, 0) := rfl
theorem te_39_33 : (pT M_39).find? (fun e => e.1 == 33) = some (33, .istore_n 0, 0, 0) := rfl
theorem te_39_34 : (pT M_39).find? (fun e => e.1 == 34) = some (34, .iload_n 0, 0, 0) := rfl
theorem te_39_35 : (pT M_39).find? (fun e => e.1 == 35) = some (35, .iload_n 0, 0, 0) := rfl
theorem te_39_36 : (pT M_39).find? (fun e => e.1 == 36) = some (36, .bipush 8, 0, 0) := rfl
theorem te_39_38 : (pT M_39).find? (fun e => e.1 == 38) = some (38, .iushr, 0, 0) := rfl
theorem te_39_39 : (pT M_39).find? (fun e => e.1 == 39) = some (39, .iadd, 0, 0) := rfl
theorem te_39_40 : (pT M_39).find? (fun e => e.1 == 40) = some (40, .istore_n 0, 0, 0) := rfl
theorem te_39_41 : (pT M_39).find? (fun e => e.1 == 41) = some (41, .iload_n 0, 0, 0) := rfl
theorem te_39_42 : (pT M_39).find? (fun e => e.1 == 42) = some (42, .iload_n 0, 0, 0) := rfl
theorem te_39_43 : (pT M_39).find? (fun e => e.1 == 43) = some (43, .bipush 16, 0, 0) := rfl
theorem te_39_45 : (pT M_39).find? (fun e => e.1 == 45) = some (45, .iushr, 0, 0) := rfl
theorem te_39_46 : (pT M_39).find? (fun e => e.1 == 46) = some (46, .iadd, 0, 0) := rfl
theorem te_39_47 : (pT M_39).find? (fun e => e.1 == 47) = some (47, .istore_n 0, 0, 0) := rfl
theorem te_39_48 : (pT M_39).find? (fun e => e.1 == 48) = some (48, .iload_n 0, 0, 0) := rfl
theorem te_39_49 : (pT M_39).find? (fun e => e.1 == 49) = some (49, .bipush 63, 0, 0) := rfl
theorem te_39_51 : (pT M_39).find? (fun e => e.1 == 51) = some (51, .iand, 0, 0) := rfl
theorem te_39_52 : (pT M_39).find? (fun e => e.1 == 52) = some (52, .ireturn, 0, 0) := rfl
theorem te_41_0 : (pT M_41).find? (fun e => e.1 == 0) = some (0, .iconst 1, 0, 0) := rfl
theorem te_41_1 : (pT M_41).find? (fun e => e.1 == 1) = some (1, .iload_n 1, 0, 0) := rfl
theorem te_41_2 : (pT M_41).find? (fun e => e.1 == 2) = some (2, .aload_n 0, 0, 0) := rfl
theorem te_41_3 : (pT M_41).find? (fun e => e.1 == 3) = some (3, .getfield 19, 9, 1) := rfl
theorem te_41_6 : (pT M_41).find? (fun e => e.1 == 6) = some (6, .getfield 339, 7, 5) := rfl
theorem te_41_9 : (pT M_41).find? (fun e => e.1 == 9) = some (9, .imul, 0, 0) := rfl
theorem te_41_10 : (pT M_41).find? (fun e => e.1 == 10) = some (10, .aload_n 0, 0, 0) := rfl
theorem te_41_11 : (pT M_41).find? (fun e => e.1 == 11) = some (11, .getfield 19, 9, 1) := rfl
theorem te_41_14 : (pT M_41).find? (fun e => e.1 == 14) = some (14, .getfield 336, 7, 6) := rfl
theorem te_41_17 : (pT M_41).find? (fun e => e.1 == 17) = some (17, .invokestatic 393, 33, 2) := rfl
theorem te_41_20 : (pT M_41).find? (fun e => e.1 == 20) = some (20, .aload_n 0, 0, 0) := rfl
theorem te_41_21 : (pT M_41).find? (fun e => e.1 == 21) = some (21, .getfield 12, 9, 0) := rfl
theorem te_41_24 : (pT M_41).find? (fun e => e.1 == 24) = some (24, .iconst (-1), 0, 0) := rfl
theorem te_41_25 : (pT M_41).find? (fun e => e.1 == 25) = some (25, .iload_n 1, 0, 0) := rfl
theorem te_41_26 : (pT M_41).find? (fun e => e.1 == 26) = some (26, .invokevirtual 358, 35, 1) := rfl
theorem te_41_29 : (pT M_41).find? (fun e => e.1 == 29) = some (29, .invokestatic 228, 40, 2) := rfl
theorem te_41_32 : (pT M_41).find? (fun e => e.1 == 32) = some (32, .invokestatic 228, 40, 2) := rfl
theorem te_41_35 : (pT M_41).find? (fun e => e.1 == 35) = some (35, .ireturn, 0, 0) := rfl
theorem te_42_0 : (pT M_42).find? (fun e => e.1 == 0) = some (0, .iconst 0, 0, 0) := rfl
theorem te_42_1 : (pT M_42).find? (fun e => e.1 == 1) = some (1, .istore_n 1, 0, 0) := rfl
theorem te_42_2 : (pT M_42).find? (fun e => e.1 == 2) = some (2, .iconst 0, 0, 0) := rfl
theorem te_42_3 : (pT M_42).find? (fun e => e.1 == 3) = some (3, .istore_n 2, 0, 0) := rfl
theorem te_42_4 : (pT M_42).find? (fun e => e.1 == 4) = some (4, .iload_n 2, 0, 0) := rfl
theorem te_42_5 : (pT M_42).find? (fun e => e.1 == 5) = some (5, .aload_n 0, 0, 0) := rfl
theorem te_42_6 : (pT M_42).find? (fun e => e.1 == 6) = some (6, .getfield 33, 0, 0) := rfl
theorem te_42_9 : (pT M_42).find? (fun e => e.1 == 9) = some (9, .if_icmp .ge 17, 0, 0) := rfl
theorem te_42_12 : (pT M_42).find? (fun e => e.1 == 12) = some (12, .iload_n 1, 0, 0) := rfl
theorem te_42_13 : (pT M_42).find? (fun e => e.1 == 13) = some (13, .aload_n 0, 0, 0) := rfl
theorem te_42_14 : (pT M_42).find? (fun e => e.1 == 14) = some (14, .iload_n 2, 0, 0) := rfl
theorem te_42_15 : (pT M_42).find? (fun e => e.1 == 15) = some (15, .invokevirtual 63, 19, 0) := rfl
theorem te_42_18 : (pT M_42).find? (fun e => e.1 == 18) = some (18, .iadd, 0, 0) := rfl
theorem te_42_19 : (pT M_42).find? (fun e => e.1 == 19) = some (19, .istore_n 1, 0, 0) := rfl
theorem te_42_20 : (pT M_42).find? (fun e => e.1 == 20) = some (20, .iinc 2 1, 0, 0) := rfl
theorem te_42_23 : (pT M_42).find? (fun e => e.1 == 23) = some (23, .goto (-19), 0, 0) := rfl
theorem te_42_26 : (pT M_42).find? (fun e => e.1 == 26) = some (26, .iload_n 1, 0, 0) := rfl
theorem te_42_27 : (pT M_42).find? (fun e => e.1 == 27) = some (27, .ireturn, 0, 0) := rfl
theorem te_45_0 : (pT M_45).find? (fun e => e.1 == 0) = some (0, .iload_n 0, 0, 0) := rfl
theorem te_45_1 : (pT M_45).find? (fun e => e.1 == 1) = some (1, .iconst (-1), 0, 0) := rfl
theorem te_45_2 : (pT M_45).find? (fun e => e.1 == 2) = some (2, .if_icmp .ne 5, 0, 0) := rfl
theorem te_45_5 : (pT M_45).find? (fun e => e.1 == 5) = some (5, .iconst 1, 0, 0) := rfl
theorem te_45_6 : (pT M_45).find? (fun e => e.1 == 6) = some (6, .ireturn, 0, 0) := rfl
theorem te_45_7 : (pT M_45).find? (fun e => e.1 == 7) = some (7, .iload_n 0, 0, 0) := rfl
theorem te_45_8 : (pT M_45).find? (fun e => e.1 == 8) = some (8, .bipush (-2), 0, 0) := rfl
theorem te_45_10 : (pT M_45).find? (fun e => e.1 == 10) = some (10, .if_icmp .ne 21, 0, 0) := rfl
theorem te_45_13 : (pT M_45).find? (fun e => e.1 == 13) = some (13, .iload_n 1, 0, 0) := rfl
theorem te_45_14 : (pT M_45).find? (fun e => e.1 == 14) = some (14, .bipush (-99), 0, 0) := rfl
theorem te_45_16 : (pT M_45).find? (fun e => e.1 == 16) = some (16, .if_icmp .lt 13, 0, 0) := rfl
theorem te_45_19 : (pT M_45).find? (fun e => e.1 == 19) = some (19, .iload_n 1, 0, 0) := rfl
theorem te_45_20 : (pT M_45).find? (fun e => e.1 == 20) = some (20, .bipush 99, 0, 0) := rfl
theorem te_45_22 : (pT M_45).find? (fun e => e.1 == 22) = some (22, .if_icmp .gt 7, 0, 0) := rfl
theorem te_45_25 : (pT M_45).find? (fun e => e.1 == 25) = some (25, .iconst 1, 0, 0) := rfl
theorem te_45_26 : (pT M_45).find? (fun e => e.1 == 26) = some (26, .goto 4, 0, 0) := rfl
theorem te_45_29 : (pT M_45).find? (fun e => e.1 == 29) = some (29, .iconst 0, 0, 0) := rfl
theorem te_45_30 : (pT M_45).find? (fun e => e.1 == 30) = some (30, .ireturn, 0, 0) := rfl
theorem te_45_31 : (pT M_45).find? (fun e => e.1 == 31) = some (31, .iload_n 0, 0, 0) := rfl
theorem te_45_32 : (pT M_45).find? (fun e => e.1 == 32) = some (32, .ifCond .lt 22, 0, 0) := rfl
theorem te_45_35 : (pT M_45).find? (fun e => e.1 == 35) = some (35, .iload_n 0, 0, 0) := rfl
theorem te_45_36 : (pT M_45).find? (fun e => e.1 == 36) = some (36, .bipush 8, 0, 0) := rfl
theorem te_45_38 : (pT M_45).find? (fun e => e.1 == 38) = some (38, .if_icmp .ge 16, 0, 0) := rfl
theorem te_45_41 : (pT M_45).find? (fun e => e.1 == 41) = some (41, .iload_n 1, 0, 0) := rfl
theorem te_45_42 : (pT M_45).find? (fun e => e.1 == 42) = some (42, .ifCond .lt 12, 0, 0) := rfl
theorem te_45_45 : (pT M_45).find? (fun e => e.1 == 45) = some (45, .iload_n 1, 0, 0) := rfl
theorem te_45_46 : (pT M_45).find? (fun e => e.1 == 46) = some (46, .iconst 3, 0, 0) := rfl
theorem te_45_47 : (pT M_45).find? (fun e => e.1 == 47) = some (47, .if_icmp .gt 7, 0, 0) := rfl
theorem te_45_50 : (pT M_45).find? (fun e => e.1 == 50) = some (50, .iconst 1, 0, 0) := rfl
theorem te_45_51 : (pT M_45).find? (fun e => e.1 == 51) = some (51, .goto 4, 0, 0) := rfl
theorem te_45_54 : (pT M_45).find? (fun e => e.1 == 54) = some (54, .iconst 0, 0, 0) := rfl
theorem te_45_55 : (pT M_45).find? (fun e => e.1 == 55) = some (55, .ireturn, 0, 0) := rfl
theorem te_50_0 : (pT M_50).find? (fun e => e.1 == 0) = some (0, .iload_n 0, 0, 0) := rfl
theorem te_50_1 : (pT M_50).find? (fun e => e.1 == 1) = some (1, .ifCond .lt 22, 0, 0) := rfl
theorem te_50_4 : (pT M_50).find? (fun e => e.1 == 4) = some (4, .iload_n 0, 0, 0) := rfl
theorem te_50_5 : (pT M_50).find? (fun e => e.1 == 5) = some (5, .iconst 1, 0, 0) := rfl
theorem te_50_6 : (pT M_50).find? (fun e => e.1 == 6) = some (6, .if_icmp .gt 17, 0, 0) := rfl
theorem te_50_9 : (pT M_50).find? (fun e => e.1 == 9) = some (9, .iload_n 1, 0, 0) := rfl
theorem te_50_10 : (pT M_50).find? (fun e => e.1 == 10) = some (10, .ifCond .lt 13, 0, 0) := rfl
theorem te_50_13 : (pT M_50).find? (fun e => e.1 == 13) = some (13, .iload_n 1, 0, 0) := rfl
theorem te_50_14 : (pT M_50).find? (fun e => e.1 == 14) = some (14, .bipush 7, 0, 0) := rfl
theorem te_50_16 : (pT M_50).find? (fun e => e.1 == 16) = some (16, .if_icmp .gt 7, 0, 0) := rfl
theorem te_50_19 : (pT M_50).find? (fun e => e.1 == 19) = some (19, .iconst 1, 0, 0) := rfl
theorem te_50_20 : (pT M_50).find? (fun e => e.1 == 20) = some (20, .goto 4, 0, 0) := rfl
theorem te_50_23 : (pT M_50).find? (fun e => e.1 == 23) = some (23, .iconst 0, 0, 0) := rfl
theorem te_50_24 : (pT M_50).find? (fun e => e.1 == 24) = some (24, .ireturn, 0, 0) := rfl
theorem te_57_0 : (pT M_57).find? (fun e => e.1 == 0) = some (0, .iload_n 1, 0, 0) := rfl
theorem te_57_1 : (pT M_57).find? (fun e => e.1 == 1) = some (1, .ifCond .lt 14, 0, 0) := rfl
theorem te_57_4 : (pT M_57).find? (fun e => e.1 == 4) = some (4, .iload_n 1, 0, 0) := rfl
theorem te_57_5 : (pT M_57).find? (fun e => e.1 == 5) = some (5, .aload_n 0, 0, 0) := rfl
theorem te_57_6 : (pT M_57).find? (fun e => e.1 == 6) = some (6, .getfield 12, 9, 0) := rfl
theorem te_57_9 : (pT M_57).find? (fun e => e.1 == 9) = some (9, .getfield 101, 0, 0) := rfl
theorem te_57_12 : (pT M_57).find? (fun e => e.1 == 12) = some (12, .if_icmp .lt 14, 0, 0) := rfl
theorem te_57_15 : (pT M_57).find? (fun e => e.1 == 15) = some (15, .new 426, 23, 1) := rfl
theorem te_57_26 : (pT M_57).find? (fun e => e.1 == 26) = some (26, .return_, 0, 0) := rfl
theorem te_60_0 : (pT M_60).find? (fun e => e.1 == 0) = some (0, .iload_n 1, 0, 0) := rfl
theorem te_60_1 : (pT M_60).find? (fun e => e.1 == 1) = some (1, .ifCond .lt 9, 0, 0) := rfl
theorem te_60_4 : (pT M_60).find? (fun e => e.1 == 4) = some (4, .iload_n 1, 0, 0) := rfl
theorem te_60_5 : (pT M_60).find? (fun e => e.1 == 5) = some (5, .bipush 6, 0, 0) := rfl
theorem te_60_7 : (pT M_60).find? (fun e => e.1 == 7) = some (7, .if_icmp .lt 14, 0, 0) := rfl
theorem te_60_10 : (pT M_60).find? (fun e => e.1 == 10) = some (10, .new 426, 25, 1) := rfl
theorem te_60_21 : (pT M_60).find? (fun e => e.1 == 21) = some (21, .return_, 0, 0) := rfl
theorem te_63_0 : (pT M_63).find? (fun e => e.1 == 0) = some (0, .iload_n 1, 0, 0) := rfl
theorem te_63_1 : (pT M_63).find? (fun e => e.1 == 1) = some (1, .ifCond .lt 8, 0, 0) := rfl
theorem te_63_4 : (pT M_63).find? (fun e => e.1 == 4) = some (4, .iload_n 1, 0, 0) := rfl
theorem te_63_5 : (pT M_63).find? (fun e => e.1 == 5) = some (5, .iconst 3, 0, 0) := rfl
theorem te_63_6 : (pT M_63).find? (fun e => e.1 == 6) = some (6, .if_icmp .lt 14, 0, 0) := rfl
theorem te_63_9 : (pT M_63).find? (fun e => e.1 == 9) = some (9, .new 426, 24, 1) := rfl
theorem te_63_20 : (pT M_63).find? (fun e => e.1 == 20) = some (20, .return_, 0, 0) := rfl
theorem te_66_0 : (pT M_66).find? (fun e => e.1 == 0) = some (0, .iload_n 0, 0, 0) := rfl
theorem te_66_1 : (pT M_66).find? (fun e => e.1 == 1) = some (1, .ifCond .lt 8, 0, 0) := rfl
theorem te_66_4 : (pT M_66).find? (fun e => e.1 == 4) = some (4, .iload_n 0, 0, 0) := rfl
theorem te_66_5 : (pT M_66).find? (fun e => e.1 == 5) = some (5, .iload_n 1, 0, 0) := rfl
theorem te_66_6 : (pT M_66).find? (fun e => e.1 == 6) = some (6, .if_icmp .le 14, 0, 0) := rfl
theorem te_66_9 : (pT M_66).find? (fun e => e.1 == 9) = some (9, .new 439, 27, 1) := rfl
theorem te_66_20 : (pT M_66).find? (fun e => e.1 == 20) = some (20, .return_, 0, 0) := rfl
theorem te_70_0 : (pT M_70).find? (fun e => e.1 == 0) = some (0, .iload_n 1, 0, 0) := rfl
theorem te_70_1 : (pT M_70).find? (fun e => e.1 == 1) = some (1, .ifCond .lt 14, 0, 0) := rfl
theorem te_70_4 : (pT M_70).find? (fun e => e.1 == 4) = some (4, .iload_n 1, 0, 0) := rfl
theorem te_70_5 : (pT M_70).find? (fun e => e.1 == 5) = some (5, .aload_n 0, 0, 0) := rfl
theorem te_70_6 : (pT M_70).find? (fun e => e.1 == 6) = some (6, .getfield 19, 9, 1) := rfl
theorem te_70_9 : (pT M_70).find? (fun e => e.1 == 9) = some (9, .getfield 386, 7, 0) := rfl
theorem te_70_12 : (pT M_70).find? (fun e => e.1 == 12) = some (12, .if_icmp .lt 14, 0, 0) := rfl
theorem te_70_15 : (pT M_70).find? (fun e => e.1 == 15) = some (15, .new 426, 26, 1) := rfl
theorem te_70_26 : (pT M_70).find? (fun e => e.1 == 26) = some (26, .return_, 0, 0) := rfl
theorem te_74_0 : (pT M_74).find? (fun e => e.1 == 0) = some (0, .iload_n 0, 0, 0) := rfl
theorem te_74_1 : (pT M_74).find? (fun e => e.1 == 1) = some (1, .iconst 1, 0, 0) := rfl
theorem te_74_2 : (pT M_74).find? (fun e => e.1 == 2) = some (2, .if_icmp .lt 9, 0, 0) := rfl
theorem te_74_5 : (pT M_74).find? (fun e => e.1 == 5) = some (5, .iload_n 0, 0, 0) := rfl
theorem te_74_6 : (pT M_74).find? (fun e => e.1 == 6) = some (6, .bipush 12, 0, 0) := rfl
theorem te_74_8 : (pT M_74).find? (fun e => e.1 == 8) = some (8, .if_icmp .le 14, 0, 0) := rfl
theorem te_74_11 : (pT M_74).find? (fun e => e.1 == 11) = some (11, .new 83, 14, 1) := rfl
theorem te_74_22 : (pT M_74).find? (fun e => e.1 == 22) = some (22, .return_, 0, 0) := rfl
theorem te_94_0 : (pT M_94).find? (fun e => e.1 == 0) = some (0, .iload_n 0, 0, 0) := rfl
theorem te_94_1 : (pT M_94).find? (fun e => e.1 == 1) = some (1, .iload_n 1, 0, 0) := rfl
theorem te_94_2 : (pT M_94).find? (fun e => e.1 == 2) = some (2, .irem, 0, 0) := rfl
theorem te_94_3 : (pT M_94).find? (fun e => e.1 == 3) = some (3, .istore_n 2, 0, 0) := rfl
theorem te_94_4 : (pT M_94).find? (fun e => e.1 == 4) = some (4, .iload_n 0, 0, 0) := rfl
theorem te_94_5 : (pT M_94).find? (fun e => e.1 == 5) = some (5, .iload_n 1, 0, 0) := rfl
theorem te_94_6 : (pT M_94).find? (fun e => e.1 == 6) = some (6, .ixor, 0, 0) := rfl
theorem te_94_7 : (pT M_94).find? (fun e => e.1 == 7) = some (7, .ifCond .ge 11, 0, 0) := rfl
theorem te_94_10 : (pT M_94).find? (fun e => e.1 == 10) = some (10, .iload_n 2, 0, 0) := rfl
theorem te_94_11 : (pT M_94).find? (fun e => e.1 == 11) = some (11, .ifCond .eq 7, 0, 0) := rfl
theorem te_94_14 : (pT M_94).find? (fun e => e.1 == 14) = some (14, .iload_n 2, 0, 0) := rfl
theorem te_94_15 : (pT M_94).find? (fun e => e.1 == 15) = some (15, .iload_n 1, 0, 0) := rfl
theorem te_94_16 : (pT M_94).find? (fun e => e.1 == 16) = some (16, .iadd, 0, 0) := rfl
theorem te_94_17 : (pT M_94).find? (fun e => e.1 == 17) = some (17, .ireturn, 0, 0) := rfl
theorem te_94_18 : (pT M_94).find? (fun e => e.1 == 18) = some (18, .iload_n 2, 0, 0) := rfl
theorem te_94_19 : (pT M_94).find? (fun e => e.1 == 19) = some (19, .ireturn, 0, 0) := rfl
theorem te_108_0 : (pT M_108).find? (fun e => e.1 == 0) = some (0, .aload_n 0, 0, 0) := rfl
theorem te_108_1 : (pT M_108).find? (fun e => e.1 == 1) = some (1, .getfield 9, 1, 3) := rfl
theorem te_108_4 : (pT M_108).find? (fun e => e.1 == 4) = some (4, .ifCond .gt 7, 0, 0) := rfl
theorem te_108_7 : (pT M_108).find? (fun e => e.1 == 7) = some (7, .iconst 0, 0, 0) := rfl
theorem te_108_8 : (pT M_108).find? (fun e => e.1 == 8) = some (8, .goto 14, 0, 0) := rfl
theorem te_108_11 : (pT M_108).find? (fun e => e.1 == 11) = some (11, .aload_n 0, 0, 0) := rfl
theorem te_108_12 : (pT M_108).find? (fun e => e.1 == 12) = some (12, .getfield 19, 1, 9) := rfl
theorem te_108_15 : (pT M_108).find? (fun e => e.1 == 15) = some (15, .iload_n 1, 0, 0) := rfl
theorem te_108_16 : (pT M_108).find? (fun e => e.1 == 16) = some (16, .iaload, 0, 0) := rfl
theorem te_108_17 : (pT M_108).find? (fun e => e.1 == 17) = some (17, .aload_n 0, 0, 0) := rfl
theorem te_108_18 : (pT M_108).find? (fun e => e.1 == 18) = some (18, .getfield 9, 1, 3) := rfl
theorem te_108_21 : (pT M_108).find? (fun e => e.1 == 21) = some (21, .idiv, 0, 0) := rfl
theorem te_108_22 : (pT M_108).find? (fun e => e.1 == 22) = some (22, .ireturn, 0, 0) := rfl
theorem te_118_0 : (pT M_118).find? (fun e => e.1 == 0) = some (0, .iload_n 0, 0, 0) := rfl
theorem te_118_1 : (pT M_118).find? (fun e => e.1 == 1) = some (1, .ifCond .lt 8, 0, 0) := rfl
theorem te_118_4 : (pT M_118).find? (fun e => e.1 == 4) = some (4, .iload_n 0, 0, 0) := rfl
theorem te_118_5 : (pT M_118).find? (fun e => e.1 == 5) = some (5, .iload_n 1, 0, 0) := rfl
theorem te_118_6 : (pT M_118).find? (fun e => e.1 == 6) = some (6, .if_icmp .lt 14, 0, 0) := rfl
theorem te_118_9 : (pT M_118).find? (fun e => e.1 == 9) = some (9, .new 83, 15, 1) := rfl
theorem te_118_20 : (pT M_118).find? (fun e => e.1 == 20) = some (20, .return_, 0, 0) := rfl
theorem te_119_0 : (pT M_119).find? (fun e => e.1 == 0) = some (0, .iconst 0, 0, 0) := rfl
theorem te_119_1 : (pT M_119).find? (fun e => e.1 == 1) = some (1, .istore 4, 0, 0) := rfl
theorem te_119_3 : (pT M_119).find? (fun e => e.1 == 3) = some (3, .iconst 0, 0, 0) := rfl
theorem te_119_4 : (pT M_119).find? (fun e => e.1 == 4) = some (4, .istore 5, 0, 0) := rfl
theorem te_119_6 : (pT M_119).find? (fun e => e.1 == 6) = some (6, .iload 5, 0, 0) := rfl
theorem te_119_8 : (pT M_119).find? (fun e => e.1 == 8) = some (8, .aload_n 0, 0, 0) := rfl
theorem te_119_9 : (pT M_119).find? (fun e => e.1 == 9) = some (9, .getfield 39, 1, 2) := rfl
theorem te_119_12 : (pT M_119).find? (fun e => e.1 == 12) = some (12, .if_icmp .ge 32, 0, 0) := rfl
theorem te_119_15 : (pT M_119).find? (fun e => e.1 == 15) = some (15, .aload_n 1, 0, 0) := rfl
theorem te_119_16 : (pT M_119).find? (fun e => e.1 == 16) = some (16, .iload 5, 0, 0) := rfl
theorem te_119_18 : (pT M_119).find? (fun e => e.1 == 18) = some (18, .invokevirtual 130, 37, 1) := rfl
theorem te_119_21 : (pT M_119).find? (fun e => e.1 == 21) = some (21, .iload_n 2, 0, 0) := rfl
theorem te_119_22 : (pT M_119).find? (fun e => e.1 == 22) = some (22, .if_icmp .ne 16, 0, 0) := rfl
theorem te_119_25 : (pT M_119).find? (fun e => e.1 == 25) = some (25, .iload 4, 0, 0) := rfl
theorem te_119_27 : (pT M_119).find? (fun e => e.1 == 27) = some (27, .aload_n 0, 0, 0) := rfl
theorem te_119_28 : (pT M_119).find? (fun e => e.1 == 28) = some (28, .aload_n 1, 0, 0) := rfl
theorem te_119_29 : (pT M_119).find? (fun e => e.1 == 29) = some (29, .iload 5, 0, 0) := rfl
theorem te_119_31 : (pT M_119).find? (fun e => e.1 == 31) = some (31, .iload_n 3, 0, 0) := rfl
theorem te_119_32 : (pT M_119).find? (fun e => e.1 == 32) = some (32, .invokevirtual 133, 120, 0) := rfl
theorem te_119_35 : (pT M_119).find? (fun e => e.1 == 35) = some (35, .iadd, 0, 0) := rfl
theorem te_119_36 : (pT M_119).find? (fun e => e.1 == 36) = some (36, .istore 4, 0, 0) := rfl
theorem te_119_38 : (pT M_119).find? (fun e => e.1 == 38) = some (38, .iinc 5 1, 0, 0) := rfl
theorem te_119_41 : (pT M_119).find? (fun e => e.1 == 41) = some (41, .goto (-35), 0, 0) := rfl
theorem te_119_44 : (pT M_119).find? (fun e => e.1 == 44) = some (44, .iload 4, 0, 0) := rfl
theorem te_119_46 : (pT M_119).find? (fun e => e.1 == 46) = some (46, .ireturn, 0, 0) := rfl
theorem te_120_0 : (pT M_120).find? (fun e => e.1 == 0) = some (0, .iconst 0, 0, 0) := rfl
theorem te_120_1 : (pT M_120).find? (fun e => e.1 == 1) = some (1, .istore 4, 0, 0) := rfl
theorem te_120_3 : (pT M_120).find? (fun e => e.1 == 3) = some (3, .iconst 0, 0, 0) := rfl
theorem te_120_4 : (pT M_120).find? (fun e => e.1 == 4) = some (4, .istore 5, 0, 0) := rfl
theorem te_120_6 : (pT M_120).find? (fun e => e.1 == 6) = some (6, .iload 5, 0, 0) := rfl
theorem te_120_8 : (pT M_120).find? (fun e => e.1 == 8) = some (8, .iconst 4, 0, 0) := rfl
theorem te_120_9 : (pT M_120).find? (fun e => e.1 == 9) = some (9, .if_icmp .ge 43, 0, 0) := rfl
theorem te_120_12 : (pT M_120).find? (fun e => e.1 == 12) = some (12, .aload_n 1, 0, 0) := rfl
theorem te_120_13 : (pT M_120).find? (fun e => e.1 == 13) = some (13, .iload_n 2, 0, 0) := rfl
theorem te_120_14 : (pT M_120).find? (fun e => e.1 == 14) = some (14, .invokevirtual 127, 38, 1) := rfl
theorem te_120_17 : (pT M_120).find? (fun e => e.1 == 17) = some (17, .iconst 1, 0, 0) := rfl
theorem te_120_18 : (pT M_120).find? (fun e => e.1 == 18) = some (18, .iload 5, 0, 0) := rfl
theorem te_120_20 : (pT M_120).find? (fun e => e.1 == 20) = some (20, .ishl, 0, 0) := rfl
theorem te_120_21 : (pT M_120).find? (fun e => e.1 == 21) = some (21, .iand, 0, 0) := rfl
theorem te_120_22 : (pT M_120).find? (fun e => e.1 == 22) = some (22, .ifCond .eq 24, 0, 0) := rfl
theorem te_120_25 : (pT M_120).find? (fun e => e.1 == 25) = some (25, .aload_n 0, 0, 0) := rfl
theorem te_120_26 : (pT M_120).find? (fun e => e.1 == 26) = some (26, .getfield 15, 1, 8) := rfl
theorem te_120_29 : (pT M_120).find? (fun e => e.1 == 29) = some (29, .iload_n 2, 0, 0) := rfl
theorem te_120_30 : (pT M_120).find? (fun e => e.1 == 30) = some (30, .iaload, 0, 0) := rfl
theorem te_120_31 : (pT M_120).find? (fun e => e.1 == 31) = some (31, .iload 5, 0, 0) := rfl
theorem te_120_33 : (pT M_120).find? (fun e => e.1 == 33) = some (33, .iadd, 0, 0) := rfl
theorem te_120_34 : (pT M_120).find? (fun e => e.1 == 34) = some (34, .aload_n 0, 0, 0) := rfl
theorem te_120_35 : (pT M_120).find? (fun e => e.1 == 35) = some (35, .getfield 9, 1, 3) := rfl
theorem te_120_38 : (pT M_120).find? (fun e => e.1 == 38) = some (38, .irem, 0, 0) := rfl
theorem te_120_39 : (pT M_120).find? (fun e => e.1 == 39) = some (39, .iload_n 3, 0, 0) := rfl
theorem te_120_40 : (pT M_120).find? (fun e => e.1 == 40) = some (40, .if_icmp .ne 6, 0, 0) := rfl
theorem te_120_43 : (pT M_120).find? (fun e => e.1 == 43) = some (43, .iinc 4 1, 0, 0) := rfl
theorem te_120_46 : (pT M_120).find? (fun e => e.1 == 46) = some (46, .iinc 5 1, 0, 0) := rfl
theorem te_120_49 : (pT M_120).find? (fun e => e.1 == 49) = some (49, .goto (-43), 0, 0) := rfl
theorem te_120_52 : (pT M_120).find? (fun e => e.1 == 52) = some (52, .iload 4, 0, 0) := rfl
theorem te_120_54 : (pT M_120).find? (fun e => e.1 == 54) = some (54, .ireturn, 0, 0) := rfl
theorem te_141_0 : (pT M_141).find? (fun e => e.1 == 0) = some (0, .iconst 0, 0, 0) := rfl
theorem te_141_1 : (pT M_141).find? (fun e => e.1 == 1) = some (1, .istore_n 1, 0, 0) := rfl
theorem te_141_2 : (pT M_141).find? (fun e => e.1 == 2) = some (2, .iconst 0, 0, 0) := rfl
theorem te_141_3 : (pT M_141).find? (fun e => e.1 == 3) = some (3, .istore_n 2, 0, 0) := rfl
theorem te_141_4 : (pT M_141).find? (fun e => e.1 == 4) = some (4, .iload_n 2, 0, 0) := rfl
theorem te_141_5 : (pT M_141).find? (fun e => e.1 == 5) = some (5, .aload_n 0, 0, 0) := rfl
theorem te_141_6 : (pT M_141).find? (fun e => e.1 == 6) = some (6, .getfield 39, 1, 2) := rfl
theorem te_141_9 : (pT M_141).find? (fun e => e.1 == 9) = some (9, .if_icmp .ge 18, 0, 0) := rfl
theorem te_141_12 : (pT M_141).find? (fun e => e.1 == 12) = some (12, .iload_n 1, 0, 0) := rfl
theorem te_141_13 : (pT M_141).find? (fun e => e.1 == 13) = some (13, .aload_n 0, 0, 0) := rfl
theorem te_141_14 : (pT M_141).find? (fun e => e.1 == 14) = some (14, .getfield 31, 1, 13) := rfl
theorem te_141_17 : (pT M_141).find? (fun e => e.1 == 17) = some (17, .iload_n 2, 0, 0) := rfl
theorem te_141_18 : (pT M_141).find? (fun e => e.1 == 18) = some (18, .iaload, 0, 0) := rfl
theorem te_141_19 : (pT M_141).find? (fun e => e.1 == 19) = some (19, .iadd, 0, 0) := rfl
theorem te_141_20 : (pT M_141).find? (fun e => e.1 == 20) = some (20, .istore_n 1, 0, 0) := rfl
theorem te_141_21 : (pT M_141).find? (fun e => e.1 == 21) = some (21, .iinc 2 1, 0, 0) := rfl
theorem te_141_24 : (pT M_141).find? (fun e => e.1 == 24) = some (24, .goto (-20), 0, 0) := rfl
theorem te_141_27 : (pT M_141).find? (fun e => e.1 == 27) = some (27, .iload_n 1, 0, 0) := rfl
theorem te_141_28 : (pT M_141).find? (fun e => e.1 == 28) = some (28, .ireturn, 0, 0) := rfl
theorem te_142_0 : (pT M_142).find? (fun e => e.1 == 0) = some (0, .iconst 0, 0, 0) := rfl
theorem te_142_1 : (pT M_142).find? (fun e => e.1 == 1) = some (1, .istore_n 1, 0, 0) := rfl
theorem te_142_2 : (pT M_142).find? (fun e => e.1 == 2) = some (2, .aload_n 0, 0, 0) := rfl
theorem te_142_3 : (pT M_142).find? (fun e => e.1 == 3) = some (3, .iconst 0, 0, 0) := rfl
theorem te_142_4 : (pT M_142).find? (fun e => e.1 == 4) = some (4, .invokevirtual 121, 143, 0) := rfl
theorem te_142_7 : (pT M_142).find? (fun e => e.1 == 7) = some (7, .istore_n 2, 0, 0) := rfl
theorem te_142_8 : (pT M_142).find? (fun e => e.1 == 8) = some (8, .iconst 1, 0, 0) := rfl
theorem te_142_9 : (pT M_142).find? (fun e => e.1 == 9) = some (9, .istore_n 3, 0, 0) := rfl
theorem te_142_10 : (pT M_142).find? (fun e => e.1 == 10) = some (10, .iload_n 3, 0, 0) := rfl
theorem te_142_11 : (pT M_142).find? (fun e => e.1 == 11) = some (11, .aload_n 0, 0, 0) := rfl
theorem te_142_12 : (pT M_142).find? (fun e => e.1 == 12) = some (12, .getfield 9, 1, 3) := rfl
theorem te_142_15 : (pT M_142).find? (fun e => e.1 == 15) = some (15, .if_icmp .ge 27, 0, 0) := rfl
theorem te_142_18 : (pT M_142).find? (fun e => e.1 == 18) = some (18, .aload_n 0, 0, 0) := rfl
theorem te_142_19 : (pT M_142).find? (fun e => e.1 == 19) = some (19, .iload_n 3, 0, 0) := rfl
theorem te_142_20 : (pT M_142).find? (fun e => e.1 == 20) = some (20, .invokevirtual 121, 143, 0) := rfl
theorem te_142_23 : (pT M_142).find? (fun e => e.1 == 23) = some (23, .istore 4, 0, 0) := rfl
theorem te_142_25 : (pT M_142).find? (fun e => e.1 == 25) = some (25, .iload 4, 0, 0) := rfl
theorem te_142_27 : (pT M_142).find? (fun e => e.1 == 27) = some (27, .iload_n 2, 0, 0) := rfl
theorem te_142_28 : (pT M_142).find? (fun e => e.1 == 28) = some (28, .if_icmp .le 8, 0, 0) := rfl
theorem te_142_31 : (pT M_142).find? (fun e => e.1 == 31) = some (31, .iload 4, 0, 0) := rfl
theorem te_142_33 : (pT M_142).find? (fun e => e.1 == 33) = some (33, .istore_n 2, 0, 0) := rfl
theorem te_142_34 : (pT M_142).find? (fun e => e.1 == 34) = some (34, .iload_n 3, 0, 0) := rfl
theorem te_142_35 : (pT M_142).find? (fun e => e.1 == 35) = some (35, .istore_n 1, 0, 0) := rfl
theorem te_142_36 : (pT M_142).find? (fun e => e.1 == 36) = some (36, .iinc 3 1, 0, 0) := rfl
theorem te_142_39 : (pT M_142).find? (fun e => e.1 == 39) = some (39, .goto (-29), 0, 0) := rfl
theorem te_142_42 : (pT M_142).find? (fun e => e.1 == 42) = some (42, .iload_n 1, 0, 0) := rfl
theorem te_142_43 : (pT M_142).find? (fun e => e.1 == 43) = some (43, .ireturn, 0, 0) := rfl
theorem te_143_0 : (pT M_143).find? (fun e => e.1 == 0) = some (0, .iconst 0, 0, 0) := rfl
theorem te_143_1 : (pT M_143).find? (fun e => e.1 == 1) = some (1, .istore_n 2, 0, 0) := rfl
theorem te_143_2 : (pT M_143).find? (fun e => e.1 == 2) = some (2, .iconst 0, 0, 0) := rfl
theorem te_143_3 : (pT M_143).find? (fun e => e.1 == 3) = some (3, .istore_n 3, 0, 0) := rfl
theorem te_143_4 : (pT M_143).find? (fun e => e.1 == 4) = some (4, .iload_n 3, 0, 0) := rfl
theorem te_143_5 : (pT M_143).find? (fun e => e.1 == 5) = some (5, .aload_n 0, 0, 0) := rfl
theorem te_143_6 : (pT M_143).find? (fun e => e.1 == 6) = some (6, .getfield 39, 1, 2) := rfl
theorem te_143_9 : (pT M_143).find? (fun e => e.1 == 9) = some (9, .if_icmp .ge 58, 0, 0) := rfl
theorem te_143_12 : (pT M_143).find? (fun e => e.1 == 12) = some (12, .iload_n 1, 0, 0) := rfl
theorem te_143_13 : (pT M_143).find? (fun e => e.1 == 13) = some (13, .aload_n 0, 0, 0) := rfl
theorem te_143_14 : (pT M_143).find? (fun e => e.1 == 14) = some (14, .getfield 22, 1, 10) := rfl
theorem te_143_17 : (pT M_143).find? (fun e => e.1 == 17) = some (17, .iload_n 3, 0, 0) := rfl
theorem te_143_18 : (pT M_143).find? (fun e => e.1 == 18) = some (18, .iaload, 0, 0) := rfl
theorem te_143_19 : (pT M_143).find? (fun e => e.1 == 19) = some (19, .isub, 0, 0) := rfl
theorem te_143_20 : (pT M_143).find? (fun e => e.1 == 20) = some (20, .aload_n 0, 0, 0) := rfl
theorem te_143_21 : (pT M_143).find? (fun e => e.1 == 21) = some (21, .getfield 9, 1, 3) := rfl
theorem te_143_24 : (pT M_143).find? (fun e => e.1 == 24) = some (24, .invokestatic 118, 94, 2) := rfl
theorem te_143_27 : (pT M_143).find? (fun e => e.1 == 27) = some (27, .istore 4, 0, 0) := rfl
theorem te_143_29 : (pT M_143).find? (fun e => e.1 == 29) = some (29, .iload 4, 0, 0) := rfl
theorem te_143_31 : (pT M_143).find? (fun e => e.1 == 31) = some (31, .aload_n 0, 0, 0) := rfl
theorem te_143_32 : (pT M_143).find? (fun e => e.1 == 32) = some (32, .getfield 25, 1, 11) := rfl
theorem te_143_35 : (pT M_143).find? (fun e => e.1 == 35) = some (35, .iload_n 3, 0, 0) := rfl
theorem te_143_36 : (pT M_143).find? (fun e => e.1 == 36) = some (36, .iaload, 0, 0) := rfl
theorem te_143_37 : (pT M_143).find? (fun e => e.1 == 37) = some (37, .if_icmp .ge 24, 0, 0) := rfl
theorem te_143_40 : (pT M_143).find? (fun e => e.1 == 40) = some (40, .iload_n 2, 0, 0) := rfl
theorem te_143_41 : (pT M_143).find? (fun e => e.1 == 41) = some (41, .aload_n 0, 0, 0) := rfl
theorem te_143_42 : (pT M_143).find? (fun e => e.1 == 42) = some (42, .getfield 25, 1, 11) := rfl
theorem te_143_45 : (pT M_143).find? (fun e => e.1 == 45) = some (45, .iload_n 3, 0, 0) := rfl
theorem te_143_46 : (pT M_143).find? (fun e => e.1 == 46) = some (46, .iaload, 0, 0) := rfl
theorem te_143_47 : (pT M_143).find? (fun e => e.1 == 47) = some (47, .iload 4, 0, 0) := rfl
theorem te_143_49 : (pT M_143).find? (fun e => e.1 == 49) = some (49, .isub, 0, 0) := rfl
theorem te_143_50 : (pT M_143).find? (fun e => e.1 == 50) = some (50, .iconst 1, 0, 0) := rfl
theorem te_143_51 : (pT M_143).find? (fun e => e.1 == 51) = some (51, .isub, 0, 0) := rfl
theorem te_143_52 : (pT M_143).find? (fun e => e.1 == 52) = some (52, .aload_n 0, 0, 0) := rfl
theorem te_143_53 : (pT M_143).find? (fun e => e.1 == 53) = some (53, .getfield 9, 1, 3) := rfl
theorem te_143_56 : (pT M_143).find? (fun e => e.1 == 56) = some (56, .idiv, 0, 0) := rfl
theorem te_143_57 : (pT M_143).find? (fun e => e.1 == 57) = some (57, .iconst 1, 0, 0) := rfl
theorem te_143_58 : (pT M_143).find? (fun e => e.1 == 58) = some (58, .iadd, 0, 0) := rfl
theorem te_143_59 : (pT M_143).find? (fun e => e.1 == 59) = some (59, .iadd, 0, 0) := rfl
theorem te_143_60 : (pT M_143).find? (fun e => e.1 == 60) = some (60, .istore_n 2, 0, 0) := rfl
theorem te_143_61 : (pT M_143).find? (fun e => e.1 == 61) = some (61, .iinc 3 1, 0, 0) := rfl
theorem te_143_64 : (pT M_143).find? (fun e => e.1 == 64) = some (64, .goto (-60), 0, 0) := rfl
theorem te_143_67 : (pT M_143).find? (fun e => e.1 == 67) = some (67, .iload_n 2, 0, 0) := rfl
theorem te_143_68 : (pT M_143).find? (fun e => e.1 == 68) = some (68, .ireturn, 0, 0) := rfl
theorem te_146_0 : (pT M_146).find? (fun e => e.1 == 0) = some (0, .bipush 99, 0, 0) := rfl
theorem te_146_2 : (pT M_146).find? (fun e => e.1 == 2) = some (2, .istore_n 3, 0, 0) := rfl
theorem te_146_3 : (pT M_146).find? (fun e => e.1 == 3) = some (3, .iconst 0, 0, 0) := rfl
theorem te_146_4 : (pT M_146).find? (fun e => e.1 == 4) = some (4, .istore 4, 0, 0) := rfl
theorem te_146_6 : (pT M_146).find? (fun e => e.1 == 6) = some (6, .iload 4, 0, 0) := rfl
theorem te_146_8 : (pT M_146).find? (fun e => e.1 == 8) = some (8, .aload_n 1, 0, 0) := rfl
theorem te_146_9 : (pT M_146).find? (fun e => e.1 == 9) = some (9, .getfield 76, 7, 0) := rfl
theorem te_146_12 : (pT M_146).find? (fun e => e.1 == 12) = some (12, .if_icmp .ge 79, 0, 0) := rfl
theorem te_146_15 : (pT M_146).find? (fun e => e.1 == 15) = some (15, .aload_n 1, 0, 0) := rfl
theorem te_146_16 : (pT M_146).find? (fun e => e.1 == 16) = some (16, .getfield 79, 7, 2) := rfl
theorem te_146_19 : (pT M_146).find? (fun e => e.1 == 19) = some (19, .iload 4, 0, 0) := rfl
theorem te_146_21 : (pT M_146).find? (fun e => e.1 == 21) = some (21, .iaload, 0, 0) := rfl
theorem te_146_22 : (pT M_146).find? (fun e => e.1 == 22) = some (22, .istore 5, 0, 0) := rfl
theorem te_146_24 : (pT M_146).find? (fun e => e.1 == 24) = some (24, .aload_n 1, 0, 0) := rfl
theorem te_146_25 : (pT M_146).find? (fun e => e.1 == 25) = some (25, .getfield 82, 7, 1) := rfl
theorem te_146_28 : (pT M_146).find? (fun e => e.1 == 28) = some (28, .iload 4, 0, 0) := rfl
theorem te_146_30 : (pT M_146).find? (fun e => e.1 == 30) = some (30, .iaload, 0, 0) := rfl
theorem te_146_31 : (pT M_146).find? (fun e => e.1 == 31) = some (31, .iload_n 2, 0, 0) := rfl
theorem te_146_32 : (pT M_146).find? (fun e => e.1 == 32) = some (32, .if_icmp .ne 53, 0, 0) := rfl
theorem te_146_35 : (pT M_146).find? (fun e => e.1 == 35) = some (35, .iload 5, 0, 0) := rfl
theorem te_146_37 : (pT M_146).find? (fun e => e.1 == 37) = some (37, .iload_n 2, 0, 0) := rfl
theorem te_146_38 : (pT M_146).find? (fun e => e.1 == 38) = some (38, .if_icmp .eq 47, 0, 0) := rfl
theorem te_146_41 : (pT M_146).find? (fun e => e.1 == 41) = some (41, .aload_n 0, 0, 0) := rfl
theorem te_146_42 : (pT M_146).find? (fun e => e.1 == 42) = some (42, .getfield 19, 1, 9) := rfl
theorem te_146_45 : (pT M_146).find? (fun e => e.1 == 45) = some (45, .iload 5, 0, 0) := rfl
theorem te_146_47 : (pT M_146).find? (fun e => e.1 == 47) = some (47, .iaload, 0, 0) := rfl
theorem te_146_48 : (pT M_146).find? (fun e => e.1 == 48) = some (48, .aload_n 0, 0, 0) := rfl
theorem te_146_49 : (pT M_146).find? (fun e => e.1 == 49) = some (49, .getfield 19, 1, 9) := rfl
theorem te_146_52 : (pT M_146).find? (fun e => e.1 == 52) = some (52, .iload_n 2, 0, 0) := rfl
theorem te_146_53 : (pT M_146).find? (fun e => e.1 == 53) = some (53, .iaload, 0, 0) := rfl
theorem te_146_54 : (pT M_146).find? (fun e => e.1 == 54) = some (54, .isub, 0, 0) := rfl
theorem te_146_55 : (pT M_146).find? (fun e => e.1 == 55) = some (55, .aload_n 1, 0, 0) := rfl
theorem te_146_56 : (pT M_146).find? (fun e => e.1 == 56) = some (56, .getfield 85, 7, 4) := rfl
theorem te_146_59 : (pT M_146).find? (fun e => e.1 == 59) = some (59, .iload 4, 0, 0) := rfl
theorem te_146_61 : (pT M_146).find? (fun e => e.1 == 61) = some (61, .iaload, 0, 0) := rfl
theorem te_146_62 : (pT M_146).find? (fun e => e.1 == 62) = some (62, .isub, 0, 0) := rfl
theorem te_146_63 : (pT M_146).find? (fun e => e.1 == 63) = some (63, .aload_n 0, 0, 0) := rfl
theorem te_146_64 : (pT M_146).find? (fun e => e.1 == 64) = some (64, .getfield 9, 1, 3) := rfl
theorem te_146_67 : (pT M_146).find? (fun e => e.1 == 67) = some (67, .aload_n 1, 0, 0) := rfl
theorem te_146_68 : (pT M_146).find? (fun e => e.1 == 68) = some (68, .getfield 88, 7, 3) := rfl
theorem te_146_71 : (pT M_146).find? (fun e => e.1 == 71) = some (71, .iload 4, 0, 0) := rfl
theorem te_146_73 : (pT M_146).find? (fun e => e.1 == 73) = some (73, .iaload, 0, 0) := rfl
theorem te_146_74 : (pT M_146).find? (fun e => e.1 == 74) = some (74, .imul, 0, 0) := rfl
theorem te_146_75 : (pT M_146).find? (fun e => e.1 == 75) = some (75, .iadd, 0, 0) := rfl
theorem te_146_76 : (pT M_146).find? (fun e => e.1 == 76) = some (76, .istore 6, 0, 0) := rfl
theorem te_146_78 : (pT M_146).find? (fun e => e.1 == 78) = some (78, .iload_n 3, 0, 0) := rfl
theorem te_146_79 : (pT M_146).find? (fun e => e.1 == 79) = some (79, .iload 6, 0, 0) := rfl
theorem te_146_81 : (pT M_146).find? (fun e => e.1 == 81) = some (81, .invokestatic 124, 29, 2) := rfl
theorem te_146_84 : (pT M_146).find? (fun e => e.1 == 84) = some (84, .istore_n 3, 0, 0) := rfl
theorem te_146_85 : (pT M_146).find? (fun e => e.1 == 85) = some (85, .iinc 4 1, 0, 0) := rfl
theorem te_146_88 : (pT M_146).find? (fun e => e.1 == 88) = some (88, .goto (-82), 0, 0) := rfl
theorem te_146_91 : (pT M_146).find? (fun e => e.1 == 91) = some (91, .iload_n 3, 0, 0) := rfl
theorem te_146_92 : (pT M_146).find? (fun e => e.1 == 92) = some (92, .ireturn, 0, 0) := rfl
theorem te_151_0 : (pT M_151).find? (fun e => e.1 == 0) = some (0, .iload_n 0, 0, 0) := rfl
theorem te_151_1 : (pT M_151).find? (fun e => e.1 == 1) = some (1, .ifCond .lt 9, 0, 0) := rfl
theorem te_151_4 : (pT M_151).find? (fun e => e.1 == 4) = some (4, .iload_n 0, 0, 0) := rfl
theorem te_151_5 : (pT M_151).find? (fun e => e.1 == 5) = some (5, .bipush 40, 0, 0) := rfl
theorem te_151_7 : (pT M_151).find? (fun e => e.1 == 7) = some (7, .if_icmp .le 14, 0, 0) := rfl
theorem te_151_10 : (pT M_151).find? (fun e => e.1 == 10) = some (10, .new 83, 16, 1) := rfl
theorem te_151_21 : (pT M_151).find? (fun e => e.1 == 21) = some (21, .return_, 0, 0) := rfl
theorem te_152_0 : (pT M_152).find? (fun e => e.1 == 0) = some (0, .iload_n 2, 0, 0) := rfl
theorem te_152_1 : (pT M_152).find? (fun e => e.1 == 1) = some (1, .aload_n 0, 0, 0) := rfl
theorem te_152_2 : (pT M_152).find? (fun e => e.1 == 2) = some (2, .getfield 19, 1, 9) := rfl
theorem te_152_5 : (pT M_152).find? (fun e => e.1 == 5) = some (5, .iload_n 1, 0, 0) := rfl
theorem te_152_6 : (pT M_152).find? (fun e => e.1 == 6) = some (6, .iaload, 0, 0) := rfl
theorem te_152_7 : (pT M_152).find? (fun e => e.1 == 7) = some (7, .if_icmp .lt 18, 0, 0) := rfl
theorem te_152_10 : (pT M_152).find? (fun e => e.1 == 10) = some (10, .iload_n 2, 0, 0) := rfl
theorem te_152_11 : (pT M_152).find? (fun e => e.1 == 11) = some (11, .aload_n 0, 0, 0) := rfl
theorem te_152_12 : (pT M_152).find? (fun e => e.1 == 12) = some (12, .getfield 9, 1, 3) := rfl
theorem te_152_15 : (pT M_152).find? (fun e => e.1 == 15) = some (15, .irem, 0, 0) := rfl
theorem te_152_16 : (pT M_152).find? (fun e => e.1 == 16) = some (16, .aload_n 0, 0, 0) := rfl
theorem te_152_17 : (pT M_152).find? (fun e => e.1 == 17) = some (17, .getfield 15, 1, 8) := rfl
theorem te_152_20 : (pT M_152).find? (fun e => e.1 == 20) = some (20, .iload_n 1, 0, 0) := rfl
theorem te_152_21 : (pT M_152).find? (fun e => e.1 == 21) = some (21, .iaload, 0, 0) := rfl
theorem te_152_22 : (pT M_152).find? (fun e => e.1 == 22) = some (22, .if_icmp .eq 5, 0, 0) := rfl
theorem te_152_25 : (pT M_152).find? (fun e => e.1 == 25) = some (25, .iconst (-1), 0, 0) := rfl
theorem te_152_26 : (pT M_152).find? (fun e => e.1 == 26) = some (26, .ireturn, 0, 0) := rfl
theorem te_152_27 : (pT M_152).find? (fun e => e.1 == 27) = some (27, .iload_n 2, 0, 0) := rfl
theorem te_152_28 : (pT M_152).find? (fun e => e.1 == 28) = some (28, .aload_n 0, 0, 0) := rfl
theorem te_152_29 : (pT M_152).find? (fun e => e.1 == 29) = some (29, .getfield 19, 1, 9) := rfl
theorem te_152_32 : (pT M_152).find? (fun e => e.1 == 32) = some (32, .iload_n 1, 0, 0) := rfl
theorem te_152_33 : (pT M_152).find? (fun e => e.1 == 33) = some (33, .iaload, 0, 0) := rfl
theorem te_152_34 : (pT M_152).find? (fun e => e.1 == 34) = some (34, .isub, 0, 0) := rfl
theorem te_152_35 : (pT M_152).find? (fun e => e.1 == 35) = some (35, .aload_n 0, 0, 0) := rfl
theorem te_152_36 : (pT M_152).find? (fun e => e.1 == 36) = some (36, .getfield 9, 1, 3) := rfl
theorem te_152_39 : (pT M_152).find? (fun e => e.1 == 39) = some (39, .idiv, 0, 0) := rfl
theorem te_152_40 : (pT M_152).find? (fun e => e.1 == 40) = some (40, .istore 4, 0, 0) := rfl
theorem te_152_42 : (pT M_152).find? (fun e => e.1 == 42) = some (42, .iload 4, 0, 0) := rfl
theorem te_152_44 : (pT M_152).find? (fun e => e.1 == 44) = some (44, .iload_n 3, 0, 0) := rfl
theorem te_152_45 : (pT M_152).find? (fun e => e.1 == 45) = some (45, .if_icmp .ge 8, 0, 0) := rfl
theorem te_152_48 : (pT M_152).find? (fun e => e.1 == 48) = some (48, .iload 4, 0, 0) := rfl
theorem te_152_50 : (pT M_152).find? (fun e => e.1 == 50) = some (50, .goto 4, 0, 0) := rfl
theorem te_152_53 : (pT M_152).find? (fun e => e.1 == 53) = some (53, .iconst (-1), 0, 0) := rfl
theorem te_152_54 : (pT M_152).find? (fun e => e.1 == 54) = some (54, .ireturn, 0, 0) := rfl
theorem te_155_0 : (pT M_155).find? (fun e => e.1 == 0) = some (0, .iload_n 1, 0, 0) := rfl
theorem te_155_1 : (pT M_155).find? (fun e => e.1 == 1) = some (1, .ifCond .gt 7, 0, 0) := rfl
theorem te_155_4 : (pT M_155).find? (fun e => e.1 == 4) = some (4, .iconst 0, 0, 0) := rfl
theorem te_155_5 : (pT M_155).find? (fun e => e.1 == 5) = some (5, .goto 16, 0, 0) := rfl
theorem te_155_8 : (pT M_155).find? (fun e => e.1 == 8) = some (8, .aload_n 0, 0, 0) := rfl
theorem te_155_9 : (pT M_155).find? (fun e => e.1 == 9) = some (9, .getfield 9, 1, 3) := rfl
theorem te_155_12 : (pT M_155).find? (fun e => e.1 == 12) = some (12, .iload_n 1, 0, 0) := rfl
theorem te_155_13 : (pT M_155).find? (fun e => e.1 == 13) = some (13, .iconst 1, 0, 0) := rfl
theorem te_155_14 : (pT M_155).find? (fun e => e.1 == 14) = some (14, .isub, 0, 0) := rfl
theorem te_155_15 : (pT M_155).find? (fun e => e.1 == 15) = some (15, .imul, 0, 0) := rfl
theorem te_155_16 : (pT M_155).find? (fun e => e.1 == 16) = some (16, .aload_n 0, 0, 0) := rfl
theorem te_155_17 : (pT M_155).find? (fun e => e.1 == 17) = some (17, .getfield 50, 1, 4) := rfl
theorem te_155_20 : (pT M_155).find? (fun e => e.1 == 20) = some (20, .iadd, 0, 0) := rfl
theorem te_155_21 : (pT M_155).find? (fun e => e.1 == 21) = some (21, .ireturn, 0, 0) := rfl
theorem te_156_0 : (pT M_156).find? (fun e => e.1 == 0) = some (0, .aload_n 0, 0, 0) := rfl
theorem te_156_1 : (pT M_156).find? (fun e => e.1 == 1) = some (1, .iload_n 1, 0, 0) := rfl
theorem te_156_2 : (pT M_156).find? (fun e => e.1 == 2) = some (2, .invokevirtual 137, 155, 0) := rfl
theorem te_156_5 : (pT M_156).find? (fun e => e.1 == 5) = some (5, .istore_n 2, 0, 0) := rfl
theorem te_156_6 : (pT M_156).find? (fun e => e.1 == 6) = some (6, .iload_n 1, 0, 0) := rfl
theorem te_156_7 : (pT M_156).find? (fun e => e.1 == 7) = some (7, .aload_n 0, 0, 0) := rfl
theorem te_156_8 : (pT M_156).find? (fun e => e.1 == 8) = some (8, .getfield 53, 1, 5) := rfl
theorem te_156_11 : (pT M_156).find? (fun e => e.1 == 11) = some (11, .if_icmp .ge 7, 0, 0) := rfl
theorem te_156_14 : (pT M_156).find? (fun e => e.1 == 14) = some (14, .iload_n 2, 0, 0) := rfl
theorem te_156_15 : (pT M_156).find? (fun e => e.1 == 15) = some (15, .goto 18, 0, 0) := rfl
theorem te_156_18 : (pT M_156).find? (fun e => e.1 == 18) = some (18, .iload_n 2, 0, 0) := rfl
theorem te_156_19 : (pT M_156).find? (fun e => e.1 == 19) = some (19, .aload_n 0, 0, 0) := rfl
theorem te_156_20 : (pT M_156).find? (fun e => e.1 == 20) = some (20, .getfield 9, 1, 3) := rfl
theorem te_156_23 : (pT M_156).find? (fun e => e.1 == 23) = some (23, .aload_n 0, 0, 0) := rfl
theorem te_156_24 : (pT M_156).find? (fun e => e.1 == 24) = some (24, .getfield 53, 1, 5) := rfl
theorem te_156_27 : (pT M_156).find? (fun e => e.1 == 27) = some (27, .iconst 1, 0, 0) := rfl
theorem te_156_28 : (pT M_156).find? (fun e => e.1 == 28) = some (28, .isub, 0, 0) := rfl
theorem te_156_29 : (pT M_156).find? (fun e => e.1 == 29) = some (29, .imul, 0, 0) := rfl
theorem te_156_30 : (pT M_156).find? (fun e => e.1 == 30) = some (30, .invokestatic 124, 29, 2) := rfl
theorem te_156_33 : (pT M_156).find? (fun e => e.1 == 33) = some (33, .ireturn, 0, 0) := rfl
theorem te_157_0 : (pT M_157).find? (fun e => e.1 == 0) = some (0, .iload_n 1, 0, 0) := rfl
theorem te_157_1 : (pT M_157).find? (fun e => e.1 == 1) = some (1, .aload_n 0, 0, 0) := rfl
theorem te_157_2 : (pT M_157).find? (fun e => e.1 == 2) = some (2, .getfield 53, 1, 5) := rfl
theorem te_157_5 : (pT M_157).find? (fun e => e.1 == 5) = some (5, .if_icmp .ge 5, 0, 0) := rfl
theorem te_157_8 : (pT M_157).find? (fun e => e.1 == 8) = some (8, .iconst 0, 0, 0) := rfl
theorem te_157_9 : (pT M_157).find? (fun e => e.1 == 9) = some (9, .ireturn, 0, 0) := rfl
theorem te_157_10 : (pT M_157).find? (fun e => e.1 == 10) = some (10, .aload_n 0, 0, 0) := rfl
theorem te_157_11 : (pT M_157).find? (fun e => e.1 == 11) = some (11, .getfield 9, 1, 3) := rfl
theorem te_157_14 : (pT M_157).find? (fun e => e.1 == 14) = some (14, .iload_n 1, 0, 0) := rfl
theorem te_157_15 : (pT M_157).find? (fun e => e.1 == 15) = some (15, .aload_n 0, 0, 0) := rfl
theorem te_157_16 : (pT M_157).find? (fun e => e.1 == 16) = some (16, .getfield 53, 1, 5) := rfl
theorem te_157_19 : (pT M_157).find? (fun e => e.1 == 19) = some (19, .isub, 0, 0) := rfl
theorem te_157_20 : (pT M_157).find? (fun e => e.1 == 20) = some (20, .iconst 1, 0, 0) := rfl
theorem te_157_21 : (pT M_157).find? (fun e => e.1 == 21) = some (21, .iadd, 0, 0) := rfl
theorem te_157_22 : (pT M_157).find? (fun e => e.1 == 22) = some (22, .imul, 0, 0) := rfl
theorem te_157_23 : (pT M_157).find? (fun e => e.1 == 23) = some (23, .aload_n 0, 0, 0) := rfl
theorem te_157_24 : (pT M_157).find? (fun e => e.1 == 24) = some (24, .iload_n 1, 0, 0) := rfl
theorem te_157_25 : (pT M_157).find? (fun e => e.1 == 25) = some (25, .invokevirtual 137, 155, 0) := rfl
theorem te_157_28 : (pT M_157).find? (fun e => e.1 == 28) = some (28, .aload_n 0, 0, 0) := rfl
theorem te_157_29 : (pT M_157).find? (fun e => e.1 == 29) = some (29, .iload_n 1, 0, 0) := rfl
theorem te_157_30 : (pT M_157).find? (fun e => e.1 == 30) = some (30, .invokevirtual 140, 156, 0) := rfl
theorem te_157_33 : (pT M_157).find? (fun e => e.1 == 33) = some (33, .isub, 0, 0) := rfl
theorem te_157_34 : (pT M_157).find? (fun e => e.1 == 34) = some (34, .invokestatic 124, 29, 2) := rfl
theorem te_157_37 : (pT M_157).find? (fun e => e.1 == 37) = some (37, .ireturn, 0, 0) := rfl
theorem te_160_0 : (pT M_160).find? (fun e => e.1 == 0) = some (0, .iload_n 0, 0, 0) := rfl
theorem te_160_1 : (pT M_160).find? (fun e => e.1 == 1) = some (1, .ifCond .lt 18, 0, 0) := rfl
theorem te_160_4 : (pT M_160).find? (fun e => e.1 == 4) = some (4, .iload_n 0, 0, 0) := rfl
theorem te_160_5 : (pT M_160).find? (fun e => e.1 == 5) = some (5, .iconst 1, 0, 0) := rfl
theorem te_160_6 : (pT M_160).find? (fun e => e.1 == 6) = some (6, .if_icmp .gt 13, 0, 0) := rfl
theorem te_160_9 : (pT M_160).find? (fun e => e.1 == 9) = some (9, .iload_n 1, 0, 0) := rfl
theorem te_160_10 : (pT M_160).find? (fun e => e.1 == 10) = some (10, .ifCond .lt 9, 0, 0) := rfl
theorem te_160_13 : (pT M_160).find? (fun e => e.1 == 13) = some (13, .iload_n 1, 0, 0) := rfl
theorem te_160_14 : (pT M_160).find? (fun e => e.1 == 14) = some (14, .bipush 64, 0, 0) := rfl
theorem te_160_16 : (pT M_160).find? (fun e => e.1 == 16) = some (16, .if_icmp .lt 13, 0, 0) := rfl
theorem te_160_19 : (pT M_160).find? (fun e => e.1 == 19) = some (19, .new 83, 1, 1) := rfl
theorem te_160_29 : (pT M_160).find? (fun e => e.1 == 29) = some (29, .return_, 0, 0) := rfl
theorem te_163_0 : (pT M_163).find? (fun e => e.1 == 0) = some (0, .aload_n 1, 0, 0) := rfl
theorem te_163_1 : (pT M_163).find? (fun e => e.1 == 1) = some (1, .iload_n 2, 0, 0) := rfl
theorem te_163_2 : (pT M_163).find? (fun e => e.1 == 2) = some (2, .iload_n 3, 0, 0) := rfl
theorem te_163_3 : (pT M_163).find? (fun e => e.1 == 3) = some (3, .invokevirtual 50, 14, 1) := rfl
theorem te_163_6 : (pT M_163).find? (fun e => e.1 == 6) = some (6, .istore 5, 0, 0) := rfl
theorem te_163_8 : (pT M_163).find? (fun e => e.1 == 8) = some (8, .aload_n 1, 0, 0) := rfl
theorem te_163_9 : (pT M_163).find? (fun e => e.1 == 9) = some (9, .iload_n 2, 0, 0) := rfl
theorem te_163_10 : (pT M_163).find? (fun e => e.1 == 10) = some (10, .iload_n 3, 0, 0) := rfl
theorem te_163_11 : (pT M_163).find? (fun e => e.1 == 11) = some (11, .invokevirtual 53, 15, 1) := rfl
theorem te_163_14 : (pT M_163).find? (fun e => e.1 == 14) = some (14, .istore 6, 0, 0) := rfl
theorem te_163_16 : (pT M_163).find? (fun e => e.1 == 16) = some (16, .iload 5, 0, 0) := rfl
theorem te_163_18 : (pT M_163).find? (fun e => e.1 == 18) = some (18, .iconst (-1), 0, 0) := rfl
theorem te_163_19 : (pT M_163).find? (fun e => e.1 == 19) = some (19, .if_icmp .ne 6, 0, 0) := rfl
theorem te_163_22 : (pT M_163).find? (fun e => e.1 == 22) = some (22, .iload 4, 0, 0) := rfl
theorem te_163_24 : (pT M_163).find? (fun e => e.1 == 24) = some (24, .ireturn, 0, 0) := rfl
theorem te_163_25 : (pT M_163).find? (fun e => e.1 == 25) = some (25, .iload 5, 0, 0) := rfl
theorem te_163_27 : (pT M_163).find? (fun e => e.1 == 27) = some (27, .bipush (-2), 0, 0) := rfl
theorem te_163_29 : (pT M_163).find? (fun e => e.1 == 29) = some (29, .if_icmp .ne 6, 0, 0) := rfl
theorem te_163_32 : (pT M_163).find? (fun e => e.1 == 32) = some (32, .iload 6, 0, 0) := rfl
theorem te_163_34 : (pT M_163).find? (fun e => e.1 == 34) = some (34, .ireturn, 0, 0) := rfl
theorem te_163_35 : (pT M_163).find? (fun e => e.1 == 35) = some (35, .aload_n 0, 0, 0) := rfl
theorem te_163_36 : (pT M_163).find? (fun e => e.1 == 36) = some (36, .aload_n 1, 0, 0) := rfl
theorem te_163_37 : (pT M_163).find? (fun e => e.1 == 37) = some (37, .iload 5, 0, 0) := rfl
theorem te_163_39 : (pT M_163).find? (fun e => e.1 == 39) = some (39, .iload 4, 0, 0) := rfl
theorem te_163_41 : (pT M_163).find? (fun e => e.1 == 41) = some (41, .iload 6, 0, 0) := rfl
theorem te_163_43 : (pT M_163).find? (fun e => e.1 == 43) = some (43, .isub, 0, 0) := rfl
theorem te_163_44 : (pT M_163).find? (fun e => e.1 == 44) = some (44, .invokevirtual 56, 164, 0) := rfl
theorem te_163_47 : (pT M_163).find? (fun e => e.1 == 47) = some (47, .ireturn, 0, 0) := rfl
theorem te_164_0 : (pT M_164).find? (fun e => e.1 == 0) = some (0, .iload_n 3, 0, 0) := rfl
theorem te_164_1 : (pT M_164).find? (fun e => e.1 == 1) = some (1, .ifCond .ge 12, 0, 0) := rfl
theorem te_164_4 : (pT M_164).find? (fun e => e.1 == 4) = some (4, .aload_n 1, 0, 0) := rfl
theorem te_164_5 : (pT M_164).find? (fun e => e.1 == 5) = some (5, .getfield 59, 0, 3) := rfl
theorem te_164_8 : (pT M_164).find? (fun e => e.1 == 8) = some (8, .iload_n 2, 0, 0) := rfl
theorem te_164_9 : (pT M_164).find? (fun e => e.1 == 9) = some (9, .iaload, 0, 0) := rfl
theorem te_164_10 : (pT M_164).find? (fun e => e.1 == 10) = some (10, .goto 14, 0, 0) := rfl
theorem te_164_13 : (pT M_164).find? (fun e => e.1 == 13) = some (13, .aload_n 0, 0, 0) := rfl
theorem te_164_14 : (pT M_164).find? (fun e => e.1 == 14) = some (14, .getfield 16, 4, 1) := rfl
theorem te_164_17 : (pT M_164).find? (fun e => e.1 == 17) = some (17, .iload_n 2, 0, 0) := rfl
theorem te_164_18 : (pT M_164).find? (fun e => e.1 == 18) = some (18, .bipush 40, 0, 0) := rfl
theorem te_164_20 : (pT M_164).find? (fun e => e.1 == 20) = some (20, .imul, 0, 0) := rfl
theorem te_164_21 : (pT M_164).find? (fun e => e.1 == 21) = some (21, .iload_n 3, 0, 0) := rfl
theorem te_164_22 : (pT M_164).find? (fun e => e.1 == 22) = some (22, .iadd, 0, 0) := rfl
theorem te_164_23 : (pT M_164).find? (fun e => e.1 == 23) = some (23, .iaload, 0, 0) := rfl
theorem te_164_24 : (pT M_164).find? (fun e => e.1 == 24) = some (24, .ireturn, 0, 0) := rfl
theorem te_167_0 : (pT M_167).find? (fun e => e.1 == 0) = some (0, .aload_n 0, 0, 0) := rfl
theorem te_167_1 : (pT M_167).find? (fun e => e.1 == 1) = some (1, .getfield 12, 9, 0) := rfl
theorem te_167_4 : (pT M_167).find? (fun e => e.1 == 4) = some (4, .getfield 146, 0, 1) := rfl
theorem te_167_7 : (pT M_167).find? (fun e => e.1 == 7) = some (7, .iload_n 1, 0, 0) := rfl
theorem te_167_8 : (pT M_167).find? (fun e => e.1 == 8) = some (8, .iaload, 0, 0) := rfl
theorem te_167_9 : (pT M_167).find? (fun e => e.1 == 9) = some (9, .iconst 5, 0, 0) := rfl
theorem te_167_10 : (pT M_167).find? (fun e => e.1 == 10) = some (10, .if_icmp .ne 14, 0, 0) := rfl
theorem te_167_13 : (pT M_167).find? (fun e => e.1 == 13) = some (13, .new 83, 13, 1) := rfl
theorem te_167_24 : (pT M_167).find? (fun e => e.1 == 24) = some (24, .return_, 0, 0) := rfl
theorem te_176_0 : (pT M_176).find? (fun e => e.1 == 0) = some (0, .iload_n 1, 0, 0) := rfl
theorem te_176_1 : (pT M_176).find? (fun e => e.1 == 1) = some (1, .aload_n 0, 0, 0) := rfl
theorem te_176_2 : (pT M_176).find? (fun e => e.1 == 2) = some (2, .getfield 53, 1, 5) := rfl
theorem te_176_5 : (pT M_176).find? (fun e => e.1 == 5) = some (5, .if_icmp .lt 10, 0, 0) := rfl
theorem te_176_8 : (pT M_176).find? (fun e => e.1 == 8) = some (8, .aload_n 0, 0, 0) := rfl
theorem te_176_9 : (pT M_176).find? (fun e => e.1 == 9) = some (9, .getfield 112, 1, 7) := rfl
theorem te_176_12 : (pT M_176).find? (fun e => e.1 == 12) = some (12, .ifCond .gt 5, 0, 0) := rfl
theorem te_176_15 : (pT M_176).find? (fun e => e.1 == 15) = some (15, .iload_n 1, 0, 0) := rfl
theorem te_176_16 : (pT M_176).find? (fun e => e.1 == 16) = some (16, .ireturn, 0, 0) := rfl
theorem te_176_17 : (pT M_176).find? (fun e => e.1 == 17) = some (17, .iload_n 1, 0, 0) := rfl
theorem te_176_18 : (pT M_176).find? (fun e => e.1 == 18) = some (18, .aload_n 0, 0, 0) := rfl
theorem te_176_19 : (pT M_176).find? (fun e => e.1 == 19) = some (19, .getfield 53, 1, 5) := rfl
theorem te_176_22 : (pT M_176).find? (fun e => e.1 == 22) = some (22, .isub, 0, 0) := rfl
theorem te_176_23 : (pT M_176).find? (fun e => e.1 == 23) = some (23, .iconst 1, 0, 0) := rfl
theorem te_176_24 : (pT M_176).find? (fun e => e.1 == 24) = some (24, .iadd, 0, 0) := rfl
theorem te_176_25 : (pT M_176).find? (fun e => e.1 == 25) = some (25, .aload_n 0, 0, 0) := rfl
theorem te_176_26 : (pT M_176).find? (fun e => e.1 == 26) = some (26, .getfield 112, 1, 7) := rfl
theorem te_176_29 : (pT M_176).find? (fun e => e.1 == 29) = some (29, .irem, 0, 0) := rfl
theorem te_176_30 : (pT M_176).find? (fun e => e.1 == 30) = some (30, .ireturn, 0, 0) := rfl
theorem te_186_0 : (pT M_186).find? (fun e => e.1 == 0) = some (0, .iload_n 3, 0, 0) := rfl
theorem te_186_1 : (pT M_186).find? (fun e => e.1 == 1) = some (1, .aload_n 0, 0, 0) := rfl
theorem te_186_2 : (pT M_186).find? (fun e => e.1 == 2) = some (2, .getfield 22, 1, 10) := rfl
theorem te_186_5 : (pT M_186).find? (fun e => e.1 == 5) = some (5, .iload_n 1, 0, 0) := rfl
theorem te_186_6 : (pT M_186).find? (fun e => e.1 == 6) = some (6, .iaload, 0, 0) := rfl
theorem te_186_7 : (pT M_186).find? (fun e => e.1 == 7) = some (7, .if_icmp .lt 12, 0, 0) := rfl
theorem te_186_10 : (pT M_186).find? (fun e => e.1 == 10) = some (10, .aload_n 0, 0, 0) := rfl
theorem te_186_11 : (pT M_186).find? (fun e => e.1 == 11) = some (11, .getfield 31, 1, 13) := rfl
theorem te_186_14 : (pT M_186).find? (fun e => e.1 == 14) = some (14, .iload_n 1, 0, 0) := rfl
theorem te_186_15 : (pT M_186).find? (fun e => e.1 == 15) = some (15, .iaload, 0, 0) := rfl
theorem te_186_16 : (pT M_186).find? (fun e => e.1 == 16) = some (16, .ifCond .gt 5, 0, 0) := rfl
theorem te_186_19 : (pT M_186).find? (fun e => e.1 == 19) = some (19, .iconst (-1), 0, 0) := rfl
theorem te_186_20 : (pT M_186).find? (fun e => e.1 == 20) = some (20, .ireturn, 0, 0) := rfl
theorem te_186_21 : (pT M_186).find? (fun e => e.1 == 21) = some (21, .iload 4, 0, 0) := rfl
theorem te_186_23 : (pT M_186).find? (fun e => e.1 == 23) = some (23, .iconst 1, 0, 0) := rfl
theorem te_186_24 : (pT M_186).find? (fun e => e.1 == 24) = some (24, .isub, 0, 0) := rfl
theorem te_186_25 : (pT M_186).find? (fun e => e.1 == 25) = some (25, .iload_n 3, 0, 0) := rfl
theorem te_186_26 : (pT M_186).find? (fun e => e.1 == 26) = some (26, .aload_n 0, 0, 0) := rfl
theorem te_186_27 : (pT M_186).find? (fun e => e.1 == 27) = some (27, .getfield 22, 1, 10) := rfl
theorem te_186_30 : (pT M_186).find? (fun e => e.1 == 30) = some (30, .iload_n 1, 0, 0) := rfl
theorem te_186_31 : (pT M_186).find? (fun e => e.1 == 31) = some (31, .iaload, 0, 0) := rfl
theorem te_186_32 : (pT M_186).find? (fun e => e.1 == 32) = some (32, .isub, 0, 0) := rfl
theorem te_186_33 : (pT M_186).find? (fun e => e.1 == 33) = some (33, .aload_n 0, 0, 0) := rfl
theorem te_186_34 : (pT M_186).find? (fun e => e.1 == 34) = some (34, .getfield 9, 1, 3) := rfl
theorem te_186_37 : (pT M_186).find? (fun e => e.1 == 37) = some (37, .idiv, 0, 0) := rfl
theorem te_186_38 : (pT M_186).find? (fun e => e.1 == 38) = some (38, .invokestatic 124, 29, 2) := rfl
theorem te_186_41 : (pT M_186).find? (fun e => e.1 == 41) = some (41, .istore 5, 0, 0) := rfl
theorem te_186_43 : (pT M_186).find? (fun e => e.1 == 43) = some (43, .iload 5, 0, 0) := rfl
theorem te_186_45 : (pT M_186).find? (fun e => e.1 == 45) = some (45, .iload 5, 0, 0) := rfl
theorem te_186_47 : (pT M_186).find? (fun e => e.1 == 47) = some (47, .iload_n 2, 0, 0) := rfl
theorem te_186_48 : (pT M_186).find? (fun e => e.1 == 48) = some (48, .isub, 0, 0) := rfl
theorem te_186_49 : (pT M_186).find? (fun e => e.1 == 49) = some (49, .aload_n 0, 0, 0) := rfl
theorem te_186_50 : (pT M_186).find? (fun e => e.1 == 50) = some (50, .getfield 31, 1, 13) := rfl
theorem te_186_53 : (pT M_186).find? (fun e => e.1 == 53) = some (53, .iload_n 1, 0, 0) := rfl
theorem te_186_54 : (pT M_186).find? (fun e => e.1 == 54) = some (54, .iaload, 0, 0) := rfl
theorem te_186_55 : (pT M_186).find? (fun e => e.1 == 55) = some (55, .invokestatic 118, 94, 2) := rfl
theorem te_186_58 : (pT M_186).find? (fun e => e.1 == 58) = some (58, .isub, 0, 0) := rfl
theorem te_186_59 : (pT M_186).find? (fun e => e.1 == 59) = some (59, .istore 5, 0, 0) := rfl
theorem te_186_61 : (pT M_186).find? (fun e => e.1 == 61) = some (61, .iload 5, 0, 0) := rfl
theorem te_186_63 : (pT M_186).find? (fun e => e.1 == 63) = some (63, .ifCond .ge 7, 0, 0) := rfl
theorem te_186_66 : (pT M_186).find? (fun e => e.1 == 66) = some (66, .iconst (-1), 0, 0) := rfl
theorem te_186_67 : (pT M_186).find? (fun e => e.1 == 67) = some (67, .goto 5, 0, 0) := rfl
theorem te_186_70 : (pT M_186).find? (fun e => e.1 == 70) = some (70, .iload 5, 0, 0) := rfl
theorem te_186_72 : (pT M_186).find? (fun e => e.1 == 72) = some (72, .ireturn, 0, 0) := rfl
theorem te_204_0 : (pT M_204).find? (fun e => e.1 == 0) = some (0, .iconst 0, 0, 0) := rfl
theorem te_204_1 : (pT M_204).find? (fun e => e.1 == 1) = some (1, .istore_n 3, 0, 0) := rfl
theorem te_204_2 : (pT M_204).find? (fun e => e.1 == 2) = some (2, .iconst 0, 0, 0) := rfl
theorem te_204_3 : (pT M_204).find? (fun e => e.1 == 3) = some (3, .istore 4, 0, 0) := rfl
theorem te_204_5 : (pT M_204).find? (fun e => e.1 == 5) = some (5, .iload 4, 0, 0) := rfl
theorem te_204_7 : (pT M_204).find? (fun e => e.1 == 7) = some (7, .aload_n 0, 0, 0) := rfl
theorem te_204_8 : (pT M_204).find? (fun e => e.1 == 8) = some (8, .getfield 24, 5, 0) := rfl
theorem te_204_11 : (pT M_204).find? (fun e => e.1 == 11) = some (11, .if_icmp .ge 27, 0, 0) := rfl
theorem te_204_14 : (pT M_204).find? (fun e => e.1 == 14) = some (14, .iload_n 3, 0, 0) := rfl
theorem te_204_15 : (pT M_204).find? (fun e => e.1 == 15) = some (15, .aload_n 0, 0, 0) := rfl
theorem te_204_16 : (pT M_204).find? (fun e => e.1 == 16) = some (16, .iload 4, 0, 0) := rfl
theorem te_204_18 : (pT M_204).find? (fun e => e.1 == 18) = some (18, .invokevirtual 57, 205, 0) := rfl
theorem te_204_21 : (pT M_204).find? (fun e => e.1 == 21) = some (21, .aload_n 1, 0, 0) := rfl
theorem te_204_22 : (pT M_204).find? (fun e => e.1 == 22) = some (22, .iload 4, 0, 0) := rfl
theorem te_204_24 : (pT M_204).find? (fun e => e.1 == 24) = some (24, .invokevirtual 61, 19, 1) := rfl
theorem te_204_27 : (pT M_204).find? (fun e => e.1 == 27) = some (27, .iadd, 0, 0) := rfl
theorem te_204_28 : (pT M_204).find? (fun e => e.1 == 28) = some (28, .invokestatic 47, 40, 2) := rfl
theorem te_204_31 : (pT M_204).find? (fun e => e.1 == 31) = some (31, .istore_n 3, 0, 0) := rfl
theorem te_204_32 : (pT M_204).find? (fun e => e.1 == 32) = some (32, .iinc 4 1, 0, 0) := rfl
theorem te_204_35 : (pT M_204).find? (fun e => e.1 == 35) = some (35, .goto (-30), 0, 0) := rfl
theorem te_204_38 : (pT M_204).find? (fun e => e.1 == 38) = some (38, .iload_n 3, 0, 0) := rfl
theorem te_204_39 : (pT M_204).find? (fun e => e.1 == 39) = some (39, .aload_n 1, 0, 0) := rfl
theorem te_204_40 : (pT M_204).find? (fun e => e.1 == 40) = some (40, .iload_n 2, 0, 0) := rfl
theorem te_204_41 : (pT M_204).find? (fun e => e.1 == 41) = some (41, .invokevirtual 61, 19, 1) := rfl
theorem te_204_44 : (pT M_204).find? (fun e => e.1 == 44) = some (44, .isub, 0, 0) := rfl
theorem te_204_45 : (pT M_204).find? (fun e => e.1 == 45) = some (45, .istore 4, 0, 0) := rfl
theorem te_204_47 : (pT M_204).find? (fun e => e.1 == 47) = some (47, .iconst 0, 0, 0) := rfl
theorem te_204_48 : (pT M_204).find? (fun e => e.1 == 48) = some (48, .istore 5, 0, 0) := rfl
theorem te_204_50 : (pT M_204).find? (fun e => e.1 == 50) = some (50, .iload 5, 0, 0) := rfl
theorem te_204_52 : (pT M_204).find? (fun e => e.1 == 52) = some (52, .aload_n 0, 0, 0) := rfl
theorem te_204_53 : (pT M_204).find? (fun e => e.1 == 53) = some (53, .getfield 24, 5, 0) := rfl
theorem te_204_56 : (pT M_204).find? (fun e => e.1 == 56) = some (56, .if_icmp .ge 48, 0, 0) := rfl
theorem te_204_59 : (pT M_204).find? (fun e => e.1 == 59) = some (59, .aload_n 0, 0, 0) := rfl
theorem te_204_60 : (pT M_204).find? (fun e => e.1 == 60) = some (60, .getfield 9, 5, 2) := rfl
theorem te_204_63 : (pT M_204).find? (fun e => e.1 == 63) = some (63, .iload_n 2, 0, 0) := rfl
theorem te_204_64 : (pT M_204).find? (fun e => e.1 == 64) = some (64, .bipush 8, 0, 0) := rfl
theorem te_204_66 : (pT M_204).find? (fun e => e.1 == 66) = some (66, .imul, 0, 0) := rfl
theorem te_204_67 : (pT M_204).find? (fun e => e.1 == 67) = some (67, .iload 5, 0, 0) := rfl
theorem te_204_69 : (pT M_204).find? (fun e => e.1 == 69) = some (69, .iadd, 0, 0) := rfl
theorem te_204_70 : (pT M_204).find? (fun e => e.1 == 70) = some (70, .iaload, 0, 0) := rfl
theorem te_204_71 : (pT M_204).find? (fun e => e.1 == 71) = some (71, .istore 6, 0, 0) := rfl
theorem te_204_73 : (pT M_204).find? (fun e => e.1 == 73) = some (73, .iload 6, 0, 0) := rfl
theorem te_204_75 : (pT M_204).find? (fun e => e.1 == 75) = some (75, .ldc 25, 3, 0) := rfl
theorem te_204_77 : (pT M_204).find? (fun e => e.1 == 77) = some (77, .if_icmp .eq 21, 0, 0) := rfl
theorem te_204_80 : (pT M_204).find? (fun e => e.1 == 80) = some (80, .iload 4, 0, 0) := rfl
theorem te_204_82 : (pT M_204).find? (fun e => e.1 == 82) = some (82, .iload_n 3, 0, 0) := rfl
theorem te_204_83 : (pT M_204).find? (fun e => e.1 == 83) = some (83, .aload_n 1, 0, 0) := rfl
theorem te_204_84 : (pT M_204).find? (fun e => e.1 == 84) = some (84, .iload 5, 0, 0) := rfl
theorem te_204_86 : (pT M_204).find? (fun e => e.1 == 86) = some (86, .invokevirtual 61, 19, 1) := rfl
theorem te_204_89 : (pT M_204).find? (fun e => e.1 == 89) = some (89, .isub, 0, 0) := rfl
theorem te_204_90 : (pT M_204).find? (fun e => e.1 == 90) = some (90, .iload 6, 0, 0) := rfl
theorem te_204_92 : (pT M_204).find? (fun e => e.1 == 92) = some (92, .isub, 0, 0) := rfl
theorem te_204_93 : (pT M_204).find? (fun e => e.1 == 93) = some (93, .invokestatic 64, 29, 2) := rfl
theorem te_204_96 : (pT M_204).find? (fun e => e.1 == 96) = some (96, .istore 4, 0, 0) := rfl
theorem te_204_98 : (pT M_204).find? (fun e => e.1 == 98) = some (98, .iinc 5 1, 0, 0) := rfl
theorem te_204_101 : (pT M_204).find? (fun e => e.1 == 101) = some (101, .goto (-51), 0, 0) := rfl
theorem te_204_104 : (pT M_204).find? (fun e => e.1 == 104) = some (104, .iload 4, 0, 0) := rfl
theorem te_204_106 : (pT M_204).find? (fun e => e.1 == 106) = some (106, .ireturn, 0, 0) := rfl
theorem te_205_0 : (pT M_205).find? (fun e => e.1 == 0) = some (0, .iconst 0, 0, 0) := rfl
theorem te_205_1 : (pT M_205).find? (fun e => e.1 == 1) = some (1, .istore_n 2, 0, 0) := rfl
theorem te_205_2 : (pT M_205).find? (fun e => e.1 == 2) = some (2, .iconst 0, 0, 0) := rfl
theorem te_205_3 : (pT M_205).find? (fun e => e.1 == 3) = some (3, .istore_n 3, 0, 0) := rfl
theorem te_205_4 : (pT M_205).find? (fun e => e.1 == 4) = some (4, .iload_n 3, 0, 0) := rfl
theorem te_205_5 : (pT M_205).find? (fun e => e.1 == 5) = some (5, .aload_n 0, 0, 0) := rfl
theorem te_205_6 : (pT M_205).find? (fun e => e.1 == 6) = some (6, .getfield 24, 5, 0) := rfl
theorem te_205_9 : (pT M_205).find? (fun e => e.1 == 9) = some (9, .if_icmp .ge 25, 0, 0) := rfl
theorem te_205_12 : (pT M_205).find? (fun e => e.1 == 12) = some (12, .iload_n 2, 0, 0) := rfl
theorem te_205_13 : (pT M_205).find? (fun e => e.1 == 13) = some (13, .aload_n 0, 0, 0) := rfl
theorem te_205_14 : (pT M_205).find? (fun e => e.1 == 14) = some (14, .getfield 9, 5, 2) := rfl
theorem te_205_17 : (pT M_205).find? (fun e => e.1 == 17) = some (17, .iload_n 3, 0, 0) := rfl
theorem te_205_18 : (pT M_205).find? (fun e => e.1 == 18) = some (18, .bipush 8, 0, 0) := rfl
theorem te_205_20 : (pT M_205).find? (fun e => e.1 == 20) = some (20, .imul, 0, 0) := rfl
theorem te_205_21 : (pT M_205).find? (fun e => e.1 == 21) = some (21, .iload_n 1, 0, 0) := rfl
theorem te_205_22 : (pT M_205).find? (fun e => e.1 == 22) = some (22, .iadd, 0, 0) := rfl
theorem te_205_23 : (pT M_205).find? (fun e => e.1 == 23) = some (23, .iaload, 0, 0) := rfl
theorem te_205_24 : (pT M_205).find? (fun e => e.1 == 24) = some (24, .invokestatic 47, 40, 2) := rfl
theorem te_205_27 : (pT M_205).find? (fun e => e.1 == 27) = some (27, .istore_n 2, 0, 0) := rfl
theorem te_205_28 : (pT M_205).find? (fun e => e.1 == 28) = some (28, .iinc 3 1, 0, 0) := rfl
theorem te_205_31 : (pT M_205).find? (fun e => e.1 == 31) = some (31, .goto (-27), 0, 0) := rfl
theorem te_205_34 : (pT M_205).find? (fun e => e.1 == 34) = some (34, .iload_n 2, 0, 0) := rfl
theorem te_205_35 : (pT M_205).find? (fun e => e.1 == 35) = some (35, .ireturn, 0, 0) := rfl
theorem te_208_0 : (pT M_208).find? (fun e => e.1 == 0) = some (0, .iconst 0, 0, 0) := rfl
theorem te_208_1 : (pT M_208).find? (fun e => e.1 == 1) = some (1, .istore 4, 0, 0) := rfl
theorem te_208_3 : (pT M_208).find? (fun e => e.1 == 3) = some (3, .iconst 0, 0, 0) := rfl
theorem te_208_4 : (pT M_208).find? (fun e => e.1 == 4) = some (4, .istore 5, 0, 0) := rfl
theorem te_208_6 : (pT M_208).find? (fun e => e.1 == 6) = some (6, .iload 5, 0, 0) := rfl
theorem te_208_8 : (pT M_208).find? (fun e => e.1 == 8) = some (8, .aload_n 0, 0, 0) := rfl
theorem te_208_9 : (pT M_208).find? (fun e => e.1 == 9) = some (9, .getfield 39, 1, 2) := rfl
theorem te_208_12 : (pT M_208).find? (fun e => e.1 == 12) = some (12, .if_icmp .ge 39, 0, 0) := rfl
theorem te_208_15 : (pT M_208).find? (fun e => e.1 == 15) = some (15, .aload_n 1, 0, 0) := rfl
theorem te_208_16 : (pT M_208).find? (fun e => e.1 == 16) = some (16, .iload 5, 0, 0) := rfl
theorem te_208_18 : (pT M_208).find? (fun e => e.1 == 18) = some (18, .invokevirtual 130, 37, 1) := rfl
theorem te_208_21 : (pT M_208).find? (fun e => e.1 == 21) = some (21, .iload_n 2, 0, 0) := rfl
theorem te_208_22 : (pT M_208).find? (fun e => e.1 == 22) = some (22, .if_icmp .ne 23, 0, 0) := rfl
theorem te_208_25 : (pT M_208).find? (fun e => e.1 == 25) = some (25, .aload_n 0, 0, 0) := rfl
theorem te_208_26 : (pT M_208).find? (fun e => e.1 == 26) = some (26, .aload_n 1, 0, 0) := rfl
theorem te_208_27 : (pT M_208).find? (fun e => e.1 == 27) = some (27, .iload 5, 0, 0) := rfl
theorem te_208_29 : (pT M_208).find? (fun e => e.1 == 29) = some (29, .iload_n 3, 0, 0) := rfl
theorem te_208_30 : (pT M_208).find? (fun e => e.1 == 30) = some (30, .invokevirtual 133, 120, 0) := rfl
theorem te_208_33 : (pT M_208).find? (fun e => e.1 == 33) = some (33, .ifCond .le 12, 0, 0) := rfl
theorem te_208_36 : (pT M_208).find? (fun e => e.1 == 36) = some (36, .iload 4, 0, 0) := rfl
theorem te_208_38 : (pT M_208).find? (fun e => e.1 == 38) = some (38, .iconst 1, 0, 0) := rfl
theorem te_208_39 : (pT M_208).find? (fun e => e.1 == 39) = some (39, .iload 5, 0, 0) := rfl
theorem te_208_41 : (pT M_208).find? (fun e => e.1 == 41) = some (41, .ishl, 0, 0) := rfl
theorem te_208_42 : (pT M_208).find? (fun e => e.1 == 42) = some (42, .ior, 0, 0) := rfl
theorem te_208_43 : (pT M_208).find? (fun e => e.1 == 43) = some (43, .istore 4, 0, 0) := rfl
theorem te_208_45 : (pT M_208).find? (fun e => e.1 == 45) = some (45, .iinc 5 1, 0, 0) := rfl
theorem te_208_48 : (pT M_208).find? (fun e => e.1 == 48) = some (48, .goto (-42), 0, 0) := rfl
theorem te_208_51 : (pT M_208).find? (fun e => e.1 == 51) = some (51, .iload 4, 0, 0) := rfl
theorem te_208_53 : (pT M_208).find? (fun e => e.1 == 53) = some (53, .ireturn, 0, 0) := rfl
theorem te_211_0 : (pT M_211).find? (fun e => e.1 == 0) = some (0, .iconst 0, 0, 0) := rfl
theorem te_211_1 : (pT M_211).find? (fun e => e.1 == 1) = some (1, .istore_n 2, 0, 0) := rfl
theorem te_211_2 : (pT M_211).find? (fun e => e.1 == 2) = some (2, .aload_n 0, 0, 0) := rfl
theorem te_211_3 : (pT M_211).find? (fun e => e.1 == 3) = some (3, .iload_n 1, 0, 0) := rfl
theorem te_211_4 : (pT M_211).find? (fun e => e.1 == 4) = some (4, .invokevirtual 137, 155, 0) := rfl
theorem te_211_7 : (pT M_211).find? (fun e => e.1 == 7) = some (7, .istore_n 3, 0, 0) := rfl
theorem te_211_8 : (pT M_211).find? (fun e => e.1 == 8) = some (8, .iconst 0, 0, 0) := rfl
theorem te_211_9 : (pT M_211).find? (fun e => e.1 == 9) = some (9, .istore 4, 0, 0) := rfl
theorem te_211_11 : (pT M_211).find? (fun e => e.1 == 11) = some (11, .iload 4, 0, 0) := rfl
theorem te_211_13 : (pT M_211).find? (fun e => e.1 == 13) = some (13, .iload_n 3, 0, 0) := rfl
theorem te_211_14 : (pT M_211).find? (fun e => e.1 == 14) = some (14, .if_icmp .ge 22, 0, 0) := rfl
theorem te_211_17 : (pT M_211).find? (fun e => e.1 == 17) = some (17, .aload_n 0, 0, 0) := rfl
theorem te_211_18 : (pT M_211).find? (fun e => e.1 == 18) = some (18, .iload 4, 0, 0) := rfl
theorem te_211_20 : (pT M_211).find? (fun e => e.1 == 20) = some (20, .iload_n 1, 0, 0) := rfl
theorem te_211_21 : (pT M_211).find? (fun e => e.1 == 21) = some (21, .invokevirtual 143, 212, 0) := rfl
theorem te_211_24 : (pT M_211).find? (fun e => e.1 == 24) = some (24, .ifCond .ne 6, 0, 0) := rfl
theorem te_211_27 : (pT M_211).find? (fun e => e.1 == 27) = some (27, .iinc 2 1, 0, 0) := rfl
theorem te_211_30 : (pT M_211).find? (fun e => e.1 == 30) = some (30, .iinc 4 1, 0, 0) := rfl
theorem te_211_33 : (pT M_211).find? (fun e => e.1 == 33) = some (33, .goto (-22), 0, 0) := rfl
theorem te_211_36 : (pT M_211).find? (fun e => e.1 == 36) = some (36, .iload_n 2, 0, 0) := rfl
theorem te_211_37 : (pT M_211).find? (fun e => e.1 == 37) = some (37, .ireturn, 0, 0) := rfl
theorem te_212_0 : (pT M_212).find? (fun e => e.1 == 0) = some (0, .iconst 0, 0, 0) := rfl
theorem te_212_1 : (pT M_212).find? (fun e => e.1 == 1) = some (1, .istore_n 3, 0, 0) := rfl
theorem te_212_2 : (pT M_212).find? (fun e => e.1 == 2) = some (2, .iload_n 3, 0, 0) := rfl
theorem te_212_3 : (pT M_212).find? (fun e => e.1 == 3) = some (3, .aload_n 0, 0, 0) := rfl
theorem te_212_4 : (pT M_212).find? (fun e => e.1 == 4) = some (4, .getfield 39, 1, 2) := rfl
theorem te_212_7 : (pT M_212).find? (fun e => e.1 == 7) = some (7, .if_icmp .ge 22, 0, 0) := rfl
theorem te_212_10 : (pT M_212).find? (fun e => e.1 == 10) = some (10, .aload_n 0, 0, 0) := rfl
theorem te_212_11 : (pT M_212).find? (fun e => e.1 == 11) = some (11, .iload_n 3, 0, 0) := rfl
theorem te_212_12 : (pT M_212).find? (fun e => e.1 == 12) = some (12, .iload_n 1, 0, 0) := rfl
theorem te_212_13 : (pT M_212).find? (fun e => e.1 == 13) = some (13, .iload_n 2, 0, 0) := rfl
theorem te_212_14 : (pT M_212).find? (fun e => e.1 == 14) = some (14, .invokevirtual 147, 152, 0) := rfl
theorem te_212_17 : (pT M_212).find? (fun e => e.1 == 17) = some (17, .iconst (-1), 0, 0) := rfl
theorem te_212_18 : (pT M_212).find? (fun e => e.1 == 18) = some (18, .if_icmp .eq 5, 0, 0) := rfl
theorem te_212_21 : (pT M_212).find? (fun e => e.1 == 21) = some (21, .iconst 1, 0, 0) := rfl
theorem te_212_22 : (pT M_212).find? (fun e => e.1 == 22) = some (22, .ireturn, 0, 0) := rfl
theorem te_212_23 : (pT M_212).find? (fun e => e.1 == 23) = some (23, .iinc 3 1, 0, 0) := rfl
theorem te_212_26 : (pT M_212).find? (fun e => e.1 == 26) = some (26, .goto (-24), 0, 0) := rfl
theorem te_212_29 : (pT M_212).find? (fun e => e.1 == 29) = some (29, .iconst 0, 0, 0) := rfl
theorem te_212_30 : (pT M_212).find? (fun e => e.1 == 30) = some (30, .ireturn, 0, 0) := rfl
theorem te_216_0 : (pT M_216).find? (fun e => e.1 == 0) = some (0, .iconst 0, 0, 0) := rfl
theorem te_216_1 : (pT M_216).find? (fun e => e.1 == 1) = some (1, .istore 5, 0, 0) := rfl
theorem te_216_3 : (pT M_216).find? (fun e => e.1 == 3) = some (3, .iconst 0, 0, 0) := rfl
theorem te_216_4 : (pT M_216).find? (fun e => e.1 == 4) = some (4, .istore 6, 0, 0) := rfl
theorem te_216_6 : (pT M_216).find? (fun e => e.1 == 6) = some (6, .iload 6, 0, 0) := rfl
theorem te_216_8 : (pT M_216).find? (fun e => e.1 == 8) = some (8, .aload_n 1, 0, 0) := rfl
theorem te_216_9 : (pT M_216).find? (fun e => e.1 == 9) = some (9, .iload_n 3, 0, 0) := rfl
theorem te_216_10 : (pT M_216).find? (fun e => e.1 == 10) = some (10, .invokevirtual 48, 13, 1) := rfl
theorem te_216_13 : (pT M_216).find? (fun e => e.1 == 13) = some (13, .if_icmp .ge 57, 0, 0) := rfl
theorem te_216_16 : (pT M_216).find? (fun e => e.1 == 16) = some (16, .aload_n 1, 0, 0) := rfl
theorem te_216_17 : (pT M_216).find? (fun e => e.1 == 17) = some (17, .iload_n 3, 0, 0) := rfl
theorem te_216_18 : (pT M_216).find? (fun e => e.1 == 18) = some (18, .iload 6, 0, 0) := rfl
theorem te_216_20 : (pT M_216).find? (fun e => e.1 == 20) = some (20, .invokevirtual 53, 14, 1) := rfl
theorem te_216_23 : (pT M_216).find? (fun e => e.1 == 23) = some (23, .istore 7, 0, 0) := rfl
theorem te_216_25 : (pT M_216).find? (fun e => e.1 == 25) = some (25, .iload 4, 0, 0) := rfl
theorem te_216_27 : (pT M_216).find? (fun e => e.1 == 27) = some (27, .aload_n 1, 0, 0) := rfl
theorem te_216_28 : (pT M_216).find? (fun e => e.1 == 28) = some (28, .iload_n 3, 0, 0) := rfl
theorem te_216_29 : (pT M_216).find? (fun e => e.1 == 29) = some (29, .iload 6, 0, 0) := rfl
theorem te_216_31 : (pT M_216).find? (fun e => e.1 == 31) = some (31, .invokevirtual 56, 15, 1) := rfl
theorem te_216_34 : (pT M_216).find? (fun e => e.1 == 34) = some (34, .isub, 0, 0) := rfl
theorem te_216_35 : (pT M_216).find? (fun e => e.1 == 35) = some (35, .istore 8, 0, 0) := rfl
theorem te_216_37 : (pT M_216).find? (fun e => e.1 == 37) = some (37, .iload 7, 0, 0) := rfl
theorem te_216_39 : (pT M_216).find? (fun e => e.1 == 39) = some (39, .ifCond .lt 25, 0, 0) := rfl
theorem te_216_42 : (pT M_216).find? (fun e => e.1 == 42) = some (42, .iload 8, 0, 0) := rfl
theorem te_216_44 : (pT M_216).find? (fun e => e.1 == 44) = some (44, .ifCond .lt 20, 0, 0) := rfl
theorem te_216_47 : (pT M_216).find? (fun e => e.1 == 47) = some (47, .iload 5, 0, 0) := rfl
theorem te_216_49 : (pT M_216).find? (fun e => e.1 == 49) = some (49, .aload_n 0, 0, 0) := rfl
theorem te_216_50 : (pT M_216).find? (fun e => e.1 == 50) = some (50, .aload_n 1, 0, 0) := rfl
theorem te_216_51 : (pT M_216).find? (fun e => e.1 == 51) = some (51, .aload_n 2, 0, 0) := rfl
theorem te_216_52 : (pT M_216).find? (fun e => e.1 == 52) = some (52, .iload 7, 0, 0) := rfl
theorem te_216_54 : (pT M_216).find? (fun e => e.1 == 54) = some (54, .iload 8, 0, 0) := rfl
theorem te_216_56 : (pT M_216).find? (fun e => e.1 == 56) = some (56, .invokevirtual 59, 217, 0) := rfl
theorem te_216_59 : (pT M_216).find? (fun e => e.1 == 59) = some (59, .invokestatic 45, 40, 2) := rfl
theorem te_216_62 : (pT M_216).find? (fun e => e.1 == 62) = some (62, .istore 5, 0, 0) := rfl
theorem te_216_64 : (pT M_216).find? (fun e => e.1 == 64) = some (64, .iinc 6 1, 0, 0) := rfl
theorem te_216_67 : (pT M_216).find? (fun e => e.1 == 67) = some (67, .goto (-61), 0, 0) := rfl
theorem te_216_70 : (pT M_216).find? (fun e => e.1 == 70) = some (70, .iload 5, 0, 0) := rfl
theorem te_216_72 : (pT M_216).find? (fun e => e.1 == 72) = some (72, .ireturn, 0, 0) := rfl
theorem te_217_0 : (pT M_217).find? (fun e => e.1 == 0) = some (0, .aload_n 2, 0, 0) := rfl
theorem te_217_1 : (pT M_217).find? (fun e => e.1 == 1) = some (1, .getfield 62, 1, 9) := rfl
theorem te_217_4 : (pT M_217).find? (fun e => e.1 == 4) = some (4, .iload_n 3, 0, 0) := rfl
theorem te_217_5 : (pT M_217).find? (fun e => e.1 == 5) = some (5, .iaload, 0, 0) := rfl
theorem te_217_6 : (pT M_217).find? (fun e => e.1 == 6) = some (6, .aload_n 2, 0, 0) := rfl
theorem te_217_7 : (pT M_217).find? (fun e => e.1 == 7) = some (7, .getfield 65, 1, 3) := rfl
theorem te_217_10 : (pT M_217).find? (fun e => e.1 == 10) = some (10, .iload 4, 0, 0) := rfl
theorem te_217_12 : (pT M_217).find? (fun e => e.1 == 12) = some (12, .imul, 0, 0) := rfl
theorem te_217_13 : (pT M_217).find? (fun e => e.1 == 13) = some (13, .iadd, 0, 0) := rfl
theorem te_217_14 : (pT M_217).find? (fun e => e.1 == 14) = some (14, .istore 5, 0, 0) := rfl
theorem te_217_16 : (pT M_217).find? (fun e => e.1 == 16) = some (16, .iload 5, 0, 0) := rfl
theorem te_217_18 : (pT M_217).find? (fun e => e.1 == 18) = some (18, .ifCond .lt 11, 0, 0) := rfl
theorem te_217_21 : (pT M_217).find? (fun e => e.1 == 21) = some (21, .iload 5, 0, 0) := rfl
theorem te_217_23 : (pT M_217).find? (fun e => e.1 == 23) = some (23, .sipush 1024, 0, 0) := rfl
theorem te_217_26 : (pT M_217).find? (fun e => e.1 == 26) = some (26, .if_icmp .lt 5, 0, 0) := rfl
theorem te_217_29 : (pT M_217).find? (fun e => e.1 == 29) = some (29, .iconst 0, 0, 0) := rfl
theorem te_217_30 : (pT M_217).find? (fun e => e.1 == 30) = some (30, .ireturn, 0, 0) := rfl
theorem te_217_31 : (pT M_217).find? (fun e => e.1 == 31) = some (31, .iload 5, 0, 0) := rfl
theorem te_217_33 : (pT M_217).find? (fun e => e.1 == 33) = some (33, .aload_n 0, 0, 0) := rfl
theorem te_217_34 : (pT M_217).find? (fun e => e.1 == 34) = some (34, .getfield 11, 3, 0) := rfl
theorem te_217_37 : (pT M_217).find? (fun e => e.1 == 37) = some (37, .iload 5, 0, 0) := rfl
theorem te_217_39 : (pT M_217).find? (fun e => e.1 == 39) = some (39, .iaload, 0, 0) := rfl
theorem te_217_40 : (pT M_217).find? (fun e => e.1 == 40) = some (40, .iadd, 0, 0) := rfl
theorem te_217_41 : (pT M_217).find? (fun e => e.1 == 41) = some (41, .aload_n 1, 0, 0) := rfl
theorem te_217_42 : (pT M_217).find? (fun e => e.1 == 42) = some (42, .iload_n 3, 0, 0) := rfl
theorem te_217_43 : (pT M_217).find? (fun e => e.1 == 43) = some (43, .invokevirtual 68, 19, 1) := rfl
theorem te_217_46 : (pT M_217).find? (fun e => e.1 == 46) = some (46, .iadd, 0, 0) := rfl
theorem te_217_47 : (pT M_217).find? (fun e => e.1 == 47) = some (47, .istore 6, 0, 0) := rfl
theorem te_217_49 : (pT M_217).find? (fun e => e.1 == 49) = some (49, .aload_n 1, 0, 0) := rfl
theorem te_217_50 : (pT M_217).find? (fun e => e.1 == 50) = some (50, .getfield 71, 0, 1) := rfl
theorem te_217_53 : (pT M_217).find? (fun e => e.1 == 53) = some (53, .iload_n 3, 0, 0) := rfl
theorem te_217_54 : (pT M_217).find? (fun e => e.1 == 54) = some (54, .iaload, 0, 0) := rfl
theorem te_217_55 : (pT M_217).find? (fun e => e.1 == 55) = some (55, .iconst 4, 0, 0) := rfl
theorem te_217_56 : (pT M_217).find? (fun e => e.1 == 56) = some (56, .if_icmp .ne 7, 0, 0) := rfl
theorem te_217_59 : (pT M_217).find? (fun e => e.1 == 59) = some (59, .iconst 1, 0, 0) := rfl
theorem te_217_60 : (pT M_217).find? (fun e => e.1 == 60) = some (60, .goto 4, 0, 0) := rfl
theorem te_217_63 : (pT M_217).find? (fun e => e.1 == 63) = some (63, .iconst 0, 0, 0) := rfl
theorem te_217_64 : (pT M_217).find? (fun e => e.1 == 64) = some (64, .istore 7, 0, 0) := rfl
theorem te_217_66 : (pT M_217).find? (fun e => e.1 == 66) = some (66, .iload 7, 0, 0) := rfl
theorem te_217_68 : (pT M_217).find? (fun e => e.1 == 68) = some (68, .ifCond .eq 35, 0, 0) := rfl
theorem te_217_71 : (pT M_217).find? (fun e => e.1 == 71) = some (71, .aload_n 0, 0, 0) := rfl
theorem te_217_72 : (pT M_217).find? (fun e => e.1 == 72) = some (72, .getfield 15, 3, 1) := rfl
theorem te_217_75 : (pT M_217).find? (fun e => e.1 == 75) = some (75, .ifCond .le 28, 0, 0) := rfl
theorem te_217_78 : (pT M_217).find? (fun e => e.1 == 78) = some (78, .iload 4, 0, 0) := rfl
theorem te_217_80 : (pT M_217).find? (fun e => e.1 == 80) = some (80, .aload_n 1, 0, 0) := rfl
theorem te_217_81 : (pT M_217).find? (fun e => e.1 == 81) = some (81, .iload_n 3, 0, 0) := rfl
theorem te_217_82 : (pT M_217).find? (fun e => e.1 == 82) = some (82, .invokevirtual 74, 25, 1) := rfl
theorem te_217_85 : (pT M_217).find? (fun e => e.1 == 85) = some (85, .iadd, 0, 0) := rfl
theorem te_217_86 : (pT M_217).find? (fun e => e.1 == 86) = some (86, .aload_n 0, 0, 0) := rfl
theorem te_217_87 : (pT M_217).find? (fun e => e.1 == 87) = some (87, .getfield 15, 3, 1) := rfl
theorem te_217_90 : (pT M_217).find? (fun e => e.1 == 90) = some (90, .irem, 0, 0) := rfl
theorem te_217_91 : (pT M_217).find? (fun e => e.1 == 91) = some (91, .ifCond .ne 12, 0, 0) := rfl
theorem te_217_94 : (pT M_217).find? (fun e => e.1 == 94) = some (94, .iload 6, 0, 0) := rfl
theorem te_217_96 : (pT M_217).find? (fun e => e.1 == 96) = some (96, .aload_n 0, 0, 0) := rfl
theorem te_217_97 : (pT M_217).find? (fun e => e.1 == 97) = some (97, .getfield 19, 3, 2) := rfl
theorem te_217_100 : (pT M_217).find? (fun e => e.1 == 100) = some (100, .iadd, 0, 0) := rfl
theorem te_217_101 : (pT M_217).find? (fun e => e.1 == 101) = some (101, .istore 6, 0, 0) := rfl
theorem te_217_103 : (pT M_217).find? (fun e => e.1 == 103) = some (103, .iload 6, 0, 0) := rfl
theorem te_217_105 : (pT M_217).find? (fun e => e.1 == 105) = some (105, .ireturn, 0, 0) := rfl
theorem f_34 {S : Nat × (Nat → Int32)} {n : Nat} {mem : MM} {K : Int → MM → Prop} {E : Nat → MM → Prop} {x y : Int} (hy : 0 < y) (H : ∀ q, y * q ≤ x → x < y * q + y → K q mem) : CQI (Ex S (n + 1)) 34 [.inl x, .inl y] mem K E := by
  refine CY.of (k := 1) mt_34 rfl rfl (fun hv => ?_)
  have hC := Ex.mono S n
  have ii_x : InI x := hv (.inl x) (by simp)
  unfold InI at ii_x
  have ii_y : InI y := hv (.inl y) (by simp)
  unfold InI at ii_y
  clear hv
  have fin : ∀ q z : Int, z = x.tdiv y → (q = z ∧ (0 ≤ x ∨ y * z = x) ∨ q = z - 1 ∧ x < 0 ∧ ¬ y * z = x) → K q mem := fun q z e h => by
    have td := tdv_b (x := x) hy e
    rcases h with h | h
    · exact H q (by rw [h.1]; omega) (by rw [h.1]; omega)
    · have e1 : y * (z - 1) = y * z - y := by rw [Int.mul_sub, Int.mul_one]
      exact H q (by rw [h.1, e1]; omega) (by rw [h.1, e1]; omega)
  show Tx (Ex S n) S M_34 (kI K E) 0 0 0 [some (.inl x), some (.inl y), none] [] mem
  refine Tx.iload_n hC te_34_0 rfl ?_
  refine Tx.iload_n hC te_34_1 rfl ?_
  refine Tx.idivW hC te_34_2 (by omega) (fun z1 z1i z1e z1f => ?_)
  unfold InI at z1i
  have td := tdv_b (x := x) hy z1e
  refine Tx.istore_n hC te_34_3 rfl ?_
  refine Tx.iload_n hC te_34_4 rfl ?_
  refine Tx.iload_n hC te_34_5 rfl ?_
  refine Tx.bits hC (f := (fun (x y : Int32) => x ^^^ y)) te_34_6 (fun _ _ _ _ => Iff.rfl) (fun b2 b2e b2i => ?_)
  unfold InI at b2i
  have xs := xor_neg (by unfold InI; omega) (by unfold InI; omega) hy b2e
  refine Tx.ifc hC (t := 21) te_34_7 (by decide) (fun q3 => ?_) (fun q3 => ?_)
  · replace q3 : 0 ≤ (b2 : Int) := q3
    refine Tx.iload_n hC te_34_21 rfl ?_
    exact Tx.ireturn hC te_34_22 rfl (fun hr => show K z1 mem from fin z1 _ z1e (by omega))
  · replace q3 : ¬ (0 ≤ (b2 : Int)) := q3
    refine Tx.iload_n hC te_34_10 rfl ?_
    refine Tx.iload_n hC te_34_11 rfl ?_
    have cm := Int.mul_comm z1 y
    refine Tx.imulW hC te_34_12 (fun z4 z4i z4e => ?_)
    unfold InI at z4i z4e
    first | replace z4e := z4e (by omega) | clear z4e
    refine Tx.iload_n hC te_34_13 rfl ?_
    refine Tx.icmp hC (t := 21) te_34_14 (by decide) (fun q5 => ?_) (fun q5 => ?_)
    · replace q5 : (z4 : Int) = x := q5
      refine Tx.iload_n hC te_34_21 rfl ?_
      exact Tx.ireturn hC te_34_22 rfl (fun hr => show K z1 mem from fin z1 _ z1e (by omega))
    · replace q5 : ¬ ((z4 : Int) = x) := q5
      refine Tx.iload_n hC te_34_17 rfl ?_
      refine Tx.iconst hC te_34_18 rfl ?_
      have nm : ¬ z1 = -2147483648 := by
        intro q; subst q; omega
      refine Tx.isubW hC te_34_19 (fun z6 z6i z6e => ?_)
      unfold InI at z6i z6e
      first | replace z6e := z6e (by omega) | clear z6e
      exact Tx.ireturn hC te_34_20 rfl (fun hr => show K z6 mem from fin z6 _ z1e (by omega))
theorem f_94 {S : Nat × (Nat → Int32)} {n : Nat} {mem : MM} {K : Int → MM → Prop} {E : Nat → MM → Prop} {x y : Int} (hy : 0 < y) (H : ∀ r, 0 ≤ r → r < y → K r mem) : CQI (Ex S (n + 1)) 94 [.inl x, .inl y] mem K E := by
  refine CY.of (k := 1) mt_94 rfl rfl (fun hv => ?_)
  have hC := Ex.mono S n
  have ii_x : InI x := hv (.inl x) (by simp)
  unfold InI at ii_x
  have ii_y : InI y := hv (.inl y) (by simp)
  unfold InI at ii_y
  clear hv
  show Tx (Ex S n) S M_94 (kI K E) 0 0 0 [some (.inl x), some (.inl y), none] [] mem
  refine Tx.iload_n hC te_94_0 rfl ?_
  refine Tx.iload_n hC te_94_1 rfl ?_
  refine Tx.iremW hC te_94_2 (by omega) (fun z1 z1i z1e z1f => ?_)
  unfold InI at z1i
  refine Tx.istore_n hC te_94_3 rfl ?_
  refine Tx.iload_n hC te_94_4 rfl ?_
  refine Tx.iload_n hC te_94_5 rfl ?_
  refine Tx.bits hC (f := (fun (x y : Int32) => x ^^^ y)) te_94_6 (fun _ _ _ _ => Iff.rfl) (fun b2 b2e b2i => ?_)
  unfold InI at b2i
  have xs := xor_neg (by unfold InI; omega) (by unfold InI; omega) hy b2e
  refine Tx.ifc hC (t := 18) te_94_7 (by decide) (fun q3 => ?_) (fun q3 => ?_)
  · replace q3 : 0 ≤ (b2 : Int) := q3
    refine Tx.iload_n hC te_94_18 rfl ?_
    exact Tx.ireturn hC te_94_19 rfl (fun hr => show K z1 mem from H z1 (by omega) (by omega))
  · replace q3 : ¬ (0 ≤ (b2 : Int)) := q3
    refine Tx.iload_n hC te_94_10 rfl ?_
    refine Tx.ifc hC (t := 18) te_94_11 (by decide) (fun q4 => ?_) (fun q4 => ?_)
    · replace q4 : (z1 : Int) = 0 := q4
      refine Tx.iload_n hC te_94_18 rfl ?_
      exact Tx.ireturn hC te_94_19 rfl (fun hr => show K z1 mem from H z1 (by omega) (by omega))
    · replace q4 : ¬ ((z1 : Int) = 0) := q4
      refine Tx.iload_n hC te_94_14 rfl ?_
      refine Tx.iload_n hC te_94_15 rfl ?_
      refine Tx.iaddW hC te_94_16 (fun z5 z5i z5e => ?_)
      unfold InI at z5i z5e
      first | replace z5e := z5e (by omega) | clear z5e
      exact Tx.ireturn hC te_94_17 rfl (fun hr => show K z5 mem from H z5 (by omega) (by omega))
theorem f_33 {S : Nat × (Nat → Int32)} {n : Nat} {mem : MM} {K : Int → MM → Prop} {E : Nat → MM → Prop} {a b : Int} (H : ∀ r, (0 < b → 0 < a → b * (r - 1) < a ∧ a ≤ b * r ∧ 0 < r) → K r mem) : CQI (Ex S (n + 2)) 33 [.inl a, .inl b] mem K E := by
  refine CY.of (k := 0) mt_33 rfl rfl (fun hv => ?_)
  have hC := Ex.mono S (n + 1)
  have ii_a : InI a := hv (.inl a) (by simp)
  unfold InI at ii_a
  have ii_b : InI b := hv (.inl b) (by simp)
  unfold InI at ii_b
  clear hv
  show Tx (Ex S (n + 1)) S M_33 (kI K E) 0 0 0 [some (.inl a), some (.inl b)] [] mem
  refine Tx.iload_n hC te_33_0 rfl ?_
  refine Tx.ifc hC (t := 8) te_33_1 (by decide) (fun q1 => ?_) (fun q1 => ?_)
  · replace q1 : 0 < (b : Int) := q1
    refine Tx.iload_n hC te_33_8 rfl ?_
    refine Tx.inegW hC te_33_9 (fun z2 z2i z2e => ?_)
    unfold InI at z2i z2e
    refine Tx.iload_n hC te_33_10 rfl ?_
    refine Tx.statI hC te_33_11 (by decide) mt_34 (args := [.inl z2, .inl b]) (rest := []) (c' := 0) (s' := 0) rfl rfl rfl rfl rfl rfl rfl ?_
    refine f_34 (by omega) (fun r3 r3a r3b r3i => ?_)
    unfold InI at r3i
    refine Tx.inegW hC te_33_14 (fun z6 z6i z6e => ?_)
    unfold InI at z6i z6e
    exact Tx.ireturn hC te_33_15 rfl (fun hr => show K z6 mem from H z6 (fun h1 h2 => ru_fin h1 h2 (z2e (by omega)) (by have := z2e (by omega); omega) r3a r3b (by omega) (by omega) z6e))
  · replace q1 : ¬ (0 < (b : Int)) := q1
    refine Tx.iconst hC te_33_4 rfl ?_
    refine Tx.goto hC (t := 15) te_33_5 (by decide) ?_
    exact Tx.ireturn hC te_33_15 rfl (fun hr => show K 0 mem from H 0 (fun h1 h2 => by omega))
theorem f_32 {S : Nat × (Nat → Int32)} {n : Nat} {mem : MM} {K : Int → MM → Prop} {E : Nat → MM → Prop} {W : Nat} (hW : WebSh W) (H : ∀ r, K r mem) : CQI (Ex S (n + 3)) 32 [.inr W] mem K E := by
  refine CY.of (k := 0) mt_32 rfl rfl (fun hv => ?_)
  have hC := Ex.mono S (n + 2)
  clear hv
  show Tx (Ex S (n + 2)) S M_32 (kI K E) 0 0 0 [some (.inr W)] [] mem
  refine Tx.aload_n hC te_32_0 rfl ?_
  refine Tx.getI hC te_32_1 hW.1 rfl rfl (fun v1 v1e v1i => ?_)
  unfold InI at v1i
  refine Tx.aload_n hC te_32_4 rfl ?_
  refine Tx.getI hC te_32_5 hW.1 rfl rfl (fun v2 v2e v2i => ?_)
  unfold InI at v2i
  refine Tx.statI hC te_32_8 (by decide) mt_33 (args := [.inl v1, .inl v2]) (rest := []) (c' := 0) (s' := 0) rfl rfl rfl rfl rfl rfl rfl ?_
  refine f_33 (fun r3 r3f r3i => ?_)
  unfold InI at r3i
  exact Tx.ireturn hC te_32_11 rfl (fun hr => show K r3 mem from H r3)
theorem f_39 {S : Nat × (Nat → Int32)} {n : Nat} {mem : MM} {K : Int → MM → Prop} {E : Nat → MM → Prop} {x : Int} (H : ∀ r, K r mem) : CQI (Ex S (n + 1)) 39 [.inl x] mem K E := by
  refine CY.of (k := 0) mt_39 rfl rfl (fun hv => ?_)
  have hC := Ex.mono S n
  have ii_x : InI x := hv (.inl x) (by simp)
  unfold InI at ii_x
  clear hv
  show Tx (Ex S n) S M_39 (kI K E) 0 0 0 [some (.inl x)] [] mem
  refine Tx.iload_n hC te_39_0 rfl ?_
  refine Tx.iload_n hC te_39_1 rfl ?_
  refine Tx.iconst hC te_39_2 rfl ?_
  refine Tx.bits hC (f := (fun (x y : Int32) => (x.toUInt32 >>> (y.toUInt32 &&& Int32.toUInt32 31)).toInt32)) te_39_3 (fun _ _ _ _ => Iff.rfl) (fun b1 b1e b1i => ?_)
  unfold InI at b1i
  refine Tx.ldc_w hC (z := 1431655765) te_39_4 rfl rfl rfl rfl ?_
  refine Tx.bits hC (f := (fun (x y : Int32) => x &&& y)) te_39_7 (fun _ _ _ _ => Iff.rfl) (fun b2 b2e b2i => ?_)
  unfold InI at b2i
  refine Tx.isubW hC te_39_8 (fun z3 z3i z3e => ?_)
  unfold InI at z3i z3e
  first | replace z3e := z3e (by omega) | clear z3e
  refine Tx.istore_n hC te_39_9 rfl ?_
  refine Tx.iload_n hC te_39_10 rfl ?_
  refine Tx.ldc_w hC (z := 858993459) te_39_11 rfl rfl rfl rfl ?_
  refine Tx.bits hC (f := (fun (x y : Int32) => x &&& y)) te_39_14 (fun _ _ _ _ => Iff.rfl) (fun b4 b4e b4i => ?_)
  unfold InI at b4i
  refine Tx.iload_n hC te_39_15 rfl ?_
  refine Tx.iconst hC te_39_16 rfl ?_
  refine Tx.bits hC (f := (fun (x y : Int32) => (x.toUInt32 >>> (y.toUInt32 &&& Int32.toUInt32 31)).toInt32)) te_39_17 (fun _ _ _ _ => Iff.rfl) (fun b5 b5e b5i => ?_)
  unfold InI at b5i
  refine Tx.ldc_w hC (z := 858993459) te_39_18 rfl rfl rfl rfl ?_
  refine Tx.bits hC (f := (fun (x y : Int32) => x &&& y)) te_39_21 (fun _ _ _ _ => Iff.rfl) (fun b6 b6e b6i => ?_)
  unfold InI at b6i
  refine Tx.iaddW hC te_39_22 (fun z7 z7i z7e => ?_)
  unfold InI at z7i z7e
  first | replace z7e := z7e (by omega) | clear z7e
  refine Tx.istore_n hC te_39_23 rfl ?_
  refine Tx.iload_n hC te_39_24 rfl ?_
  refine Tx.iload_n hC te_39_25 rfl ?_
  refine Tx.iconst hC te_39_26 rfl ?_
  refine Tx.bits hC (f := (fun (x y : Int32) => (x.toUInt32 >>> (y.toUInt32 &&& Int32.toUInt32 31)).toInt32)) te_39_27 (fun _ _ _ _ => Iff.rfl) (fun b8 b8e b8i => ?_)
  unfold InI at b8i
  refine Tx.iaddW hC te_39_28 (fun z9 z9i z9e => ?_)
  unfold InI at z9i z9e
  first | replace z9e := z9e (by omega) | clear z9e
  refine Tx.ldc_w hC (z := 252645135) te_39_29 rfl rfl rfl rfl ?_
  refine Tx.bits hC (f := (fun (x y : Int32) => x &&& y)) te_39_32 (fun _ _ _ _ => Iff.rfl) (fun b10 b10e b10i => ?_)
  unfold InI at b10i
  refine Tx.istore_n hC te_39_33 rfl ?_
  refine Tx.iload_n hC te_39_34 rfl ?_
  refine Tx.iload_n hC te_39_35 rfl ?_
  refine Tx.bipush hC te_39_36 rfl rfl ?_
  refine Tx.bits hC (f := (fun (x y : Int32) => (x.toUInt32 >>> (y.toUInt32 &&& Int32.toUInt32 31)).toInt32)) te_39_38 (fun _ _ _ _ => Iff.rfl) (fun b11 b11e b11i => ?_)
  unfold InI at b11i
  refine Tx.iaddW hC te_39_39 (fun z12 z12i z12e => ?_)
  unfold InI at z12i z12e
  first | replace z12e := z12e (by omega) | clear z12e
  refine Tx.istore_n hC te_39_40 rfl ?_
  refine Tx.iload_n hC te_39_41 rfl ?_
  refine Tx.iload_n hC te_39_42 rfl ?_
  refine Tx.bipush hC te_39_43 rfl rfl ?_
  refine Tx.bits hC (f := (fun (x y : Int32) => (x.toUInt32 >>> (y.toUInt32 &&& Int32.toUInt32 31)).toInt32)) te_39_45 (fun _ _ _ _ => Iff.rfl) (fun b13 b13e b13i => ?_)
  unfold InI at b13i
  refine Tx.iaddW hC te_39_46 (fun z14 z14i z14e => ?_)
  unfold InI at z14i z14e
  first | replace z14e := z14e (by omega) | clear z14e
  refine Tx.istore_n hC te_39_47 rfl ?_
  refine Tx.iload_n hC te_39_48 rfl ?_
  refine Tx.bipush hC te_39_49 rfl rfl ?_
  refine Tx.bits hC (f := (fun (x y : Int32) => x &&& y)) te_39_51 (fun _ _ _ _ => Iff.rfl) (fun b15 b15e b15i => ?_)
  unfold InI at b15i
  exact Tx.ireturn hC te_39_52 rfl (fun hr => show K b15 mem from H b15)
theorem f_36 {S : Nat × (Nat → Int32)} {n : Nat} {mem : MM} {K : Int → MM → Prop} {E : Nat → MM → Prop} {u : Int} (hB : BodyOK mem) (H : ∀ r, K r mem) : CQI (Ex S (n + 2)) 36 [.inr 1, .inl u] mem K E := by
  refine CY.of (k := 2) mt_36 rfl rfl (fun hv => ?_)
  have hC := Ex.mono S (n + 1)
  have ii_u : InI u := hv (.inl u) (by simp)
  unfold InI at ii_u
  clear hv
  have h8 := hB.1
  show Tx (Ex S (n + 1)) S M_36 (kI K E) 0 0 0 [some (.inr 1), some (.inl u), none, none] [] mem
  have l_4 : ∀ (N : Nat) (x2 x3 : Int), (0 ≤ x3) → ((8 - x3).toNat) < N → Tx (Ex S (n + 1)) S M_36 (kI K E) 0 0 4 [some (.inr 1), some (.inl u), some (.inl x2), some (.inl x3)] [] mem := by
    intro N
    induction N with
    | zero => intros; omega
    | succ N ih_4 =>
      intro x2 x3 i4_0 hN_4 
      refine Tx.iload_n hC te_36_4 rfl ?_
      refine Tx.aload_n hC te_36_5 rfl ?_
      refine Tx.getI hC te_36_6 rfl rfl rfl (fun v1 v1e v1i => ?_)
      unfold InI at v1i
      refine Tx.icmp hC (t := 38) te_36_9 (by decide) (fun q2 => ?_) (fun q2 => ?_)
      · replace q2 : v1 ≤ (x3 : Int) := q2
        refine Tx.iload_n hC te_36_38 rfl ?_
        exact Tx.ireturn hC te_36_39 rfl (fun hr => show K x2 mem from H x2)
      · replace q2 : ¬ (v1 ≤ (x3 : Int)) := q2
        refine Tx.aload_n hC te_36_12 rfl ?_
        refine Tx.iload_n hC te_36_13 rfl ?_
        refine Tx.virtI hC te_36_14 mt_37 (args := [.inr 1, .inl x3]) (rest := []) (c' := 0) (s' := 0) rfl rfl rfl rfl rfl rfl rfl rfl rfl rfl ?_
        refine CWI.q hC (f_37 hB (by omega) (fun r3 r3a r3b r3i => ?_))
        unfold InI at r3i
        refine Tx.iload_n hC te_36_17 rfl ?_
        refine Tx.icmp hC (t := 32) te_36_18 (by decide) (fun q6 => ?_) (fun q6 => ?_)
        · replace q6 : ¬ (r3 : Int) = u := q6
          refine Tx.iincW hC te_36_32 rfl rfl (fun z7 z7i z7e => ?_)
          unfold InI at z7i z7e
          first | replace z7e := z7e (by omega) | clear z7e
          refine Tx.goto hC (t := 4) te_36_35 (by decide) ?_
          exact ih_4 x2 z7 (by omega) (by omega)
        · replace q6 : ¬ (¬ (r3 : Int) = u) := q6
          refine Tx.iload_n hC te_36_21 rfl ?_
          refine Tx.aload_n hC te_36_22 rfl ?_
          refine Tx.iload_n hC te_36_23 rfl ?_
          refine Tx.virtI hC te_36_24 mt_38 (args := [.inr 1, .inl x3]) (rest := [.inl x2]) (c' := 0) (s' := 0) rfl rfl rfl rfl rfl rfl rfl rfl rfl rfl ?_
          refine CWI.q hC (f_38 hB (by omega) (fun r8 r8a r8b r8i => ?_))
          unfold InI at r8i
          refine Tx.statI hC te_36_27 (by decide) mt_39 (args := [.inl r8]) (rest := [.inl x2]) (c' := 0) (s' := 0) rfl rfl rfl rfl rfl rfl rfl ?_
          refine f_39 (fun r11 r11i => ?_)
          unfold InI at r11i
          refine Tx.iaddW hC te_36_30 (fun z14 z14i z14e => ?_)
          unfold InI at z14i z14e
          first | replace z14e := z14e (by omega) | clear z14e
          refine Tx.istore_n hC te_36_31 rfl ?_
          refine Tx.iincW hC te_36_32 rfl rfl (fun z15 z15i z15e => ?_)
          unfold InI at z15i z15e
          first | replace z15e := z15e (by omega) | clear z15e
          refine Tx.goto hC (t := 4) te_36_35 (by decide) ?_
          exact ih_4 z14 z15 (by omega) (by omega)
  refine Tx.iconst hC te_36_0 rfl ?_
  refine Tx.istore_n hC te_36_1 rfl ?_
  refine Tx.iconst hC te_36_2 rfl ?_
  refine Tx.istore_n hC te_36_3 rfl ?_
  exact l_4 _ 0 0 (by omega) (Nat.lt_succ_self _)
theorem f_42 {S : Nat × (Nat → Int32)} {n : Nat} {mem : MM} {K : Int → MM → Prop} {E : Nat → MM → Prop} (hB : BodyOK mem) (H : ∀ r, K r mem) : CQI (Ex S (n + 2)) 42 [.inr 1] mem K E := by
  refine CY.of (k := 2) mt_42 rfl rfl (fun hv => ?_)
  have hC := Ex.mono S (n + 1)
  clear hv
  have h8 := hB.1
  show Tx (Ex S (n + 1)) S M_42 (kI K E) 0 0 0 [some (.inr 1), none, none] [] mem
  have l_4 : ∀ (N : Nat) (x1 x2 : Int), (0 ≤ x2) → ((8 - x2).toNat) < N → Tx (Ex S (n + 1)) S M_42 (kI K E) 0 0 4 [some (.inr 1), some (.inl x1), some (.inl x2)] [] mem := by
    intro N
    induction N with
    | zero => intros; omega
    | succ N ih_4 =>
      intro x1 x2 i4_0 hN_4 
      refine Tx.iload_n hC te_42_4 rfl ?_
      refine Tx.aload_n hC te_42_5 rfl ?_
      refine Tx.getI hC te_42_6 rfl rfl rfl (fun v1 v1e v1i => ?_)
      unfold InI at v1i
      refine Tx.icmp hC (t := 26) te_42_9 (by decide) (fun q2 => ?_) (fun q2 => ?_)
      · replace q2 : v1 ≤ (x2 : Int) := q2
        refine Tx.iload_n hC te_42_26 rfl ?_
        exact Tx.ireturn hC te_42_27 rfl (fun hr => show K x1 mem from H x1)
      · replace q2 : ¬ (v1 ≤ (x2 : Int)) := q2
        refine Tx.iload_n hC te_42_12 rfl ?_
        refine Tx.aload_n hC te_42_13 rfl ?_
        refine Tx.iload_n hC te_42_14 rfl ?_
        refine Tx.virtI hC te_42_15 mt_19 (args := [.inr 1, .inl x2]) (rest := [.inl x1]) (c' := 0) (s' := 0) rfl rfl rfl rfl rfl rfl rfl rfl rfl rfl ?_
        refine CWI.q hC (f_19 hB (by omega) (fun r3 r3a r3b r3i => ?_))
        unfold InI at r3i
        refine Tx.iaddW hC te_42_18 (fun z6 z6i z6e => ?_)
        unfold InI at z6i z6e
        first | replace z6e := z6e (by omega) | clear z6e
        refine Tx.istore_n hC te_42_19 rfl ?_
        refine Tx.iincW hC te_42_20 rfl rfl (fun z7 z7i z7e => ?_)
        unfold InI at z7i z7e
        first | replace z7e := z7e (by omega) | clear z7e
        refine Tx.goto hC (t := 4) te_42_23 (by decide) ?_
        exact ih_4 z6 z7 (by omega) (by omega)
  refine Tx.iconst hC te_42_0 rfl ?_
  refine Tx.istore_n hC te_42_1 rfl ?_
  refine Tx.iconst hC te_42_2 rfl ?_
  refine Tx.istore_n hC te_42_3 rfl ?_
  exact l_4 _ 0 0 (by omega) (Nat.lt_succ_self _)
theorem f_35 {S : Nat × (Nat → Int32)} {n : Nat} {mem : MM} {K : Int → MM → Prop} {E : Nat → MM → Prop} {u k : Int} (hB : BodyOK mem) (H : ∀ r, K r mem) : CQI (Ex S (n + 3)) 35 [.inr 1, .inl u, .inl k] mem K E := by
  refine CY.of (k := 3) mt_35 rfl rfl (fun hv => ?_)
  have hC := Ex.mono S (n + 2)
  have ii_u : InI u := hv (.inl u) (by simp)
  unfold InI at ii_u
  have ii_k : InI k := hv (.inl k) (by simp)
  unfold InI at ii_k
  clear hv
  have h8 := hB.1
  show Tx (Ex S (n + 2)) S M_35 (kI K E) 0 0 0 [some (.inr 1), some (.inl u), some (.inl k), none, none, none] [] mem
  have l_5 : ∀ (N : Nat) (x3 x4 : Int), (0 ≤ x4) → ((3 - x4).toNat) < N → Tx (Ex S (n + 2)) S M_35 (kI K E) 0 0 5 [some (.inr 1), some (.inl u), some (.inl k), some (.inl x3), some (.inl x4), none] [] mem := by
    intro N
    induction N with
    | zero => intros; omega
    | succ N ih_5 =>
      intro x3 x4 i5_0 hN_5 
      refine Tx.iload hC te_35_5 rfl ?_
      refine Tx.iconst hC te_35_7 rfl ?_
      refine Tx.icmp hC (t := 62) te_35_8 (by decide) (fun q1 => ?_) (fun q1 => ?_)
      · replace q1 : 3 ≤ (x4 : Int) := q1
        refine Tx.iload_n hC te_35_62 rfl ?_
        exact Tx.ireturn hC te_35_63 rfl (fun hr => show K x3 mem from H x3)
      · replace q1 : ¬ (3 ≤ (x4 : Int)) := q1
        refine Tx.iload hC te_35_11 rfl ?_
        refine Tx.iload_n hC te_35_13 rfl ?_
        refine Tx.icmp hC (t := 29) te_35_14 (by decide) (fun q2 => ?_) (fun q2 => ?_)
        · replace q2 : ¬ (x4 : Int) = u := q2
          refine Tx.aload_n hC te_35_29 rfl ?_
          refine Tx.getR hC te_35_30 rfl rfl rfl ?_
          refine Tx.iload hC te_35_33 rfl ?_
          refine Tx.iald hC te_35_35 rfl (by omega) (fun v3 v3e v3i => ?_)
          unfold InI at v3i
          have f4 := hB.cn (o := (Int.toNat x4)) (by omega)
          refine Tx.istore hC te_35_36 rfl ?_
          refine Tx.iload_n hC te_35_38 rfl ?_
          refine Tx.iload_n hC te_35_39 rfl ?_
          refine Tx.aload_n hC te_35_40 rfl ?_
          refine Tx.iload hC te_35_41 rfl ?_
          refine Tx.virtI hC te_35_43 mt_36 (args := [.inr 1, .inl x4]) (rest := [.inl k, .inl x3]) (c' := 0) (s' := 0) rfl rfl rfl rfl rfl rfl rfl rfl rfl rfl ?_
          refine f_36 hB (fun r5 r5i => ?_)
          unfold InI at r5i
          refine Tx.imulW hC te_35_46 (fun z8 z8i z8e => ?_)
          unfold InI at z8i z8e
          first | replace z8e := z8e (by omega) | clear z8e
          refine Tx.iload hC te_35_47 rfl ?_
          refine Tx.statI hC te_35_49 (by decide) mt_33 (args := [.inl z8, .inl v3]) (rest := [.inl x3]) (c' := 0) (s' := 0) rfl rfl rfl rfl rfl rfl rfl ?_
          refine f_33 (fun r9 r9f r9i => ?_)
          unfold InI at r9i
          refine Tx.statI hC te_35_52 (by decide) mt_40 (args := [.inl x3, .inl r9]) (rest := []) (c' := 0) (s' := 0) rfl rfl rfl rfl rfl rfl rfl ?_
          refine f_40q (fun r12 r12a r12b r12c r12i => ?_)
          unfold InI at r12i
          refine Tx.istore_n hC te_35_55 rfl ?_
          refine Tx.iincW hC te_35_56 rfl rfl (fun z15 z15i z15e => ?_)
          unfold InI at z15i z15e
          first | replace z15e := z15e (by omega) | clear z15e
          refine Tx.goto hC (t := 5) te_35_59 (by decide) ?_
          exact Tx.weak (by repeat' (first | exact trivial | exact rfl | constructor)) (ih_5 r12 z15 (by omega) (by omega))
        · replace q2 : ¬ (¬ (x4 : Int) = u) := q2
          refine Tx.aload_n hC te_35_17 rfl ?_
          refine Tx.getR hC te_35_18 rfl rfl rfl ?_
          refine Tx.iload hC te_35_21 rfl ?_
          refine Tx.iald hC te_35_23 rfl (by omega) (fun v16 v16e v16i => ?_)
          unfold InI at v16i
          have f17 := hB.cn (o := (Int.toNat x4)) (by omega)
          refine Tx.iconst hC te_35_24 rfl ?_
          refine Tx.iaddW hC te_35_25 (fun z18 z18i z18e => ?_)
          unfold InI at z18i z18e
          first | replace z18e := z18e (by omega) | clear z18e
          refine Tx.goto hC (t := 36) te_35_26 (by decide) ?_
          refine Tx.istore hC te_35_36 rfl ?_
          refine Tx.iload_n hC te_35_38 rfl ?_
          refine Tx.iload_n hC te_35_39 rfl ?_
          refine Tx.aload_n hC te_35_40 rfl ?_
          refine Tx.iload hC te_35_41 rfl ?_
          refine Tx.virtI hC te_35_43 mt_36 (args := [.inr 1, .inl x4]) (rest := [.inl k, .inl x3]) (c' := 0) (s' := 0) rfl rfl rfl rfl rfl rfl rfl rfl rfl rfl ?_
          refine f_36 hB (fun r19 r19i => ?_)
          unfold InI at r19i
          refine Tx.imulW hC te_35_46 (fun z22 z22i z22e => ?_)
          unfold InI at z22i z22e
          first | replace z22e := z22e (by omega) | clear z22e
          refine Tx.iload hC te_35_47 rfl ?_
          refine Tx.statI hC te_35_49 (by decide) mt_33 (args := [.inl z22, .inl z18]) (rest := [.inl x3]) (c' := 0) (s' := 0) rfl rfl rfl rfl rfl rfl rfl ?_
          refine f_33 (fun r23 r23f r23i => ?_)
          unfold InI at r23i
          refine Tx.statI hC te_35_52 (by decide) mt_40 (args := [.inl x3, .inl r23]) (rest := []) (c' := 0) (s' := 0) rfl rfl rfl rfl rfl rfl rfl ?_
          refine f_40q (fun r26 r26a r26b r26c r26i => ?_)
          unfold InI at r26i
          refine Tx.istore_n hC te_35_55 rfl ?_
          refine Tx.iincW hC te_35_56 rfl rfl (fun z29 z29i z29e => ?_)
          unfold InI at z29i z29e
          first | replace z29e := z29e (by omega) | clear z29e
          refine Tx.goto hC (t := 5) te_35_59 (by decide) ?_
          exact Tx.weak (by repeat' (first | exact trivial | exact rfl | constructor)) (ih_5 r26 z29 (by omega) (by omega))
  refine Tx.iconst hC te_35_0 rfl ?_
  refine Tx.istore_n hC te_35_1 rfl ?_
  refine Tx.iconst hC te_35_2 rfl ?_
  refine Tx.istore hC te_35_3 rfl ?_
  exact l_5 _ 0 0 (by omega) (Nat.lt_succ_self _)
theorem f_41 {S : Nat × (Nat → Int32)} {n : Nat} {mem : MM} {K : Int → MM → Prop} {E : Nat → MM → Prop} {k : Int} (hB : BodyOK mem) (H : ∀ r, K r mem) : CQI (Ex S (n + 4)) 41 [.inr 0, .inl k] mem K E := by
  refine CY.of (k := 0) mt_41 rfl rfl (fun hv => ?_)
  have hC := Ex.mono S (n + 3)
  have ii_k : InI k := hv (.inl k) (by simp)
  unfold InI at ii_k
  clear hv
  show Tx (Ex S (n + 3)) S M_41 (kI K E) 0 0 0 [some (.inr 0), some (.inl k)] [] mem
  refine Tx.iconst hC te_41_0 rfl ?_
  refine Tx.iload_n hC te_41_1 rfl ?_
  refine Tx.aload_n hC te_41_2 rfl ?_
  refine Tx.getR hC te_41_3 rfl rfl rfl ?_
  refine Tx.getI hC te_41_6 rfl rfl rfl (fun v1 v1e v1i => ?_)
  unfold InI at v1i
  refine Tx.imulW hC te_41_9 (fun z2 z2i z2e => ?_)
  unfold InI at z2i z2e
  first | replace z2e := z2e (by omega) | clear z2e
  refine Tx.aload_n hC te_41_10 rfl ?_
  refine Tx.getR hC te_41_11 rfl rfl rfl ?_
  refine Tx.getI hC te_41_14 rfl rfl rfl (fun v3 v3e v3i => ?_)
  unfold InI at v3i
  refine Tx.statI hC te_41_17 (by decide) mt_33 (args := [.inl z2, .inl v3]) (rest := [.inl 1]) (c' := 0) (s' := 0) rfl rfl rfl rfl rfl rfl rfl ?_
  refine f_33 (fun r4 r4f r4i => ?_)
  unfold InI at r4i
  refine Tx.aload_n hC te_41_20 rfl ?_
  refine Tx.getR hC te_41_21 rfl rfl rfl ?_
  refine Tx.iconst hC te_41_24 rfl ?_
  refine Tx.iload_n hC te_41_25 rfl ?_
  refine Tx.virtI hC te_41_26 mt_35 (args := [.inr 1, .inl (-1), .inl k]) (rest := [.inl r4, .inl 1]) (c' := 0) (s' := 0) rfl rfl rfl rfl rfl rfl rfl rfl rfl rfl ?_
  refine f_35 hB (fun r7 r7i => ?_)
  unfold InI at r7i
  refine Tx.statI hC te_41_29 (by decide) mt_40 (args := [.inl r4, .inl r7]) (rest := [.inl 1]) (c' := 0) (s' := 0) rfl rfl rfl rfl rfl rfl rfl ?_
  refine f_40q (fun r10 r10a r10b r10c r10i => ?_)
  unfold InI at r10i
  refine Tx.statI hC te_41_32 (by decide) mt_40 (args := [.inl 1, .inl r10]) (rest := []) (c' := 0) (s' := 0) rfl rfl rfl rfl rfl rfl rfl ?_
  refine f_40q (fun r13 r13a r13b r13c r13i => ?_)
  unfold InI at r13i
  exact Tx.ireturn hC te_41_35 rfl (fun hr => show K r13 mem from H r13)
theorem f_108 {S : Nat × (Nat → Int32)} {n : Nat} {mem : MM} {K : Int → MM → Prop} {E : Nat → MM → Prop} {Q : Nat} (hQ : ChSh Q) (hO : ChtOK mem Q) {o : Int} (ho : 0 ≤ o ∧ o < 8) (H : ∀ r, K r mem) : CQI (Ex S (n + 1)) 108 [.inr Q, .inl o] mem K E := by
  refine CY.of (k := 0) mt_108 rfl rfl (fun hv => ?_)
  have hC := Ex.mono S n
  have ii_o : InI o := hv (.inl o) (by simp)
  unfold InI at ii_o
  clear hv
  have hQ1 := hO.1
  show Tx (Ex S n) S M_108 (kI K E) 0 0 0 [some (.inr Q), some (.inl o)] [] mem
  refine Tx.aload_n hC te_108_0 rfl ?_
  refine Tx.getI hC te_108_1 hQ.s0 rfl rfl (fun v1 v1e v1i => ?_)
  unfold InI at v1i
  refine Tx.ifc hC (t := 11) te_108_4 (by decide) (fun q2 => ?_) (fun q2 => ?_)
  · replace q2 : 0 < (v1 : Int) := q2
    refine Tx.aload_n hC te_108_11 rfl ?_
    refine Tx.getR hC te_108_12 hQ.s0 rfl rfl ?_
    refine Tx.iload_n hC te_108_15 rfl ?_
    refine Tx.iald hC te_108_16 hQ.s2 (by omega) (fun v3 v3e v3i => ?_)
    unfold InI at v3i
    have f4 := hO.2 (Int.toNat o) (by omega)
    refine Tx.aload_n hC te_108_17 rfl ?_
    refine Tx.getI hC te_108_18 hQ.s0 rfl rfl (fun v5 v5e v5i => ?_)
    unfold InI at v5i
    refine Tx.idivW hC te_108_21 (by omega) (fun z6 z6i z6e z6f => ?_)
    unfold InI at z6i
    exact Tx.ireturn hC te_108_22 rfl (fun hr => show K z6 mem from H z6)
  · replace q2 : ¬ (0 < (v1 : Int)) := q2
    refine Tx.iconst hC te_108_7 rfl ?_
    refine Tx.goto hC (t := 22) te_108_8 (by decide) ?_
    exact Tx.ireturn hC te_108_22 rfl (fun hr => show K 0 mem from H 0)
theorem f_141 {S : Nat × (Nat → Int32)} {n : Nat} {mem : MM} {K : Int → MM → Prop} {E : Nat → MM → Prop} {Q : Nat} (hQ : ChSh Q) (hO : ChtOK mem Q) (H : ∀ r, K r mem) : CQI (Ex S (n + 1)) 141 [.inr Q] mem K E := by
  refine CY.of (k := 2) mt_141 rfl rfl (fun hv => ?_)
  have hC := Ex.mono S n
  clear hv
  have hQ1 := hO.1
  show Tx (Ex S n) S M_141 (kI K E) 0 0 0 [some (.inr Q), none, none] [] mem
  have l_4 : ∀ (N : Nat) (x1 x2 : Int), (0 ≤ x2) → ((8 - x2).toNat) < N → Tx (Ex S n) S M_141 (kI K E) 0 0 4 [some (.inr Q), some (.inl x1), some (.inl x2)] [] mem := by
    intro N
    induction N with
    | zero => intros; omega
    | succ N ih_4 =>
      intro x1 x2 i4_0 hN_4 
      refine Tx.iload_n hC te_141_4 rfl ?_
      refine Tx.aload_n hC te_141_5 rfl ?_
      refine Tx.getI hC te_141_6 hQ.s0 rfl rfl (fun v1 v1e v1i => ?_)
      unfold InI at v1i
      refine Tx.icmp hC (t := 27) te_141_9 (by decide) (fun q2 => ?_) (fun q2 => ?_)
      · replace q2 : v1 ≤ (x2 : Int) := q2
        refine Tx.iload_n hC te_141_27 rfl ?_
        exact Tx.ireturn hC te_141_28 rfl (fun hr => show K x1 mem from H x1)
      · replace q2 : ¬ (v1 ≤ (x2 : Int)) := q2
        refine Tx.iload_n hC te_141_12 rfl ?_
        refine Tx.aload_n hC te_141_13 rfl ?_
        refine Tx.getR hC te_141_14 hQ.s0 rfl rfl ?_
        refine Tx.iload_n hC te_141_17 rfl ?_
        refine Tx.iald hC te_141_18 hQ.s6 (by omega) (fun v3 v3e v3i => ?_)
        unfold InI at v3i
        refine Tx.iaddW hC te_141_19 (fun z4 z4i z4e => ?_)
        unfold InI at z4i z4e
        first | replace z4e := z4e (by omega) | clear z4e
        refine Tx.istore_n hC te_141_20 rfl ?_
        refine Tx.iincW hC te_141_21 rfl rfl (fun z5 z5i z5e => ?_)
        unfold InI at z5i z5e
        first | replace z5e := z5e (by omega) | clear z5e
        refine Tx.goto hC (t := 4) te_141_24 (by decide) ?_
        exact ih_4 z4 z5 (by omega) (by omega)
  refine Tx.iconst hC te_141_0 rfl ?_
  refine Tx.istore_n hC te_141_1 rfl ?_
  refine Tx.iconst hC te_141_2 rfl ?_
  refine Tx.istore_n hC te_141_3 rfl ?_
  exact l_4 _ 0 0 (by omega) (Nat.lt_succ_self _)
theorem f_143 {S : Nat × (Nat → Int32)} {n : Nat} {mem : MM} {K : Int → MM → Prop} {E : Nat → MM → Prop} {Q : Nat} (hQ : ChSh Q) (hO : ChtOK mem Q) {s : Int} (H : ∀ r, K r mem) : CQI (Ex S (n + 2)) 143 [.inr Q, .inl s] mem K E := by
  refine CY.of (k := 3) mt_143 rfl rfl (fun hv => ?_)
  have hC := Ex.mono S (n + 1)
  have ii_s : InI s := hv (.inl s) (by simp)
  unfold InI at ii_s
  clear hv
  have hQ1 := hO.1
  show Tx (Ex S (n + 1)) S M_143 (kI K E) 0 0 0 [some (.inr Q), some (.inl s), none, none, none] [] mem
  have l_4 : ∀ (N : Nat) (x2 x3 : Int), (0 ≤ x3) → ((8 - x3).toNat) < N → Tx (Ex S (n + 1)) S M_143 (kI K E) 0 0 4 [some (.inr Q), some (.inl s), some (.inl x2), some (.inl x3), none] [] mem := by
    intro N
    induction N with
    | zero => intros; omega
    | succ N ih_4 =>
      intro x2 x3 i4_0 hN_4 
      refine Tx.iload_n hC te_143_4 rfl ?_
      refine Tx.aload_n hC te_143_5 rfl ?_
      refine Tx.getI hC te_143_6 hQ.s0 rfl rfl (fun v1 v1e v1i => ?_)
      unfold InI at v1i
      refine Tx.icmp hC (t := 67) te_143_9 (by decide) (fun q2 => ?_) (fun q2 => ?_)
      · replace q2 : v1 ≤ (x3 : Int) := q2
        refine Tx.iload_n hC te_143_67 rfl ?_
        exact Tx.ireturn hC te_143_68 rfl (fun hr => show K x2 mem from H x2)
      · replace q2 : ¬ (v1 ≤ (x3 : Int)) := q2
        refine Tx.iload_n hC te_143_12 rfl ?_
        refine Tx.aload_n hC te_143_13 rfl ?_
        refine Tx.getR hC te_143_14 hQ.s0 rfl rfl ?_
        refine Tx.iload_n hC te_143_17 rfl ?_
        refine Tx.iald hC te_143_18 hQ.s3 (by omega) (fun v3 v3e v3i => ?_)
        unfold InI at v3i
        have f4 := hO.2 (Int.toNat x3) (by omega)
        refine Tx.isubW hC te_143_19 (fun z5 z5i z5e => ?_)
        unfold InI at z5i z5e
        first | replace z5e := z5e (by omega) | clear z5e
        refine Tx.aload_n hC te_143_20 rfl ?_
        refine Tx.getI hC te_143_21 hQ.s0 rfl rfl (fun v6 v6e v6i => ?_)
        unfold InI at v6i
        refine Tx.statI hC te_143_24 (by decide) mt_94 (args := [.inl z5, .inl v6]) (rest := []) (c' := 0) (s' := 0) rfl rfl rfl rfl rfl rfl rfl ?_
        refine f_94 (by omega) (fun r7 r7a r7b r7i => ?_)
        unfold InI at r7i
        refine Tx.istore hC te_143_27 rfl ?_
        refine Tx.iload hC te_143_29 rfl ?_
        refine Tx.aload_n hC te_143_31 rfl ?_
        refine Tx.getR hC te_143_32 hQ.s0 rfl rfl ?_
        refine Tx.iload_n hC te_143_35 rfl ?_
        refine Tx.iald hC te_143_36 hQ.s4 (by omega) (fun v10 v10e v10i => ?_)
        unfold InI at v10i
        refine Tx.icmp hC (t := 61) te_143_37 (by decide) (fun q11 => ?_) (fun q11 => ?_)
        · replace q11 : v10 ≤ (r7 : Int) := q11
          refine Tx.iincW hC te_143_61 rfl rfl (fun z12 z12i z12e => ?_)
          unfold InI at z12i z12e
          first | replace z12e := z12e (by omega) | clear z12e
          refine Tx.goto hC (t := 4) te_143_64 (by decide) ?_
          exact Tx.weak (by repeat' (first | exact trivial | exact rfl | constructor)) (ih_4 x2 z12 (by omega) (by omega))
        · replace q11 : ¬ (v10 ≤ (r7 : Int)) := q11
          refine Tx.iload_n hC te_143_40 rfl ?_
          refine Tx.aload_n hC te_143_41 rfl ?_
          refine Tx.getR hC te_143_42 hQ.s0 rfl rfl ?_
          refine Tx.iload_n hC te_143_45 rfl ?_
          refine Tx.iald hC te_143_46 hQ.s4 (by omega) (fun v13 v13e v13i => ?_)
          unfold InI at v13i
          refine Tx.iload hC te_143_47 rfl ?_
          refine Tx.isubW hC te_143_49 (fun z14 z14i z14e => ?_)
          unfold InI at z14i z14e
          first | replace z14e := z14e (by omega) | clear z14e
          refine Tx.iconst hC te_143_50 rfl ?_
          refine Tx.isubW hC te_143_51 (fun z15 z15i z15e => ?_)
          unfold InI at z15i z15e
          first | replace z15e := z15e (by omega) | clear z15e
          refine Tx.aload_n hC te_143_52 rfl ?_
          refine Tx.getI hC te_143_53 hQ.s0 rfl rfl (fun v16 v16e v16i => ?_)
          unfold InI at v16i
          refine Tx.idivW hC te_143_56 (by omega) (fun z17 z17i z17e z17f => ?_)
          unfold InI at z17i
          refine Tx.iconst hC te_143_57 rfl ?_
          refine Tx.iaddW hC te_143_58 (fun z18 z18i z18e => ?_)
          unfold InI at z18i z18e
          first | replace z18e := z18e (by omega) | clear z18e
          refine Tx.iaddW hC te_143_59 (fun z19 z19i z19e => ?_)
          unfold InI at z19i z19e
          first | replace z19e := z19e (by omega) | clear z19e
          refine Tx.istore_n hC te_143_60 rfl ?_
          refine Tx.iincW hC te_143_61 rfl rfl (fun z20 z20i z20e => ?_)
          unfold InI at z20i z20e
          first | replace z20e := z20e (by omega) | clear z20e
          refine Tx.goto hC (t := 4) te_143_64 (by decide) ?_
          exact Tx.weak (by repeat' (first | exact trivial | exact rfl | constructor)) (ih_4 z19 z20 (by omega) (by omega))
  refine Tx.iconst hC te_143_0 rfl ?_
  refine Tx.istore_n hC te_143_1 rfl ?_
  refine Tx.iconst hC te_143_2 rfl ?_
  refine Tx.istore_n hC te_143_3 rfl ?_
  exact l_4 _ 0 0 (by omega) (Nat.lt_succ_self _)
theorem f_142 {S : Nat × (Nat → Int32)} {n : Nat} {mem : MM} {K : Int → MM → Prop} {E : Nat → MM → Prop} {Q : Nat} (hQ : ChSh Q) (hO : ChtOK mem Q) (H : ∀ r, K r mem) : CQI (Ex S (n + 3)) 142 [.inr Q] mem K E := by
  refine CY.of (k := 4) mt_142 rfl rfl (fun hv => ?_)
  have hC := Ex.mono S (n + 2)
  clear hv
  have hQ1 := hO.1
  show Tx (Ex S (n + 2)) S M_142 (kI K E) 0 0 0 [some (.inr Q), none, none, none, none] [] mem
  have l_10 : ∀ (N : Nat) (x1 x2 x3 : Int), (0 ≤ x3) → ((12 - x3).toNat) < N → Tx (Ex S (n + 2)) S M_142 (kI K E) 0 0 10 [some (.inr Q), some (.inl x1), some (.inl x2), some (.inl x3), none] [] mem := by
    intro N
    induction N with
    | zero => intros; omega
    | succ N ih_10 =>
      intro x1 x2 x3 i10_0 hN_10 
      refine Tx.iload_n hC te_142_10 rfl ?_
      refine Tx.aload_n hC te_142_11 rfl ?_
      refine Tx.getI hC te_142_12 hQ.s0 rfl rfl (fun v1 v1e v1i => ?_)
      unfold InI at v1i
      refine Tx.icmp hC (t := 42) te_142_15 (by decide) (fun q2 => ?_) (fun q2 => ?_)
      · replace q2 : v1 ≤ (x3 : Int) := q2
        refine Tx.iload_n hC te_142_42 rfl ?_
        exact Tx.ireturn hC te_142_43 rfl (fun hr => show K x1 mem from H x1)
      · replace q2 : ¬ (v1 ≤ (x3 : Int)) := q2
        refine Tx.aload_n hC te_142_18 rfl ?_
        refine Tx.iload_n hC te_142_19 rfl ?_
        refine Tx.virtI hC te_142_20 mt_143 (args := [.inr Q, .inl x3]) (rest := []) (c' := 0) (s' := 0) rfl rfl rfl rfl rfl rfl rfl rfl hQ.s0 rfl ?_
        refine f_143 hQ hO (fun r3 r3i => ?_)
        unfold InI at r3i
        refine Tx.istore hC te_142_23 rfl ?_
        refine Tx.iload hC te_142_25 rfl ?_
        refine Tx.iload_n hC te_142_27 rfl ?_
        refine Tx.icmp hC (t := 36) te_142_28 (by decide) (fun q6 => ?_) (fun q6 => ?_)
        · replace q6 : (r3 : Int) ≤ x2 := q6
          refine Tx.iincW hC te_142_36 rfl rfl (fun z7 z7i z7e => ?_)
          unfold InI at z7i z7e
          first | replace z7e := z7e (by omega) | clear z7e
          refine Tx.goto hC (t := 10) te_142_39 (by decide) ?_
          exact Tx.weak (by repeat' (first | exact trivial | exact rfl | constructor)) (ih_10 x1 x2 z7 (by omega) (by omega))
        · replace q6 : ¬ ((r3 : Int) ≤ x2) := q6
          refine Tx.iload hC te_142_31 rfl ?_
          refine Tx.istore_n hC te_142_33 rfl ?_
          refine Tx.iload_n hC te_142_34 rfl ?_
          refine Tx.istore_n hC te_142_35 rfl ?_
          refine Tx.iincW hC te_142_36 rfl rfl (fun z8 z8i z8e => ?_)
          unfold InI at z8i z8e
          first | replace z8e := z8e (by omega) | clear z8e
          refine Tx.goto hC (t := 10) te_142_39 (by decide) ?_
          exact Tx.weak (by repeat' (first | exact trivial | exact rfl | constructor)) (ih_10 x3 r3 z8 (by omega) (by omega))
  refine Tx.iconst hC te_142_0 rfl ?_
  refine Tx.istore_n hC te_142_1 rfl ?_
  refine Tx.aload_n hC te_142_2 rfl ?_
  refine Tx.iconst hC te_142_3 rfl ?_
  refine Tx.virtI hC te_142_4 mt_143 (args := [.inr Q, .inl 0]) (rest := []) (c' := 0) (s' := 0) rfl rfl rfl rfl rfl rfl rfl rfl hQ.s0 rfl ?_
  refine f_143 hQ hO (fun r9 r9i => ?_)
  unfold InI at r9i
  refine Tx.istore_n hC te_142_7 rfl ?_
  refine Tx.iconst hC te_142_8 rfl ?_
  refine Tx.istore_n hC te_142_9 rfl ?_
  exact l_10 _ 0 r9 1 (by omega) (Nat.lt_succ_self _)
theorem f_146 {S : Nat × (Nat → Int32)} {n : Nat} {mem : MM} {K : Int → MM → Prop} {E : Nat → MM → Prop} {Q : Nat} (hQ : ChSh Q) (hO : ChtOK mem Q) (hW9 : WbOK mem 9) {o : Int} (ho : 0 ≤ o ∧ o < 8) (H : ∀ r, K r mem) : CQI (Ex S (n + 2)) 146 [.inr Q, .inr 9, .inl o] mem K E := by
  refine CY.of (k := 4) mt_146 rfl rfl (fun hv => ?_)
  have hC := Ex.mono S (n + 1)
  have ii_o : InI o := hv (.inl o) (by simp)
  unfold InI at ii_o
  clear hv
  have hQ1 := hO.1
  have hw := hW9.2
  show Tx (Ex S (n + 1)) S M_146 (kI K E) 0 0 0 [some (.inr Q), some (.inr 9), some (.inl o), none, none, none, none] [] mem
  have l_6 : ∀ (N : Nat) (x3 x4 : Int), (0 ≤ x4) → ((64 - x4).toNat) < N → Tx (Ex S (n + 1)) S M_146 (kI K E) 0 0 6 [some (.inr Q), some (.inr 9), some (.inl o), some (.inl x3), some (.inl x4), none, none] [] mem := by
    intro N
    induction N with
    | zero => intros; omega
    | succ N ih_6 =>
      intro x3 x4 i6_0 hN_6 
      refine Tx.iload hC te_146_6 rfl ?_
      refine Tx.aload_n hC te_146_8 rfl ?_
      refine Tx.getI hC te_146_9 rfl rfl rfl (fun v1 v1e v1i => ?_)
      unfold InI at v1i
      refine Tx.icmp hC (t := 91) te_146_12 (by decide) (fun q2 => ?_) (fun q2 => ?_)
      · replace q2 : v1 ≤ (x4 : Int) := q2
        refine Tx.iload_n hC te_146_91 rfl ?_
        exact Tx.ireturn hC te_146_92 rfl (fun hr => show K x3 mem from H x3)
      · replace q2 : ¬ (v1 ≤ (x4 : Int)) := q2
        refine Tx.aload_n hC te_146_15 rfl ?_
        refine Tx.getR hC te_146_16 rfl rfl rfl ?_
        refine Tx.iload hC te_146_19 rfl ?_
        refine Tx.iald hC te_146_21 rfl (by omega) (fun v3 v3e v3i => ?_)
        unfold InI at v3i
        have f4 : Rg (mem 10 (Int.toNat x4)) (mem 11 (Int.toNat x4)) (mem 12 (Int.toNat x4)) (mem 13 (Int.toNat x4)) := hW9.1 (Int.toNat x4) (by omega)
        unfold Rg at f4
        refine Tx.istore hC te_146_22 rfl ?_
        refine Tx.aload_n hC te_146_24 rfl ?_
        refine Tx.getR hC te_146_25 rfl rfl rfl ?_
        refine Tx.iload hC te_146_28 rfl ?_
        refine Tx.iald hC te_146_30 rfl (by omega) (fun v5 v5e v5i => ?_)
        unfold InI at v5i
        have f6 : Rg (mem 10 (Int.toNat x4)) (mem 11 (Int.toNat x4)) (mem 12 (Int.toNat x4)) (mem 13 (Int.toNat x4)) := hW9.1 (Int.toNat x4) (by omega)
        unfold Rg at f6
        refine Tx.iload_n hC te_146_31 rfl ?_
        refine Tx.icmp hC (t := 85) te_146_32 (by decide) (fun q7 => ?_) (fun q7 => ?_)
        · replace q7 : ¬ (v5 : Int) = o := q7
          refine Tx.iincW hC te_146_85 rfl rfl (fun z8 z8i z8e => ?_)
          unfold InI at z8i z8e
          first | replace z8e := z8e (by omega) | clear z8e
          refine Tx.goto hC (t := 6) te_146_88 (by decide) ?_
          exact Tx.weak (by repeat' (first | exact trivial | exact rfl | constructor)) (ih_6 x3 z8 (by omega) (by omega))
        · replace q7 : ¬ (¬ (v5 : Int) = o) := q7
          refine Tx.iload hC te_146_35 rfl ?_
          refine Tx.iload_n hC te_146_37 rfl ?_
          refine Tx.icmp hC (t := 85) te_146_38 (by decide) (fun q9 => ?_) (fun q9 => ?_)
          · replace q9 : (v3 : Int) = o := q9
            refine Tx.iincW hC te_146_85 rfl rfl (fun z10 z10i z10e => ?_)
            unfold InI at z10i z10e
            first | replace z10e := z10e (by omega) | clear z10e
            refine Tx.goto hC (t := 6) te_146_88 (by decide) ?_
            exact Tx.weak (by repeat' (first | exact trivial | exact rfl | constructor)) (ih_6 x3 z10 (by omega) (by omega))
          · replace q9 : ¬ ((v3 : Int) = o) := q9
            refine Tx.aload_n hC te_146_41 rfl ?_
            refine Tx.getR hC te_146_42 hQ.s0 rfl rfl ?_
            refine Tx.iload hC te_146_45 rfl ?_
            refine Tx.iald hC te_146_47 hQ.s2 (by omega) (fun v11 v11e v11i => ?_)
            unfold InI at v11i
            have f12 := hO.2 (Int.toNat v3) (by omega)
            refine Tx.aload_n hC te_146_48 rfl ?_
            refine Tx.getR hC te_146_49 hQ.s0 rfl rfl ?_
            refine Tx.iload_n hC te_146_52 rfl ?_
            refine Tx.iald hC te_146_53 hQ.s2 (by omega) (fun v13 v13e v13i => ?_)
            unfold InI at v13i
            have f14 := hO.2 (Int.toNat o) (by omega)
            refine Tx.isubW hC te_146_54 (fun z15 z15i z15e => ?_)
            unfold InI at z15i z15e
            first | replace z15e := z15e (by omega) | clear z15e
            refine Tx.aload_n hC te_146_55 rfl ?_
            refine Tx.getR hC te_146_56 rfl rfl rfl ?_
            refine Tx.iload hC te_146_59 rfl ?_
            refine Tx.iald hC te_146_61 rfl (by omega) (fun v16 v16e v16i => ?_)
            unfold InI at v16i
            have f17 : Rg (mem 10 (Int.toNat x4)) (mem 11 (Int.toNat x4)) (mem 12 (Int.toNat x4)) (mem 13 (Int.toNat x4)) := hW9.1 (Int.toNat x4) (by omega)
            unfold Rg at f17
            refine Tx.isubW hC te_146_62 (fun z18 z18i z18e => ?_)
            unfold InI at z18i z18e
            first | replace z18e := z18e (by omega) | clear z18e
            refine Tx.aload_n hC te_146_63 rfl ?_
            refine Tx.getI hC te_146_64 hQ.s0 rfl rfl (fun v19 v19e v19i => ?_)
            unfold InI at v19i
            refine Tx.aload_n hC te_146_67 rfl ?_
            refine Tx.getR hC te_146_68 rfl rfl rfl ?_
            refine Tx.iload hC te_146_71 rfl ?_
            refine Tx.iald hC te_146_73 rfl (by omega) (fun v20 v20e v20i => ?_)
            unfold InI at v20i
            have f21 : Rg (mem 10 (Int.toNat x4)) (mem 11 (Int.toNat x4)) (mem 12 (Int.toNat x4)) (mem 13 (Int.toNat x4)) := hW9.1 (Int.toNat x4) (by omega)
            unfold Rg at f21
            refine Tx.imulW hC te_146_74 (fun z22 z22i z22e => ?_)
            unfold InI at z22i z22e
            first | replace z22e := z22e (by omega) | clear z22e
            refine Tx.iaddW hC te_146_75 (fun z23 z23i z23e => ?_)
            unfold InI at z23i z23e
            first | replace z23e := z23e (by omega) | clear z23e
            refine Tx.istore hC te_146_76 rfl ?_
            refine Tx.iload_n hC te_146_78 rfl ?_
            refine Tx.iload hC te_146_79 rfl ?_
            refine Tx.statI hC te_146_81 (by decide) mt_29 (args := [.inl x3, .inl z23]) (rest := []) (c' := 0) (s' := 0) rfl rfl rfl rfl rfl rfl rfl ?_
            refine f_29q (fun r24 r24a r24b r24c r24i => ?_)
            unfold InI at r24i
            refine Tx.istore_n hC te_146_84 rfl ?_
            refine Tx.iincW hC te_146_85 rfl rfl (fun z27 z27i z27e => ?_)
            unfold InI at z27i z27e
            first | replace z27e := z27e (by omega) | clear z27e
            refine Tx.goto hC (t := 6) te_146_88 (by decide) ?_
            exact Tx.weak (by repeat' (first | exact trivial | exact rfl | constructor)) (ih_6 r24 z27 (by omega) (by omega))
  refine Tx.bipush hC te_146_0 rfl rfl ?_
  refine Tx.istore_n hC te_146_2 rfl ?_
  refine Tx.iconst hC te_146_3 rfl ?_
  refine Tx.istore hC te_146_4 rfl ?_
  exact l_6 _ 99 0 (by omega) (Nat.lt_succ_self _)
theorem f_120 {S : Nat × (Nat → Int32)} {n : Nat} {mem : MM} {K : Int → MM → Prop} {E : Nat → MM → Prop} {Q : Nat} (hQ : ChSh Q) (hO : ChtOK mem Q) (hB : BodyOK mem) {o s : Int} (ho : 0 ≤ o ∧ o < 8) (H : ∀ r, K r mem) : CQI (Ex S (n + 2)) 120 [.inr Q, .inr 1, .inl o, .inl s] mem K E := by
  refine CY.of (k := 2) mt_120 rfl rfl (fun hv => ?_)
  have hC := Ex.mono S (n + 1)
  have ii_o : InI o := hv (.inl o) (by simp)
  unfold InI at ii_o
  have ii_s : InI s := hv (.inl s) (by simp)
  unfold InI at ii_s
  clear hv
  have hQ1 := hO.1
  show Tx (Ex S (n + 1)) S M_120 (kI K E) 0 0 0 [some (.inr Q), some (.inr 1), some (.inl o), some (.inl s), none, none] [] mem
  have l_6 : ∀ (N : Nat) (x4 x5 : Int), (0 ≤ x5) → ((4 - x5).toNat) < N → Tx (Ex S (n + 1)) S M_120 (kI K E) 0 0 6 [some (.inr Q), some (.inr 1), some (.inl o), some (.inl s), some (.inl x4), some (.inl x5)] [] mem := by
    intro N
    induction N with
    | zero => intros; omega
    | succ N ih_6 =>
      intro x4 x5 i6_0 hN_6 
      refine Tx.iload hC te_120_6 rfl ?_
      refine Tx.iconst hC te_120_8 rfl ?_
      refine Tx.icmp hC (t := 52) te_120_9 (by decide) (fun q1 => ?_) (fun q1 => ?_)
      · replace q1 : 4 ≤ (x5 : Int) := q1
        refine Tx.iload hC te_120_52 rfl ?_
        exact Tx.ireturn hC te_120_54 rfl (fun hr => show K x4 mem from H x4)
      · replace q1 : ¬ (4 ≤ (x5 : Int)) := q1
        refine Tx.aload_n hC te_120_12 rfl ?_
        refine Tx.iload_n hC te_120_13 rfl ?_
        refine Tx.virtI hC te_120_14 mt_38 (args := [.inr 1, .inl o]) (rest := []) (c' := 0) (s' := 0) rfl rfl rfl rfl rfl rfl rfl rfl rfl rfl ?_
        refine CWI.q hC (f_38 hB (by omega) (fun r2 r2a r2b r2i => ?_))
        unfold InI at r2i
        refine Tx.iconst hC te_120_17 rfl ?_
        refine Tx.iload hC te_120_18 rfl ?_
        refine Tx.bits hC (f := (fun (x y : Int32) => x <<< (y &&& 31))) te_120_20 (fun _ _ _ _ => Iff.rfl) (fun b5 b5e b5i => ?_)
        unfold InI at b5i
        refine Tx.bits hC (f := (fun (x y : Int32) => x &&& y)) te_120_21 (fun _ _ _ _ => Iff.rfl) (fun b6 b6e b6i => ?_)
        unfold InI at b6i
        refine Tx.ifc hC (t := 46) te_120_22 (by decide) (fun q7 => ?_) (fun q7 => ?_)
        · replace q7 : (b6 : Int) = 0 := q7
          refine Tx.iincW hC te_120_46 rfl rfl (fun z8 z8i z8e => ?_)
          unfold InI at z8i z8e
          first | replace z8e := z8e (by omega) | clear z8e
          refine Tx.goto hC (t := 6) te_120_49 (by decide) ?_
          exact ih_6 x4 z8 (by omega) (by omega)
        · replace q7 : ¬ ((b6 : Int) = 0) := q7
          refine Tx.aload_n hC te_120_25 rfl ?_
          refine Tx.getR hC te_120_26 hQ.s0 rfl rfl ?_
          refine Tx.iload_n hC te_120_29 rfl ?_
          refine Tx.iald hC te_120_30 hQ.s1 (by omega) (fun v9 v9e v9i => ?_)
          unfold InI at v9i
          have f10 := hO.2 (Int.toNat o) (by omega)
          refine Tx.iload hC te_120_31 rfl ?_
          refine Tx.iaddW hC te_120_33 (fun z11 z11i z11e => ?_)
          unfold InI at z11i z11e
          first | replace z11e := z11e (by omega) | clear z11e
          refine Tx.aload_n hC te_120_34 rfl ?_
          refine Tx.getI hC te_120_35 hQ.s0 rfl rfl (fun v12 v12e v12i => ?_)
          unfold InI at v12i
          refine Tx.iremW hC te_120_38 (by omega) (fun z13 z13i z13e z13f => ?_)
          unfold InI at z13i
          refine Tx.iload_n hC te_120_39 rfl ?_
          refine Tx.icmp hC (t := 46) te_120_40 (by decide) (fun q14 => ?_) (fun q14 => ?_)
          · replace q14 : ¬ (z13 : Int) = s := q14
            refine Tx.iincW hC te_120_46 rfl rfl (fun z15 z15i z15e => ?_)
            unfold InI at z15i z15e
            first | replace z15e := z15e (by omega) | clear z15e
            refine Tx.goto hC (t := 6) te_120_49 (by decide) ?_
            exact ih_6 x4 z15 (by omega) (by omega)
          · replace q14 : ¬ (¬ (z13 : Int) = s) := q14
            refine Tx.iincW hC te_120_43 rfl rfl (fun z16 z16i z16e => ?_)
            unfold InI at z16i z16e
            first | replace z16e := z16e (by omega) | clear z16e
            refine Tx.iincW hC te_120_46 rfl rfl (fun z17 z17i z17e => ?_)
            unfold InI at z17i z17e
            first | replace z17e := z17e (by omega) | clear z17e
            refine Tx.goto hC (t := 6) te_120_49 (by decide) ?_
            exact ih_6 z16 z17 (by omega) (by omega)
  refine Tx.iconst hC te_120_0 rfl ?_
  refine Tx.istore hC te_120_1 rfl ?_
  refine Tx.iconst hC te_120_3 rfl ?_
  refine Tx.istore hC te_120_4 rfl ?_
  exact l_6 _ 0 0 (by omega) (Nat.lt_succ_self _)
theorem f_119 {S : Nat × (Nat → Int32)} {n : Nat} {mem : MM} {K : Int → MM → Prop} {E : Nat → MM → Prop} {Q : Nat} (hQ : ChSh Q) (hO : ChtOK mem Q) (hB : BodyOK mem) {u s : Int} (H : ∀ r, K r mem) : CQI (Ex S (n + 3)) 119 [.inr Q, .inr 1, .inl u, .inl s] mem K E := by
  refine CY.of (k := 2) mt_119 rfl rfl (fun hv => ?_)
  have hC := Ex.mono S (n + 2)
  have ii_u : InI u := hv (.inl u) (by simp)
  unfold InI at ii_u
  have ii_s : InI s := hv (.inl s) (by simp)
  unfold InI at ii_s
  clear hv
  have hQ1 := hO.1
  show Tx (Ex S (n + 2)) S M_119 (kI K E) 0 0 0 [some (.inr Q), some (.inr 1), some (.inl u), some (.inl s), none, none] [] mem
  have l_6 : ∀ (N : Nat) (x4 x5 : Int), (0 ≤ x5) → ((8 - x5).toNat) < N → Tx (Ex S (n + 2)) S M_119 (kI K E) 0 0 6 [some (.inr Q), some (.inr 1), some (.inl u), some (.inl s), some (.inl x4), some (.inl x5)] [] mem := by
    intro N
    induction N with
    | zero => intros; omega
    | succ N ih_6 =>
      intro x4 x5 i6_0 hN_6 
      refine Tx.iload hC te_119_6 rfl ?_
      refine Tx.aload_n hC te_119_8 rfl ?_
      refine Tx.getI hC te_119_9 hQ.s0 rfl rfl (fun v1 v1e v1i => ?_)
      unfold InI at v1i
      refine Tx.icmp hC (t := 44) te_119_12 (by decide) (fun q2 => ?_) (fun q2 => ?_)
      · replace q2 : v1 ≤ (x5 : Int) := q2
        refine Tx.iload hC te_119_44 rfl ?_
        exact Tx.ireturn hC te_119_46 rfl (fun hr => show K x4 mem from H x4)
      · replace q2 : ¬ (v1 ≤ (x5 : Int)) := q2
        refine Tx.aload_n hC te_119_15 rfl ?_
        refine Tx.iload hC te_119_16 rfl ?_
        refine Tx.virtI hC te_119_18 mt_37 (args := [.inr 1, .inl x5]) (rest := []) (c' := 0) (s' := 0) rfl rfl rfl rfl rfl rfl rfl rfl rfl rfl ?_
        refine CWI.q hC (f_37 hB (by omega) (fun r3 r3a r3b r3i => ?_))
        unfold InI at r3i
        refine Tx.iload_n hC te_119_21 rfl ?_
        refine Tx.icmp hC (t := 38) te_119_22 (by decide) (fun q6 => ?_) (fun q6 => ?_)
        · replace q6 : ¬ (r3 : Int) = u := q6
          refine Tx.iincW hC te_119_38 rfl rfl (fun z7 z7i z7e => ?_)
          unfold InI at z7i z7e
          first | replace z7e := z7e (by omega) | clear z7e
          refine Tx.goto hC (t := 6) te_119_41 (by decide) ?_
          exact ih_6 x4 z7 (by omega) (by omega)
        · replace q6 : ¬ (¬ (r3 : Int) = u) := q6
          refine Tx.iload hC te_119_25 rfl ?_
          refine Tx.aload_n hC te_119_27 rfl ?_
          refine Tx.aload_n hC te_119_28 rfl ?_
          refine Tx.iload hC te_119_29 rfl ?_
          refine Tx.iload_n hC te_119_31 rfl ?_
          refine Tx.virtI hC te_119_32 mt_120 (args := [.inr Q, .inr 1, .inl x5, .inl s]) (rest := [.inl x4]) (c' := 0) (s' := 0) rfl rfl rfl rfl rfl rfl rfl rfl hQ.s0 rfl ?_
          refine f_120 hQ hO hB (by omega) (fun r8 r8i => ?_)
          unfold InI at r8i
          refine Tx.iaddW hC te_119_35 (fun z11 z11i z11e => ?_)
          unfold InI at z11i z11e
          first | replace z11e := z11e (by omega) | clear z11e
          refine Tx.istore hC te_119_36 rfl ?_
          refine Tx.iincW hC te_119_38 rfl rfl (fun z12 z12i z12e => ?_)
          unfold InI at z12i z12e
          first | replace z12e := z12e (by omega) | clear z12e
          refine Tx.goto hC (t := 6) te_119_41 (by decide) ?_
          exact ih_6 z11 z12 (by omega) (by omega)
  refine Tx.iconst hC te_119_0 rfl ?_
  refine Tx.istore hC te_119_1 rfl ?_
  refine Tx.iconst hC te_119_3 rfl ?_
  refine Tx.istore hC te_119_4 rfl ?_
  exact l_6 _ 0 0 (by omega) (Nat.lt_succ_self _)
theorem f_208 {S : Nat × (Nat → Int32)} {n : Nat} {mem : MM} {K : Int → MM → Prop} {E : Nat → MM → Prop} {Q : Nat} (hQ : ChSh Q) (hO : ChtOK mem Q) (hB : BodyOK mem) {u s : Int} (H : ∀ r, K r mem) : CQI (Ex S (n + 3)) 208 [.inr Q, .inr 1, .inl u, .inl s] mem K E := by
  refine CY.of (k := 2) mt_208 rfl rfl (fun hv => ?_)
  have hC := Ex.mono S (n + 2)
  have ii_u : InI u := hv (.inl u) (by simp)
  unfold InI at ii_u
  have ii_s : InI s := hv (.inl s) (by simp)
  unfold InI at ii_s
  clear hv
  have hQ1 := hO.1
  show Tx (Ex S (n + 2)) S M_208 (kI K E) 0 0 0 [some (.inr Q), some (.inr 1), some (.inl u), some (.inl s), none, none] [] mem
  have l_6 : ∀ (N : Nat) (x4 x5 : Int), (0 ≤ x5) → ((8 - x5).toNat) < N → Tx (Ex S (n + 2)) S M_208 (kI K E) 0 0 6 [some (.inr Q), some (.inr 1), some (.inl u), some (.inl s), some (.inl x4), some (.inl x5)] [] mem := by
    intro N
    induction N with
    | zero => intros; omega
    | succ N ih_6 =>
      intro x4 x5 i6_0 hN_6 
      refine Tx.iload hC te_208_6 rfl ?_
      refine Tx.aload_n hC te_208_8 rfl ?_
      refine Tx.getI hC te_208_9 hQ.s0 rfl rfl (fun v1 v1e v1i => ?_)
      unfold InI at v1i
      refine Tx.icmp hC (t := 51) te_208_12 (by decide) (fun q2 => ?_) (fun q2 => ?_)
      · replace q2 : v1 ≤ (x5 : Int) := q2
        refine Tx.iload hC te_208_51 rfl ?_
        exact Tx.ireturn hC te_208_53 rfl (fun hr => show K x4 mem from H x4)
      · replace q2 : ¬ (v1 ≤ (x5 : Int)) := q2
        refine Tx.aload_n hC te_208_15 rfl ?_
        refine Tx.iload hC te_208_16 rfl ?_
        refine Tx.virtI hC te_208_18 mt_37 (args := [.inr 1, .inl x5]) (rest := []) (c' := 0) (s' := 0) rfl rfl rfl rfl rfl rfl rfl rfl rfl rfl ?_
        refine CWI.q hC (f_37 hB (by omega) (fun r3 r3a r3b r3i => ?_))
        unfold InI at r3i
        refine Tx.iload_n hC te_208_21 rfl ?_
        refine Tx.icmp hC (t := 45) te_208_22 (by decide) (fun q6 => ?_) (fun q6 => ?_)
        · replace q6 : ¬ (r3 : Int) = u := q6
          refine Tx.iincW hC te_208_45 rfl rfl (fun z7 z7i z7e => ?_)
          unfold InI at z7i z7e
          first | replace z7e := z7e (by omega) | clear z7e
          refine Tx.goto hC (t := 6) te_208_48 (by decide) ?_
          exact ih_6 x4 z7 (by omega) (by omega)
        · replace q6 : ¬ (¬ (r3 : Int) = u) := q6
          refine Tx.aload_n hC te_208_25 rfl ?_
          refine Tx.aload_n hC te_208_26 rfl ?_
          refine Tx.iload hC te_208_27 rfl ?_
          refine Tx.iload_n hC te_208_29 rfl ?_
          refine Tx.virtI hC te_208_30 mt_120 (args := [.inr Q, .inr 1, .inl x5, .inl s]) (rest := []) (c' := 0) (s' := 0) rfl rfl rfl rfl rfl rfl rfl rfl hQ.s0 rfl ?_
          refine f_120 hQ hO hB (by omega) (fun r8 r8i => ?_)
          unfold InI at r8i
          refine Tx.ifc hC (t := 45) te_208_33 (by decide) (fun q11 => ?_) (fun q11 => ?_)
          · replace q11 : (r8 : Int) ≤ 0 := q11
            refine Tx.iincW hC te_208_45 rfl rfl (fun z12 z12i z12e => ?_)
            unfold InI at z12i z12e
            first | replace z12e := z12e (by omega) | clear z12e
            refine Tx.goto hC (t := 6) te_208_48 (by decide) ?_
            exact ih_6 x4 z12 (by omega) (by omega)
          · replace q11 : ¬ ((r8 : Int) ≤ 0) := q11
            refine Tx.iload hC te_208_36 rfl ?_
            refine Tx.iconst hC te_208_38 rfl ?_
            refine Tx.iload hC te_208_39 rfl ?_
            refine Tx.bits hC (f := (fun (x y : Int32) => x <<< (y &&& 31))) te_208_41 (fun _ _ _ _ => Iff.rfl) (fun b13 b13e b13i => ?_)
            unfold InI at b13i
            refine Tx.bits hC (f := (fun (x y : Int32) => x ||| y)) te_208_42 (fun _ _ _ _ => Iff.rfl) (fun b14 b14e b14i => ?_)
            unfold InI at b14i
            refine Tx.istore hC te_208_43 rfl ?_
            refine Tx.iincW hC te_208_45 rfl rfl (fun z15 z15i z15e => ?_)
            unfold InI at z15i z15e
            first | replace z15e := z15e (by omega) | clear z15e
            refine Tx.goto hC (t := 6) te_208_48 (by decide) ?_
            exact ih_6 b14 z15 (by omega) (by omega)
  refine Tx.iconst hC te_208_0 rfl ?_
  refine Tx.istore hC te_208_1 rfl ?_
  refine Tx.iconst hC te_208_3 rfl ?_
  refine Tx.istore hC te_208_4 rfl ?_
  exact l_6 _ 0 0 (by omega) (Nat.lt_succ_self _)
theorem f_152 {S : Nat × (Nat → Int32)} {n : Nat} {mem : MM} {K : Int → MM → Prop} {E : Nat → MM → Prop} {Q : Nat} (hQ : ChSh Q) (hO : ChtOK mem Q) {o y t : Int} (ho : 0 ≤ o ∧ o < 8) (H : ∀ r, K r mem) : CQI (Ex S (n + 1)) 152 [.inr Q, .inl o, .inl y, .inl t] mem K E := by
  refine CY.of (k := 1) mt_152 rfl rfl (fun hv => ?_)
  have hC := Ex.mono S n
  have ii_o : InI o := hv (.inl o) (by simp)
  unfold InI at ii_o
  have ii_y : InI y := hv (.inl y) (by simp)
  unfold InI at ii_y
  have ii_t : InI t := hv (.inl t) (by simp)
  unfold InI at ii_t
  clear hv
  have hQ1 := hO.1
  show Tx (Ex S n) S M_152 (kI K E) 0 0 0 [some (.inr Q), some (.inl o), some (.inl y), some (.inl t), none] [] mem
  refine Tx.iload_n hC te_152_0 rfl ?_
  refine Tx.aload_n hC te_152_1 rfl ?_
  refine Tx.getR hC te_152_2 hQ.s0 rfl rfl ?_
  refine Tx.iload_n hC te_152_5 rfl ?_
  refine Tx.iald hC te_152_6 hQ.s2 (by omega) (fun v1 v1e v1i => ?_)
  unfold InI at v1i
  have f2 := hO.2 (Int.toNat o) (by omega)
  refine Tx.icmp hC (t := 25) te_152_7 (by decide) (fun q3 => ?_) (fun q3 => ?_)
  · replace q3 : (y : Int) < v1 := q3
    refine Tx.iconst hC te_152_25 rfl ?_
    exact Tx.ireturn hC te_152_26 rfl (fun hr => show K (-1) mem from H (-1))
  · replace q3 : ¬ ((y : Int) < v1) := q3
    refine Tx.iload_n hC te_152_10 rfl ?_
    refine Tx.aload_n hC te_152_11 rfl ?_
    refine Tx.getI hC te_152_12 hQ.s0 rfl rfl (fun v4 v4e v4i => ?_)
    unfold InI at v4i
    refine Tx.iremW hC te_152_15 (by omega) (fun z5 z5i z5e z5f => ?_)
    unfold InI at z5i
    refine Tx.aload_n hC te_152_16 rfl ?_
    refine Tx.getR hC te_152_17 hQ.s0 rfl rfl ?_
    refine Tx.iload_n hC te_152_20 rfl ?_
    refine Tx.iald hC te_152_21 hQ.s1 (by omega) (fun v6 v6e v6i => ?_)
    unfold InI at v6i
    have f7 := hO.2 (Int.toNat o) (by omega)
    refine Tx.icmp hC (t := 27) te_152_22 (by decide) (fun q8 => ?_) (fun q8 => ?_)
    · replace q8 : (z5 : Int) = v6 := q8
      refine Tx.iload_n hC te_152_27 rfl ?_
      refine Tx.aload_n hC te_152_28 rfl ?_
      refine Tx.getR hC te_152_29 hQ.s0 rfl rfl ?_
      refine Tx.iload_n hC te_152_32 rfl ?_
      refine Tx.iald hC te_152_33 hQ.s2 (by omega) (fun v9 v9e v9i => ?_)
      unfold InI at v9i
      have f10 := hO.2 (Int.toNat o) (by omega)
      refine Tx.isubW hC te_152_34 (fun z11 z11i z11e => ?_)
      unfold InI at z11i z11e
      first | replace z11e := z11e (by omega) | clear z11e
      refine Tx.aload_n hC te_152_35 rfl ?_
      refine Tx.getI hC te_152_36 hQ.s0 rfl rfl (fun v12 v12e v12i => ?_)
      unfold InI at v12i
      refine Tx.idivW hC te_152_39 (by omega) (fun z13 z13i z13e z13f => ?_)
      unfold InI at z13i
      refine Tx.istore hC te_152_40 rfl ?_
      refine Tx.iload hC te_152_42 rfl ?_
      refine Tx.iload_n hC te_152_44 rfl ?_
      refine Tx.icmp hC (t := 53) te_152_45 (by decide) (fun q14 => ?_) (fun q14 => ?_)
      · replace q14 : t ≤ (z13 : Int) := q14
        refine Tx.iconst hC te_152_53 rfl ?_
        exact Tx.ireturn hC te_152_54 rfl (fun hr => show K (-1) mem from H (-1))
      · replace q14 : ¬ (t ≤ (z13 : Int)) := q14
        refine Tx.iload hC te_152_48 rfl ?_
        refine Tx.goto hC (t := 54) te_152_50 (by decide) ?_
        exact Tx.ireturn hC te_152_54 rfl (fun hr => show K z13 mem from H z13)
    · replace q8 : ¬ ((z5 : Int) = v6) := q8
      refine Tx.iconst hC te_152_25 rfl ?_
      exact Tx.ireturn hC te_152_26 rfl (fun hr => show K (-1) mem from H (-1))
theorem f_155 {S : Nat × (Nat → Int32)} {n : Nat} {mem : MM} {K : Int → MM → Prop} {E : Nat → MM → Prop} {Q : Nat} (hQ : ChSh Q) {t : Int} (H : ∀ r, K r mem) : CQI (Ex S (n + 1)) 155 [.inr Q, .inl t] mem K E := by
  refine CY.of (k := 0) mt_155 rfl rfl (fun hv => ?_)
  have hC := Ex.mono S n
  have ii_t : InI t := hv (.inl t) (by simp)
  unfold InI at ii_t
  clear hv
  show Tx (Ex S n) S M_155 (kI K E) 0 0 0 [some (.inr Q), some (.inl t)] [] mem
  refine Tx.iload_n hC te_155_0 rfl ?_
  refine Tx.ifc hC (t := 8) te_155_1 (by decide) (fun q1 => ?_) (fun q1 => ?_)
  · replace q1 : 0 < (t : Int) := q1
    refine Tx.aload_n hC te_155_8 rfl ?_
    refine Tx.getI hC te_155_9 hQ.s0 rfl rfl (fun v2 v2e v2i => ?_)
    unfold InI at v2i
    refine Tx.iload_n hC te_155_12 rfl ?_
    refine Tx.iconst hC te_155_13 rfl ?_
    refine Tx.isubW hC te_155_14 (fun z3 z3i z3e => ?_)
    unfold InI at z3i z3e
    first | replace z3e := z3e (by omega) | clear z3e
    refine Tx.imulW hC te_155_15 (fun z4 z4i z4e => ?_)
    unfold InI at z4i z4e
    first | replace z4e := z4e (by omega) | clear z4e
    refine Tx.aload_n hC te_155_16 rfl ?_
    refine Tx.getI hC te_155_17 hQ.s0 rfl rfl (fun v5 v5e v5i => ?_)
    unfold InI at v5i
    refine Tx.iaddW hC te_155_20 (fun z6 z6i z6e => ?_)
    unfold InI at z6i z6e
    first | replace z6e := z6e (by omega) | clear z6e
    exact Tx.ireturn hC te_155_21 rfl (fun hr => show K z6 mem from H z6)
  · replace q1 : ¬ (0 < (t : Int)) := q1
    refine Tx.iconst hC te_155_4 rfl ?_
    refine Tx.goto hC (t := 21) te_155_5 (by decide) ?_
    exact Tx.ireturn hC te_155_21 rfl (fun hr => show K 0 mem from H 0)
theorem f_156 {S : Nat × (Nat → Int32)} {n : Nat} {mem : MM} {K : Int → MM → Prop} {E : Nat → MM → Prop} {Q : Nat} (hQ : ChSh Q) {t : Int} (H : ∀ r, K r mem) : CQI (Ex S (n + 2)) 156 [.inr Q, .inl t] mem K E := by
  refine CY.of (k := 1) mt_156 rfl rfl (fun hv => ?_)
  have hC := Ex.mono S (n + 1)
  have ii_t : InI t := hv (.inl t) (by simp)
  unfold InI at ii_t
  clear hv
  show Tx (Ex S (n + 1)) S M_156 (kI K E) 0 0 0 [some (.inr Q), some (.inl t), none] [] mem
  refine Tx.aload_n hC te_156_0 rfl ?_
  refine Tx.iload_n hC te_156_1 rfl ?_
  refine Tx.virtI hC te_156_2 mt_155 (args := [.inr Q, .inl t]) (rest := []) (c' := 0) (s' := 0) rfl rfl rfl rfl rfl rfl rfl rfl hQ.s0 rfl ?_
  refine f_155 hQ (fun r1 r1i => ?_)
  unfold InI at r1i
  refine Tx.istore_n hC te_156_5 rfl ?_
  refine Tx.iload_n hC te_156_6 rfl ?_
  refine Tx.aload_n hC te_156_7 rfl ?_
  refine Tx.getI hC te_156_8 hQ.s0 rfl rfl (fun v4 v4e v4i => ?_)
  unfold InI at v4i
  refine Tx.icmp hC (t := 18) te_156_11 (by decide) (fun q5 => ?_) (fun q5 => ?_)
  · replace q5 : v4 ≤ (t : Int) := q5
    refine Tx.iload_n hC te_156_18 rfl ?_
    refine Tx.aload_n hC te_156_19 rfl ?_
    refine Tx.getI hC te_156_20 hQ.s0 rfl rfl (fun v6 v6e v6i => ?_)
    unfold InI at v6i
    refine Tx.aload_n hC te_156_23 rfl ?_
    refine Tx.getI hC te_156_24 hQ.s0 rfl rfl (fun v7 v7e v7i => ?_)
    unfold InI at v7i
    refine Tx.iconst hC te_156_27 rfl ?_
    refine Tx.isubW hC te_156_28 (fun z8 z8i z8e => ?_)
    unfold InI at z8i z8e
    first | replace z8e := z8e (by omega) | clear z8e
    refine Tx.imulW hC te_156_29 (fun z9 z9i z9e => ?_)
    unfold InI at z9i z9e
    first | replace z9e := z9e (by omega) | clear z9e
    refine Tx.statI hC te_156_30 (by decide) mt_29 (args := [.inl r1, .inl z9]) (rest := []) (c' := 0) (s' := 0) rfl rfl rfl rfl rfl rfl rfl ?_
    refine f_29q (fun r10 r10a r10b r10c r10i => ?_)
    unfold InI at r10i
    exact Tx.ireturn hC te_156_33 rfl (fun hr => show K r10 mem from H r10)
  · replace q5 : ¬ (v4 ≤ (t : Int)) := q5
    refine Tx.iload_n hC te_156_14 rfl ?_
    refine Tx.goto hC (t := 33) te_156_15 (by decide) ?_
    exact Tx.ireturn hC te_156_33 rfl (fun hr => show K r1 mem from H r1)
theorem f_157 {S : Nat × (Nat → Int32)} {n : Nat} {mem : MM} {K : Int → MM → Prop} {E : Nat → MM → Prop} {Q : Nat} (hQ : ChSh Q) {t : Int} (H : ∀ r, K r mem) : CQI (Ex S (n + 3)) 157 [.inr Q, .inl t] mem K E := by
  refine CY.of (k := 0) mt_157 rfl rfl (fun hv => ?_)
  have hC := Ex.mono S (n + 2)
  have ii_t : InI t := hv (.inl t) (by simp)
  unfold InI at ii_t
  clear hv
  show Tx (Ex S (n + 2)) S M_157 (kI K E) 0 0 0 [some (.inr Q), some (.inl t)] [] mem
  refine Tx.iload_n hC te_157_0 rfl ?_
  refine Tx.aload_n hC te_157_1 rfl ?_
  refine Tx.getI hC te_157_2 hQ.s0 rfl rfl (fun v1 v1e v1i => ?_)
  unfold InI at v1i
  refine Tx.icmp hC (t := 10) te_157_5 (by decide) (fun q2 => ?_) (fun q2 => ?_)
  · replace q2 : v1 ≤ (t : Int) := q2
    refine Tx.aload_n hC te_157_10 rfl ?_
    refine Tx.getI hC te_157_11 hQ.s0 rfl rfl (fun v3 v3e v3i => ?_)
    unfold InI at v3i
    refine Tx.iload_n hC te_157_14 rfl ?_
    refine Tx.aload_n hC te_157_15 rfl ?_
    refine Tx.getI hC te_157_16 hQ.s0 rfl rfl (fun v4 v4e v4i => ?_)
    unfold InI at v4i
    refine Tx.isubW hC te_157_19 (fun z5 z5i z5e => ?_)
    unfold InI at z5i z5e
    first | replace z5e := z5e (by omega) | clear z5e
    refine Tx.iconst hC te_157_20 rfl ?_
    refine Tx.iaddW hC te_157_21 (fun z6 z6i z6e => ?_)
    unfold InI at z6i z6e
    first | replace z6e := z6e (by omega) | clear z6e
    refine Tx.imulW hC te_157_22 (fun z7 z7i z7e => ?_)
    unfold InI at z7i z7e
    first | replace z7e := z7e (by omega) | clear z7e
    refine Tx.aload_n hC te_157_23 rfl ?_
    refine Tx.iload_n hC te_157_24 rfl ?_
    refine Tx.virtI hC te_157_25 mt_155 (args := [.inr Q, .inl t]) (rest := [.inl z7]) (c' := 0) (s' := 0) rfl rfl rfl rfl rfl rfl rfl rfl hQ.s0 rfl ?_
    refine f_155 hQ (fun r8 r8i => ?_)
    unfold InI at r8i
    refine Tx.aload_n hC te_157_28 rfl ?_
    refine Tx.iload_n hC te_157_29 rfl ?_
    refine Tx.virtI hC te_157_30 mt_156 (args := [.inr Q, .inl t]) (rest := [.inl r8, .inl z7]) (c' := 0) (s' := 0) rfl rfl rfl rfl rfl rfl rfl rfl hQ.s0 rfl ?_
    refine f_156 hQ (fun r11 r11i => ?_)
    unfold InI at r11i
    refine Tx.isubW hC te_157_33 (fun z14 z14i z14e => ?_)
    unfold InI at z14i z14e
    first | replace z14e := z14e (by omega) | clear z14e
    refine Tx.statI hC te_157_34 (by decide) mt_29 (args := [.inl z7, .inl z14]) (rest := []) (c' := 0) (s' := 0) rfl rfl rfl rfl rfl rfl rfl ?_
    refine f_29q (fun r15 r15a r15b r15c r15i => ?_)
    unfold InI at r15i
    exact Tx.ireturn hC te_157_37 rfl (fun hr => show K r15 mem from H r15)
  · replace q2 : ¬ (v1 ≤ (t : Int)) := q2
    refine Tx.iconst hC te_157_8 rfl ?_
    exact Tx.ireturn hC te_157_9 rfl (fun hr => show K 0 mem from H 0)
theorem f_176 {S : Nat × (Nat → Int32)} {n : Nat} {mem : MM} {K : Int → MM → Prop} {E : Nat → MM → Prop} {Q : Nat} (hQ : ChSh Q) {t : Int} (H : ∀ r, K r mem) : CQI (Ex S (n + 1)) 176 [.inr Q, .inl t] mem K E := by
  refine CY.of (k := 0) mt_176 rfl rfl (fun hv => ?_)
  have hC := Ex.mono S n
  have ii_t : InI t := hv (.inl t) (by simp)
  unfold InI at ii_t
  clear hv
  show Tx (Ex S n) S M_176 (kI K E) 0 0 0 [some (.inr Q), some (.inl t)] [] mem
  refine Tx.iload_n hC te_176_0 rfl ?_
  refine Tx.aload_n hC te_176_1 rfl ?_
  refine Tx.getI hC te_176_2 hQ.s0 rfl rfl (fun v1 v1e v1i => ?_)
  unfold InI at v1i
  refine Tx.icmp hC (t := 15) te_176_5 (by decide) (fun q2 => ?_) (fun q2 => ?_)
  · replace q2 : (t : Int) < v1 := q2
    refine Tx.iload_n hC te_176_15 rfl ?_
    exact Tx.ireturn hC te_176_16 rfl (fun hr => show K t mem from H t)
  · replace q2 : ¬ ((t : Int) < v1) := q2
    refine Tx.aload_n hC te_176_8 rfl ?_
    refine Tx.getI hC te_176_9 hQ.s0 rfl rfl (fun v3 v3e v3i => ?_)
    unfold InI at v3i
    refine Tx.ifc hC (t := 17) te_176_12 (by decide) (fun q4 => ?_) (fun q4 => ?_)
    · replace q4 : 0 < (v3 : Int) := q4
      refine Tx.iload_n hC te_176_17 rfl ?_
      refine Tx.aload_n hC te_176_18 rfl ?_
      refine Tx.getI hC te_176_19 hQ.s0 rfl rfl (fun v5 v5e v5i => ?_)
      unfold InI at v5i
      refine Tx.isubW hC te_176_22 (fun z6 z6i z6e => ?_)
      unfold InI at z6i z6e
      first | replace z6e := z6e (by omega) | clear z6e
      refine Tx.iconst hC te_176_23 rfl ?_
      refine Tx.iaddW hC te_176_24 (fun z7 z7i z7e => ?_)
      unfold InI at z7i z7e
      first | replace z7e := z7e (by omega) | clear z7e
      refine Tx.aload_n hC te_176_25 rfl ?_
      refine Tx.getI hC te_176_26 hQ.s0 rfl rfl (fun v8 v8e v8i => ?_)
      unfold InI at v8i
      refine Tx.iremW hC te_176_29 (by omega) (fun z9 z9i z9e z9f => ?_)
      unfold InI at z9i
      exact Tx.ireturn hC te_176_30 rfl (fun hr => show K z9 mem from H z9)
    · replace q4 : ¬ (0 < (v3 : Int)) := q4
      refine Tx.iload_n hC te_176_15 rfl ?_
      exact Tx.ireturn hC te_176_16 rfl (fun hr => show K t mem from H t)
theorem f_212 {S : Nat × (Nat → Int32)} {n : Nat} {mem : MM} {K : Int → MM → Prop} {E : Nat → MM → Prop} {Q : Nat} (hQ : ChSh Q) (hO : ChtOK mem Q) {y t : Int} (H : ∀ r, r = 0 ∨ r = 1 → K r mem) : CQI (Ex S (n + 2)) 212 [.inr Q, .inl y, .inl t] mem K E := by
  refine CY.of (k := 1) mt_212 rfl rfl (fun hv => ?_)
  have hC := Ex.mono S (n + 1)
  have ii_y : InI y := hv (.inl y) (by simp)
  unfold InI at ii_y
  have ii_t : InI t := hv (.inl t) (by simp)
  unfold InI at ii_t
  clear hv
  have hQ1 := hO.1
  show Tx (Ex S (n + 1)) S M_212 (kI K E) 0 0 0 [some (.inr Q), some (.inl y), some (.inl t), none] [] mem
  have l_2 : ∀ (N : Nat) (x3 : Int), (0 ≤ x3) → ((8 - x3).toNat) < N → Tx (Ex S (n + 1)) S M_212 (kI K E) 0 0 2 [some (.inr Q), some (.inl y), some (.inl t), some (.inl x3)] [] mem := by
    intro N
    induction N with
    | zero => intros; omega
    | succ N ih_2 =>
      intro x3 i2_0 hN_2 
      refine Tx.iload_n hC te_212_2 rfl ?_
      refine Tx.aload_n hC te_212_3 rfl ?_
      refine Tx.getI hC te_212_4 hQ.s0 rfl rfl (fun v1 v1e v1i => ?_)
      unfold InI at v1i
      refine Tx.icmp hC (t := 29) te_212_7 (by decide) (fun q2 => ?_) (fun q2 => ?_)
      · replace q2 : v1 ≤ (x3 : Int) := q2
        refine Tx.iconst hC te_212_29 rfl ?_
        exact Tx.bret hC te_212_30 rfl (by omega) (show K 0 mem from H 0 (by omega))
      · replace q2 : ¬ (v1 ≤ (x3 : Int)) := q2
        refine Tx.aload_n hC te_212_10 rfl ?_
        refine Tx.iload_n hC te_212_11 rfl ?_
        refine Tx.iload_n hC te_212_12 rfl ?_
        refine Tx.iload_n hC te_212_13 rfl ?_
        refine Tx.virtI hC te_212_14 mt_152 (args := [.inr Q, .inl x3, .inl y, .inl t]) (rest := []) (c' := 0) (s' := 0) rfl rfl rfl rfl rfl rfl rfl rfl hQ.s0 rfl ?_
        refine f_152 hQ hO (by omega) (fun r3 r3i => ?_)
        unfold InI at r3i
        refine Tx.iconst hC te_212_17 rfl ?_
        refine Tx.icmp hC (t := 23) te_212_18 (by decide) (fun q6 => ?_) (fun q6 => ?_)
        · replace q6 : (r3 : Int) = (-1) := q6
          refine Tx.iincW hC te_212_23 rfl rfl (fun z7 z7i z7e => ?_)
          unfold InI at z7i z7e
          first | replace z7e := z7e (by omega) | clear z7e
          refine Tx.goto hC (t := 2) te_212_26 (by decide) ?_
          exact ih_2 z7 (by omega) (by omega)
        · replace q6 : ¬ ((r3 : Int) = (-1)) := q6
          refine Tx.iconst hC te_212_21 rfl ?_
          exact Tx.bret hC te_212_22 rfl (by omega) (show K 1 mem from H 1 (by omega))
  refine Tx.iconst hC te_212_0 rfl ?_
  refine Tx.istore_n hC te_212_1 rfl ?_
  exact l_2 _ 0 (by omega) (Nat.lt_succ_self _)
theorem f_211 {S : Nat × (Nat → Int32)} {n : Nat} {mem : MM} {K : Int → MM → Prop} {E : Nat → MM → Prop} {Q : Nat} (hQ : ChSh Q) (hO : ChtOK mem Q) {t : Int} (H : ∀ r, K r mem) : CQI (Ex S (n + 3)) 211 [.inr Q, .inl t] mem K E := by
  refine CY.of (k := 3) mt_211 rfl rfl (fun hv => ?_)
  have hC := Ex.mono S (n + 2)
  have ii_t : InI t := hv (.inl t) (by simp)
  unfold InI at ii_t
  clear hv
  have hQ1 := hO.1
  show Tx (Ex S (n + 2)) S M_211 (kI K E) 0 0 0 [some (.inr Q), some (.inl t), none, none, none] [] mem
  have l_11 : ∀ (N : Nat) (x2 x3 x4 : Int), (0 ≤ x4) → (x3 ≤ 2147483647) → ((x3 - x4).toNat) < N → Tx (Ex S (n + 2)) S M_211 (kI K E) 0 0 11 [some (.inr Q), some (.inl t), some (.inl x2), some (.inl x3), some (.inl x4)] [] mem := by
    intro N
    induction N with
    | zero => intros; omega
    | succ N ih_11 =>
      intro x2 x3 x4 i11_0 i11_1 hN_11 
      refine Tx.iload hC te_211_11 rfl ?_
      refine Tx.iload_n hC te_211_13 rfl ?_
      refine Tx.icmp hC (t := 36) te_211_14 (by decide) (fun q1 => ?_) (fun q1 => ?_)
      · replace q1 : x3 ≤ (x4 : Int) := q1
        refine Tx.iload_n hC te_211_36 rfl ?_
        exact Tx.ireturn hC te_211_37 rfl (fun hr => show K x2 mem from H x2)
      · replace q1 : ¬ (x3 ≤ (x4 : Int)) := q1
        refine Tx.aload_n hC te_211_17 rfl ?_
        refine Tx.iload hC te_211_18 rfl ?_
        refine Tx.iload_n hC te_211_20 rfl ?_
        refine Tx.virtI hC te_211_21 mt_212 (args := [.inr Q, .inl x4, .inl t]) (rest := []) (c' := 0) (s' := 0) rfl rfl rfl rfl rfl rfl rfl rfl hQ.s0 rfl ?_
        refine f_212 hQ hO (fun r2 r2b r2i => ?_)
        unfold InI at r2i
        refine Tx.ifc hC (t := 30) te_211_24 (by decide) (fun q5 => ?_) (fun q5 => ?_)
        · replace q5 : ¬ (r2 : Int) = 0 := q5
          refine Tx.iincW hC te_211_30 rfl rfl (fun z6 z6i z6e => ?_)
          unfold InI at z6i z6e
          first | replace z6e := z6e (by omega) | clear z6e
          refine Tx.goto hC (t := 11) te_211_33 (by decide) ?_
          exact ih_11 x2 x3 z6 (by omega) (by omega) (by omega)
        · replace q5 : ¬ (¬ (r2 : Int) = 0) := q5
          refine Tx.iincW hC te_211_27 rfl rfl (fun z7 z7i z7e => ?_)
          unfold InI at z7i z7e
          first | replace z7e := z7e (by omega) | clear z7e
          refine Tx.iincW hC te_211_30 rfl rfl (fun z8 z8i z8e => ?_)
          unfold InI at z8i z8e
          first | replace z8e := z8e (by omega) | clear z8e
          refine Tx.goto hC (t := 11) te_211_33 (by decide) ?_
          exact ih_11 z7 x3 z8 (by omega) (by omega) (by omega)
  refine Tx.iconst hC te_211_0 rfl ?_
  refine Tx.istore_n hC te_211_1 rfl ?_
  refine Tx.aload_n hC te_211_2 rfl ?_
  refine Tx.iload_n hC te_211_3 rfl ?_
  refine Tx.virtI hC te_211_4 mt_155 (args := [.inr Q, .inl t]) (rest := []) (c' := 0) (s' := 0) rfl rfl rfl rfl rfl rfl rfl rfl hQ.s0 rfl ?_
  refine f_155 hQ (fun r9 r9i => ?_)
  unfold InI at r9i
  refine Tx.istore_n hC te_211_7 rfl ?_
  refine Tx.iconst hC te_211_8 rfl ?_
  refine Tx.istore hC te_211_9 rfl ?_
  exact l_11 _ 0 r9 0 (by omega) (by omega) (Nat.lt_succ_self _)
theorem f_186 {S : Nat × (Nat → Int32)} {n : Nat} {mem : MM} {K : Int → MM → Prop} {E : Nat → MM → Prop} {Q : Nat} (hQ : ChSh Q) (hO : ChtOK mem Q) {o k y t : Int} (ho : 0 ≤ o ∧ o < 8) (hy : 0 ≤ y) (ht : 0 ≤ t ∧ t ≤ 40) (H : ∀ r, r ≤ 39 → K r mem) : CQI (Ex S (n + 2)) 186 [.inr Q, .inl o, .inl k, .inl y, .inl t] mem K E := by
  refine CY.of (k := 1) mt_186 rfl rfl (fun hv => ?_)
  have hC := Ex.mono S (n + 1)
  have ii_o : InI o := hv (.inl o) (by simp)
  unfold InI at ii_o
  have ii_k : InI k := hv (.inl k) (by simp)
  unfold InI at ii_k
  have ii_y : InI y := hv (.inl y) (by simp)
  unfold InI at ii_y
  have ii_t : InI t := hv (.inl t) (by simp)
  unfold InI at ii_t
  clear hv
  have hQ1 := hO.1
  show Tx (Ex S (n + 1)) S M_186 (kI K E) 0 0 0 [some (.inr Q), some (.inl o), some (.inl k), some (.inl y), some (.inl t), none] [] mem
  refine Tx.iload_n hC te_186_0 rfl ?_
  refine Tx.aload_n hC te_186_1 rfl ?_
  refine Tx.getR hC te_186_2 hQ.s0 rfl rfl ?_
  refine Tx.iload_n hC te_186_5 rfl ?_
  refine Tx.iald hC te_186_6 hQ.s3 (by omega) (fun v1 v1e v1i => ?_)
  unfold InI at v1i
  have f2 := hO.2 (Int.toNat o) (by omega)
  refine Tx.icmp hC (t := 19) te_186_7 (by decide) (fun q3 => ?_) (fun q3 => ?_)
  · replace q3 : (y : Int) < v1 := q3
    refine Tx.iconst hC te_186_19 rfl ?_
    exact Tx.ireturn hC te_186_20 rfl (fun hr => show K (-1) mem from H (-1) (by omega))
  · replace q3 : ¬ ((y : Int) < v1) := q3
    refine Tx.aload_n hC te_186_10 rfl ?_
    refine Tx.getR hC te_186_11 hQ.s0 rfl rfl ?_
    refine Tx.iload_n hC te_186_14 rfl ?_
    refine Tx.iald hC te_186_15 hQ.s6 (by omega) (fun v4 v4e v4i => ?_)
    unfold InI at v4i
    refine Tx.ifc hC (t := 21) te_186_16 (by decide) (fun q5 => ?_) (fun q5 => ?_)
    · replace q5 : 0 < (v4 : Int) := q5
      refine Tx.iload hC te_186_21 rfl ?_
      refine Tx.iconst hC te_186_23 rfl ?_
      refine Tx.isubW hC te_186_24 (fun z6 z6i z6e => ?_)
      unfold InI at z6i z6e
      first | replace z6e := z6e (by omega) | clear z6e
      refine Tx.iload_n hC te_186_25 rfl ?_
      refine Tx.aload_n hC te_186_26 rfl ?_
      refine Tx.getR hC te_186_27 hQ.s0 rfl rfl ?_
      refine Tx.iload_n hC te_186_30 rfl ?_
      refine Tx.iald hC te_186_31 hQ.s3 (by omega) (fun v7 v7e v7i => ?_)
      unfold InI at v7i
      have f8 := hO.2 (Int.toNat o) (by omega)
      refine Tx.isubW hC te_186_32 (fun z9 z9i z9e => ?_)
      unfold InI at z9i z9e
      first | replace z9e := z9e (by omega) | clear z9e
      refine Tx.aload_n hC te_186_33 rfl ?_
      refine Tx.getI hC te_186_34 hQ.s0 rfl rfl (fun v10 v10e v10i => ?_)
      unfold InI at v10i
      refine Tx.idivW hC te_186_37 (by omega) (fun z11 z11i z11e z11f => ?_)
      unfold InI at z11i
      refine Tx.statI hC te_186_38 (by decide) mt_29 (args := [.inl z6, .inl z11]) (rest := []) (c' := 0) (s' := 0) rfl rfl rfl rfl rfl rfl rfl ?_
      refine f_29q (fun r12 r12a r12b r12c r12i => ?_)
      unfold InI at r12i
      refine Tx.istore hC te_186_41 rfl ?_
      refine Tx.iload hC te_186_43 rfl ?_
      refine Tx.iload hC te_186_45 rfl ?_
      refine Tx.iload_n hC te_186_47 rfl ?_
      refine Tx.isubW hC te_186_48 (fun z15 z15i z15e => ?_)
      unfold InI at z15i z15e
      first | replace z15e := z15e (by omega) | clear z15e
      refine Tx.aload_n hC te_186_49 rfl ?_
      refine Tx.getR hC te_186_50 hQ.s0 rfl rfl ?_
      refine Tx.iload_n hC te_186_53 rfl ?_
      refine Tx.iald hC te_186_54 hQ.s6 (by omega) (fun v16 v16e v16i => ?_)
      unfold InI at v16i
      refine Tx.statI hC te_186_55 (by decide) mt_94 (args := [.inl z15, .inl v16]) (rest := [.inl r12]) (c' := 0) (s' := 0) rfl rfl rfl rfl rfl rfl rfl ?_
      refine f_94 (by omega) (fun r17 r17a r17b r17i => ?_)
      unfold InI at r17i
      refine Tx.isubW hC te_186_58 (fun z20 z20i z20e => ?_)
      unfold InI at z20i z20e
      first | replace z20e := z20e (by omega) | clear z20e
      refine Tx.istore hC te_186_59 rfl ?_
      refine Tx.iload hC te_186_61 rfl ?_
      refine Tx.ifc hC (t := 70) te_186_63 (by decide) (fun q21 => ?_) (fun q21 => ?_)
      · replace q21 : 0 ≤ (z20 : Int) := q21
        refine Tx.iload hC te_186_70 rfl ?_
        exact Tx.ireturn hC te_186_72 rfl (fun hr => show K z20 mem from H z20 (by omega))
      · replace q21 : ¬ (0 ≤ (z20 : Int)) := q21
        refine Tx.iconst hC te_186_66 rfl ?_
        refine Tx.goto hC (t := 72) te_186_67 (by decide) ?_
        exact Tx.ireturn hC te_186_72 rfl (fun hr => show K (-1) mem from H (-1) (by omega))
    · replace q5 : ¬ (0 < (v4 : Int)) := q5
      refine Tx.iconst hC te_186_19 rfl ?_
      exact Tx.ireturn hC te_186_20 rfl (fun hr => show K (-1) mem from H (-1) (by omega))
theorem f_205 {S : Nat × (Nat → Int32)} {n : Nat} {mem : MM} {K : Int → MM → Prop} {E : Nat → MM → Prop} (hR : 0 ≤ mem 19 0 ∧ mem 19 0 ≤ 8) {o : Int} (ho : 0 ≤ o ∧ o < 8) (H : ∀ r, K r mem) : CQI (Ex S (n + 2)) 205 [.inr 19, .inl o] mem K E := by
  refine CY.of (k := 2) mt_205 rfl rfl (fun hv => ?_)
  have hC := Ex.mono S (n + 1)
  have ii_o : InI o := hv (.inl o) (by simp)
  unfold InI at ii_o
  clear hv
  show Tx (Ex S (n + 1)) S M_205 (kI K E) 0 0 0 [some (.inr 19), some (.inl o), none, none] [] mem
  have l_4 : ∀ (N : Nat) (x2 x3 : Int), (0 ≤ x3) → ((8 - x3).toNat) < N → Tx (Ex S (n + 1)) S M_205 (kI K E) 0 0 4 [some (.inr 19), some (.inl o), some (.inl x2), some (.inl x3)] [] mem := by
    intro N
    induction N with
    | zero => intros; omega
    | succ N ih_4 =>
      intro x2 x3 i4_0 hN_4 
      refine Tx.iload_n hC te_205_4 rfl ?_
      refine Tx.aload_n hC te_205_5 rfl ?_
      refine Tx.getI hC te_205_6 rfl rfl rfl (fun v1 v1e v1i => ?_)
      unfold InI at v1i
      refine Tx.icmp hC (t := 34) te_205_9 (by decide) (fun q2 => ?_) (fun q2 => ?_)
      · replace q2 : v1 ≤ (x3 : Int) := q2
        refine Tx.iload_n hC te_205_34 rfl ?_
        exact Tx.ireturn hC te_205_35 rfl (fun hr => show K x2 mem from H x2)
      · replace q2 : ¬ (v1 ≤ (x3 : Int)) := q2
        refine Tx.iload_n hC te_205_12 rfl ?_
        refine Tx.aload_n hC te_205_13 rfl ?_
        refine Tx.getR hC te_205_14 rfl rfl rfl ?_
        refine Tx.iload_n hC te_205_17 rfl ?_
        refine Tx.bipush hC te_205_18 rfl rfl ?_
        refine Tx.imulW hC te_205_20 (fun z3 z3i z3e => ?_)
        unfold InI at z3i z3e
        first | replace z3e := z3e (by omega) | clear z3e
        refine Tx.iload_n hC te_205_21 rfl ?_
        refine Tx.iaddW hC te_205_22 (fun z4 z4i z4e => ?_)
        unfold InI at z4i z4e
        first | replace z4e := z4e (by omega) | clear z4e
        refine Tx.iald hC te_205_23 rfl (by omega) (fun v5 v5e v5i => ?_)
        unfold InI at v5i
        refine Tx.statI hC te_205_24 (by decide) mt_40 (args := [.inl x2, .inl v5]) (rest := []) (c' := 0) (s' := 0) rfl rfl rfl rfl rfl rfl rfl ?_
        refine f_40q (fun r6 r6a r6b r6c r6i => ?_)
        unfold InI at r6i
        refine Tx.istore_n hC te_205_27 rfl ?_
        refine Tx.iincW hC te_205_28 rfl rfl (fun z9 z9i z9e => ?_)
        unfold InI at z9i z9e
        first | replace z9e := z9e (by omega) | clear z9e
        refine Tx.goto hC (t := 4) te_205_31 (by decide) ?_
        exact ih_4 r6 z9 (by omega) (by omega)
  refine Tx.iconst hC te_205_0 rfl ?_
  refine Tx.istore_n hC te_205_1 rfl ?_
  refine Tx.iconst hC te_205_2 rfl ?_
  refine Tx.istore_n hC te_205_3 rfl ?_
  exact l_4 _ 0 0 (by omega) (Nat.lt_succ_self _)
theorem f_204 {S : Nat × (Nat → Int32)} {n : Nat} {mem : MM} {K : Int → MM → Prop} {E : Nat → MM → Prop} (hR : 0 ≤ mem 19 0 ∧ mem 19 0 ≤ 8) (hB : BodyOK mem) {o : Int} (ho : 0 ≤ o ∧ o < 8) (H : ∀ r, K r mem) : CQI (Ex S (n + 3)) 204 [.inr 19, .inr 1, .inl o] mem K E := by
  refine CY.of (k := 4) mt_204 rfl rfl (fun hv => ?_)
  have hC := Ex.mono S (n + 2)
  have ii_o : InI o := hv (.inl o) (by simp)
  unfold InI at ii_o
  clear hv
  show Tx (Ex S (n + 2)) S M_204 (kI K E) 0 0 0 [some (.inr 19), some (.inr 1), some (.inl o), none, none, none, none] [] mem
  have l_50 : ∀ (N : Nat) (x3 x4 x5 : Int), (0 ≤ x5) → ((8 - x5).toNat) < N → Tx (Ex S (n + 2)) S M_204 (kI K E) 0 0 50 [some (.inr 19), some (.inr 1), some (.inl o), some (.inl x3), some (.inl x4), some (.inl x5), none] [] mem := by
    intro N
    induction N with
    | zero => intros; omega
    | succ N ih_50 =>
      intro x3 x4 x5 i50_0 hN_50 
      refine Tx.iload hC te_204_50 rfl ?_
      refine Tx.aload_n hC te_204_52 rfl ?_
      refine Tx.getI hC te_204_53 rfl rfl rfl (fun v1 v1e v1i => ?_)
      unfold InI at v1i
      refine Tx.icmp hC (t := 104) te_204_56 (by decide) (fun q2 => ?_) (fun q2 => ?_)
      · replace q2 : v1 ≤ (x5 : Int) := q2
        refine Tx.iload hC te_204_104 rfl ?_
        exact Tx.ireturn hC te_204_106 rfl (fun hr => show K x4 mem from H x4)
      · replace q2 : ¬ (v1 ≤ (x5 : Int)) := q2
        refine Tx.aload_n hC te_204_59 rfl ?_
        refine Tx.getR hC te_204_60 rfl rfl rfl ?_
        refine Tx.iload_n hC te_204_63 rfl ?_
        refine Tx.bipush hC te_204_64 rfl rfl ?_
        refine Tx.imulW hC te_204_66 (fun z3 z3i z3e => ?_)
        unfold InI at z3i z3e
        first | replace z3e := z3e (by omega) | clear z3e
        refine Tx.iload hC te_204_67 rfl ?_
        refine Tx.iaddW hC te_204_69 (fun z4 z4i z4e => ?_)
        unfold InI at z4i z4e
        first | replace z4e := z4e (by omega) | clear z4e
        refine Tx.iald hC te_204_70 rfl (by omega) (fun v5 v5e v5i => ?_)
        unfold InI at v5i
        refine Tx.istore hC te_204_71 rfl ?_
        refine Tx.iload hC te_204_73 rfl ?_
        refine Tx.ldc hC (z := (-100000)) te_204_75 rfl rfl rfl rfl ?_
        refine Tx.icmp hC (t := 98) te_204_77 (by decide) (fun q6 => ?_) (fun q6 => ?_)
        · replace q6 : (v5 : Int) = (-100000) := q6
          refine Tx.iincW hC te_204_98 rfl rfl (fun z7 z7i z7e => ?_)
          unfold InI at z7i z7e
          first | replace z7e := z7e (by omega) | clear z7e
          refine Tx.goto hC (t := 50) te_204_101 (by decide) ?_
          exact Tx.weak (by repeat' (first | exact trivial | exact rfl | constructor)) (ih_50 x3 x4 z7 (by omega) (by omega))
        · replace q6 : ¬ ((v5 : Int) = (-100000)) := q6
          refine Tx.iload hC te_204_80 rfl ?_
          refine Tx.iload_n hC te_204_82 rfl ?_
          refine Tx.aload_n hC te_204_83 rfl ?_
          refine Tx.iload hC te_204_84 rfl ?_
          refine Tx.virtI hC te_204_86 mt_19 (args := [.inr 1, .inl x5]) (rest := [.inl x3, .inl x4]) (c' := 0) (s' := 0) rfl rfl rfl rfl rfl rfl rfl rfl rfl rfl ?_
          refine CWI.q hC (f_19 hB (by omega) (fun r8 r8a r8b r8i => ?_))
          unfold InI at r8i
          refine Tx.isubW hC te_204_89 (fun z11 z11i z11e => ?_)
          unfold InI at z11i z11e
          first | replace z11e := z11e (by omega) | clear z11e
          refine Tx.iload hC te_204_90 rfl ?_
          refine Tx.isubW hC te_204_92 (fun z12 z12i z12e => ?_)
          unfold InI at z12i z12e
          first | replace z12e := z12e (by omega) | clear z12e
          refine Tx.statI hC te_204_93 (by decide) mt_29 (args := [.inl x4, .inl z12]) (rest := []) (c' := 0) (s' := 0) rfl rfl rfl rfl rfl rfl rfl ?_
          refine f_29q (fun r13 r13a r13b r13c r13i => ?_)
          unfold InI at r13i
          refine Tx.istore hC te_204_96 rfl ?_
          refine Tx.iincW hC te_204_98 rfl rfl (fun z16 z16i z16e => ?_)
          unfold InI at z16i z16e
          first | replace z16e := z16e (by omega) | clear z16e
          refine Tx.goto hC (t := 50) te_204_101 (by decide) ?_
          exact Tx.weak (by repeat' (first | exact trivial | exact rfl | constructor)) (ih_50 x3 r13 z16 (by omega) (by omega))
  have l_5 : ∀ (N : Nat) (x3 x4 : Int), (0 ≤ x4) → ((8 - x4).toNat) < N → Tx (Ex S (n + 2)) S M_204 (kI K E) 0 0 5 [some (.inr 19), some (.inr 1), some (.inl o), some (.inl x3), some (.inl x4), none, none] [] mem := by
    intro N
    induction N with
    | zero => intros; omega
    | succ N ih_5 =>
      intro x3 x4 i5_0 hN_5 
      refine Tx.iload hC te_204_5 rfl ?_
      refine Tx.aload_n hC te_204_7 rfl ?_
      refine Tx.getI hC te_204_8 rfl rfl rfl (fun v17 v17e v17i => ?_)
      unfold InI at v17i
      refine Tx.icmp hC (t := 38) te_204_11 (by decide) (fun q18 => ?_) (fun q18 => ?_)
      · replace q18 : v17 ≤ (x4 : Int) := q18
        refine Tx.iload_n hC te_204_38 rfl ?_
        refine Tx.aload_n hC te_204_39 rfl ?_
        refine Tx.iload_n hC te_204_40 rfl ?_
        refine Tx.virtI hC te_204_41 mt_19 (args := [.inr 1, .inl o]) (rest := [.inl x3]) (c' := 0) (s' := 0) rfl rfl rfl rfl rfl rfl rfl rfl rfl rfl ?_
        refine CWI.q hC (f_19 hB (by omega) (fun r19 r19a r19b r19i => ?_))
        unfold InI at r19i
        refine Tx.isubW hC te_204_44 (fun z22 z22i z22e => ?_)
        unfold InI at z22i z22e
        first | replace z22e := z22e (by omega) | clear z22e
        refine Tx.istore hC te_204_45 rfl ?_
        refine Tx.iconst hC te_204_47 rfl ?_
        refine Tx.istore hC te_204_48 rfl ?_
        exact l_50 _ x3 z22 0 (by omega) (Nat.lt_succ_self _)
      · replace q18 : ¬ (v17 ≤ (x4 : Int)) := q18
        refine Tx.iload_n hC te_204_14 rfl ?_
        refine Tx.aload_n hC te_204_15 rfl ?_
        refine Tx.iload hC te_204_16 rfl ?_
        refine Tx.virtI hC te_204_18 mt_205 (args := [.inr 19, .inl x4]) (rest := [.inl x3]) (c' := 0) (s' := 0) rfl rfl rfl rfl rfl rfl rfl rfl rfl rfl ?_
        refine f_205 hR (by omega) (fun r23 r23i => ?_)
        unfold InI at r23i
        refine Tx.aload_n hC te_204_21 rfl ?_
        refine Tx.iload hC te_204_22 rfl ?_
        refine Tx.virtI hC te_204_24 mt_19 (args := [.inr 1, .inl x4]) (rest := [.inl r23, .inl x3]) (c' := 0) (s' := 0) rfl rfl rfl rfl rfl rfl rfl rfl rfl rfl ?_
        refine CWI.q hC (f_19 hB (by omega) (fun r26 r26a r26b r26i => ?_))
        unfold InI at r26i
        refine Tx.iaddW hC te_204_27 (fun z29 z29i z29e => ?_)
        unfold InI at z29i z29e
        first | replace z29e := z29e (by omega) | clear z29e
        refine Tx.statI hC te_204_28 (by decide) mt_40 (args := [.inl x3, .inl z29]) (rest := []) (c' := 0) (s' := 0) rfl rfl rfl rfl rfl rfl rfl ?_
        refine f_40q (fun r30 r30a r30b r30c r30i => ?_)
        unfold InI at r30i
        refine Tx.istore_n hC te_204_31 rfl ?_
        refine Tx.iincW hC te_204_32 rfl rfl (fun z33 z33i z33e => ?_)
        unfold InI at z33i z33e
        first | replace z33e := z33e (by omega) | clear z33e
        refine Tx.goto hC (t := 5) te_204_35 (by decide) ?_
        exact ih_5 r30 z33 (by omega) (by omega)
  refine Tx.iconst hC te_204_0 rfl ?_
  refine Tx.istore_n hC te_204_1 rfl ?_
  refine Tx.iconst hC te_204_2 rfl ?_
  refine Tx.istore hC te_204_3 rfl ?_
  exact l_5 _ 0 0 (by omega) (Nat.lt_succ_self _)
theorem f_217 {S : Nat × (Nat → Int32)} {n : Nat} {mem : MM} {K : Int → MM → Prop} {E : Nat → MM → Prop} {Q : Nat} (hQ : ChSh Q) (hO : ChtOK mem Q) (hB : BodyOK mem) {o t : Int} (ho : 0 ≤ o ∧ o < 8) (H : ∀ r, K r mem) : CQI (Ex S (n + 2)) 217 [.inr 141, .inr 1, .inr Q, .inl o, .inl t] mem K E := by
  refine CY.of (k := 3) mt_217 rfl rfl (fun hv => ?_)
  have hC := Ex.mono S (n + 1)
  have ii_o : InI o := hv (.inl o) (by simp)
  unfold InI at ii_o
  have ii_t : InI t := hv (.inl t) (by simp)
  unfold InI at ii_t
  clear hv
  have hQ1 := hO.1
  show Tx (Ex S (n + 1)) S M_217 (kI K E) 0 0 0 [some (.inr 141), some (.inr 1), some (.inr Q), some (.inl o), some (.inl t), none, none, none] [] mem
  refine Tx.aload_n hC te_217_0 rfl ?_
  refine Tx.getR hC te_217_1 hQ.s0 rfl rfl ?_
  refine Tx.iload_n hC te_217_4 rfl ?_
  refine Tx.iald hC te_217_5 hQ.s2 (by omega) (fun v1 v1e v1i => ?_)
  unfold InI at v1i
  have f2 := hO.2 (Int.toNat o) (by omega)
  refine Tx.aload_n hC te_217_6 rfl ?_
  refine Tx.getI hC te_217_7 hQ.s0 rfl rfl (fun v3 v3e v3i => ?_)
  unfold InI at v3i
  refine Tx.iload hC te_217_10 rfl ?_
  refine Tx.imulW hC te_217_12 (fun z4 z4i z4e => ?_)
  unfold InI at z4i z4e
  first | replace z4e := z4e (by omega) | clear z4e
  refine Tx.iaddW hC te_217_13 (fun z5 z5i z5e => ?_)
  unfold InI at z5i z5e
  first | replace z5e := z5e (by omega) | clear z5e
  refine Tx.istore hC te_217_14 rfl ?_
  refine Tx.iload hC te_217_16 rfl ?_
  refine Tx.ifc hC (t := 29) te_217_18 (by decide) (fun q6 => ?_) (fun q6 => ?_)
  · replace q6 : (z5 : Int) < 0 := q6
    refine Tx.iconst hC te_217_29 rfl ?_
    exact Tx.ireturn hC te_217_30 rfl (fun hr => show K 0 mem from H 0)
  · replace q6 : ¬ ((z5 : Int) < 0) := q6
    refine Tx.iload hC te_217_21 rfl ?_
    refine Tx.sipush hC te_217_23 rfl rfl ?_
    refine Tx.icmp hC (t := 31) te_217_26 (by decide) (fun q7 => ?_) (fun q7 => ?_)
    · replace q7 : (z5 : Int) < 1024 := q7
      refine Tx.iload hC te_217_31 rfl ?_
      refine Tx.aload_n hC te_217_33 rfl ?_
      refine Tx.getR hC te_217_34 rfl rfl rfl ?_
      refine Tx.iload hC te_217_37 rfl ?_
      refine Tx.iald hC te_217_39 rfl (by omega) (fun v8 v8e v8i => ?_)
      unfold InI at v8i
      refine Tx.iaddW hC te_217_40 (fun z9 z9i z9e => ?_)
      unfold InI at z9i z9e
      first | replace z9e := z9e (by omega) | clear z9e
      refine Tx.aload_n hC te_217_41 rfl ?_
      refine Tx.iload_n hC te_217_42 rfl ?_
      refine Tx.virtI hC te_217_43 mt_19 (args := [.inr 1, .inl o]) (rest := [.inl z9]) (c' := 0) (s' := 0) rfl rfl rfl rfl rfl rfl rfl rfl rfl rfl ?_
      refine CWI.q hC (f_19 hB (by omega) (fun r10 r10a r10b r10i => ?_))
      unfold InI at r10i
      refine Tx.iaddW hC te_217_46 (fun z13 z13i z13e => ?_)
      unfold InI at z13i z13e
      first | replace z13e := z13e (by omega) | clear z13e
      refine Tx.istore hC te_217_47 rfl ?_
      refine Tx.aload_n hC te_217_49 rfl ?_
      refine Tx.getR hC te_217_50 rfl rfl rfl ?_
      refine Tx.iload_n hC te_217_53 rfl ?_
      refine Tx.iald hC te_217_54 rfl (by omega) (fun v14 v14e v14i => ?_)
      unfold InI at v14i
      have f15 := hB.kd (o := (Int.toNat o)) (by omega)
      refine Tx.iconst hC te_217_55 rfl ?_
      refine Tx.icmp hC (t := 63) te_217_56 (by decide) (fun q16 => ?_) (fun q16 => ?_)
      · replace q16 : ¬ (v14 : Int) = 4 := q16
        refine Tx.iconst hC te_217_63 rfl ?_
        refine Tx.istore hC te_217_64 rfl ?_
        refine Tx.iload hC te_217_66 rfl ?_
        refine Tx.ifc hC (t := 103) te_217_68 (by decide) (fun q => ?_) (fun q => absurd (show (0 : Int) = 0 by decide) q)
        refine Tx.iload hC te_217_103 rfl ?_
        exact Tx.ireturn hC te_217_105 rfl (fun hr => show K z13 mem from H z13)
      · replace q16 : ¬ (¬ (v14 : Int) = 4) := q16
        refine Tx.iconst hC te_217_59 rfl ?_
        refine Tx.goto hC (t := 64) te_217_60 (by decide) ?_
        refine Tx.istore hC te_217_64 rfl ?_
        refine Tx.iload hC te_217_66 rfl ?_
        refine Tx.ifc hC (t := 103) te_217_68 (by decide) (fun q => absurd q (show ¬ ((1 : Int) = 0) by decide)) (fun q => ?_)
        refine Tx.aload_n hC te_217_71 rfl ?_
        refine Tx.getI hC te_217_72 rfl rfl rfl (fun v17 v17e v17i => ?_)
        unfold InI at v17i
        refine Tx.ifc hC (t := 103) te_217_75 (by decide) (fun q18 => ?_) (fun q18 => ?_)
        · replace q18 : (v17 : Int) ≤ 0 := q18
          refine Tx.iload hC te_217_103 rfl ?_
          exact Tx.ireturn hC te_217_105 rfl (fun hr => show K z13 mem from H z13)
        · replace q18 : ¬ ((v17 : Int) ≤ 0) := q18
          refine Tx.iload hC te_217_78 rfl ?_
          refine Tx.aload_n hC te_217_80 rfl ?_
          refine Tx.iload_n hC te_217_81 rfl ?_
          refine Tx.virtI hC te_217_82 mt_25 (args := [.inr 1, .inl o]) (rest := [.inl t]) (c' := 0) (s' := 0) rfl rfl rfl rfl rfl rfl rfl rfl rfl rfl ?_
          refine f_25q (by omega) (fun r19 r19e r19i => ?_)
          unfold InI at r19i
          refine Tx.iaddW hC te_217_85 (fun z22 z22i z22e => ?_)
          unfold InI at z22i z22e
          first | replace z22e := z22e (by omega) | clear z22e
          refine Tx.aload_n hC te_217_86 rfl ?_
          refine Tx.getI hC te_217_87 rfl rfl rfl (fun v23 v23e v23i => ?_)
          unfold InI at v23i
          refine Tx.iremW hC te_217_90 (by omega) (fun z24 z24i z24e z24f => ?_)
          unfold InI at z24i
          refine Tx.ifc hC (t := 103) te_217_91 (by decide) (fun q25 => ?_) (fun q25 => ?_)
          · replace q25 : ¬ (z24 : Int) = 0 := q25
            refine Tx.iload hC te_217_103 rfl ?_
            exact Tx.ireturn hC te_217_105 rfl (fun hr => show K z13 mem from H z13)
          · replace q25 : ¬ (¬ (z24 : Int) = 0) := q25
            refine Tx.iload hC te_217_94 rfl ?_
            refine Tx.aload_n hC te_217_96 rfl ?_
            refine Tx.getI hC te_217_97 rfl rfl rfl (fun v26 v26e v26i => ?_)
            unfold InI at v26i
            refine Tx.iaddW hC te_217_100 (fun z27 z27i z27e => ?_)
            unfold InI at z27i z27e
            first | replace z27e := z27e (by omega) | clear z27e
            refine Tx.istore hC te_217_101 rfl ?_
            refine Tx.iload hC te_217_103 rfl ?_
            exact Tx.ireturn hC te_217_105 rfl (fun hr => show K z27 mem from H z27)
    · replace q7 : ¬ ((z5 : Int) < 1024) := q7
      refine Tx.iconst hC te_217_29 rfl ?_
      exact Tx.ireturn hC te_217_30 rfl (fun hr => show K 0 mem from H 0)
theorem f_216 {S : Nat × (Nat → Int32)} {n : Nat} {mem : MM} {K : Int → MM → Prop} {E : Nat → MM → Prop} {Q : Nat} (hQ : ChSh Q) (hO : ChtOK mem Q) (hB : BodyOK mem) {o t : Int} (ho : 0 ≤ o ∧ o < 8) (H : ∀ r, K r mem) : CQI (Ex S (n + 3)) 216 [.inr 141, .inr 1, .inr Q, .inl o, .inl t] mem K E := by
  refine CY.of (k := 4) mt_216 rfl rfl (fun hv => ?_)
  have hC := Ex.mono S (n + 2)
  have ii_o : InI o := hv (.inl o) (by simp)
  unfold InI at ii_o
  have ii_t : InI t := hv (.inl t) (by simp)
  unfold InI at ii_t
  clear hv
  have hQ1 := hO.1
  show Tx (Ex S (n + 2)) S M_216 (kI K E) 0 0 0 [some (.inr 141), some (.inr 1), some (.inr Q), some (.inl o), some (.inl t), none, none, none, none] [] mem
  have l_6 : ∀ (N : Nat) (x5 x6 : Int), (0 ≤ x6) → ((3 - x6).toNat) < N → Tx (Ex S (n + 2)) S M_216 (kI K E) 0 0 6 [some (.inr 141), some (.inr 1), some (.inr Q), some (.inl o), some (.inl t), some (.inl x5), some (.inl x6), none, none] [] mem := by
    intro N
    induction N with
    | zero => intros; omega
    | succ N ih_6 =>
      intro x5 x6 i6_0 hN_6 
      refine Tx.iload hC te_216_6 rfl ?_
      refine Tx.aload_n hC te_216_8 rfl ?_
      refine Tx.iload_n hC te_216_9 rfl ?_
      refine Tx.virtI hC te_216_10 mt_13 (args := [.inr 1, .inl o]) (rest := [.inl x6]) (c' := 0) (s' := 0) rfl rfl rfl rfl rfl rfl rfl rfl rfl rfl ?_
      refine f_13q (by omega) (fun r1 r1e r1a r1b r1i => ?_)
      unfold InI at r1i
      refine Tx.icmp hC (t := 70) te_216_13 (by decide) (fun q4 => ?_) (fun q4 => ?_)
      · replace q4 : r1 ≤ (x6 : Int) := q4
        refine Tx.iload hC te_216_70 rfl ?_
        exact Tx.ireturn hC te_216_72 rfl (fun hr => show K x5 mem from H x5)
      · replace q4 : ¬ (r1 ≤ (x6 : Int)) := q4
        refine Tx.aload_n hC te_216_16 rfl ?_
        refine Tx.iload_n hC te_216_17 rfl ?_
        refine Tx.iload hC te_216_18 rfl ?_
        refine Tx.virtI hC te_216_20 mt_14 (args := [.inr 1, .inl o, .inl x6]) (rest := []) (c' := 0) (s' := 0) rfl rfl rfl rfl rfl rfl rfl rfl rfl rfl ?_
        refine f_14s hB (by omega) (by omega) (fun r5 r5e r5a r5b r5i => ?_)
        unfold InI at r5i
        refine Tx.istore hC te_216_23 rfl ?_
        refine Tx.iload hC te_216_25 rfl ?_
        refine Tx.aload_n hC te_216_27 rfl ?_
        refine Tx.iload_n hC te_216_28 rfl ?_
        refine Tx.iload hC te_216_29 rfl ?_
        refine Tx.virtI hC te_216_31 mt_15 (args := [.inr 1, .inl o, .inl x6]) (rest := [.inl t]) (c' := 0) (s' := 0) rfl rfl rfl rfl rfl rfl rfl rfl rfl rfl ?_
        refine f_15s hB (by omega) (by omega) (fun r8 r8e r8i => ?_)
        unfold InI at r8i
        refine Tx.isubW hC te_216_34 (fun z11 z11i z11e => ?_)
        unfold InI at z11i z11e
        first | replace z11e := z11e (by omega) | clear z11e
        refine Tx.istore hC te_216_35 rfl ?_
        refine Tx.iload hC te_216_37 rfl ?_
        refine Tx.ifc hC (t := 64) te_216_39 (by decide) (fun q12 => ?_) (fun q12 => ?_)
        · replace q12 : (r5 : Int) < 0 := q12
          refine Tx.iincW hC te_216_64 rfl rfl (fun z13 z13i z13e => ?_)
          unfold InI at z13i z13e
          first | replace z13e := z13e (by omega) | clear z13e
          refine Tx.goto hC (t := 6) te_216_67 (by decide) ?_
          exact Tx.weak (by repeat' (first | exact trivial | exact rfl | constructor)) (ih_6 x5 z13 (by omega) (by omega))
        · replace q12 : ¬ ((r5 : Int) < 0) := q12
          refine Tx.iload hC te_216_42 rfl ?_
          refine Tx.ifc hC (t := 64) te_216_44 (by decide) (fun q14 => ?_) (fun q14 => ?_)
          · replace q14 : (z11 : Int) < 0 := q14
            refine Tx.iincW hC te_216_64 rfl rfl (fun z15 z15i z15e => ?_)
            unfold InI at z15i z15e
            first | replace z15e := z15e (by omega) | clear z15e
            refine Tx.goto hC (t := 6) te_216_67 (by decide) ?_
            exact Tx.weak (by repeat' (first | exact trivial | exact rfl | constructor)) (ih_6 x5 z15 (by omega) (by omega))
          · replace q14 : ¬ ((z11 : Int) < 0) := q14
            refine Tx.iload hC te_216_47 rfl ?_
            refine Tx.aload_n hC te_216_49 rfl ?_
            refine Tx.aload_n hC te_216_50 rfl ?_
            refine Tx.aload_n hC te_216_51 rfl ?_
            refine Tx.iload hC te_216_52 rfl ?_
            refine Tx.iload hC te_216_54 rfl ?_
            refine Tx.virtI hC te_216_56 mt_217 (args := [.inr 141, .inr 1, .inr Q, .inl r5, .inl z11]) (rest := [.inl x5]) (c' := 0) (s' := 0) rfl rfl rfl rfl rfl rfl rfl rfl rfl rfl ?_
            refine f_217 hQ hO hB (by omega) (fun r16 r16i => ?_)
            unfold InI at r16i
            refine Tx.statI hC te_216_59 (by decide) mt_40 (args := [.inl x5, .inl r16]) (rest := []) (c' := 0) (s' := 0) rfl rfl rfl rfl rfl rfl rfl ?_
            refine f_40q (fun r19 r19a r19b r19c r19i => ?_)
            unfold InI at r19i
            refine Tx.istore hC te_216_62 rfl ?_
            refine Tx.iincW hC te_216_64 rfl rfl (fun z22 z22i z22e => ?_)
            unfold InI at z22i z22e
            first | replace z22e := z22e (by omega) | clear z22e
            refine Tx.goto hC (t := 6) te_216_67 (by decide) ?_
            exact Tx.weak (by repeat' (first | exact trivial | exact rfl | constructor)) (ih_6 r19 z22 (by omega) (by omega))
  refine Tx.iconst hC te_216_0 rfl ?_
  refine Tx.istore hC te_216_1 rfl ?_
  refine Tx.iconst hC te_216_3 rfl ?_
  refine Tx.istore hC te_216_4 rfl ?_
  exact l_6 _ 0 0 (by omega) (Nat.lt_succ_self _)
theorem f_164 {S : Nat × (Nat → Int32)} {n : Nat} {mem : MM} {K : Int → MM → Prop} {E : Nat → MM → Prop} {o t : Int} (ho : 0 ≤ o ∧ o < 8) (ht : t ≤ 39) (H : ∀ r, K r mem) : CQI (Ex S (n + 1)) 164 [.inr 134, .inr 1, .inl o, .inl t] mem K E := by
  refine CY.of (k := 0) mt_164 rfl rfl (fun hv => ?_)
  have hC := Ex.mono S n
  have ii_o : InI o := hv (.inl o) (by simp)
  unfold InI at ii_o
  have ii_t : InI t := hv (.inl t) (by simp)
  unfold InI at ii_t
  clear hv
  show Tx (Ex S n) S M_164 (kI K E) 0 0 0 [some (.inr 134), some (.inr 1), some (.inl o), some (.inl t)] [] mem
  refine Tx.iload_n hC te_164_0 rfl ?_
  refine Tx.ifc hC (t := 13) te_164_1 (by decide) (fun q1 => ?_) (fun q1 => ?_)
  · replace q1 : 0 ≤ (t : Int) := q1
    refine Tx.aload_n hC te_164_13 rfl ?_
    refine Tx.getR hC te_164_14 rfl rfl rfl ?_
    refine Tx.iload_n hC te_164_17 rfl ?_
    refine Tx.bipush hC te_164_18 rfl rfl ?_
    refine Tx.imulW hC te_164_20 (fun z2 z2i z2e => ?_)
    unfold InI at z2i z2e
    first | replace z2e := z2e (by omega) | clear z2e
    refine Tx.iload_n hC te_164_21 rfl ?_
    refine Tx.iaddW hC te_164_22 (fun z3 z3i z3e => ?_)
    unfold InI at z3i z3e
    first | replace z3e := z3e (by omega) | clear z3e
    refine Tx.iald hC te_164_23 rfl (by omega) (fun v4 v4e v4i => ?_)
    unfold InI at v4i
    exact Tx.ireturn hC te_164_24 rfl (fun hr => show K v4 mem from H v4)
  · replace q1 : ¬ (0 ≤ (t : Int)) := q1
    refine Tx.aload_n hC te_164_4 rfl ?_
    refine Tx.getR hC te_164_5 rfl rfl rfl ?_
    refine Tx.iload_n hC te_164_8 rfl ?_
    refine Tx.iald hC te_164_9 rfl (by omega) (fun v5 v5e v5i => ?_)
    unfold InI at v5i
    refine Tx.goto hC (t := 24) te_164_10 (by decide) ?_
    exact Tx.ireturn hC te_164_24 rfl (fun hr => show K v5 mem from H v5)
theorem f_163 {S : Nat × (Nat → Int32)} {n : Nat} {mem : MM} {K : Int → MM → Prop} {E : Nat → MM → Prop} (hB : BodyOK mem) {o w t : Int} (ho : 0 ≤ o ∧ o < 8) (hw : 0 ≤ w ∧ w < csN mem o.toNat) (ht : 0 ≤ t ∧ t ≤ 39) (H : ∀ r, K r mem) : CQI (Ex S (n + 2)) 163 [.inr 134, .inr 1, .inl o, .inl w, .inl t] mem K E := by
  refine CY.of (k := 2) mt_163 rfl rfl (fun hv => ?_)
  have hC := Ex.mono S (n + 1)
  have ii_o : InI o := hv (.inl o) (by simp)
  unfold InI at ii_o
  have ii_w : InI w := hv (.inl w) (by simp)
  unfold InI at ii_w
  have ii_t : InI t := hv (.inl t) (by simp)
  unfold InI at ii_t
  clear hv
  show Tx (Ex S (n + 1)) S M_163 (kI K E) 0 0 0 [some (.inr 134), some (.inr 1), some (.inl o), some (.inl w), some (.inl t), none, none] [] mem
  refine Tx.aload_n hC te_163_0 rfl ?_
  refine Tx.iload_n hC te_163_1 rfl ?_
  refine Tx.iload_n hC te_163_2 rfl ?_
  refine Tx.virtI hC te_163_3 mt_14 (args := [.inr 1, .inl o, .inl w]) (rest := []) (c' := 0) (s' := 0) rfl rfl rfl rfl rfl rfl rfl rfl rfl rfl ?_
  refine f_14s hB (by omega) (by omega) (fun r1 r1e r1a r1b r1i => ?_)
  unfold InI at r1i
  refine Tx.istore hC te_163_6 rfl ?_
  refine Tx.aload_n hC te_163_8 rfl ?_
  refine Tx.iload_n hC te_163_9 rfl ?_
  refine Tx.iload_n hC te_163_10 rfl ?_
  refine Tx.virtI hC te_163_11 mt_15 (args := [.inr 1, .inl o, .inl w]) (rest := []) (c' := 0) (s' := 0) rfl rfl rfl rfl rfl rfl rfl rfl rfl rfl ?_
  refine f_15s hB (by omega) (by omega) (fun r4 r4e r4i => ?_)
  unfold InI at r4i
  refine Tx.istore hC te_163_14 rfl ?_
  refine Tx.iload hC te_163_16 rfl ?_
  refine Tx.iconst hC te_163_18 rfl ?_
  refine Tx.icmp hC (t := 25) te_163_19 (by decide) (fun q7 => ?_) (fun q7 => ?_)
  · replace q7 : ¬ (r1 : Int) = (-1) := q7
    refine Tx.iload hC te_163_25 rfl ?_
    refine Tx.bipush hC te_163_27 rfl rfl ?_
    refine Tx.icmp hC (t := 35) te_163_29 (by decide) (fun q8 => ?_) (fun q8 => ?_)
    · replace q8 : ¬ (r1 : Int) = (-2) := q8
      refine Tx.aload_n hC te_163_35 rfl ?_
      refine Tx.aload_n hC te_163_36 rfl ?_
      refine Tx.iload hC te_163_37 rfl ?_
      refine Tx.iload hC te_163_39 rfl ?_
      refine Tx.iload hC te_163_41 rfl ?_
      refine Tx.isubW hC te_163_43 (fun z9 z9i z9e => ?_)
      unfold InI at z9i z9e
      first | replace z9e := z9e (by omega) | clear z9e
      refine Tx.virtI hC te_163_44 mt_164 (args := [.inr 134, .inr 1, .inl r1, .inl z9]) (rest := []) (c' := 0) (s' := 0) rfl rfl rfl rfl rfl rfl rfl rfl rfl rfl ?_
      refine f_164 (by omega) (by omega) (fun r10 r10i => ?_)
      unfold InI at r10i
      exact Tx.ireturn hC te_163_47 rfl (fun hr => show K r10 mem from H r10)
    · replace q8 : ¬ (¬ (r1 : Int) = (-2)) := q8
      refine Tx.iload hC te_163_32 rfl ?_
      exact Tx.ireturn hC te_163_34 rfl (fun hr => show K r4 mem from H r4)
  · replace q7 : ¬ (¬ (r1 : Int) = (-1)) := q7
    refine Tx.iload hC te_163_22 rfl ?_
    exact Tx.ireturn hC te_163_24 rfl (fun hr => show K t mem from H t)
theorem f_57 {S : Nat × (Nat → Int32)} {n : Nat} {mem : MM} {K : MM → Prop} {E : Nat → MM → Prop} {o : Int} (H : 0 ≤ o → o < mem 1 0 → K mem) (HE : E 2 mem) : CQV (Ex S (n + 1)) 57 [.inr 0, .inl o] mem K E := by
  refine CY.of (k := 0) mt_57 rfl rfl (fun hv => ?_)
  have hC := Ex.mono S n
  have ii_o : InI o := hv (.inl o) (by simp)
  unfold InI at ii_o
  clear hv
  show Tx (Ex S n) S M_57 (kV K E) 0 0 0 [some (.inr 0), some (.inl o)] [] mem
  refine Tx.iload_n hC te_57_0 rfl ?_
  refine Tx.ifc hC (t := 15) te_57_1 (by decide) (fun q1 => ?_) (fun q1 => ?_)
  · replace q1 : (o : Int) < 0 := q1
    exact Tx.thr hC te_57_15 rfl rfl rfl rfl rfl (show E 2 mem from HE)
  · replace q1 : ¬ ((o : Int) < 0) := q1
    refine Tx.iload_n hC te_57_4 rfl ?_
    refine Tx.aload_n hC te_57_5 rfl ?_
    refine Tx.getR hC te_57_6 rfl rfl rfl ?_
    refine Tx.getI hC te_57_9 rfl rfl rfl (fun v2 v2e v2i => ?_)
    unfold InI at v2i
    refine Tx.icmp hC (t := 26) te_57_12 (by decide) (fun q3 => ?_) (fun q3 => ?_)
    · replace q3 : (o : Int) < v2 := q3
      exact Tx.vret hC te_57_26 rfl (show K mem from H (by omega) (by omega))
    · replace q3 : ¬ ((o : Int) < v2) := q3
      exact Tx.thr hC te_57_15 rfl rfl rfl rfl rfl (show E 2 mem from HE)
theorem f_60 {S : Nat × (Nat → Int32)} {n : Nat} {mem : MM} {K : MM → Prop} {E : Nat → MM → Prop} {o : Int} (H : 0 ≤ o → o < 6 → K mem) (HE : E 2 mem) : CQV (Ex S (n + 1)) 60 [.inr 0, .inl o] mem K E := by
  refine CY.of (k := 0) mt_60 rfl rfl (fun hv => ?_)
  have hC := Ex.mono S n
  have ii_o : InI o := hv (.inl o) (by simp)
  unfold InI at ii_o
  clear hv
  show Tx (Ex S n) S M_60 (kV K E) 0 0 0 [some (.inr 0), some (.inl o)] [] mem
  refine Tx.iload_n hC te_60_0 rfl ?_
  refine Tx.ifc hC (t := 10) te_60_1 (by decide) (fun q1 => ?_) (fun q1 => ?_)
  · replace q1 : (o : Int) < 0 := q1
    exact Tx.thr hC te_60_10 rfl rfl rfl rfl rfl (show E 2 mem from HE)
  · replace q1 : ¬ ((o : Int) < 0) := q1
    refine Tx.iload_n hC te_60_4 rfl ?_
    refine Tx.bipush hC te_60_5 rfl rfl ?_
    refine Tx.icmp hC (t := 21) te_60_7 (by decide) (fun q2 => ?_) (fun q2 => ?_)
    · replace q2 : (o : Int) < 6 := q2
      exact Tx.vret hC te_60_21 rfl (show K mem from H (by omega) (by omega))
    · replace q2 : ¬ ((o : Int) < 6) := q2
      exact Tx.thr hC te_60_10 rfl rfl rfl rfl rfl (show E 2 mem from HE)
theorem f_63 {S : Nat × (Nat → Int32)} {n : Nat} {mem : MM} {K : MM → Prop} {E : Nat → MM → Prop} {o : Int} (H : 0 ≤ o → o < 3 → K mem) (HE : E 2 mem) : CQV (Ex S (n + 1)) 63 [.inr 0, .inl o] mem K E := by
  refine CY.of (k := 0) mt_63 rfl rfl (fun hv => ?_)
  have hC := Ex.mono S n
  have ii_o : InI o := hv (.inl o) (by simp)
  unfold InI at ii_o
  clear hv
  show Tx (Ex S n) S M_63 (kV K E) 0 0 0 [some (.inr 0), some (.inl o)] [] mem
  refine Tx.iload_n hC te_63_0 rfl ?_
  refine Tx.ifc hC (t := 9) te_63_1 (by decide) (fun q1 => ?_) (fun q1 => ?_)
  · replace q1 : (o : Int) < 0 := q1
    exact Tx.thr hC te_63_9 rfl rfl rfl rfl rfl (show E 2 mem from HE)
  · replace q1 : ¬ ((o : Int) < 0) := q1
    refine Tx.iload_n hC te_63_4 rfl ?_
    refine Tx.iconst hC te_63_5 rfl ?_
    refine Tx.icmp hC (t := 20) te_63_6 (by decide) (fun q2 => ?_) (fun q2 => ?_)
    · replace q2 : (o : Int) < 3 := q2
      exact Tx.vret hC te_63_20 rfl (show K mem from H (by omega) (by omega))
    · replace q2 : ¬ ((o : Int) < 3) := q2
      exact Tx.thr hC te_63_9 rfl rfl rfl rfl rfl (show E 2 mem from HE)
theorem f_66 {S : Nat × (Nat → Int32)} {n : Nat} {mem : MM} {K : MM → Prop} {E : Nat → MM → Prop} {o l : Int} (H : 0 ≤ o → o ≤ l → K mem) (HE : E 3 mem) : CQV (Ex S (n + 1)) 66 [.inl o, .inl l] mem K E := by
  refine CY.of (k := 0) mt_66 rfl rfl (fun hv => ?_)
  have hC := Ex.mono S n
  have ii_o : InI o := hv (.inl o) (by simp)
  unfold InI at ii_o
  have ii_l : InI l := hv (.inl l) (by simp)
  unfold InI at ii_l
  clear hv
  show Tx (Ex S n) S M_66 (kV K E) 0 0 0 [some (.inl o), some (.inl l)] [] mem
  refine Tx.iload_n hC te_66_0 rfl ?_
  refine Tx.ifc hC (t := 9) te_66_1 (by decide) (fun q1 => ?_) (fun q1 => ?_)
  · replace q1 : (o : Int) < 0 := q1
    exact Tx.thr hC te_66_9 rfl rfl rfl rfl rfl (show E 3 mem from HE)
  · replace q1 : ¬ ((o : Int) < 0) := q1
    refine Tx.iload_n hC te_66_4 rfl ?_
    refine Tx.iload_n hC te_66_5 rfl ?_
    refine Tx.icmp hC (t := 20) te_66_6 (by decide) (fun q2 => ?_) (fun q2 => ?_)
    · replace q2 : (o : Int) ≤ l := q2
      exact Tx.vret hC te_66_20 rfl (show K mem from H (by omega) (by omega))
    · replace q2 : ¬ ((o : Int) ≤ l) := q2
      exact Tx.thr hC te_66_9 rfl rfl rfl rfl rfl (show E 3 mem from HE)
theorem f_70 {S : Nat × (Nat → Int32)} {n : Nat} {mem : MM} {K : MM → Prop} {E : Nat → MM → Prop} {o : Int} (H : 0 ≤ o → o < mem 9 0 → K mem) (HE : E 2 mem) : CQV (Ex S (n + 1)) 70 [.inr 0, .inl o] mem K E := by
  refine CY.of (k := 0) mt_70 rfl rfl (fun hv => ?_)
  have hC := Ex.mono S n
  have ii_o : InI o := hv (.inl o) (by simp)
  unfold InI at ii_o
  clear hv
  show Tx (Ex S n) S M_70 (kV K E) 0 0 0 [some (.inr 0), some (.inl o)] [] mem
  refine Tx.iload_n hC te_70_0 rfl ?_
  refine Tx.ifc hC (t := 15) te_70_1 (by decide) (fun q1 => ?_) (fun q1 => ?_)
  · replace q1 : (o : Int) < 0 := q1
    exact Tx.thr hC te_70_15 rfl rfl rfl rfl rfl (show E 2 mem from HE)
  · replace q1 : ¬ ((o : Int) < 0) := q1
    refine Tx.iload_n hC te_70_4 rfl ?_
    refine Tx.aload_n hC te_70_5 rfl ?_
    refine Tx.getR hC te_70_6 rfl rfl rfl ?_
    refine Tx.getI hC te_70_9 rfl rfl rfl (fun v2 v2e v2i => ?_)
    unfold InI at v2i
    refine Tx.icmp hC (t := 26) te_70_12 (by decide) (fun q3 => ?_) (fun q3 => ?_)
    · replace q3 : (o : Int) < v2 := q3
      exact Tx.vret hC te_70_26 rfl (show K mem from H (by omega) (by omega))
    · replace q3 : ¬ ((o : Int) < v2) := q3
      exact Tx.thr hC te_70_15 rfl rfl rfl rfl rfl (show E 2 mem from HE)
theorem f_74 {S : Nat × (Nat → Int32)} {n : Nat} {mem : MM} {K : MM → Prop} {E : Nat → MM → Prop} {d : Int} (H : 1 ≤ d → d ≤ 12 → K mem) (HE : E 0 mem) : CQV (Ex S (n + 1)) 74 [.inl d] mem K E := by
  refine CY.of (k := 0) mt_74 rfl rfl (fun hv => ?_)
  have hC := Ex.mono S n
  have ii_d : InI d := hv (.inl d) (by simp)
  unfold InI at ii_d
  clear hv
  show Tx (Ex S n) S M_74 (kV K E) 0 0 0 [some (.inl d)] [] mem
  refine Tx.iload_n hC te_74_0 rfl ?_
  refine Tx.iconst hC te_74_1 rfl ?_
  refine Tx.icmp hC (t := 11) te_74_2 (by decide) (fun q1 => ?_) (fun q1 => ?_)
  · replace q1 : (d : Int) < 1 := q1
    exact Tx.thr hC te_74_11 rfl rfl rfl rfl rfl (show E 0 mem from HE)
  · replace q1 : ¬ ((d : Int) < 1) := q1
    refine Tx.iload_n hC te_74_5 rfl ?_
    refine Tx.bipush hC te_74_6 rfl rfl ?_
    refine Tx.icmp hC (t := 22) te_74_8 (by decide) (fun q2 => ?_) (fun q2 => ?_)
    · replace q2 : (d : Int) ≤ 12 := q2
      exact Tx.vret hC te_74_22 rfl (show K mem from H (by omega) (by omega))
    · replace q2 : ¬ ((d : Int) ≤ 12) := q2
      exact Tx.thr hC te_74_11 rfl rfl rfl rfl rfl (show E 0 mem from HE)
theorem f_118 {S : Nat × (Nat → Int32)} {n : Nat} {mem : MM} {K : MM → Prop} {E : Nat → MM → Prop} {o d : Int} (H : 0 ≤ o → o < d → K mem) (HE : E 0 mem) : CQV (Ex S (n + 1)) 118 [.inl o, .inl d] mem K E := by
  refine CY.of (k := 0) mt_118 rfl rfl (fun hv => ?_)
  have hC := Ex.mono S n
  have ii_o : InI o := hv (.inl o) (by simp)
  unfold InI at ii_o
  have ii_d : InI d := hv (.inl d) (by simp)
  unfold InI at ii_d
  clear hv
  show Tx (Ex S n) S M_118 (kV K E) 0 0 0 [some (.inl o), some (.inl d)] [] mem
  refine Tx.iload_n hC te_118_0 rfl ?_
  refine Tx.ifc hC (t := 9) te_118_1 (by decide) (fun q1 => ?_) (fun q1 => ?_)
  · replace q1 : (o : Int) < 0 := q1
    exact Tx.thr hC te_118_9 rfl rfl rfl rfl rfl (show E 0 mem from HE)
  · replace q1 : ¬ ((o : Int) < 0) := q1
    refine Tx.iload_n hC te_118_4 rfl ?_
    refine Tx.iload_n hC te_118_5 rfl ?_
    refine Tx.icmp hC (t := 20) te_118_6 (by decide) (fun q2 => ?_) (fun q2 => ?_)
    · replace q2 : (o : Int) < d := q2
      exact Tx.vret hC te_118_20 rfl (show K mem from H (by omega) (by omega))
    · replace q2 : ¬ ((o : Int) < d) := q2
      exact Tx.thr hC te_118_9 rfl rfl rfl rfl rfl (show E 0 mem from HE)
theorem f_151 {S : Nat × (Nat → Int32)} {n : Nat} {mem : MM} {K : MM → Prop} {E : Nat → MM → Prop} {t : Int} (H : 0 ≤ t → t ≤ 40 → K mem) (HE : E 0 mem) : CQV (Ex S (n + 1)) 151 [.inl t] mem K E := by
  refine CY.of (k := 0) mt_151 rfl rfl (fun hv => ?_)
  have hC := Ex.mono S n
  have ii_t : InI t := hv (.inl t) (by simp)
  unfold InI at ii_t
  clear hv
  show Tx (Ex S n) S M_151 (kV K E) 0 0 0 [some (.inl t)] [] mem
  refine Tx.iload_n hC te_151_0 rfl ?_
  refine Tx.ifc hC (t := 10) te_151_1 (by decide) (fun q1 => ?_) (fun q1 => ?_)
  · replace q1 : (t : Int) < 0 := q1
    exact Tx.thr hC te_151_10 rfl rfl rfl rfl rfl (show E 0 mem from HE)
  · replace q1 : ¬ ((t : Int) < 0) := q1
    refine Tx.iload_n hC te_151_4 rfl ?_
    refine Tx.bipush hC te_151_5 rfl rfl ?_
    refine Tx.icmp hC (t := 21) te_151_7 (by decide) (fun q2 => ?_) (fun q2 => ?_)
    · replace q2 : (t : Int) ≤ 40 := q2
      exact Tx.vret hC te_151_21 rfl (show K mem from H (by omega) (by omega))
    · replace q2 : ¬ ((t : Int) ≤ 40) := q2
      exact Tx.thr hC te_151_10 rfl rfl rfl rfl rfl (show E 0 mem from HE)
theorem f_160 {S : Nat × (Nat → Int32)} {n : Nat} {mem : MM} {K : MM → Prop} {E : Nat → MM → Prop} {r p : Int} (H : 0 ≤ r ∧ r ≤ 1 → 0 ≤ p ∧ p < 64 → K mem) (HE : E 0 mem) : CQV (Ex S (n + 1)) 160 [.inl r, .inl p] mem K E := by
  refine CY.of (k := 0) mt_160 rfl rfl (fun hv => ?_)
  have hC := Ex.mono S n
  have ii_r : InI r := hv (.inl r) (by simp)
  unfold InI at ii_r
  have ii_p : InI p := hv (.inl p) (by simp)
  unfold InI at ii_p
  clear hv
  show Tx (Ex S n) S M_160 (kV K E) 0 0 0 [some (.inl r), some (.inl p)] [] mem
  refine Tx.iload_n hC te_160_0 rfl ?_
  refine Tx.ifc hC (t := 19) te_160_1 (by decide) (fun q1 => ?_) (fun q1 => ?_)
  · replace q1 : (r : Int) < 0 := q1
    exact Tx.thr hC te_160_19 rfl rfl rfl rfl rfl (show E 0 mem from HE)
  · replace q1 : ¬ ((r : Int) < 0) := q1
    refine Tx.iload_n hC te_160_4 rfl ?_
    refine Tx.iconst hC te_160_5 rfl ?_
    refine Tx.icmp hC (t := 19) te_160_6 (by decide) (fun q2 => ?_) (fun q2 => ?_)
    · replace q2 : 1 < (r : Int) := q2
      exact Tx.thr hC te_160_19 rfl rfl rfl rfl rfl (show E 0 mem from HE)
    · replace q2 : ¬ (1 < (r : Int)) := q2
      refine Tx.iload_n hC te_160_9 rfl ?_
      refine Tx.ifc hC (t := 19) te_160_10 (by decide) (fun q3 => ?_) (fun q3 => ?_)
      · replace q3 : (p : Int) < 0 := q3
        exact Tx.thr hC te_160_19 rfl rfl rfl rfl rfl (show E 0 mem from HE)
      · replace q3 : ¬ ((p : Int) < 0) := q3
        refine Tx.iload_n hC te_160_13 rfl ?_
        refine Tx.bipush hC te_160_14 rfl rfl ?_
        refine Tx.icmp hC (t := 29) te_160_16 (by decide) (fun q4 => ?_) (fun q4 => ?_)
        · replace q4 : (p : Int) < 64 := q4
          exact Tx.vret hC te_160_29 rfl (show K mem from H (by omega) (by omega))
        · replace q4 : ¬ ((p : Int) < 64) := q4
          exact Tx.thr hC te_160_19 rfl rfl rfl rfl rfl (show E 0 mem from HE)
theorem f_167 {S : Nat × (Nat → Int32)} {n : Nat} {mem : MM} {K : MM → Prop} {E : Nat → MM → Prop} {o : Int} (ho : 0 ≤ o ∧ o < 8) (H : ¬ mem 2 o.toNat = 5 → K mem) (HE : E 0 mem) : CQV (Ex S (n + 1)) 167 [.inr 0, .inl o] mem K E := by
  refine CY.of (k := 0) mt_167 rfl rfl (fun hv => ?_)
  have hC := Ex.mono S n
  have ii_o : InI o := hv (.inl o) (by simp)
  unfold InI at ii_o
  clear hv
  show Tx (Ex S n) S M_167 (kV K E) 0 0 0 [some (.inr 0), some (.inl o)] [] mem
  refine Tx.aload_n hC te_167_0 rfl ?_
  refine Tx.getR hC te_167_1 rfl rfl rfl ?_
  refine Tx.getR hC te_167_4 rfl rfl rfl ?_
  refine Tx.iload_n hC te_167_7 rfl ?_
  refine Tx.iald hC te_167_8 rfl (by omega) (fun v1 v1e v1i => ?_)
  unfold InI at v1i
  refine Tx.iconst hC te_167_9 rfl ?_
  refine Tx.icmp hC (t := 24) te_167_10 (by decide) (fun q2 => ?_) (fun q2 => ?_)
  · replace q2 : ¬ (v1 : Int) = 5 := q2
    exact Tx.vret hC te_167_24 rfl (show K mem from H (by omega))
  · replace q2 : ¬ (¬ (v1 : Int) = 5) := q2
    exact Tx.thr hC te_167_13 rfl rfl rfl rfl rfl (show E 0 mem from HE)
