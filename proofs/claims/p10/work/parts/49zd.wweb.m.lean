section
/-! laid by wip/hand/wxg.py: the web of the class: what the paths of methods ask for -/
def WebSh (W : Nat) : Prop := shA W = some (.inr (7, [none, some (W + 1), some (W + 2), some (W + 3), some (W + 4), none, none, none])) ∧ shA (W + 1) = some (.inl 64) ∧ shA (W + 2) = some (.inl 64) ∧ shA (W + 3) = some (.inl 64) ∧ shA (W + 4) = some (.inl 64)
set_option maxRecDepth 100000 in
theorem mt_13 : MT[13]? = some M_13 := rfl
set_option maxRecDepth 100000 in
theorem mt_14 : MT[14]? = some M_14 := rfl
set_option maxRecDepth 100000 in
theorem mt_15 : MT[15]? = some M_15 := rfl
set_option maxRecDepth 100000 in
theorem mt_17 : MT[17]? = some M_17 := rfl
set_option maxRecDepth 100000 in
theorem mt_18 : MT[18]? = some M_18 := rfl
set_option maxRecDepth 100000 in
theorem mt_19 : MT[19]? = some M_19 := rfl
set_option maxRecDepth 100000 in
theorem mt_20 : MT[20]? = some M_20 := rfl
set_option maxRecDepth 100000 in
theorem mt_21 : MT[21]? = some M_21 := rfl
set_option maxRecDepth 100000 in
theorem mt_22 : MT[22]? = some M_22 := rfl
set_option maxRecDepth 100000 in
theorem mt_23 : MT[23]? = some M_23 := rfl
set_option maxRecDepth 100000 in
theorem mt_24 : MT[24]? = some M_24 := rfl
set_option maxRecDepth 100000 in
theorem mt_25 : MT[25]? = some M_25 := rfl
set_option maxRecDepth 100000 in
theorem mt_37 : MT[37]? = some M_37 := rfl
set_option maxRecDepth 100000 in
theorem mt_38 : MT[38]? = some M_38 := rfl
theorem te_13_0 : (pT M_13).find? (fun e => e.1 == 0) = some (0, .aload_n 0, 0, 0) := rfl
theorem te_13_1 : (pT M_13).find? (fun e => e.1 == 1) = some (1, .getfield 9, 0, 1) := rfl
theorem te_13_4 : (pT M_13).find? (fun e => e.1 == 4) = some (4, .iload_n 1, 0, 0) := rfl
theorem te_13_5 : (pT M_13).find? (fun e => e.1 == 5) = some (5, .iaload, 0, 0) := rfl
theorem te_13_6 : (pT M_13).find? (fun e => e.1 == 6) = some (6, .iconst 4, 0, 0) := rfl
theorem te_13_7 : (pT M_13).find? (fun e => e.1 == 7) = some (7, .if_icmp .ne 5, 0, 0) := rfl
theorem te_13_10 : (pT M_13).find? (fun e => e.1 == 10) = some (10, .iconst 0, 0, 0) := rfl
theorem te_13_11 : (pT M_13).find? (fun e => e.1 == 11) = some (11, .ireturn, 0, 0) := rfl
theorem te_13_12 : (pT M_13).find? (fun e => e.1 == 12) = some (12, .aload_n 0, 0, 0) := rfl
theorem te_13_13 : (pT M_13).find? (fun e => e.1 == 13) = some (13, .getfield 9, 0, 1) := rfl
theorem te_13_16 : (pT M_13).find? (fun e => e.1 == 16) = some (16, .iload_n 1, 0, 0) := rfl
theorem te_13_17 : (pT M_13).find? (fun e => e.1 == 17) = some (17, .iaload, 0, 0) := rfl
theorem te_13_18 : (pT M_13).find? (fun e => e.1 == 18) = some (18, .iconst 5, 0, 0) := rfl
theorem te_13_19 : (pT M_13).find? (fun e => e.1 == 19) = some (19, .if_icmp .ne 7, 0, 0) := rfl
theorem te_13_22 : (pT M_13).find? (fun e => e.1 == 22) = some (22, .iconst 1, 0, 0) := rfl
theorem te_13_23 : (pT M_13).find? (fun e => e.1 == 23) = some (23, .goto 4, 0, 0) := rfl
theorem te_13_26 : (pT M_13).find? (fun e => e.1 == 26) = some (26, .iconst 2, 0, 0) := rfl
theorem te_13_27 : (pT M_13).find? (fun e => e.1 == 27) = some (27, .ireturn, 0, 0) := rfl
theorem te_14_0 : (pT M_14).find? (fun e => e.1 == 0) = some (0, .aload_n 0, 0, 0) := rfl
theorem te_14_1 : (pT M_14).find? (fun e => e.1 == 1) = some (1, .getfield 15, 0, 2) := rfl
theorem te_14_4 : (pT M_14).find? (fun e => e.1 == 4) = some (4, .iload_n 1, 0, 0) := rfl
theorem te_14_5 : (pT M_14).find? (fun e => e.1 == 5) = some (5, .iconst 4, 0, 0) := rfl
theorem te_14_6 : (pT M_14).find? (fun e => e.1 == 6) = some (6, .imul, 0, 0) := rfl
theorem te_14_7 : (pT M_14).find? (fun e => e.1 == 7) = some (7, .iload_n 2, 0, 0) := rfl
theorem te_14_8 : (pT M_14).find? (fun e => e.1 == 8) = some (8, .iconst 2, 0, 0) := rfl
theorem te_14_9 : (pT M_14).find? (fun e => e.1 == 9) = some (9, .imul, 0, 0) := rfl
theorem te_14_10 : (pT M_14).find? (fun e => e.1 == 10) = some (10, .iadd, 0, 0) := rfl
theorem te_14_11 : (pT M_14).find? (fun e => e.1 == 11) = some (11, .iaload, 0, 0) := rfl
theorem te_14_12 : (pT M_14).find? (fun e => e.1 == 12) = some (12, .ireturn, 0, 0) := rfl
theorem te_15_0 : (pT M_15).find? (fun e => e.1 == 0) = some (0, .aload_n 0, 0, 0) := rfl
theorem te_15_1 : (pT M_15).find? (fun e => e.1 == 1) = some (1, .getfield 15, 0, 2) := rfl
theorem te_15_4 : (pT M_15).find? (fun e => e.1 == 4) = some (4, .iload_n 1, 0, 0) := rfl
theorem te_15_5 : (pT M_15).find? (fun e => e.1 == 5) = some (5, .iconst 4, 0, 0) := rfl
theorem te_15_6 : (pT M_15).find? (fun e => e.1 == 6) = some (6, .imul, 0, 0) := rfl
theorem te_15_7 : (pT M_15).find? (fun e => e.1 == 7) = some (7, .iload_n 2, 0, 0) := rfl
theorem te_15_8 : (pT M_15).find? (fun e => e.1 == 8) = some (8, .iconst 2, 0, 0) := rfl
theorem te_15_9 : (pT M_15).find? (fun e => e.1 == 9) = some (9, .imul, 0, 0) := rfl
theorem te_15_10 : (pT M_15).find? (fun e => e.1 == 10) = some (10, .iadd, 0, 0) := rfl
theorem te_15_11 : (pT M_15).find? (fun e => e.1 == 11) = some (11, .iconst 1, 0, 0) := rfl
theorem te_15_12 : (pT M_15).find? (fun e => e.1 == 12) = some (12, .iadd, 0, 0) := rfl
theorem te_15_13 : (pT M_15).find? (fun e => e.1 == 13) = some (13, .iaload, 0, 0) := rfl
theorem te_15_14 : (pT M_15).find? (fun e => e.1 == 14) = some (14, .ireturn, 0, 0) := rfl
theorem te_17_0 : (pT M_17).find? (fun e => e.1 == 0) = some (0, .aload_n 0, 0, 0) := rfl
theorem te_17_1 : (pT M_17).find? (fun e => e.1 == 1) = some (1, .iconst 0, 0, 0) := rfl
theorem te_17_2 : (pT M_17).find? (fun e => e.1 == 2) = some (2, .putfield 35, 7, 0) := rfl
theorem te_17_5 : (pT M_17).find? (fun e => e.1 == 5) = some (5, .iconst 0, 0, 0) := rfl
theorem te_17_6 : (pT M_17).find? (fun e => e.1 == 6) = some (6, .istore_n 3, 0, 0) := rfl
theorem te_17_7 : (pT M_17).find? (fun e => e.1 == 7) = some (7, .iload_n 3, 0, 0) := rfl
theorem te_17_8 : (pT M_17).find? (fun e => e.1 == 8) = some (8, .aload_n 1, 0, 0) := rfl
theorem te_17_9 : (pT M_17).find? (fun e => e.1 == 9) = some (9, .getfield 38, 0, 0) := rfl
theorem te_17_12 : (pT M_17).find? (fun e => e.1 == 12) = some (12, .if_icmp .ge 63, 0, 0) := rfl
theorem te_17_15 : (pT M_17).find? (fun e => e.1 == 15) = some (15, .iconst 0, 0, 0) := rfl
theorem te_17_16 : (pT M_17).find? (fun e => e.1 == 16) = some (16, .istore 4, 0, 0) := rfl
theorem te_17_18 : (pT M_17).find? (fun e => e.1 == 18) = some (18, .iload 4, 0, 0) := rfl
theorem te_17_20 : (pT M_17).find? (fun e => e.1 == 20) = some (20, .aload_n 1, 0, 0) := rfl
theorem te_17_21 : (pT M_17).find? (fun e => e.1 == 21) = some (21, .iload_n 3, 0, 0) := rfl
theorem te_17_22 : (pT M_17).find? (fun e => e.1 == 22) = some (22, .invokevirtual 41, 13, 1) := rfl
theorem te_17_25 : (pT M_17).find? (fun e => e.1 == 25) = some (25, .if_icmp .ge 44, 0, 0) := rfl
theorem te_17_28 : (pT M_17).find? (fun e => e.1 == 28) = some (28, .aload_n 1, 0, 0) := rfl
theorem te_17_29 : (pT M_17).find? (fun e => e.1 == 29) = some (29, .iload_n 3, 0, 0) := rfl
theorem te_17_30 : (pT M_17).find? (fun e => e.1 == 30) = some (30, .iload 4, 0, 0) := rfl
theorem te_17_32 : (pT M_17).find? (fun e => e.1 == 32) = some (32, .invokevirtual 45, 14, 1) := rfl
theorem te_17_35 : (pT M_17).find? (fun e => e.1 == 35) = some (35, .istore 5, 0, 0) := rfl
theorem te_17_37 : (pT M_17).find? (fun e => e.1 == 37) = some (37, .iload 5, 0, 0) := rfl
theorem te_17_39 : (pT M_17).find? (fun e => e.1 == 39) = some (39, .ifCond .lt 24, 0, 0) := rfl
theorem te_17_42 : (pT M_17).find? (fun e => e.1 == 42) = some (42, .aload_n 0, 0, 0) := rfl
theorem te_17_43 : (pT M_17).find? (fun e => e.1 == 43) = some (43, .iload 5, 0, 0) := rfl
theorem te_17_45 : (pT M_17).find? (fun e => e.1 == 45) = some (45, .iload_n 3, 0, 0) := rfl
theorem te_17_46 : (pT M_17).find? (fun e => e.1 == 46) = some (46, .aload_n 1, 0, 0) := rfl
theorem te_17_47 : (pT M_17).find? (fun e => e.1 == 47) = some (47, .iload_n 3, 0, 0) := rfl
theorem te_17_48 : (pT M_17).find? (fun e => e.1 == 48) = some (48, .iload 4, 0, 0) := rfl
theorem te_17_50 : (pT M_17).find? (fun e => e.1 == 50) = some (50, .invokevirtual 48, 15, 1) := rfl
theorem te_17_53 : (pT M_17).find? (fun e => e.1 == 53) = some (53, .aload_n 1, 0, 0) := rfl
theorem te_17_54 : (pT M_17).find? (fun e => e.1 == 54) = some (54, .iload 5, 0, 0) := rfl
theorem te_17_56 : (pT M_17).find? (fun e => e.1 == 56) = some (56, .iload_n 2, 0, 0) := rfl
theorem te_17_57 : (pT M_17).find? (fun e => e.1 == 57) = some (57, .invokestatic 51, 18, 2) := rfl
theorem te_17_60 : (pT M_17).find? (fun e => e.1 == 60) = some (60, .invokevirtual 55, 20, 0) := rfl
theorem te_17_63 : (pT M_17).find? (fun e => e.1 == 63) = some (63, .iinc 4 1, 0, 0) := rfl
theorem te_17_66 : (pT M_17).find? (fun e => e.1 == 66) = some (66, .goto (-48), 0, 0) := rfl
theorem te_17_69 : (pT M_17).find? (fun e => e.1 == 69) = some (69, .iinc 3 1, 0, 0) := rfl
theorem te_17_72 : (pT M_17).find? (fun e => e.1 == 72) = some (72, .goto (-65), 0, 0) := rfl
theorem te_17_75 : (pT M_17).find? (fun e => e.1 == 75) = some (75, .iconst 0, 0, 0) := rfl
theorem te_17_76 : (pT M_17).find? (fun e => e.1 == 76) = some (76, .istore_n 3, 0, 0) := rfl
theorem te_17_77 : (pT M_17).find? (fun e => e.1 == 77) = some (77, .iload_n 3, 0, 0) := rfl
theorem te_17_78 : (pT M_17).find? (fun e => e.1 == 78) = some (78, .aload_n 1, 0, 0) := rfl
theorem te_17_79 : (pT M_17).find? (fun e => e.1 == 79) = some (79, .getfield 38, 0, 0) := rfl
theorem te_17_82 : (pT M_17).find? (fun e => e.1 == 82) = some (82, .if_icmp .ge 38, 0, 0) := rfl
theorem te_17_85 : (pT M_17).find? (fun e => e.1 == 85) = some (85, .iload_n 3, 0, 0) := rfl
theorem te_17_86 : (pT M_17).find? (fun e => e.1 == 86) = some (86, .iconst 1, 0, 0) := rfl
theorem te_17_87 : (pT M_17).find? (fun e => e.1 == 87) = some (87, .iadd, 0, 0) := rfl
theorem te_17_88 : (pT M_17).find? (fun e => e.1 == 88) = some (88, .istore 4, 0, 0) := rfl
theorem te_17_90 : (pT M_17).find? (fun e => e.1 == 90) = some (90, .iload 4, 0, 0) := rfl
theorem te_17_92 : (pT M_17).find? (fun e => e.1 == 92) = some (92, .aload_n 1, 0, 0) := rfl
theorem te_17_93 : (pT M_17).find? (fun e => e.1 == 93) = some (93, .getfield 38, 0, 0) := rfl
theorem te_17_96 : (pT M_17).find? (fun e => e.1 == 96) = some (96, .if_icmp .ge 18, 0, 0) := rfl
theorem te_17_99 : (pT M_17).find? (fun e => e.1 == 99) = some (99, .aload_n 0, 0, 0) := rfl
theorem te_17_100 : (pT M_17).find? (fun e => e.1 == 100) = some (100, .aload_n 1, 0, 0) := rfl
theorem te_17_101 : (pT M_17).find? (fun e => e.1 == 101) = some (101, .iload_n 3, 0, 0) := rfl
theorem te_17_102 : (pT M_17).find? (fun e => e.1 == 102) = some (102, .iload 4, 0, 0) := rfl
theorem te_17_104 : (pT M_17).find? (fun e => e.1 == 104) = some (104, .iload_n 2, 0, 0) := rfl
theorem te_17_105 : (pT M_17).find? (fun e => e.1 == 105) = some (105, .invokevirtual 59, 23, 0) := rfl
theorem te_17_108 : (pT M_17).find? (fun e => e.1 == 108) = some (108, .iinc 4 1, 0, 0) := rfl
theorem te_17_111 : (pT M_17).find? (fun e => e.1 == 111) = some (111, .goto (-21), 0, 0) := rfl
theorem te_17_114 : (pT M_17).find? (fun e => e.1 == 114) = some (114, .iinc 3 1, 0, 0) := rfl
theorem te_17_117 : (pT M_17).find? (fun e => e.1 == 117) = some (117, .goto (-40), 0, 0) := rfl
theorem te_17_120 : (pT M_17).find? (fun e => e.1 == 120) = some (120, .return_, 0, 0) := rfl
theorem te_18_0 : (pT M_18).find? (fun e => e.1 == 0) = some (0, .aload_n 0, 0, 0) := rfl
theorem te_18_1 : (pT M_18).find? (fun e => e.1 == 1) = some (1, .iload_n 1, 0, 0) := rfl
theorem te_18_2 : (pT M_18).find? (fun e => e.1 == 2) = some (2, .invokevirtual 63, 19, 1) := rfl
theorem te_18_5 : (pT M_18).find? (fun e => e.1 == 5) = some (5, .istore_n 3, 0, 0) := rfl
theorem te_18_6 : (pT M_18).find? (fun e => e.1 == 6) = some (6, .aload_n 0, 0, 0) := rfl
theorem te_18_7 : (pT M_18).find? (fun e => e.1 == 7) = some (7, .getfield 66, 0, 1) := rfl
theorem te_18_10 : (pT M_18).find? (fun e => e.1 == 10) = some (10, .iload_n 1, 0, 0) := rfl
theorem te_18_11 : (pT M_18).find? (fun e => e.1 == 11) = some (11, .iaload, 0, 0) := rfl
theorem te_18_12 : (pT M_18).find? (fun e => e.1 == 12) = some (12, .iload_n 2, 0, 0) := rfl
theorem te_18_13 : (pT M_18).find? (fun e => e.1 == 13) = some (13, .if_icmp .ne 9, 0, 0) := rfl
theorem te_18_16 : (pT M_18).find? (fun e => e.1 == 16) = some (16, .iload_n 3, 0, 0) := rfl
theorem te_18_17 : (pT M_18).find? (fun e => e.1 == 17) = some (17, .iconst 1, 0, 0) := rfl
theorem te_18_18 : (pT M_18).find? (fun e => e.1 == 18) = some (18, .isub, 0, 0) := rfl
theorem te_18_19 : (pT M_18).find? (fun e => e.1 == 19) = some (19, .goto 4, 0, 0) := rfl
theorem te_18_22 : (pT M_18).find? (fun e => e.1 == 22) = some (22, .iload_n 3, 0, 0) := rfl
theorem te_18_23 : (pT M_18).find? (fun e => e.1 == 23) = some (23, .ireturn, 0, 0) := rfl
theorem te_19_0 : (pT M_19).find? (fun e => e.1 == 0) = some (0, .aload_n 0, 0, 0) := rfl
theorem te_19_1 : (pT M_19).find? (fun e => e.1 == 1) = some (1, .getfield 24, 0, 5) := rfl
theorem te_19_4 : (pT M_19).find? (fun e => e.1 == 4) = some (4, .aload_n 0, 0, 0) := rfl
theorem te_19_5 : (pT M_19).find? (fun e => e.1 == 5) = some (5, .getfield 9, 0, 1) := rfl
theorem te_19_8 : (pT M_19).find? (fun e => e.1 == 8) = some (8, .iload_n 1, 0, 0) := rfl
theorem te_19_9 : (pT M_19).find? (fun e => e.1 == 9) = some (9, .iaload, 0, 0) := rfl
theorem te_19_10 : (pT M_19).find? (fun e => e.1 == 10) = some (10, .iaload, 0, 0) := rfl
theorem te_19_11 : (pT M_19).find? (fun e => e.1 == 11) = some (11, .ireturn, 0, 0) := rfl
theorem te_20_0 : (pT M_20).find? (fun e => e.1 == 0) = some (0, .iconst 0, 0, 0) := rfl
theorem te_20_1 : (pT M_20).find? (fun e => e.1 == 1) = some (1, .istore 5, 0, 0) := rfl
theorem te_20_3 : (pT M_20).find? (fun e => e.1 == 3) = some (3, .iconst (-1), 0, 0) := rfl
theorem te_20_4 : (pT M_20).find? (fun e => e.1 == 4) = some (4, .istore 6, 0, 0) := rfl
theorem te_20_6 : (pT M_20).find? (fun e => e.1 == 6) = some (6, .iload 5, 0, 0) := rfl
theorem te_20_8 : (pT M_20).find? (fun e => e.1 == 8) = some (8, .aload_n 0, 0, 0) := rfl
theorem te_20_9 : (pT M_20).find? (fun e => e.1 == 9) = some (9, .getfield 35, 7, 0) := rfl
theorem te_20_12 : (pT M_20).find? (fun e => e.1 == 12) = some (12, .if_icmp .ge 30, 0, 0) := rfl
theorem te_20_15 : (pT M_20).find? (fun e => e.1 == 15) = some (15, .aload_n 0, 0, 0) := rfl
theorem te_20_16 : (pT M_20).find? (fun e => e.1 == 16) = some (16, .iload 5, 0, 0) := rfl
theorem te_20_18 : (pT M_20).find? (fun e => e.1 == 18) = some (18, .iload_n 1, 0, 0) := rfl
theorem te_20_19 : (pT M_20).find? (fun e => e.1 == 19) = some (19, .iload_n 2, 0, 0) := rfl
theorem te_20_20 : (pT M_20).find? (fun e => e.1 == 20) = some (20, .iload_n 3, 0, 0) := rfl
theorem te_20_21 : (pT M_20).find? (fun e => e.1 == 21) = some (21, .iload 4, 0, 0) := rfl
theorem te_20_23 : (pT M_20).find? (fun e => e.1 == 23) = some (23, .invokevirtual 75, 21, 0) := rfl
theorem te_20_26 : (pT M_20).find? (fun e => e.1 == 26) = some (26, .istore 6, 0, 0) := rfl
theorem te_20_28 : (pT M_20).find? (fun e => e.1 == 28) = some (28, .iload 6, 0, 0) := rfl
theorem te_20_30 : (pT M_20).find? (fun e => e.1 == 30) = some (30, .ifCond .lt 6, 0, 0) := rfl
theorem te_20_33 : (pT M_20).find? (fun e => e.1 == 33) = some (33, .goto 9, 0, 0) := rfl
theorem te_20_36 : (pT M_20).find? (fun e => e.1 == 36) = some (36, .iinc 5 1, 0, 0) := rfl
theorem te_20_39 : (pT M_20).find? (fun e => e.1 == 39) = some (39, .goto (-33), 0, 0) := rfl
theorem te_20_42 : (pT M_20).find? (fun e => e.1 == 42) = some (42, .iload 5, 0, 0) := rfl
theorem te_20_44 : (pT M_20).find? (fun e => e.1 == 44) = some (44, .aload_n 0, 0, 0) := rfl
theorem te_20_45 : (pT M_20).find? (fun e => e.1 == 45) = some (45, .getfield 35, 7, 0) := rfl
theorem te_20_48 : (pT M_20).find? (fun e => e.1 == 48) = some (48, .if_icmp .ge 8, 0, 0) := rfl
theorem te_20_51 : (pT M_20).find? (fun e => e.1 == 51) = some (51, .iload 6, 0, 0) := rfl
theorem te_20_53 : (pT M_20).find? (fun e => e.1 == 53) = some (53, .ifCond .eq 12, 0, 0) := rfl
theorem te_20_56 : (pT M_20).find? (fun e => e.1 == 56) = some (56, .aload_n 0, 0, 0) := rfl
theorem te_20_57 : (pT M_20).find? (fun e => e.1 == 57) = some (57, .getfield 35, 7, 0) := rfl
theorem te_20_60 : (pT M_20).find? (fun e => e.1 == 60) = some (60, .bipush 64, 0, 0) := rfl
theorem te_20_62 : (pT M_20).find? (fun e => e.1 == 62) = some (62, .if_icmp .lt 4, 0, 0) := rfl
theorem te_20_65 : (pT M_20).find? (fun e => e.1 == 65) = some (65, .return_, 0, 0) := rfl
theorem te_20_66 : (pT M_20).find? (fun e => e.1 == 66) = some (66, .aload_n 0, 0, 0) := rfl
theorem te_20_67 : (pT M_20).find? (fun e => e.1 == 67) = some (67, .getfield 35, 7, 0) := rfl
theorem te_20_70 : (pT M_20).find? (fun e => e.1 == 70) = some (70, .istore 7, 0, 0) := rfl
theorem te_20_72 : (pT M_20).find? (fun e => e.1 == 72) = some (72, .iload 7, 0, 0) := rfl
theorem te_20_74 : (pT M_20).find? (fun e => e.1 == 74) = some (74, .iload 5, 0, 0) := rfl
theorem te_20_76 : (pT M_20).find? (fun e => e.1 == 76) = some (76, .if_icmp .le 51, 0, 0) := rfl
theorem te_20_79 : (pT M_20).find? (fun e => e.1 == 79) = some (79, .aload_n 0, 0, 0) := rfl
theorem te_20_80 : (pT M_20).find? (fun e => e.1 == 80) = some (80, .iload 7, 0, 0) := rfl
theorem te_20_82 : (pT M_20).find? (fun e => e.1 == 82) = some (82, .aload_n 0, 0, 0) := rfl
theorem te_20_83 : (pT M_20).find? (fun e => e.1 == 83) = some (83, .getfield 11, 7, 1) := rfl
theorem te_20_86 : (pT M_20).find? (fun e => e.1 == 86) = some (86, .iload 7, 0, 0) := rfl
theorem te_20_88 : (pT M_20).find? (fun e => e.1 == 88) = some (88, .iconst 1, 0, 0) := rfl
theorem te_20_89 : (pT M_20).find? (fun e => e.1 == 89) = some (89, .isub, 0, 0) := rfl
theorem te_20_90 : (pT M_20).find? (fun e => e.1 == 90) = some (90, .iaload, 0, 0) := rfl
theorem te_20_91 : (pT M_20).find? (fun e => e.1 == 91) = some (91, .aload_n 0, 0, 0) := rfl
theorem te_20_92 : (pT M_20).find? (fun e => e.1 == 92) = some (92, .getfield 15, 7, 2) := rfl
theorem te_20_95 : (pT M_20).find? (fun e => e.1 == 95) = some (95, .iload 7, 0, 0) := rfl
theorem te_20_97 : (pT M_20).find? (fun e => e.1 == 97) = some (97, .iconst 1, 0, 0) := rfl
theorem te_20_98 : (pT M_20).find? (fun e => e.1 == 98) = some (98, .isub, 0, 0) := rfl
theorem te_20_99 : (pT M_20).find? (fun e => e.1 == 99) = some (99, .iaload, 0, 0) := rfl
theorem te_20_100 : (pT M_20).find? (fun e => e.1 == 100) = some (100, .aload_n 0, 0, 0) := rfl
theorem te_20_101 : (pT M_20).find? (fun e => e.1 == 101) = some (101, .getfield 18, 7, 3) := rfl
theorem te_20_104 : (pT M_20).find? (fun e => e.1 == 104) = some (104, .iload 7, 0, 0) := rfl
theorem te_20_106 : (pT M_20).find? (fun e => e.1 == 106) = some (106, .iconst 1, 0, 0) := rfl
theorem te_20_107 : (pT M_20).find? (fun e => e.1 == 107) = some (107, .isub, 0, 0) := rfl
theorem te_20_108 : (pT M_20).find? (fun e => e.1 == 108) = some (108, .iaload, 0, 0) := rfl
theorem te_20_109 : (pT M_20).find? (fun e => e.1 == 109) = some (109, .aload_n 0, 0, 0) := rfl
theorem te_20_110 : (pT M_20).find? (fun e => e.1 == 110) = some (110, .getfield 21, 7, 4) := rfl
theorem te_20_113 : (pT M_20).find? (fun e => e.1 == 113) = some (113, .iload 7, 0, 0) := rfl
theorem te_20_115 : (pT M_20).find? (fun e => e.1 == 115) = some (115, .iconst 1, 0, 0) := rfl
theorem te_20_116 : (pT M_20).find? (fun e => e.1 == 116) = some (116, .isub, 0, 0) := rfl
theorem te_20_117 : (pT M_20).find? (fun e => e.1 == 117) = some (117, .iaload, 0, 0) := rfl
theorem te_20_118 : (pT M_20).find? (fun e => e.1 == 118) = some (118, .invokevirtual 79, 22, 0) := rfl
theorem te_20_121 : (pT M_20).find? (fun e => e.1 == 121) = some (121, .iinc 7 (-1), 0, 0) := rfl
theorem te_20_124 : (pT M_20).find? (fun e => e.1 == 124) = some (124, .goto (-52), 0, 0) := rfl
theorem te_20_127 : (pT M_20).find? (fun e => e.1 == 127) = some (127, .aload_n 0, 0, 0) := rfl
theorem te_20_128 : (pT M_20).find? (fun e => e.1 == 128) = some (128, .iload 5, 0, 0) := rfl
theorem te_20_130 : (pT M_20).find? (fun e => e.1 == 130) = some (130, .iload_n 1, 0, 0) := rfl
theorem te_20_131 : (pT M_20).find? (fun e => e.1 == 131) = some (131, .iload_n 2, 0, 0) := rfl
theorem te_20_132 : (pT M_20).find? (fun e => e.1 == 132) = some (132, .iload_n 3, 0, 0) := rfl
theorem te_20_133 : (pT M_20).find? (fun e => e.1 == 133) = some (133, .iload 4, 0, 0) := rfl
theorem te_20_135 : (pT M_20).find? (fun e => e.1 == 135) = some (135, .invokevirtual 79, 22, 0) := rfl
theorem te_20_138 : (pT M_20).find? (fun e => e.1 == 138) = some (138, .aload_n 0, 0, 0) := rfl
theorem te_20_139 : (pT M_20).find? (fun e => e.1 == 139) = some (139, .dup, 0, 0) := rfl
theorem te_20_140 : (pT M_20).find? (fun e => e.1 == 140) = some (140, .getfield 35, 7, 0) := rfl
theorem te_20_143 : (pT M_20).find? (fun e => e.1 == 143) = some (143, .iconst 1, 0, 0) := rfl
theorem te_20_144 : (pT M_20).find? (fun e => e.1 == 144) = some (144, .iadd, 0, 0) := rfl
theorem te_20_145 : (pT M_20).find? (fun e => e.1 == 145) = some (145, .putfield 35, 7, 0) := rfl
theorem te_20_148 : (pT M_20).find? (fun e => e.1 == 148) = some (148, .return_, 0, 0) := rfl
theorem te_21_0 : (pT M_21).find? (fun e => e.1 == 0) = some (0, .aload_n 0, 0, 0) := rfl
theorem te_21_1 : (pT M_21).find? (fun e => e.1 == 1) = some (1, .getfield 11, 7, 1) := rfl
theorem te_21_4 : (pT M_21).find? (fun e => e.1 == 4) = some (4, .iload_n 1, 0, 0) := rfl
theorem te_21_5 : (pT M_21).find? (fun e => e.1 == 5) = some (5, .iaload, 0, 0) := rfl
theorem te_21_6 : (pT M_21).find? (fun e => e.1 == 6) = some (6, .iload_n 2, 0, 0) := rfl
theorem te_21_7 : (pT M_21).find? (fun e => e.1 == 7) = some (7, .if_icmp .eq 12, 0, 0) := rfl
theorem te_21_10 : (pT M_21).find? (fun e => e.1 == 10) = some (10, .aload_n 0, 0, 0) := rfl
theorem te_21_11 : (pT M_21).find? (fun e => e.1 == 11) = some (11, .getfield 11, 7, 1) := rfl
theorem te_21_14 : (pT M_21).find? (fun e => e.1 == 14) = some (14, .iload_n 1, 0, 0) := rfl
theorem te_21_15 : (pT M_21).find? (fun e => e.1 == 15) = some (15, .iaload, 0, 0) := rfl
theorem te_21_16 : (pT M_21).find? (fun e => e.1 == 16) = some (16, .iload_n 2, 0, 0) := rfl
theorem te_21_17 : (pT M_21).find? (fun e => e.1 == 17) = some (17, .isub, 0, 0) := rfl
theorem te_21_18 : (pT M_21).find? (fun e => e.1 == 18) = some (18, .ireturn, 0, 0) := rfl
theorem te_21_19 : (pT M_21).find? (fun e => e.1 == 19) = some (19, .aload_n 0, 0, 0) := rfl
theorem te_21_20 : (pT M_21).find? (fun e => e.1 == 20) = some (20, .getfield 15, 7, 2) := rfl
theorem te_21_23 : (pT M_21).find? (fun e => e.1 == 23) = some (23, .iload_n 1, 0, 0) := rfl
theorem te_21_24 : (pT M_21).find? (fun e => e.1 == 24) = some (24, .iaload, 0, 0) := rfl
theorem te_21_25 : (pT M_21).find? (fun e => e.1 == 25) = some (25, .iload_n 3, 0, 0) := rfl
theorem te_21_26 : (pT M_21).find? (fun e => e.1 == 26) = some (26, .if_icmp .eq 12, 0, 0) := rfl
theorem te_21_29 : (pT M_21).find? (fun e => e.1 == 29) = some (29, .aload_n 0, 0, 0) := rfl
theorem te_21_30 : (pT M_21).find? (fun e => e.1 == 30) = some (30, .getfield 15, 7, 2) := rfl
theorem te_21_33 : (pT M_21).find? (fun e => e.1 == 33) = some (33, .iload_n 1, 0, 0) := rfl
theorem te_21_34 : (pT M_21).find? (fun e => e.1 == 34) = some (34, .iaload, 0, 0) := rfl
theorem te_21_35 : (pT M_21).find? (fun e => e.1 == 35) = some (35, .iload_n 3, 0, 0) := rfl
theorem te_21_36 : (pT M_21).find? (fun e => e.1 == 36) = some (36, .isub, 0, 0) := rfl
theorem te_21_37 : (pT M_21).find? (fun e => e.1 == 37) = some (37, .ireturn, 0, 0) := rfl
theorem te_21_38 : (pT M_21).find? (fun e => e.1 == 38) = some (38, .aload_n 0, 0, 0) := rfl
theorem te_21_39 : (pT M_21).find? (fun e => e.1 == 39) = some (39, .getfield 18, 7, 3) := rfl
theorem te_21_42 : (pT M_21).find? (fun e => e.1 == 42) = some (42, .iload_n 1, 0, 0) := rfl
theorem te_21_43 : (pT M_21).find? (fun e => e.1 == 43) = some (43, .iaload, 0, 0) := rfl
theorem te_21_44 : (pT M_21).find? (fun e => e.1 == 44) = some (44, .iload 4, 0, 0) := rfl
theorem te_21_46 : (pT M_21).find? (fun e => e.1 == 46) = some (46, .if_icmp .eq 13, 0, 0) := rfl
theorem te_21_49 : (pT M_21).find? (fun e => e.1 == 49) = some (49, .aload_n 0, 0, 0) := rfl
theorem te_21_50 : (pT M_21).find? (fun e => e.1 == 50) = some (50, .getfield 18, 7, 3) := rfl
theorem te_21_53 : (pT M_21).find? (fun e => e.1 == 53) = some (53, .iload_n 1, 0, 0) := rfl
theorem te_21_54 : (pT M_21).find? (fun e => e.1 == 54) = some (54, .iaload, 0, 0) := rfl
theorem te_21_55 : (pT M_21).find? (fun e => e.1 == 55) = some (55, .iload 4, 0, 0) := rfl
theorem te_21_57 : (pT M_21).find? (fun e => e.1 == 57) = some (57, .isub, 0, 0) := rfl
theorem te_21_58 : (pT M_21).find? (fun e => e.1 == 58) = some (58, .ireturn, 0, 0) := rfl
theorem te_21_59 : (pT M_21).find? (fun e => e.1 == 59) = some (59, .aload_n 0, 0, 0) := rfl
theorem te_21_60 : (pT M_21).find? (fun e => e.1 == 60) = some (60, .getfield 21, 7, 4) := rfl
theorem te_21_63 : (pT M_21).find? (fun e => e.1 == 63) = some (63, .iload_n 1, 0, 0) := rfl
theorem te_21_64 : (pT M_21).find? (fun e => e.1 == 64) = some (64, .iaload, 0, 0) := rfl
theorem te_21_65 : (pT M_21).find? (fun e => e.1 == 65) = some (65, .iload 5, 0, 0) := rfl
theorem te_21_67 : (pT M_21).find? (fun e => e.1 == 67) = some (67, .isub, 0, 0) := rfl
theorem te_21_68 : (pT M_21).find? (fun e => e.1 == 68) = some (68, .ireturn, 0, 0) := rfl
theorem te_22_0 : (pT M_22).find? (fun e => e.1 == 0) = some (0, .aload_n 0, 0, 0) := rfl
theorem te_22_1 : (pT M_22).find? (fun e => e.1 == 1) = some (1, .getfield 11, 7, 1) := rfl
theorem te_22_4 : (pT M_22).find? (fun e => e.1 == 4) = some (4, .iload_n 1, 0, 0) := rfl
theorem te_22_5 : (pT M_22).find? (fun e => e.1 == 5) = some (5, .iload_n 2, 0, 0) := rfl
theorem te_22_6 : (pT M_22).find? (fun e => e.1 == 6) = some (6, .iastore, 0, 0) := rfl
theorem te_22_7 : (pT M_22).find? (fun e => e.1 == 7) = some (7, .aload_n 0, 0, 0) := rfl
theorem te_22_8 : (pT M_22).find? (fun e => e.1 == 8) = some (8, .getfield 15, 7, 2) := rfl
theorem te_22_11 : (pT M_22).find? (fun e => e.1 == 11) = some (11, .iload_n 1, 0, 0) := rfl
theorem te_22_12 : (pT M_22).find? (fun e => e.1 == 12) = some (12, .iload_n 3, 0, 0) := rfl
theorem te_22_13 : (pT M_22).find? (fun e => e.1 == 13) = some (13, .iastore, 0, 0) := rfl
theorem te_22_14 : (pT M_22).find? (fun e => e.1 == 14) = some (14, .aload_n 0, 0, 0) := rfl
theorem te_22_15 : (pT M_22).find? (fun e => e.1 == 15) = some (15, .getfield 18, 7, 3) := rfl
theorem te_22_18 : (pT M_22).find? (fun e => e.1 == 18) = some (18, .iload_n 1, 0, 0) := rfl
theorem te_22_19 : (pT M_22).find? (fun e => e.1 == 19) = some (19, .iload 4, 0, 0) := rfl
theorem te_22_21 : (pT M_22).find? (fun e => e.1 == 21) = some (21, .iastore, 0, 0) := rfl
theorem te_22_22 : (pT M_22).find? (fun e => e.1 == 22) = some (22, .aload_n 0, 0, 0) := rfl
theorem te_22_23 : (pT M_22).find? (fun e => e.1 == 23) = some (23, .getfield 21, 7, 4) := rfl
theorem te_22_26 : (pT M_22).find? (fun e => e.1 == 26) = some (26, .iload_n 1, 0, 0) := rfl
theorem te_22_27 : (pT M_22).find? (fun e => e.1 == 27) = some (27, .iload 5, 0, 0) := rfl
theorem te_22_29 : (pT M_22).find? (fun e => e.1 == 29) = some (29, .iastore, 0, 0) := rfl
theorem te_22_30 : (pT M_22).find? (fun e => e.1 == 30) = some (30, .return_, 0, 0) := rfl
theorem te_23_0 : (pT M_23).find? (fun e => e.1 == 0) = some (0, .aload_n 1, 0, 0) := rfl
theorem te_23_1 : (pT M_23).find? (fun e => e.1 == 1) = some (1, .getfield 66, 0, 1) := rfl
theorem te_23_4 : (pT M_23).find? (fun e => e.1 == 4) = some (4, .iload_n 2, 0, 0) := rfl
theorem te_23_5 : (pT M_23).find? (fun e => e.1 == 5) = some (5, .iaload, 0, 0) := rfl
theorem te_23_6 : (pT M_23).find? (fun e => e.1 == 6) = some (6, .iconst 4, 0, 0) := rfl
theorem te_23_7 : (pT M_23).find? (fun e => e.1 == 7) = some (7, .if_icmp .lt 13, 0, 0) := rfl
theorem te_23_10 : (pT M_23).find? (fun e => e.1 == 10) = some (10, .aload_n 1, 0, 0) := rfl
theorem te_23_11 : (pT M_23).find? (fun e => e.1 == 11) = some (11, .getfield 66, 0, 1) := rfl
theorem te_23_14 : (pT M_23).find? (fun e => e.1 == 14) = some (14, .iload_n 3, 0, 0) := rfl
theorem te_23_15 : (pT M_23).find? (fun e => e.1 == 15) = some (15, .iaload, 0, 0) := rfl
theorem te_23_16 : (pT M_23).find? (fun e => e.1 == 16) = some (16, .iconst 4, 0, 0) := rfl
theorem te_23_17 : (pT M_23).find? (fun e => e.1 == 17) = some (17, .if_icmp .ge 4, 0, 0) := rfl
theorem te_23_20 : (pT M_23).find? (fun e => e.1 == 20) = some (20, .return_, 0, 0) := rfl
theorem te_23_21 : (pT M_23).find? (fun e => e.1 == 21) = some (21, .aload_n 1, 0, 0) := rfl
theorem te_23_22 : (pT M_23).find? (fun e => e.1 == 22) = some (22, .iload_n 2, 0, 0) := rfl
theorem te_23_23 : (pT M_23).find? (fun e => e.1 == 23) = some (23, .invokevirtual 69, 24, 1) := rfl
theorem te_23_26 : (pT M_23).find? (fun e => e.1 == 26) = some (26, .aload_n 1, 0, 0) := rfl
theorem te_23_27 : (pT M_23).find? (fun e => e.1 == 27) = some (27, .iload_n 3, 0, 0) := rfl
theorem te_23_28 : (pT M_23).find? (fun e => e.1 == 28) = some (28, .invokevirtual 69, 24, 1) := rfl
theorem te_23_31 : (pT M_23).find? (fun e => e.1 == 31) = some (31, .if_icmp .eq 4, 0, 0) := rfl
theorem te_23_34 : (pT M_23).find? (fun e => e.1 == 34) = some (34, .return_, 0, 0) := rfl
theorem te_23_35 : (pT M_23).find? (fun e => e.1 == 35) = some (35, .aload_n 1, 0, 0) := rfl
theorem te_23_36 : (pT M_23).find? (fun e => e.1 == 36) = some (36, .iload_n 2, 0, 0) := rfl
theorem te_23_37 : (pT M_23).find? (fun e => e.1 == 37) = some (37, .invokevirtual 72, 25, 1) := rfl
theorem te_23_40 : (pT M_23).find? (fun e => e.1 == 40) = some (40, .aload_n 1, 0, 0) := rfl
theorem te_23_41 : (pT M_23).find? (fun e => e.1 == 41) = some (41, .iload_n 3, 0, 0) := rfl
theorem te_23_42 : (pT M_23).find? (fun e => e.1 == 42) = some (42, .invokevirtual 72, 25, 1) := rfl
theorem te_23_45 : (pT M_23).find? (fun e => e.1 == 45) = some (45, .if_icmp .lt 7, 0, 0) := rfl
theorem te_23_48 : (pT M_23).find? (fun e => e.1 == 48) = some (48, .iconst 1, 0, 0) := rfl
theorem te_23_49 : (pT M_23).find? (fun e => e.1 == 49) = some (49, .goto 4, 0, 0) := rfl
theorem te_23_52 : (pT M_23).find? (fun e => e.1 == 52) = some (52, .iconst 0, 0, 0) := rfl
theorem te_23_53 : (pT M_23).find? (fun e => e.1 == 53) = some (53, .istore 5, 0, 0) := rfl
theorem te_23_55 : (pT M_23).find? (fun e => e.1 == 55) = some (55, .iload 5, 0, 0) := rfl
theorem te_23_57 : (pT M_23).find? (fun e => e.1 == 57) = some (57, .ifCond .eq 7, 0, 0) := rfl
theorem te_23_60 : (pT M_23).find? (fun e => e.1 == 60) = some (60, .iload_n 2, 0, 0) := rfl
theorem te_23_61 : (pT M_23).find? (fun e => e.1 == 61) = some (61, .goto 4, 0, 0) := rfl
theorem te_23_64 : (pT M_23).find? (fun e => e.1 == 64) = some (64, .iload_n 3, 0, 0) := rfl
theorem te_23_65 : (pT M_23).find? (fun e => e.1 == 65) = some (65, .istore 6, 0, 0) := rfl
theorem te_23_67 : (pT M_23).find? (fun e => e.1 == 67) = some (67, .iload 5, 0, 0) := rfl
theorem te_23_69 : (pT M_23).find? (fun e => e.1 == 69) = some (69, .ifCond .eq 7, 0, 0) := rfl
theorem te_23_72 : (pT M_23).find? (fun e => e.1 == 72) = some (72, .iload_n 3, 0, 0) := rfl
theorem te_23_73 : (pT M_23).find? (fun e => e.1 == 73) = some (73, .goto 4, 0, 0) := rfl
theorem te_23_76 : (pT M_23).find? (fun e => e.1 == 76) = some (76, .iload_n 2, 0, 0) := rfl
theorem te_23_77 : (pT M_23).find? (fun e => e.1 == 77) = some (77, .istore 7, 0, 0) := rfl
theorem te_23_79 : (pT M_23).find? (fun e => e.1 == 79) = some (79, .aload_n 1, 0, 0) := rfl
theorem te_23_80 : (pT M_23).find? (fun e => e.1 == 80) = some (80, .iload 6, 0, 0) := rfl
theorem te_23_82 : (pT M_23).find? (fun e => e.1 == 82) = some (82, .invokevirtual 72, 25, 1) := rfl
theorem te_23_85 : (pT M_23).find? (fun e => e.1 == 85) = some (85, .aload_n 1, 0, 0) := rfl
theorem te_23_86 : (pT M_23).find? (fun e => e.1 == 86) = some (86, .iload 7, 0, 0) := rfl
theorem te_23_88 : (pT M_23).find? (fun e => e.1 == 88) = some (88, .invokevirtual 72, 25, 1) := rfl
theorem te_23_91 : (pT M_23).find? (fun e => e.1 == 91) = some (91, .isub, 0, 0) := rfl
theorem te_23_92 : (pT M_23).find? (fun e => e.1 == 92) = some (92, .istore 8, 0, 0) := rfl
theorem te_23_94 : (pT M_23).find? (fun e => e.1 == 94) = some (94, .aload_n 1, 0, 0) := rfl
theorem te_23_95 : (pT M_23).find? (fun e => e.1 == 95) = some (95, .getfield 66, 0, 1) := rfl
theorem te_23_98 : (pT M_23).find? (fun e => e.1 == 98) = some (98, .iload 6, 0, 0) := rfl
theorem te_23_100 : (pT M_23).find? (fun e => e.1 == 100) = some (100, .iaload, 0, 0) := rfl
theorem te_23_101 : (pT M_23).find? (fun e => e.1 == 101) = some (101, .iconst 5, 0, 0) := rfl
theorem te_23_102 : (pT M_23).find? (fun e => e.1 == 102) = some (102, .if_icmp .ne 7, 0, 0) := rfl
theorem te_23_105 : (pT M_23).find? (fun e => e.1 == 105) = some (105, .iconst 1, 0, 0) := rfl
theorem te_23_106 : (pT M_23).find? (fun e => e.1 == 106) = some (106, .goto 4, 0, 0) := rfl
theorem te_23_109 : (pT M_23).find? (fun e => e.1 == 109) = some (109, .iconst 0, 0, 0) := rfl
theorem te_23_110 : (pT M_23).find? (fun e => e.1 == 110) = some (110, .istore 9, 0, 0) := rfl
theorem te_23_112 : (pT M_23).find? (fun e => e.1 == 112) = some (112, .aload_n 1, 0, 0) := rfl
theorem te_23_113 : (pT M_23).find? (fun e => e.1 == 113) = some (113, .getfield 66, 0, 1) := rfl
theorem te_23_116 : (pT M_23).find? (fun e => e.1 == 116) = some (116, .iload 7, 0, 0) := rfl
theorem te_23_118 : (pT M_23).find? (fun e => e.1 == 118) = some (118, .iaload, 0, 0) := rfl
theorem te_23_119 : (pT M_23).find? (fun e => e.1 == 119) = some (119, .iconst 5, 0, 0) := rfl
theorem te_23_120 : (pT M_23).find? (fun e => e.1 == 120) = some (120, .if_icmp .ne 7, 0, 0) := rfl
theorem te_23_123 : (pT M_23).find? (fun e => e.1 == 123) = some (123, .iconst 1, 0, 0) := rfl
theorem te_23_124 : (pT M_23).find? (fun e => e.1 == 124) = some (124, .goto 4, 0, 0) := rfl
theorem te_23_127 : (pT M_23).find? (fun e => e.1 == 127) = some (127, .iconst 0, 0, 0) := rfl
theorem te_23_128 : (pT M_23).find? (fun e => e.1 == 128) = some (128, .istore 10, 0, 0) := rfl
theorem te_23_130 : (pT M_23).find? (fun e => e.1 == 130) = some (130, .iload 9, 0, 0) := rfl
theorem te_23_132 : (pT M_23).find? (fun e => e.1 == 132) = some (132, .ifCond .eq 22, 0, 0) := rfl
theorem te_23_135 : (pT M_23).find? (fun e => e.1 == 135) = some (135, .iload 10, 0, 0) := rfl
theorem te_23_137 : (pT M_23).find? (fun e => e.1 == 137) = some (137, .ifCond .eq 17, 0, 0) := rfl
theorem te_23_140 : (pT M_23).find? (fun e => e.1 == 140) = some (140, .aload_n 0, 0, 0) := rfl
theorem te_23_141 : (pT M_23).find? (fun e => e.1 == 141) = some (141, .iload 6, 0, 0) := rfl
theorem te_23_143 : (pT M_23).find? (fun e => e.1 == 143) = some (143, .iload 7, 0, 0) := rfl
theorem te_23_145 : (pT M_23).find? (fun e => e.1 == 145) = some (145, .iload 8, 0, 0) := rfl
theorem te_23_147 : (pT M_23).find? (fun e => e.1 == 147) = some (147, .iconst 1, 0, 0) := rfl
theorem te_23_148 : (pT M_23).find? (fun e => e.1 == 148) = some (148, .invokevirtual 55, 20, 0) := rfl
theorem te_23_151 : (pT M_23).find? (fun e => e.1 == 151) = some (151, .goto 54, 0, 0) := rfl
theorem te_23_154 : (pT M_23).find? (fun e => e.1 == 154) = some (154, .iload 9, 0, 0) := rfl
theorem te_23_156 : (pT M_23).find? (fun e => e.1 == 156) = some (156, .ifCond .eq 24, 0, 0) := rfl
theorem te_23_159 : (pT M_23).find? (fun e => e.1 == 159) = some (159, .aload_n 0, 0, 0) := rfl
theorem te_23_160 : (pT M_23).find? (fun e => e.1 == 160) = some (160, .iload 6, 0, 0) := rfl
theorem te_23_162 : (pT M_23).find? (fun e => e.1 == 162) = some (162, .iload 7, 0, 0) := rfl
theorem te_23_164 : (pT M_23).find? (fun e => e.1 == 164) = some (164, .iload 8, 0, 0) := rfl
theorem te_23_166 : (pT M_23).find? (fun e => e.1 == 166) = some (166, .aload_n 1, 0, 0) := rfl
theorem te_23_167 : (pT M_23).find? (fun e => e.1 == 167) = some (167, .iload 6, 0, 0) := rfl
theorem te_23_169 : (pT M_23).find? (fun e => e.1 == 169) = some (169, .iload 4, 0, 0) := rfl
theorem te_23_171 : (pT M_23).find? (fun e => e.1 == 171) = some (171, .invokestatic 51, 18, 2) := rfl
theorem te_23_174 : (pT M_23).find? (fun e => e.1 == 174) = some (174, .invokevirtual 55, 20, 0) := rfl
theorem te_23_177 : (pT M_23).find? (fun e => e.1 == 177) = some (177, .goto 28, 0, 0) := rfl
theorem te_23_180 : (pT M_23).find? (fun e => e.1 == 180) = some (180, .iload 10, 0, 0) := rfl
theorem te_23_182 : (pT M_23).find? (fun e => e.1 == 182) = some (182, .ifCond .eq 23, 0, 0) := rfl
theorem te_23_185 : (pT M_23).find? (fun e => e.1 == 185) = some (185, .aload_n 0, 0, 0) := rfl
theorem te_23_186 : (pT M_23).find? (fun e => e.1 == 186) = some (186, .iload 6, 0, 0) := rfl
theorem te_23_188 : (pT M_23).find? (fun e => e.1 == 188) = some (188, .iload 7, 0, 0) := rfl
theorem te_23_190 : (pT M_23).find? (fun e => e.1 == 190) = some (190, .iload 8, 0, 0) := rfl
theorem te_23_192 : (pT M_23).find? (fun e => e.1 == 192) = some (192, .iconst 1, 0, 0) := rfl
theorem te_23_193 : (pT M_23).find? (fun e => e.1 == 193) = some (193, .aload_n 1, 0, 0) := rfl
theorem te_23_194 : (pT M_23).find? (fun e => e.1 == 194) = some (194, .iload 7, 0, 0) := rfl
theorem te_23_196 : (pT M_23).find? (fun e => e.1 == 196) = some (196, .iload 4, 0, 0) := rfl
theorem te_23_198 : (pT M_23).find? (fun e => e.1 == 198) = some (198, .invokestatic 51, 18, 2) := rfl
theorem te_23_201 : (pT M_23).find? (fun e => e.1 == 201) = some (201, .isub, 0, 0) := rfl
theorem te_23_202 : (pT M_23).find? (fun e => e.1 == 202) = some (202, .invokevirtual 55, 20, 0) := rfl
theorem te_23_205 : (pT M_23).find? (fun e => e.1 == 205) = some (205, .return_, 0, 0) := rfl
theorem te_24_0 : (pT M_24).find? (fun e => e.1 == 0) = some (0, .aload_n 0, 0, 0) := rfl
theorem te_24_1 : (pT M_24).find? (fun e => e.1 == 1) = some (1, .getfield 9, 0, 1) := rfl
theorem te_24_4 : (pT M_24).find? (fun e => e.1 == 4) = some (4, .iload_n 1, 0, 0) := rfl
theorem te_24_5 : (pT M_24).find? (fun e => e.1 == 5) = some (5, .iaload, 0, 0) := rfl
theorem te_24_6 : (pT M_24).find? (fun e => e.1 == 6) = some (6, .iconst 5, 0, 0) := rfl
theorem te_24_7 : (pT M_24).find? (fun e => e.1 == 7) = some (7, .if_icmp .ne 16, 0, 0) := rfl
theorem te_24_10 : (pT M_24).find? (fun e => e.1 == 10) = some (10, .aload_n 0, 0, 0) := rfl
theorem te_24_11 : (pT M_24).find? (fun e => e.1 == 11) = some (11, .getfield 15, 0, 2) := rfl
theorem te_24_14 : (pT M_24).find? (fun e => e.1 == 14) = some (14, .iload_n 1, 0, 0) := rfl
theorem te_24_15 : (pT M_24).find? (fun e => e.1 == 15) = some (15, .iconst 4, 0, 0) := rfl
theorem te_24_16 : (pT M_24).find? (fun e => e.1 == 16) = some (16, .imul, 0, 0) := rfl
theorem te_24_17 : (pT M_24).find? (fun e => e.1 == 17) = some (17, .iconst 2, 0, 0) := rfl
theorem te_24_18 : (pT M_24).find? (fun e => e.1 == 18) = some (18, .iadd, 0, 0) := rfl
theorem te_24_19 : (pT M_24).find? (fun e => e.1 == 19) = some (19, .iaload, 0, 0) := rfl
theorem te_24_20 : (pT M_24).find? (fun e => e.1 == 20) = some (20, .goto 11, 0, 0) := rfl
theorem te_24_23 : (pT M_24).find? (fun e => e.1 == 23) = some (23, .aload_n 0, 0, 0) := rfl
theorem te_24_24 : (pT M_24).find? (fun e => e.1 == 24) = some (24, .getfield 15, 0, 2) := rfl
theorem te_24_27 : (pT M_24).find? (fun e => e.1 == 27) = some (27, .iload_n 1, 0, 0) := rfl
theorem te_24_28 : (pT M_24).find? (fun e => e.1 == 28) = some (28, .iconst 4, 0, 0) := rfl
theorem te_24_29 : (pT M_24).find? (fun e => e.1 == 29) = some (29, .imul, 0, 0) := rfl
theorem te_24_30 : (pT M_24).find? (fun e => e.1 == 30) = some (30, .iaload, 0, 0) := rfl
theorem te_24_31 : (pT M_24).find? (fun e => e.1 == 31) = some (31, .ireturn, 0, 0) := rfl
theorem te_25_0 : (pT M_25).find? (fun e => e.1 == 0) = some (0, .aload_n 0, 0, 0) := rfl
theorem te_25_1 : (pT M_25).find? (fun e => e.1 == 1) = some (1, .getfield 9, 0, 1) := rfl
theorem te_25_4 : (pT M_25).find? (fun e => e.1 == 4) = some (4, .iload_n 1, 0, 0) := rfl
theorem te_25_5 : (pT M_25).find? (fun e => e.1 == 5) = some (5, .iaload, 0, 0) := rfl
theorem te_25_6 : (pT M_25).find? (fun e => e.1 == 6) = some (6, .iconst 5, 0, 0) := rfl
theorem te_25_7 : (pT M_25).find? (fun e => e.1 == 7) = some (7, .if_icmp .ne 16, 0, 0) := rfl
theorem te_25_10 : (pT M_25).find? (fun e => e.1 == 10) = some (10, .aload_n 0, 0, 0) := rfl
theorem te_25_11 : (pT M_25).find? (fun e => e.1 == 11) = some (11, .getfield 15, 0, 2) := rfl
theorem te_25_14 : (pT M_25).find? (fun e => e.1 == 14) = some (14, .iload_n 1, 0, 0) := rfl
theorem te_25_15 : (pT M_25).find? (fun e => e.1 == 15) = some (15, .iconst 4, 0, 0) := rfl
theorem te_25_16 : (pT M_25).find? (fun e => e.1 == 16) = some (16, .imul, 0, 0) := rfl
theorem te_25_17 : (pT M_25).find? (fun e => e.1 == 17) = some (17, .iconst 3, 0, 0) := rfl
theorem te_25_18 : (pT M_25).find? (fun e => e.1 == 18) = some (18, .iadd, 0, 0) := rfl
theorem te_25_19 : (pT M_25).find? (fun e => e.1 == 19) = some (19, .iaload, 0, 0) := rfl
theorem te_25_20 : (pT M_25).find? (fun e => e.1 == 20) = some (20, .goto 13, 0, 0) := rfl
theorem te_25_23 : (pT M_25).find? (fun e => e.1 == 23) = some (23, .aload_n 0, 0, 0) := rfl
theorem te_25_24 : (pT M_25).find? (fun e => e.1 == 24) = some (24, .getfield 15, 0, 2) := rfl
theorem te_25_27 : (pT M_25).find? (fun e => e.1 == 27) = some (27, .iload_n 1, 0, 0) := rfl
theorem te_25_28 : (pT M_25).find? (fun e => e.1 == 28) = some (28, .iconst 4, 0, 0) := rfl
theorem te_25_29 : (pT M_25).find? (fun e => e.1 == 29) = some (29, .imul, 0, 0) := rfl
theorem te_25_30 : (pT M_25).find? (fun e => e.1 == 30) = some (30, .iconst 1, 0, 0) := rfl
theorem te_25_31 : (pT M_25).find? (fun e => e.1 == 31) = some (31, .iadd, 0, 0) := rfl
theorem te_25_32 : (pT M_25).find? (fun e => e.1 == 32) = some (32, .iaload, 0, 0) := rfl
theorem te_25_33 : (pT M_25).find? (fun e => e.1 == 33) = some (33, .ireturn, 0, 0) := rfl
theorem te_37_0 : (pT M_37).find? (fun e => e.1 == 0) = some (0, .aload_n 0, 0, 0) := rfl
theorem te_37_1 : (pT M_37).find? (fun e => e.1 == 1) = some (1, .getfield 21, 0, 4) := rfl
theorem te_37_4 : (pT M_37).find? (fun e => e.1 == 4) = some (4, .aload_n 0, 0, 0) := rfl
theorem te_37_5 : (pT M_37).find? (fun e => e.1 == 5) = some (5, .getfield 9, 0, 1) := rfl
theorem te_37_8 : (pT M_37).find? (fun e => e.1 == 8) = some (8, .iload_n 1, 0, 0) := rfl
theorem te_37_9 : (pT M_37).find? (fun e => e.1 == 9) = some (9, .iaload, 0, 0) := rfl
theorem te_37_10 : (pT M_37).find? (fun e => e.1 == 10) = some (10, .iaload, 0, 0) := rfl
theorem te_37_11 : (pT M_37).find? (fun e => e.1 == 11) = some (11, .ireturn, 0, 0) := rfl
theorem te_38_0 : (pT M_38).find? (fun e => e.1 == 0) = some (0, .aload_n 0, 0, 0) := rfl
theorem te_38_1 : (pT M_38).find? (fun e => e.1 == 1) = some (1, .getfield 27, 0, 6) := rfl
theorem te_38_4 : (pT M_38).find? (fun e => e.1 == 4) = some (4, .aload_n 0, 0, 0) := rfl
theorem te_38_5 : (pT M_38).find? (fun e => e.1 == 5) = some (5, .getfield 9, 0, 1) := rfl
theorem te_38_8 : (pT M_38).find? (fun e => e.1 == 8) = some (8, .iload_n 1, 0, 0) := rfl
theorem te_38_9 : (pT M_38).find? (fun e => e.1 == 9) = some (9, .iaload, 0, 0) := rfl
theorem te_38_10 : (pT M_38).find? (fun e => e.1 == 10) = some (10, .iaload, 0, 0) := rfl
theorem te_38_11 : (pT M_38).find? (fun e => e.1 == 11) = some (11, .ireturn, 0, 0) := rfl
theorem w_13_0 {C : CXW} (hC : Cmono C) {S : Nat × (Nat → Int32)} {K : WK} {mem : MM} {x1 : Int} (H : ((0 : Int) ≤ x1 ∧ (x1 : Int) < 8) ∧ ∀ v1 : Int, v1 = mem 2 (Int.toNat x1) → InI v1 → ((¬ v1 = 4 → ((0 : Int) ≤ x1 ∧ (x1 : Int) < 8) ∧ ∀ v2 : Int, v2 = mem 2 (Int.toNat x1) → InI v2 → ((¬ v2 = 5 → (InI 2 → K (some 2) mem)) ∧ (¬ (¬ v2 = 5) → (InI 1 → K (some 1) mem)))) ∧ (¬ (¬ v1 = 4) → (InI 0 → K (some 0) mem)))) : Wx C S M_13 K 0 [some (.inr 1), some (.inl x1)] [] mem := by
  refine Wx.aload_n hC te_13_0 rfl ?_
  refine Wx.getR hC te_13_1 rfl rfl rfl ?_
  refine Wx.iload_n hC te_13_4 rfl ?_
  refine Wx.iald hC te_13_5 rfl H.1 (fun v1 e1 e2 => ?_)
  replace H := H.2 v1 e1 e2
  refine Wx.iconst hC te_13_6 rfl ?_
  refine Wx.icmp hC (t := 12) te_13_7 (by decide) (fun q => ?_) (fun q => ?_)
  · replace H := H.1 q
    refine Wx.aload_n hC te_13_12 rfl ?_
    refine Wx.getR hC te_13_13 rfl rfl rfl ?_
    refine Wx.iload_n hC te_13_16 rfl ?_
    refine Wx.iald hC te_13_17 rfl H.1 (fun v2 e1 e2 => ?_)
    replace H := H.2 v2 e1 e2
    refine Wx.iconst hC te_13_18 rfl ?_
    refine Wx.icmp hC (t := 26) te_13_19 (by decide) (fun q => ?_) (fun q => ?_)
    · replace H := H.1 q
      refine Wx.iconst hC te_13_26 rfl ?_
      exact Wx.ireturn hC te_13_27 rfl H
    · replace H := H.2 q
      refine Wx.iconst hC te_13_22 rfl ?_
      refine Wx.goto hC (t := 27) te_13_23 (by decide) ?_
      exact Wx.ireturn hC te_13_27 rfl H
  · replace H := H.2 q
    refine Wx.iconst hC te_13_10 rfl ?_
    exact Wx.ireturn hC te_13_11 rfl H
theorem w_14_0 {C : CXW} (hC : Cmono C) {S : Nat × (Nat → Int32)} {K : WK} {mem : MM} {x1 x2 : Int} (H : (InI (x1 * 4)) ∧ (InI (x2 * 2)) ∧ (InI ((x1 * 4) + (x2 * 2))) ∧ ((0 : Int) ≤ ((x1 * 4) + (x2 * 2)) ∧ (((x1 * 4) + (x2 * 2)) : Int) < 32) ∧ ∀ v1 : Int, v1 = mem 3 (Int.toNat ((x1 * 4) + (x2 * 2))) → InI v1 → (InI v1 → K (some v1) mem)) : Wx C S M_14 K 0 [some (.inr 1), some (.inl x1), some (.inl x2)] [] mem := by
  refine Wx.aload_n hC te_14_0 rfl ?_
  refine Wx.getR hC te_14_1 rfl rfl rfl ?_
  refine Wx.iload_n hC te_14_4 rfl ?_
  refine Wx.iconst hC te_14_5 rfl ?_
  refine Wx.imul hC te_14_6 H.1 ?_
  replace H := H.2
  refine Wx.iload_n hC te_14_7 rfl ?_
  refine Wx.iconst hC te_14_8 rfl ?_
  refine Wx.imul hC te_14_9 H.1 ?_
  replace H := H.2
  refine Wx.iadd hC te_14_10 H.1 ?_
  replace H := H.2
  refine Wx.iald hC te_14_11 rfl H.1 (fun v1 e1 e2 => ?_)
  replace H := H.2 v1 e1 e2
  exact Wx.ireturn hC te_14_12 rfl H
theorem w_15_0 {C : CXW} (hC : Cmono C) {S : Nat × (Nat → Int32)} {K : WK} {mem : MM} {x1 x2 : Int} (H : (InI (x1 * 4)) ∧ (InI (x2 * 2)) ∧ (InI ((x1 * 4) + (x2 * 2))) ∧ (InI (((x1 * 4) + (x2 * 2)) + 1)) ∧ ((0 : Int) ≤ (((x1 * 4) + (x2 * 2)) + 1) ∧ ((((x1 * 4) + (x2 * 2)) + 1) : Int) < 32) ∧ ∀ v1 : Int, v1 = mem 3 (Int.toNat (((x1 * 4) + (x2 * 2)) + 1)) → InI v1 → (InI v1 → K (some v1) mem)) : Wx C S M_15 K 0 [some (.inr 1), some (.inl x1), some (.inl x2)] [] mem := by
  refine Wx.aload_n hC te_15_0 rfl ?_
  refine Wx.getR hC te_15_1 rfl rfl rfl ?_
  refine Wx.iload_n hC te_15_4 rfl ?_
  refine Wx.iconst hC te_15_5 rfl ?_
  refine Wx.imul hC te_15_6 H.1 ?_
  replace H := H.2
  refine Wx.iload_n hC te_15_7 rfl ?_
  refine Wx.iconst hC te_15_8 rfl ?_
  refine Wx.imul hC te_15_9 H.1 ?_
  replace H := H.2
  refine Wx.iadd hC te_15_10 H.1 ?_
  replace H := H.2
  refine Wx.iconst hC te_15_11 rfl ?_
  refine Wx.iadd hC te_15_12 H.1 ?_
  replace H := H.2
  refine Wx.iald hC te_15_13 rfl H.1 (fun v1 e1 e2 => ?_)
  replace H := H.2 v1 e1 e2
  exact Wx.ireturn hC te_15_14 rfl H
theorem w_19_0 {C : CXW} (hC : Cmono C) {S : Nat × (Nat → Int32)} {K : WK} {mem : MM} {x1 : Int} (H : ((0 : Int) ≤ x1 ∧ (x1 : Int) < 8) ∧ ∀ v1 : Int, v1 = mem 2 (Int.toNat x1) → InI v1 → ((0 : Int) ≤ v1 ∧ (v1 : Int) < 6) ∧ ∀ v2 : Int, v2 = mem 6 (Int.toNat v1) → InI v2 → (InI v2 → K (some v2) mem)) : Wx C S M_19 K 0 [some (.inr 1), some (.inl x1)] [] mem := by
  refine Wx.aload_n hC te_19_0 rfl ?_
  refine Wx.getR hC te_19_1 rfl rfl rfl ?_
  refine Wx.aload_n hC te_19_4 rfl ?_
  refine Wx.getR hC te_19_5 rfl rfl rfl ?_
  refine Wx.iload_n hC te_19_8 rfl ?_
  refine Wx.iald hC te_19_9 rfl H.1 (fun v1 e1 e2 => ?_)
  replace H := H.2 v1 e1 e2
  refine Wx.iald hC te_19_10 rfl H.1 (fun v2 e1 e2 => ?_)
  replace H := H.2 v2 e1 e2
  exact Wx.ireturn hC te_19_11 rfl H
theorem w_24_0 {C : CXW} (hC : Cmono C) {S : Nat × (Nat → Int32)} {K : WK} {mem : MM} {x1 : Int} (H : ((0 : Int) ≤ x1 ∧ (x1 : Int) < 8) ∧ ∀ v1 : Int, v1 = mem 2 (Int.toNat x1) → InI v1 → ((¬ v1 = 5 → (InI (x1 * 4)) ∧ ((0 : Int) ≤ (x1 * 4) ∧ ((x1 * 4) : Int) < 32) ∧ ∀ v2 : Int, v2 = mem 3 (Int.toNat (x1 * 4)) → InI v2 → (InI v2 → K (some v2) mem)) ∧ (¬ (¬ v1 = 5) → (InI (x1 * 4)) ∧ (InI ((x1 * 4) + 2)) ∧ ((0 : Int) ≤ ((x1 * 4) + 2) ∧ (((x1 * 4) + 2) : Int) < 32) ∧ ∀ v3 : Int, v3 = mem 3 (Int.toNat ((x1 * 4) + 2)) → InI v3 → (InI v3 → K (some v3) mem)))) : Wx C S M_24 K 0 [some (.inr 1), some (.inl x1)] [] mem := by
  refine Wx.aload_n hC te_24_0 rfl ?_
  refine Wx.getR hC te_24_1 rfl rfl rfl ?_
  refine Wx.iload_n hC te_24_4 rfl ?_
  refine Wx.iald hC te_24_5 rfl H.1 (fun v1 e1 e2 => ?_)
  replace H := H.2 v1 e1 e2
  refine Wx.iconst hC te_24_6 rfl ?_
  refine Wx.icmp hC (t := 23) te_24_7 (by decide) (fun q => ?_) (fun q => ?_)
  · replace H := H.1 q
    refine Wx.aload_n hC te_24_23 rfl ?_
    refine Wx.getR hC te_24_24 rfl rfl rfl ?_
    refine Wx.iload_n hC te_24_27 rfl ?_
    refine Wx.iconst hC te_24_28 rfl ?_
    refine Wx.imul hC te_24_29 H.1 ?_
    replace H := H.2
    refine Wx.iald hC te_24_30 rfl H.1 (fun v2 e1 e2 => ?_)
    replace H := H.2 v2 e1 e2
    exact Wx.ireturn hC te_24_31 rfl H
  · replace H := H.2 q
    refine Wx.aload_n hC te_24_10 rfl ?_
    refine Wx.getR hC te_24_11 rfl rfl rfl ?_
    refine Wx.iload_n hC te_24_14 rfl ?_
    refine Wx.iconst hC te_24_15 rfl ?_
    refine Wx.imul hC te_24_16 H.1 ?_
    replace H := H.2
    refine Wx.iconst hC te_24_17 rfl ?_
    refine Wx.iadd hC te_24_18 H.1 ?_
    replace H := H.2
    refine Wx.iald hC te_24_19 rfl H.1 (fun v3 e1 e2 => ?_)
    replace H := H.2 v3 e1 e2
    refine Wx.goto hC (t := 31) te_24_20 (by decide) ?_
    exact Wx.ireturn hC te_24_31 rfl H
theorem w_25_0 {C : CXW} (hC : Cmono C) {S : Nat × (Nat → Int32)} {K : WK} {mem : MM} {x1 : Int} (H : ((0 : Int) ≤ x1 ∧ (x1 : Int) < 8) ∧ ∀ v1 : Int, v1 = mem 2 (Int.toNat x1) → InI v1 → ((¬ v1 = 5 → (InI (x1 * 4)) ∧ (InI ((x1 * 4) + 1)) ∧ ((0 : Int) ≤ ((x1 * 4) + 1) ∧ (((x1 * 4) + 1) : Int) < 32) ∧ ∀ v2 : Int, v2 = mem 3 (Int.toNat ((x1 * 4) + 1)) → InI v2 → (InI v2 → K (some v2) mem)) ∧ (¬ (¬ v1 = 5) → (InI (x1 * 4)) ∧ (InI ((x1 * 4) + 3)) ∧ ((0 : Int) ≤ ((x1 * 4) + 3) ∧ (((x1 * 4) + 3) : Int) < 32) ∧ ∀ v3 : Int, v3 = mem 3 (Int.toNat ((x1 * 4) + 3)) → InI v3 → (InI v3 → K (some v3) mem)))) : Wx C S M_25 K 0 [some (.inr 1), some (.inl x1)] [] mem := by
  refine Wx.aload_n hC te_25_0 rfl ?_
  refine Wx.getR hC te_25_1 rfl rfl rfl ?_
  refine Wx.iload_n hC te_25_4 rfl ?_
  refine Wx.iald hC te_25_5 rfl H.1 (fun v1 e1 e2 => ?_)
  replace H := H.2 v1 e1 e2
  refine Wx.iconst hC te_25_6 rfl ?_
  refine Wx.icmp hC (t := 23) te_25_7 (by decide) (fun q => ?_) (fun q => ?_)
  · replace H := H.1 q
    refine Wx.aload_n hC te_25_23 rfl ?_
    refine Wx.getR hC te_25_24 rfl rfl rfl ?_
    refine Wx.iload_n hC te_25_27 rfl ?_
    refine Wx.iconst hC te_25_28 rfl ?_
    refine Wx.imul hC te_25_29 H.1 ?_
    replace H := H.2
    refine Wx.iconst hC te_25_30 rfl ?_
    refine Wx.iadd hC te_25_31 H.1 ?_
    replace H := H.2
    refine Wx.iald hC te_25_32 rfl H.1 (fun v2 e1 e2 => ?_)
    replace H := H.2 v2 e1 e2
    exact Wx.ireturn hC te_25_33 rfl H
  · replace H := H.2 q
    refine Wx.aload_n hC te_25_10 rfl ?_
    refine Wx.getR hC te_25_11 rfl rfl rfl ?_
    refine Wx.iload_n hC te_25_14 rfl ?_
    refine Wx.iconst hC te_25_15 rfl ?_
    refine Wx.imul hC te_25_16 H.1 ?_
    replace H := H.2
    refine Wx.iconst hC te_25_17 rfl ?_
    refine Wx.iadd hC te_25_18 H.1 ?_
    replace H := H.2
    refine Wx.iald hC te_25_19 rfl H.1 (fun v3 e1 e2 => ?_)
    replace H := H.2 v3 e1 e2
    refine Wx.goto hC (t := 33) te_25_20 (by decide) ?_
    exact Wx.ireturn hC te_25_33 rfl H
theorem w_37_0 {C : CXW} (hC : Cmono C) {S : Nat × (Nat → Int32)} {K : WK} {mem : MM} {x1 : Int} (H : ((0 : Int) ≤ x1 ∧ (x1 : Int) < 8) ∧ ∀ v1 : Int, v1 = mem 2 (Int.toNat x1) → InI v1 → ((0 : Int) ≤ v1 ∧ (v1 : Int) < 6) ∧ ∀ v2 : Int, v2 = mem 5 (Int.toNat v1) → InI v2 → (InI v2 → K (some v2) mem)) : Wx C S M_37 K 0 [some (.inr 1), some (.inl x1)] [] mem := by
  refine Wx.aload_n hC te_37_0 rfl ?_
  refine Wx.getR hC te_37_1 rfl rfl rfl ?_
  refine Wx.aload_n hC te_37_4 rfl ?_
  refine Wx.getR hC te_37_5 rfl rfl rfl ?_
  refine Wx.iload_n hC te_37_8 rfl ?_
  refine Wx.iald hC te_37_9 rfl H.1 (fun v1 e1 e2 => ?_)
  replace H := H.2 v1 e1 e2
  refine Wx.iald hC te_37_10 rfl H.1 (fun v2 e1 e2 => ?_)
  replace H := H.2 v2 e1 e2
  exact Wx.ireturn hC te_37_11 rfl H
theorem w_38_0 {C : CXW} (hC : Cmono C) {S : Nat × (Nat → Int32)} {K : WK} {mem : MM} {x1 : Int} (H : ((0 : Int) ≤ x1 ∧ (x1 : Int) < 8) ∧ ∀ v1 : Int, v1 = mem 2 (Int.toNat x1) → InI v1 → ((0 : Int) ≤ v1 ∧ (v1 : Int) < 6) ∧ ∀ v2 : Int, v2 = mem 7 (Int.toNat v1) → InI v2 → (InI v2 → K (some v2) mem)) : Wx C S M_38 K 0 [some (.inr 1), some (.inl x1)] [] mem := by
  refine Wx.aload_n hC te_38_0 rfl ?_
  refine Wx.getR hC te_38_1 rfl rfl rfl ?_
  refine Wx.aload_n hC te_38_4 rfl ?_
  refine Wx.getR hC te_38_5 rfl rfl rfl ?_
  refine Wx.iload_n hC te_38_8 rfl ?_
  refine Wx.iald hC te_38_9 rfl H.1 (fun v1 e1 e2 => ?_)
  replace H := H.2 v1 e1 e2
  refine Wx.iald hC te_38_10 rfl H.1 (fun v2 e1 e2 => ?_)
  replace H := H.2 v2 e1 e2
  exact Wx.ireturn hC te_38_11 rfl H
theorem w_18_0 {C : CXW} (hC : Cmono C) {S : Nat × (Nat → Int32)} {K : WK} {mem : MM} {x1 x2 : Int} (H : (CWI C 19 [.inr 1, .inl x1] mem fun r2 m1 => InI r2 → ((0 : Int) ≤ x1 ∧ (x1 : Int) < 8) ∧ ∀ v3 : Int, v3 = m1 2 (Int.toNat x1) → InI v3 → ((¬ v3 = x2 → (InI r2 → K (some r2) m1)) ∧ (¬ (¬ v3 = x2) → (InI (r2 - 1)) ∧ (InI (r2 - 1) → K (some (r2 - 1)) m1))))) : Wx C S M_18 K 0 [some (.inr 1), some (.inl x1), some (.inl x2), none] [] mem := by
  refine Wx.aload_n hC te_18_0 rfl ?_
  refine Wx.iload_n hC te_18_1 rfl ?_
  refine Wx.virtI hC te_18_2 mt_19 (args := [.inr 1, .inl x1]) (rest := []) rfl rfl rfl rfl rfl rfl rfl rfl ?_
  refine CWI.mono hC (fun r2 m1 H hy => ?_) H
  replace H := H hy
  refine Wx.istore_n hC te_18_5 rfl ?_
  refine Wx.aload_n hC te_18_6 rfl ?_
  refine Wx.getR hC te_18_7 rfl rfl rfl ?_
  refine Wx.iload_n hC te_18_10 rfl ?_
  refine Wx.iald hC te_18_11 rfl H.1 (fun v3 e1 e2 => ?_)
  replace H := H.2 v3 e1 e2
  refine Wx.iload_n hC te_18_12 rfl ?_
  refine Wx.icmp hC (t := 22) te_18_13 (by decide) (fun q => ?_) (fun q => ?_)
  · replace H := H.1 q
    refine Wx.iload_n hC te_18_22 rfl ?_
    exact Wx.ireturn hC te_18_23 rfl H
  · replace H := H.2 q
    refine Wx.iload_n hC te_18_16 rfl ?_
    refine Wx.iconst hC te_18_17 rfl ?_
    refine Wx.isub hC te_18_18 H.1 ?_
    replace H := H.2
    refine Wx.goto hC (t := 23) te_18_19 (by decide) ?_
    exact Wx.ireturn hC te_18_23 rfl H
theorem w_21_0 {C : CXW} (hC : Cmono C) {S : Nat × (Nat → Int32)} {K : WK} {mem : MM} {W : Nat} (hW : WebSh W) {x1 x2 x3 x4 x5 : Int} (H : ((0 : Int) ≤ x1 ∧ (x1 : Int) < 64) ∧ ∀ v1 : Int, v1 = mem (W + 1) (Int.toNat x1) → InI v1 → ((v1 = x2 → ((0 : Int) ≤ x1 ∧ (x1 : Int) < 64) ∧ ∀ v2 : Int, v2 = mem (W + 2) (Int.toNat x1) → InI v2 → ((v2 = x3 → ((0 : Int) ≤ x1 ∧ (x1 : Int) < 64) ∧ ∀ v3 : Int, v3 = mem (W + 3) (Int.toNat x1) → InI v3 → ((v3 = x4 → ((0 : Int) ≤ x1 ∧ (x1 : Int) < 64) ∧ ∀ v4 : Int, v4 = mem (W + 4) (Int.toNat x1) → InI v4 → (InI (v4 - x5)) ∧ (InI (v4 - x5) → K (some (v4 - x5)) mem)) ∧ (¬ (v3 = x4) → ((0 : Int) ≤ x1 ∧ (x1 : Int) < 64) ∧ ∀ v5 : Int, v5 = mem (W + 3) (Int.toNat x1) → InI v5 → (InI (v5 - x4)) ∧ (InI (v5 - x4) → K (some (v5 - x4)) mem)))) ∧ (¬ (v2 = x3) → ((0 : Int) ≤ x1 ∧ (x1 : Int) < 64) ∧ ∀ v6 : Int, v6 = mem (W + 2) (Int.toNat x1) → InI v6 → (InI (v6 - x3)) ∧ (InI (v6 - x3) → K (some (v6 - x3)) mem)))) ∧ (¬ (v1 = x2) → ((0 : Int) ≤ x1 ∧ (x1 : Int) < 64) ∧ ∀ v7 : Int, v7 = mem (W + 1) (Int.toNat x1) → InI v7 → (InI (v7 - x2)) ∧ (InI (v7 - x2) → K (some (v7 - x2)) mem)))) : Wx C S M_21 K 0 [some (.inr W), some (.inl x1), some (.inl x2), some (.inl x3), some (.inl x4), some (.inl x5)] [] mem := by
  refine Wx.aload_n hC te_21_0 rfl ?_
  refine Wx.getR hC te_21_1 hW.1 rfl rfl ?_
  refine Wx.iload_n hC te_21_4 rfl ?_
  refine Wx.iald hC te_21_5 hW.2.1 H.1 (fun v1 e1 e2 => ?_)
  replace H := H.2 v1 e1 e2
  refine Wx.iload_n hC te_21_6 rfl ?_
  refine Wx.icmp hC (t := 19) te_21_7 (by decide) (fun q => ?_) (fun q => ?_)
  · replace H := H.1 q
    refine Wx.aload_n hC te_21_19 rfl ?_
    refine Wx.getR hC te_21_20 hW.1 rfl rfl ?_
    refine Wx.iload_n hC te_21_23 rfl ?_
    refine Wx.iald hC te_21_24 hW.2.2.1 H.1 (fun v2 e1 e2 => ?_)
    replace H := H.2 v2 e1 e2
    refine Wx.iload_n hC te_21_25 rfl ?_
    refine Wx.icmp hC (t := 38) te_21_26 (by decide) (fun q => ?_) (fun q => ?_)
    · replace H := H.1 q
      refine Wx.aload_n hC te_21_38 rfl ?_
      refine Wx.getR hC te_21_39 hW.1 rfl rfl ?_
      refine Wx.iload_n hC te_21_42 rfl ?_
      refine Wx.iald hC te_21_43 hW.2.2.2.1 H.1 (fun v3 e1 e2 => ?_)
      replace H := H.2 v3 e1 e2
      refine Wx.iload hC te_21_44 rfl ?_
      refine Wx.icmp hC (t := 59) te_21_46 (by decide) (fun q => ?_) (fun q => ?_)
      · replace H := H.1 q
        refine Wx.aload_n hC te_21_59 rfl ?_
        refine Wx.getR hC te_21_60 hW.1 rfl rfl ?_
        refine Wx.iload_n hC te_21_63 rfl ?_
        refine Wx.iald hC te_21_64 hW.2.2.2.2 H.1 (fun v4 e1 e2 => ?_)
        replace H := H.2 v4 e1 e2
        refine Wx.iload hC te_21_65 rfl ?_
        refine Wx.isub hC te_21_67 H.1 ?_
        replace H := H.2
        exact Wx.ireturn hC te_21_68 rfl H
      · replace H := H.2 q
        refine Wx.aload_n hC te_21_49 rfl ?_
        refine Wx.getR hC te_21_50 hW.1 rfl rfl ?_
        refine Wx.iload_n hC te_21_53 rfl ?_
        refine Wx.iald hC te_21_54 hW.2.2.2.1 H.1 (fun v5 e1 e2 => ?_)
        replace H := H.2 v5 e1 e2
        refine Wx.iload hC te_21_55 rfl ?_
        refine Wx.isub hC te_21_57 H.1 ?_
        replace H := H.2
        exact Wx.ireturn hC te_21_58 rfl H
    · replace H := H.2 q
      refine Wx.aload_n hC te_21_29 rfl ?_
      refine Wx.getR hC te_21_30 hW.1 rfl rfl ?_
      refine Wx.iload_n hC te_21_33 rfl ?_
      refine Wx.iald hC te_21_34 hW.2.2.1 H.1 (fun v6 e1 e2 => ?_)
      replace H := H.2 v6 e1 e2
      refine Wx.iload_n hC te_21_35 rfl ?_
      refine Wx.isub hC te_21_36 H.1 ?_
      replace H := H.2
      exact Wx.ireturn hC te_21_37 rfl H
  · replace H := H.2 q
    refine Wx.aload_n hC te_21_10 rfl ?_
    refine Wx.getR hC te_21_11 hW.1 rfl rfl ?_
    refine Wx.iload_n hC te_21_14 rfl ?_
    refine Wx.iald hC te_21_15 hW.2.1 H.1 (fun v7 e1 e2 => ?_)
    replace H := H.2 v7 e1 e2
    refine Wx.iload_n hC te_21_16 rfl ?_
    refine Wx.isub hC te_21_17 H.1 ?_
    replace H := H.2
    exact Wx.ireturn hC te_21_18 rfl H
theorem w_22_0 {C : CXW} (hC : Cmono C) {S : Nat × (Nat → Int32)} {K : WK} {mem : MM} {W : Nat} (hW : WebSh W) {x1 x2 x3 x4 x5 : Int} (H : ((0 : Int) ≤ x1 ∧ (x1 : Int) < 64) ∧ ((0 : Int) ≤ x1 ∧ (x1 : Int) < 64) ∧ ((0 : Int) ≤ x1 ∧ (x1 : Int) < 64) ∧ ((0 : Int) ≤ x1 ∧ (x1 : Int) < 64) ∧ (K none (upm (upm (upm (upm mem (W + 1) (Int.toNat x1) x2) (W + 2) (Int.toNat x1) x3) (W + 3) (Int.toNat x1) x4) (W + 4) (Int.toNat x1) x5))) : Wx C S M_22 K 0 [some (.inr W), some (.inl x1), some (.inl x2), some (.inl x3), some (.inl x4), some (.inl x5)] [] mem := by
  refine Wx.aload_n hC te_22_0 rfl ?_
  refine Wx.getR hC te_22_1 hW.1 rfl rfl ?_
  refine Wx.iload_n hC te_22_4 rfl ?_
  refine Wx.iload_n hC te_22_5 rfl ?_
  refine Wx.iast hC te_22_6 hW.2.1 H.1 ?_
  replace H := H.2
  refine Wx.aload_n hC te_22_7 rfl ?_
  refine Wx.getR hC te_22_8 hW.1 rfl rfl ?_
  refine Wx.iload_n hC te_22_11 rfl ?_
  refine Wx.iload_n hC te_22_12 rfl ?_
  refine Wx.iast hC te_22_13 hW.2.2.1 H.1 ?_
  replace H := H.2
  refine Wx.aload_n hC te_22_14 rfl ?_
  refine Wx.getR hC te_22_15 hW.1 rfl rfl ?_
  refine Wx.iload_n hC te_22_18 rfl ?_
  refine Wx.iload hC te_22_19 rfl ?_
  refine Wx.iast hC te_22_21 hW.2.2.2.1 H.1 ?_
  replace H := H.2
  refine Wx.aload_n hC te_22_22 rfl ?_
  refine Wx.getR hC te_22_23 hW.1 rfl rfl ?_
  refine Wx.iload_n hC te_22_26 rfl ?_
  refine Wx.iload hC te_22_27 rfl ?_
  refine Wx.iast hC te_22_29 hW.2.2.2.2 H.1 ?_
  replace H := H.2
  exact Wx.vret hC te_22_30 rfl H
theorem w_20_0 {C : CXW} (hC : Cmono C) {S : Nat × (Nat → Int32)} {K : WK} {mem : MM} {W : Nat} (hW : WebSh W) {x1 x2 x3 x4 : Int} (H : (Wx C S M_20 K 6 [some (.inr W), some (.inl x1), some (.inl x2), some (.inl x3), some (.inl x4), some (.inl 0), some (.inl (-1)), none] [] mem)) : Wx C S M_20 K 0 [some (.inr W), some (.inl x1), some (.inl x2), some (.inl x3), some (.inl x4), none, none, none] [] mem := by
  refine Wx.iconst hC te_20_0 rfl ?_
  refine Wx.istore hC te_20_1 rfl ?_
  refine Wx.iconst hC te_20_3 rfl ?_
  refine Wx.istore hC te_20_4 rfl ?_
  exact H
theorem w_20_6 {C : CXW} (hC : Cmono C) {S : Nat × (Nat → Int32)} {K : WK} {mem : MM} {W : Nat} (hW : WebSh W) {x1 x2 x3 x4 x5 x6 : Int} (H : ∀ v1 : Int, v1 = mem W 0 → InI v1 → ((v1 ≤ x5 → ∀ v2 : Int, v2 = mem W 0 → InI v2 → ((v2 ≤ x5 → ∀ v3 : Int, v3 = mem W 0 → InI v3 → ((v3 < 64 → ∀ v4 : Int, v4 = mem W 0 → InI v4 → (Wx C S M_20 K 72 [some (.inr W), some (.inl x1), some (.inl x2), some (.inl x3), some (.inl x4), some (.inl x5), some (.inl x6), some (.inl v4)] [] mem)) ∧ (¬ (v3 < 64) → (K none mem)))) ∧ (¬ (v2 ≤ x5) → ((x6 = 0 → (K none mem)) ∧ (¬ (x6 = 0) → ∀ v5 : Int, v5 = mem W 0 → InI v5 → ((v5 < 64 → ∀ v6 : Int, v6 = mem W 0 → InI v6 → (Wx C S M_20 K 72 [some (.inr W), some (.inl x1), some (.inl x2), some (.inl x3), some (.inl x4), some (.inl x5), some (.inl x6), some (.inl v6)] [] mem)) ∧ (¬ (v5 < 64) → (K none mem)))))))) ∧ (¬ (v1 ≤ x5) → (CWI C 21 [.inr W, .inl x5, .inl x1, .inl x2, .inl x3, .inl x4] mem fun r8 m7 => InI r8 → ((r8 < 0 → (InI (x5 + 1)) ∧ (Wx C S M_20 K 6 [some (.inr W), some (.inl x1), some (.inl x2), some (.inl x3), some (.inl x4), some (.inl (x5 + 1)), some (.inl r8), none] [] m7)) ∧ (¬ (r8 < 0) → ∀ v9 : Int, v9 = m7 W 0 → InI v9 → ((v9 ≤ x5 → ∀ v10 : Int, v10 = m7 W 0 → InI v10 → ((v10 < 64 → ∀ v11 : Int, v11 = m7 W 0 → InI v11 → (Wx C S M_20 K 72 [some (.inr W), some (.inl x1), some (.inl x2), some (.inl x3), some (.inl x4), some (.inl x5), some (.inl r8), some (.inl v11)] [] m7)) ∧ (¬ (v10 < 64) → (K none m7)))) ∧ (¬ (v9 ≤ x5) → ((r8 = 0 → (K none m7)) ∧ (¬ (r8 = 0) → ∀ v12 : Int, v12 = m7 W 0 → InI v12 → ((v12 < 64 → ∀ v13 : Int, v13 = m7 W 0 → InI v13 → (Wx C S M_20 K 72 [some (.inr W), some (.inl x1), some (.inl x2), some (.inl x3), some (.inl x4), some (.inl x5), some (.inl r8), some (.inl v13)] [] m7)) ∧ (¬ (v12 < 64) → (K none m7))))))))))))) : Wx C S M_20 K 6 [some (.inr W), some (.inl x1), some (.inl x2), some (.inl x3), some (.inl x4), some (.inl x5), some (.inl x6), none] [] mem := by
  refine Wx.iload hC te_20_6 rfl ?_
  refine Wx.aload_n hC te_20_8 rfl ?_
  refine Wx.getI hC te_20_9 hW.1 rfl rfl (fun v1 e1 e2 => ?_)
  replace H := H v1 e1 e2
  refine Wx.icmp hC (t := 42) te_20_12 (by decide) (fun q => ?_) (fun q => ?_)
  · replace H := H.1 q
    refine Wx.iload hC te_20_42 rfl ?_
    refine Wx.aload_n hC te_20_44 rfl ?_
    refine Wx.getI hC te_20_45 hW.1 rfl rfl (fun v2 e1 e2 => ?_)
    replace H := H v2 e1 e2
    refine Wx.icmp hC (t := 56) te_20_48 (by decide) (fun q => ?_) (fun q => ?_)
    · replace H := H.1 q
      refine Wx.aload_n hC te_20_56 rfl ?_
      refine Wx.getI hC te_20_57 hW.1 rfl rfl (fun v3 e1 e2 => ?_)
      replace H := H v3 e1 e2
      refine Wx.bipush hC te_20_60 rfl rfl ?_
      refine Wx.icmp hC (t := 66) te_20_62 (by decide) (fun q => ?_) (fun q => ?_)
      · replace H := H.1 q
        refine Wx.aload_n hC te_20_66 rfl ?_
        refine Wx.getI hC te_20_67 hW.1 rfl rfl (fun v4 e1 e2 => ?_)
        replace H := H v4 e1 e2
        refine Wx.istore hC te_20_70 rfl ?_
        exact H
      · replace H := H.2 q
        exact Wx.vret hC te_20_65 rfl H
    · replace H := H.2 q
      refine Wx.iload hC te_20_51 rfl ?_
      refine Wx.ifc hC (t := 65) te_20_53 (by decide) (fun q => ?_) (fun q => ?_)
      · replace H := H.1 q
        exact Wx.vret hC te_20_65 rfl H
      · replace H := H.2 q
        refine Wx.aload_n hC te_20_56 rfl ?_
        refine Wx.getI hC te_20_57 hW.1 rfl rfl (fun v5 e1 e2 => ?_)
        replace H := H v5 e1 e2
        refine Wx.bipush hC te_20_60 rfl rfl ?_
        refine Wx.icmp hC (t := 66) te_20_62 (by decide) (fun q => ?_) (fun q => ?_)
        · replace H := H.1 q
          refine Wx.aload_n hC te_20_66 rfl ?_
          refine Wx.getI hC te_20_67 hW.1 rfl rfl (fun v6 e1 e2 => ?_)
          replace H := H v6 e1 e2
          refine Wx.istore hC te_20_70 rfl ?_
          exact H
        · replace H := H.2 q
          exact Wx.vret hC te_20_65 rfl H
  · replace H := H.2 q
    refine Wx.aload_n hC te_20_15 rfl ?_
    refine Wx.iload hC te_20_16 rfl ?_
    refine Wx.iload_n hC te_20_18 rfl ?_
    refine Wx.iload_n hC te_20_19 rfl ?_
    refine Wx.iload_n hC te_20_20 rfl ?_
    refine Wx.iload hC te_20_21 rfl ?_
    refine Wx.virtI hC te_20_23 mt_21 (args := [.inr W, .inl x5, .inl x1, .inl x2, .inl x3, .inl x4]) (rest := []) rfl rfl rfl rfl rfl rfl hW.1 rfl ?_
    refine CWI.mono hC (fun r8 m7 H hy => ?_) H
    replace H := H hy
    refine Wx.istore hC te_20_26 rfl ?_
    refine Wx.iload hC te_20_28 rfl ?_
    refine Wx.ifc hC (t := 36) te_20_30 (by decide) (fun q => ?_) (fun q => ?_)
    · replace H := H.1 q
      refine Wx.iinc hC te_20_36 rfl rfl H.1 ?_
      replace H := H.2
      refine Wx.goto hC (t := 6) te_20_39 (by decide) ?_
      exact H
    · replace H := H.2 q
      refine Wx.goto hC (t := 42) te_20_33 (by decide) ?_
      refine Wx.iload hC te_20_42 rfl ?_
      refine Wx.aload_n hC te_20_44 rfl ?_
      refine Wx.getI hC te_20_45 hW.1 rfl rfl (fun v9 e1 e2 => ?_)
      replace H := H v9 e1 e2
      refine Wx.icmp hC (t := 56) te_20_48 (by decide) (fun q => ?_) (fun q => ?_)
      · replace H := H.1 q
        refine Wx.aload_n hC te_20_56 rfl ?_
        refine Wx.getI hC te_20_57 hW.1 rfl rfl (fun v10 e1 e2 => ?_)
        replace H := H v10 e1 e2
        refine Wx.bipush hC te_20_60 rfl rfl ?_
        refine Wx.icmp hC (t := 66) te_20_62 (by decide) (fun q => ?_) (fun q => ?_)
        · replace H := H.1 q
          refine Wx.aload_n hC te_20_66 rfl ?_
          refine Wx.getI hC te_20_67 hW.1 rfl rfl (fun v11 e1 e2 => ?_)
          replace H := H v11 e1 e2
          refine Wx.istore hC te_20_70 rfl ?_
          exact H
        · replace H := H.2 q
          exact Wx.vret hC te_20_65 rfl H
      · replace H := H.2 q
        refine Wx.iload hC te_20_51 rfl ?_
        refine Wx.ifc hC (t := 65) te_20_53 (by decide) (fun q => ?_) (fun q => ?_)
        · replace H := H.1 q
          exact Wx.vret hC te_20_65 rfl H
        · replace H := H.2 q
          refine Wx.aload_n hC te_20_56 rfl ?_
          refine Wx.getI hC te_20_57 hW.1 rfl rfl (fun v12 e1 e2 => ?_)
          replace H := H v12 e1 e2
          refine Wx.bipush hC te_20_60 rfl rfl ?_
          refine Wx.icmp hC (t := 66) te_20_62 (by decide) (fun q => ?_) (fun q => ?_)
          · replace H := H.1 q
            refine Wx.aload_n hC te_20_66 rfl ?_
            refine Wx.getI hC te_20_67 hW.1 rfl rfl (fun v13 e1 e2 => ?_)
            replace H := H v13 e1 e2
            refine Wx.istore hC te_20_70 rfl ?_
            exact H
          · replace H := H.2 q
            exact Wx.vret hC te_20_65 rfl H
theorem w_20_72 {C : CXW} (hC : Cmono C) {S : Nat × (Nat → Int32)} {K : WK} {mem : MM} {W : Nat} (hW : WebSh W) {x1 x2 x3 x4 x5 x6 x7 : Int} (H : ((x7 ≤ x5 → (CWV C 22 [.inr W, .inl x5, .inl x1, .inl x2, .inl x3, .inl x4] mem fun m1 => ∀ v2 : Int, v2 = m1 W 0 → InI v2 → (InI (v2 + 1)) ∧ (K none (upm m1 W 0 (v2 + 1))))) ∧ (¬ (x7 ≤ x5) → (InI (x7 - 1)) ∧ ((0 : Int) ≤ (x7 - 1) ∧ ((x7 - 1) : Int) < 64) ∧ ∀ v3 : Int, v3 = mem (W + 1) (Int.toNat (x7 - 1)) → InI v3 → (InI (x7 - 1)) ∧ ((0 : Int) ≤ (x7 - 1) ∧ ((x7 - 1) : Int) < 64) ∧ ∀ v4 : Int, v4 = mem (W + 2) (Int.toNat (x7 - 1)) → InI v4 → (InI (x7 - 1)) ∧ ((0 : Int) ≤ (x7 - 1) ∧ ((x7 - 1) : Int) < 64) ∧ ∀ v5 : Int, v5 = mem (W + 3) (Int.toNat (x7 - 1)) → InI v5 → (InI (x7 - 1)) ∧ ((0 : Int) ≤ (x7 - 1) ∧ ((x7 - 1) : Int) < 64) ∧ ∀ v6 : Int, v6 = mem (W + 4) (Int.toNat (x7 - 1)) → InI v6 → (CWV C 22 [.inr W, .inl x7, .inl v3, .inl v4, .inl v5, .inl v6] mem fun m7 => (InI (x7 + (-1))) ∧ (Wx C S M_20 K 72 [some (.inr W), some (.inl x1), some (.inl x2), some (.inl x3), some (.inl x4), some (.inl x5), some (.inl x6), some (.inl (x7 + (-1)))] [] m7))))) : Wx C S M_20 K 72 [some (.inr W), some (.inl x1), some (.inl x2), some (.inl x3), some (.inl x4), some (.inl x5), some (.inl x6), some (.inl x7)] [] mem := by
  refine Wx.iload hC te_20_72 rfl ?_
  refine Wx.iload hC te_20_74 rfl ?_
  refine Wx.icmp hC (t := 127) te_20_76 (by decide) (fun q => ?_) (fun q => ?_)
  · replace H := H.1 q
    refine Wx.aload_n hC te_20_127 rfl ?_
    refine Wx.iload hC te_20_128 rfl ?_
    refine Wx.iload_n hC te_20_130 rfl ?_
    refine Wx.iload_n hC te_20_131 rfl ?_
    refine Wx.iload_n hC te_20_132 rfl ?_
    refine Wx.iload hC te_20_133 rfl ?_
    refine Wx.virtV hC te_20_135 mt_22 (args := [.inr W, .inl x5, .inl x1, .inl x2, .inl x3, .inl x4]) (rest := []) rfl rfl rfl rfl rfl rfl hW.1 rfl ?_
    refine CWV.mono hC (fun m1 H => ?_) H
    refine Wx.aload_n hC te_20_138 rfl ?_
    refine Wx.dup hC te_20_139 ?_
    refine Wx.getI hC te_20_140 hW.1 rfl rfl (fun v2 e1 e2 => ?_)
    replace H := H v2 e1 e2
    refine Wx.iconst hC te_20_143 rfl ?_
    refine Wx.iadd hC te_20_144 H.1 ?_
    replace H := H.2
    refine Wx.putI hC te_20_145 hW.1 rfl rfl rfl ?_
    exact Wx.vret hC te_20_148 rfl H
  · replace H := H.2 q
    refine Wx.aload_n hC te_20_79 rfl ?_
    refine Wx.iload hC te_20_80 rfl ?_
    refine Wx.aload_n hC te_20_82 rfl ?_
    refine Wx.getR hC te_20_83 hW.1 rfl rfl ?_
    refine Wx.iload hC te_20_86 rfl ?_
    refine Wx.iconst hC te_20_88 rfl ?_
    refine Wx.isub hC te_20_89 H.1 ?_
    replace H := H.2
    refine Wx.iald hC te_20_90 hW.2.1 H.1 (fun v3 e1 e2 => ?_)
    replace H := H.2 v3 e1 e2
    refine Wx.aload_n hC te_20_91 rfl ?_
    refine Wx.getR hC te_20_92 hW.1 rfl rfl ?_
    refine Wx.iload hC te_20_95 rfl ?_
    refine Wx.iconst hC te_20_97 rfl ?_
    refine Wx.isub hC te_20_98 H.1 ?_
    replace H := H.2
    refine Wx.iald hC te_20_99 hW.2.2.1 H.1 (fun v4 e1 e2 => ?_)
    replace H := H.2 v4 e1 e2
    refine Wx.aload_n hC te_20_100 rfl ?_
    refine Wx.getR hC te_20_101 hW.1 rfl rfl ?_
    refine Wx.iload hC te_20_104 rfl ?_
    refine Wx.iconst hC te_20_106 rfl ?_
    refine Wx.isub hC te_20_107 H.1 ?_
    replace H := H.2
    refine Wx.iald hC te_20_108 hW.2.2.2.1 H.1 (fun v5 e1 e2 => ?_)
    replace H := H.2 v5 e1 e2
    refine Wx.aload_n hC te_20_109 rfl ?_
    refine Wx.getR hC te_20_110 hW.1 rfl rfl ?_
    refine Wx.iload hC te_20_113 rfl ?_
    refine Wx.iconst hC te_20_115 rfl ?_
    refine Wx.isub hC te_20_116 H.1 ?_
    replace H := H.2
    refine Wx.iald hC te_20_117 hW.2.2.2.2 H.1 (fun v6 e1 e2 => ?_)
    replace H := H.2 v6 e1 e2
    refine Wx.virtV hC te_20_118 mt_22 (args := [.inr W, .inl x7, .inl v3, .inl v4, .inl v5, .inl v6]) (rest := []) rfl rfl rfl rfl rfl rfl hW.1 rfl ?_
    refine CWV.mono hC (fun m7 H => ?_) H
    refine Wx.iinc hC te_20_121 rfl rfl H.1 ?_
    replace H := H.2
    refine Wx.goto hC (t := 72) te_20_124 (by decide) ?_
    exact H
theorem w_23_0 {C : CXW} (hC : Cmono C) {S : Nat × (Nat → Int32)} {K : WK} {mem : MM} {W : Nat} (hW : WebSh W) {x2 x3 x4 : Int} (H : ((0 : Int) ≤ x2 ∧ (x2 : Int) < 8) ∧ ∀ v1 : Int, v1 = mem 2 (Int.toNat x2) → InI v1 → ((v1 < 4 → (K none mem)) ∧ (¬ (v1 < 4) → ((0 : Int) ≤ x3 ∧ (x3 : Int) < 8) ∧ ∀ v2 : Int, v2 = mem 2 (Int.toNat x3) → InI v2 → ((4 ≤ v2 → (CWI C 24 [.inr 1, .inl x2] mem fun r4 m3 => InI r4 → (CWI C 24 [.inr 1, .inl x3] m3 fun r6 m5 => InI r6 → ((r4 = r6 → (CWI C 25 [.inr 1, .inl x2] m5 fun r8 m7 => InI r8 → (CWI C 25 [.inr 1, .inl x3] m7 fun r10 m9 => InI r10 → ((r8 < r10 → (CWI C 25 [.inr 1, .inl x3] m9 fun r12 m11 => InI r12 → (CWI C 25 [.inr 1, .inl x2] m11 fun r14 m13 => InI r14 → (InI (r12 - r14)) ∧ ((0 : Int) ≤ x3 ∧ (x3 : Int) < 8) ∧ ∀ v15 : Int, v15 = m13 2 (Int.toNat x3) → InI v15 → ((¬ v15 = 5 → ((0 : Int) ≤ x2 ∧ (x2 : Int) < 8) ∧ ∀ v16 : Int, v16 = m13 2 (Int.toNat x2) → InI v16 → ((¬ v16 = 5 → (K none m13)) ∧ (¬ (¬ v16 = 5) → (CWI C 18 [.inr 1, .inl x2, .inl x4] m13 fun r18 m17 => InI r18 → (InI (1 - r18)) ∧ (CWV C 20 [.inr W, .inl x3, .inl x2, .inl (r12 - r14), .inl (1 - r18)] m17 fun m19 => (K none m19)))))) ∧ (¬ (¬ v15 = 5) → ((0 : Int) ≤ x2 ∧ (x2 : Int) < 8) ∧ ∀ v20 : Int, v20 = m13 2 (Int.toNat x2) → InI v20 → ((¬ v20 = 5 → (CWI C 18 [.inr 1, .inl x3, .inl x4] m13 fun r22 m21 => InI r22 → (CWV C 20 [.inr W, .inl x3, .inl x2, .inl (r12 - r14), .inl r22] m21 fun m23 => (K none m23)))) ∧ (¬ (¬ v20 = 5) → (CWV C 20 [.inr W, .inl x3, .inl x2, .inl (r12 - r14), .inl 1] m13 fun m24 => (K none m24))))))))) ∧ (¬ (r8 < r10) → (CWI C 25 [.inr 1, .inl x2] m9 fun r26 m25 => InI r26 → (CWI C 25 [.inr 1, .inl x3] m25 fun r28 m27 => InI r28 → (InI (r26 - r28)) ∧ ((0 : Int) ≤ x2 ∧ (x2 : Int) < 8) ∧ ∀ v29 : Int, v29 = m27 2 (Int.toNat x2) → InI v29 → ((¬ v29 = 5 → ((0 : Int) ≤ x3 ∧ (x3 : Int) < 8) ∧ ∀ v30 : Int, v30 = m27 2 (Int.toNat x3) → InI v30 → ((¬ v30 = 5 → (K none m27)) ∧ (¬ (¬ v30 = 5) → (CWI C 18 [.inr 1, .inl x3, .inl x4] m27 fun r32 m31 => InI r32 → (InI (1 - r32)) ∧ (CWV C 20 [.inr W, .inl x2, .inl x3, .inl (r26 - r28), .inl (1 - r32)] m31 fun m33 => (K none m33)))))) ∧ (¬ (¬ v29 = 5) → ((0 : Int) ≤ x3 ∧ (x3 : Int) < 8) ∧ ∀ v34 : Int, v34 = m27 2 (Int.toNat x3) → InI v34 → ((¬ v34 = 5 → (CWI C 18 [.inr 1, .inl x2, .inl x4] m27 fun r36 m35 => InI r36 → (CWV C 20 [.inr W, .inl x2, .inl x3, .inl (r26 - r28), .inl r36] m35 fun m37 => (K none m37)))) ∧ (¬ (¬ v34 = 5) → (CWV C 20 [.inr W, .inl x2, .inl x3, .inl (r26 - r28), .inl 1] m27 fun m38 => (K none m38))))))))))))) ∧ (¬ (r4 = r6) → (K none m5)))))) ∧ (¬ (4 ≤ v2) → (K none mem)))))) : Wx C S M_23 K 0 [some (.inr W), some (.inr 1), some (.inl x2), some (.inl x3), some (.inl x4), none, none, none, none, none, none] [] mem := by
  refine Wx.aload_n hC te_23_0 rfl ?_
  refine Wx.getR hC te_23_1 rfl rfl rfl ?_
  refine Wx.iload_n hC te_23_4 rfl ?_
  refine Wx.iald hC te_23_5 rfl H.1 (fun v1 e1 e2 => ?_)
  replace H := H.2 v1 e1 e2
  refine Wx.iconst hC te_23_6 rfl ?_
  refine Wx.icmp hC (t := 20) te_23_7 (by decide) (fun q => ?_) (fun q => ?_)
  · replace H := H.1 q
    exact Wx.vret hC te_23_20 rfl H
  · replace H := H.2 q
    refine Wx.aload_n hC te_23_10 rfl ?_
    refine Wx.getR hC te_23_11 rfl rfl rfl ?_
    refine Wx.iload_n hC te_23_14 rfl ?_
    refine Wx.iald hC te_23_15 rfl H.1 (fun v2 e1 e2 => ?_)
    replace H := H.2 v2 e1 e2
    refine Wx.iconst hC te_23_16 rfl ?_
    refine Wx.icmp hC (t := 21) te_23_17 (by decide) (fun q => ?_) (fun q => ?_)
    · replace H := H.1 q
      refine Wx.aload_n hC te_23_21 rfl ?_
      refine Wx.iload_n hC te_23_22 rfl ?_
      refine Wx.virtI hC te_23_23 mt_24 (args := [.inr 1, .inl x2]) (rest := []) rfl rfl rfl rfl rfl rfl rfl rfl ?_
      refine CWI.mono hC (fun r4 m3 H hy => ?_) H
      replace H := H hy
      refine Wx.aload_n hC te_23_26 rfl ?_
      refine Wx.iload_n hC te_23_27 rfl ?_
      refine Wx.virtI hC te_23_28 mt_24 (args := [.inr 1, .inl x3]) (rest := [.inl r4]) rfl rfl rfl rfl rfl rfl rfl rfl ?_
      refine CWI.mono hC (fun r6 m5 H hy => ?_) H
      replace H := H hy
      refine Wx.icmp hC (t := 35) te_23_31 (by decide) (fun q => ?_) (fun q => ?_)
      · replace H := H.1 q
        refine Wx.aload_n hC te_23_35 rfl ?_
        refine Wx.iload_n hC te_23_36 rfl ?_
        refine Wx.virtI hC te_23_37 mt_25 (args := [.inr 1, .inl x2]) (rest := []) rfl rfl rfl rfl rfl rfl rfl rfl ?_
        refine CWI.mono hC (fun r8 m7 H hy => ?_) H
        replace H := H hy
        refine Wx.aload_n hC te_23_40 rfl ?_
        refine Wx.iload_n hC te_23_41 rfl ?_
        refine Wx.virtI hC te_23_42 mt_25 (args := [.inr 1, .inl x3]) (rest := [.inl r8]) rfl rfl rfl rfl rfl rfl rfl rfl ?_
        refine CWI.mono hC (fun r10 m9 H hy => ?_) H
        replace H := H hy
        refine Wx.icmp hC (t := 52) te_23_45 (by decide) (fun q => ?_) (fun q => ?_)
        · replace H := H.1 q
          refine Wx.iconst hC te_23_52 rfl ?_
          refine Wx.istore hC te_23_53 rfl ?_
          refine Wx.iload hC te_23_55 rfl ?_
          refine Wx.ifc hC (t := 64) te_23_57 (by decide) (fun q => ?_) (fun q => absurd (show (0 : Int) = 0 by decide) q)
          refine Wx.iload_n hC te_23_64 rfl ?_
          refine Wx.istore hC te_23_65 rfl ?_
          refine Wx.iload hC te_23_67 rfl ?_
          refine Wx.ifc hC (t := 76) te_23_69 (by decide) (fun q => ?_) (fun q => absurd (show (0 : Int) = 0 by decide) q)
          refine Wx.iload_n hC te_23_76 rfl ?_
          refine Wx.istore hC te_23_77 rfl ?_
          refine Wx.aload_n hC te_23_79 rfl ?_
          refine Wx.iload hC te_23_80 rfl ?_
          refine Wx.virtI hC te_23_82 mt_25 (args := [.inr 1, .inl x3]) (rest := []) rfl rfl rfl rfl rfl rfl rfl rfl ?_
          refine CWI.mono hC (fun r12 m11 H hy => ?_) H
          replace H := H hy
          refine Wx.aload_n hC te_23_85 rfl ?_
          refine Wx.iload hC te_23_86 rfl ?_
          refine Wx.virtI hC te_23_88 mt_25 (args := [.inr 1, .inl x2]) (rest := [.inl r12]) rfl rfl rfl rfl rfl rfl rfl rfl ?_
          refine CWI.mono hC (fun r14 m13 H hy => ?_) H
          replace H := H hy
          refine Wx.isub hC te_23_91 H.1 ?_
          replace H := H.2
          refine Wx.istore hC te_23_92 rfl ?_
          refine Wx.aload_n hC te_23_94 rfl ?_
          refine Wx.getR hC te_23_95 rfl rfl rfl ?_
          refine Wx.iload hC te_23_98 rfl ?_
          refine Wx.iald hC te_23_100 rfl H.1 (fun v15 e1 e2 => ?_)
          replace H := H.2 v15 e1 e2
          refine Wx.iconst hC te_23_101 rfl ?_
          refine Wx.icmp hC (t := 109) te_23_102 (by decide) (fun q => ?_) (fun q => ?_)
          · replace H := H.1 q
            refine Wx.iconst hC te_23_109 rfl ?_
            refine Wx.istore hC te_23_110 rfl ?_
            refine Wx.aload_n hC te_23_112 rfl ?_
            refine Wx.getR hC te_23_113 rfl rfl rfl ?_
            refine Wx.iload hC te_23_116 rfl ?_
            refine Wx.iald hC te_23_118 rfl H.1 (fun v16 e1 e2 => ?_)
            replace H := H.2 v16 e1 e2
            refine Wx.iconst hC te_23_119 rfl ?_
            refine Wx.icmp hC (t := 127) te_23_120 (by decide) (fun q => ?_) (fun q => ?_)
            · replace H := H.1 q
              refine Wx.iconst hC te_23_127 rfl ?_
              refine Wx.istore hC te_23_128 rfl ?_
              refine Wx.iload hC te_23_130 rfl ?_
              refine Wx.ifc hC (t := 154) te_23_132 (by decide) (fun q => ?_) (fun q => absurd (show (0 : Int) = 0 by decide) q)
              refine Wx.iload hC te_23_154 rfl ?_
              refine Wx.ifc hC (t := 180) te_23_156 (by decide) (fun q => ?_) (fun q => absurd (show (0 : Int) = 0 by decide) q)
              refine Wx.iload hC te_23_180 rfl ?_
              refine Wx.ifc hC (t := 205) te_23_182 (by decide) (fun q => ?_) (fun q => absurd (show (0 : Int) = 0 by decide) q)
              exact Wx.vret hC te_23_205 rfl H
            · replace H := H.2 q
              refine Wx.iconst hC te_23_123 rfl ?_
              refine Wx.goto hC (t := 128) te_23_124 (by decide) ?_
              refine Wx.istore hC te_23_128 rfl ?_
              refine Wx.iload hC te_23_130 rfl ?_
              refine Wx.ifc hC (t := 154) te_23_132 (by decide) (fun q => ?_) (fun q => absurd (show (0 : Int) = 0 by decide) q)
              refine Wx.iload hC te_23_154 rfl ?_
              refine Wx.ifc hC (t := 180) te_23_156 (by decide) (fun q => ?_) (fun q => absurd (show (0 : Int) = 0 by decide) q)
              refine Wx.iload hC te_23_180 rfl ?_
              refine Wx.ifc hC (t := 205) te_23_182 (by decide) (fun q => absurd q (show ¬ ((1 : Int) = 0) by decide)) (fun q => ?_)
              refine Wx.aload_n hC te_23_185 rfl ?_
              refine Wx.iload hC te_23_186 rfl ?_
              refine Wx.iload hC te_23_188 rfl ?_
              refine Wx.iload hC te_23_190 rfl ?_
              refine Wx.iconst hC te_23_192 rfl ?_
              refine Wx.aload_n hC te_23_193 rfl ?_
              refine Wx.iload hC te_23_194 rfl ?_
              refine Wx.iload hC te_23_196 rfl ?_
              refine Wx.statI hC te_23_198 (by decide) mt_18 (args := [.inr 1, .inl x2, .inl x4]) (rest := [.inl 1, .inl (r12 - r14), .inl x2, .inl x3, .inr W]) rfl rfl rfl rfl rfl ?_
              refine CWI.mono hC (fun r18 m17 H hy => ?_) H
              replace H := H hy
              refine Wx.isub hC te_23_201 H.1 ?_
              replace H := H.2
              refine Wx.virtV hC te_23_202 mt_20 (args := [.inr W, .inl x3, .inl x2, .inl (r12 - r14), .inl (1 - r18)]) (rest := []) rfl rfl rfl rfl rfl rfl hW.1 rfl ?_
              refine CWV.mono hC (fun m19 H => ?_) H
              exact Wx.vret hC te_23_205 rfl H
          · replace H := H.2 q
            refine Wx.iconst hC te_23_105 rfl ?_
            refine Wx.goto hC (t := 110) te_23_106 (by decide) ?_
            refine Wx.istore hC te_23_110 rfl ?_
            refine Wx.aload_n hC te_23_112 rfl ?_
            refine Wx.getR hC te_23_113 rfl rfl rfl ?_
            refine Wx.iload hC te_23_116 rfl ?_
            refine Wx.iald hC te_23_118 rfl H.1 (fun v20 e1 e2 => ?_)
            replace H := H.2 v20 e1 e2
            refine Wx.iconst hC te_23_119 rfl ?_
            refine Wx.icmp hC (t := 127) te_23_120 (by decide) (fun q => ?_) (fun q => ?_)
            · replace H := H.1 q
              refine Wx.iconst hC te_23_127 rfl ?_
              refine Wx.istore hC te_23_128 rfl ?_
              refine Wx.iload hC te_23_130 rfl ?_
              refine Wx.ifc hC (t := 154) te_23_132 (by decide) (fun q => absurd q (show ¬ ((1 : Int) = 0) by decide)) (fun q => ?_)
              refine Wx.iload hC te_23_135 rfl ?_
              refine Wx.ifc hC (t := 154) te_23_137 (by decide) (fun q => ?_) (fun q => absurd (show (0 : Int) = 0 by decide) q)
              refine Wx.iload hC te_23_154 rfl ?_
              refine Wx.ifc hC (t := 180) te_23_156 (by decide) (fun q => absurd q (show ¬ ((1 : Int) = 0) by decide)) (fun q => ?_)
              refine Wx.aload_n hC te_23_159 rfl ?_
              refine Wx.iload hC te_23_160 rfl ?_
              refine Wx.iload hC te_23_162 rfl ?_
              refine Wx.iload hC te_23_164 rfl ?_
              refine Wx.aload_n hC te_23_166 rfl ?_
              refine Wx.iload hC te_23_167 rfl ?_
              refine Wx.iload hC te_23_169 rfl ?_
              refine Wx.statI hC te_23_171 (by decide) mt_18 (args := [.inr 1, .inl x3, .inl x4]) (rest := [.inl (r12 - r14), .inl x2, .inl x3, .inr W]) rfl rfl rfl rfl rfl ?_
              refine CWI.mono hC (fun r22 m21 H hy => ?_) H
              replace H := H hy
              refine Wx.virtV hC te_23_174 mt_20 (args := [.inr W, .inl x3, .inl x2, .inl (r12 - r14), .inl r22]) (rest := []) rfl rfl rfl rfl rfl rfl hW.1 rfl ?_
              refine CWV.mono hC (fun m23 H => ?_) H
              refine Wx.goto hC (t := 205) te_23_177 (by decide) ?_
              exact Wx.vret hC te_23_205 rfl H
            · replace H := H.2 q
              refine Wx.iconst hC te_23_123 rfl ?_
              refine Wx.goto hC (t := 128) te_23_124 (by decide) ?_
              refine Wx.istore hC te_23_128 rfl ?_
              refine Wx.iload hC te_23_130 rfl ?_
              refine Wx.ifc hC (t := 154) te_23_132 (by decide) (fun q => absurd q (show ¬ ((1 : Int) = 0) by decide)) (fun q => ?_)
              refine Wx.iload hC te_23_135 rfl ?_
              refine Wx.ifc hC (t := 154) te_23_137 (by decide) (fun q => absurd q (show ¬ ((1 : Int) = 0) by decide)) (fun q => ?_)
              refine Wx.aload_n hC te_23_140 rfl ?_
              refine Wx.iload hC te_23_141 rfl ?_
              refine Wx.iload hC te_23_143 rfl ?_
              refine Wx.iload hC te_23_145 rfl ?_
              refine Wx.iconst hC te_23_147 rfl ?_
              refine Wx.virtV hC te_23_148 mt_20 (args := [.inr W, .inl x3, .inl x2, .inl (r12 - r14), .inl 1]) (rest := []) rfl rfl rfl rfl rfl rfl hW.1 rfl ?_
              refine CWV.mono hC (fun m24 H => ?_) H
              refine Wx.goto hC (t := 205) te_23_151 (by decide) ?_
              exact Wx.vret hC te_23_205 rfl H
        · replace H := H.2 q
          refine Wx.iconst hC te_23_48 rfl ?_
          refine Wx.goto hC (t := 53) te_23_49 (by decide) ?_
          refine Wx.istore hC te_23_53 rfl ?_
          refine Wx.iload hC te_23_55 rfl ?_
          refine Wx.ifc hC (t := 64) te_23_57 (by decide) (fun q => absurd q (show ¬ ((1 : Int) = 0) by decide)) (fun q => ?_)
          refine Wx.iload_n hC te_23_60 rfl ?_
          refine Wx.goto hC (t := 65) te_23_61 (by decide) ?_
          refine Wx.istore hC te_23_65 rfl ?_
          refine Wx.iload hC te_23_67 rfl ?_
          refine Wx.ifc hC (t := 76) te_23_69 (by decide) (fun q => absurd q (show ¬ ((1 : Int) = 0) by decide)) (fun q => ?_)
          refine Wx.iload_n hC te_23_72 rfl ?_
          refine Wx.goto hC (t := 77) te_23_73 (by decide) ?_
          refine Wx.istore hC te_23_77 rfl ?_
          refine Wx.aload_n hC te_23_79 rfl ?_
          refine Wx.iload hC te_23_80 rfl ?_
          refine Wx.virtI hC te_23_82 mt_25 (args := [.inr 1, .inl x2]) (rest := []) rfl rfl rfl rfl rfl rfl rfl rfl ?_
          refine CWI.mono hC (fun r26 m25 H hy => ?_) H
          replace H := H hy
          refine Wx.aload_n hC te_23_85 rfl ?_
          refine Wx.iload hC te_23_86 rfl ?_
          refine Wx.virtI hC te_23_88 mt_25 (args := [.inr 1, .inl x3]) (rest := [.inl r26]) rfl rfl rfl rfl rfl rfl rfl rfl ?_
          refine CWI.mono hC (fun r28 m27 H hy => ?_) H
          replace H := H hy
          refine Wx.isub hC te_23_91 H.1 ?_
          replace H := H.2
          refine Wx.istore hC te_23_92 rfl ?_
          refine Wx.aload_n hC te_23_94 rfl ?_
          refine Wx.getR hC te_23_95 rfl rfl rfl ?_
          refine Wx.iload hC te_23_98 rfl ?_
          refine Wx.iald hC te_23_100 rfl H.1 (fun v29 e1 e2 => ?_)
          replace H := H.2 v29 e1 e2
          refine Wx.iconst hC te_23_101 rfl ?_
          refine Wx.icmp hC (t := 109) te_23_102 (by decide) (fun q => ?_) (fun q => ?_)
          · replace H := H.1 q
            refine Wx.iconst hC te_23_109 rfl ?_
            refine Wx.istore hC te_23_110 rfl ?_
            refine Wx.aload_n hC te_23_112 rfl ?_
            refine Wx.getR hC te_23_113 rfl rfl rfl ?_
            refine Wx.iload hC te_23_116 rfl ?_
            refine Wx.iald hC te_23_118 rfl H.1 (fun v30 e1 e2 => ?_)
            replace H := H.2 v30 e1 e2
            refine Wx.iconst hC te_23_119 rfl ?_
            refine Wx.icmp hC (t := 127) te_23_120 (by decide) (fun q => ?_) (fun q => ?_)
            · replace H := H.1 q
              refine Wx.iconst hC te_23_127 rfl ?_
              refine Wx.istore hC te_23_128 rfl ?_
              refine Wx.iload hC te_23_130 rfl ?_
              refine Wx.ifc hC (t := 154) te_23_132 (by decide) (fun q => ?_) (fun q => absurd (show (0 : Int) = 0 by decide) q)
              refine Wx.iload hC te_23_154 rfl ?_
              refine Wx.ifc hC (t := 180) te_23_156 (by decide) (fun q => ?_) (fun q => absurd (show (0 : Int) = 0 by decide) q)
              refine Wx.iload hC te_23_180 rfl ?_
              refine Wx.ifc hC (t := 205) te_23_182 (by decide) (fun q => ?_) (fun q => absurd (show (0 : Int) = 0 by decide) q)
              exact Wx.vret hC te_23_205 rfl H
            · replace H := H.2 q
              refine Wx.iconst hC te_23_123 rfl ?_
              refine Wx.goto hC (t := 128) te_23_124 (by decide) ?_
              refine Wx.istore hC te_23_128 rfl ?_
              refine Wx.iload hC te_23_130 rfl ?_
              refine Wx.ifc hC (t := 154) te_23_132 (by decide) (fun q => ?_) (fun q => absurd (show (0 : Int) = 0 by decide) q)
              refine Wx.iload hC te_23_154 rfl ?_
              refine Wx.ifc hC (t := 180) te_23_156 (by decide) (fun q => ?_) (fun q => absurd (show (0 : Int) = 0 by decide) q)
              refine Wx.iload hC te_23_180 rfl ?_
              refine Wx.ifc hC (t := 205) te_23_182 (by decide) (fun q => absurd q (show ¬ ((1 : Int) = 0) by decide)) (fun q => ?_)
              refine Wx.aload_n hC te_23_185 rfl ?_
              refine Wx.iload hC te_23_186 rfl ?_
              refine Wx.iload hC te_23_188 rfl ?_
              refine Wx.iload hC te_23_190 rfl ?_
              refine Wx.iconst hC te_23_192 rfl ?_
              refine Wx.aload_n hC te_23_193 rfl ?_
              refine Wx.iload hC te_23_194 rfl ?_
              refine Wx.iload hC te_23_196 rfl ?_
              refine Wx.statI hC te_23_198 (by decide) mt_18 (args := [.inr 1, .inl x3, .inl x4]) (rest := [.inl 1, .inl (r26 - r28), .inl x3, .inl x2, .inr W]) rfl rfl rfl rfl rfl ?_
              refine CWI.mono hC (fun r32 m31 H hy => ?_) H
              replace H := H hy
              refine Wx.isub hC te_23_201 H.1 ?_
              replace H := H.2
              refine Wx.virtV hC te_23_202 mt_20 (args := [.inr W, .inl x2, .inl x3, .inl (r26 - r28), .inl (1 - r32)]) (rest := []) rfl rfl rfl rfl rfl rfl hW.1 rfl ?_
              refine CWV.mono hC (fun m33 H => ?_) H
              exact Wx.vret hC te_23_205 rfl H
          · replace H := H.2 q
            refine Wx.iconst hC te_23_105 rfl ?_
            refine Wx.goto hC (t := 110) te_23_106 (by decide) ?_
            refine Wx.istore hC te_23_110 rfl ?_
            refine Wx.aload_n hC te_23_112 rfl ?_
            refine Wx.getR hC te_23_113 rfl rfl rfl ?_
            refine Wx.iload hC te_23_116 rfl ?_
            refine Wx.iald hC te_23_118 rfl H.1 (fun v34 e1 e2 => ?_)
            replace H := H.2 v34 e1 e2
            refine Wx.iconst hC te_23_119 rfl ?_
            refine Wx.icmp hC (t := 127) te_23_120 (by decide) (fun q => ?_) (fun q => ?_)
            · replace H := H.1 q
              refine Wx.iconst hC te_23_127 rfl ?_
              refine Wx.istore hC te_23_128 rfl ?_
              refine Wx.iload hC te_23_130 rfl ?_
              refine Wx.ifc hC (t := 154) te_23_132 (by decide) (fun q => absurd q (show ¬ ((1 : Int) = 0) by decide)) (fun q => ?_)
              refine Wx.iload hC te_23_135 rfl ?_
              refine Wx.ifc hC (t := 154) te_23_137 (by decide) (fun q => ?_) (fun q => absurd (show (0 : Int) = 0 by decide) q)
              refine Wx.iload hC te_23_154 rfl ?_
              refine Wx.ifc hC (t := 180) te_23_156 (by decide) (fun q => absurd q (show ¬ ((1 : Int) = 0) by decide)) (fun q => ?_)
              refine Wx.aload_n hC te_23_159 rfl ?_
              refine Wx.iload hC te_23_160 rfl ?_
              refine Wx.iload hC te_23_162 rfl ?_
              refine Wx.iload hC te_23_164 rfl ?_
              refine Wx.aload_n hC te_23_166 rfl ?_
              refine Wx.iload hC te_23_167 rfl ?_
              refine Wx.iload hC te_23_169 rfl ?_
              refine Wx.statI hC te_23_171 (by decide) mt_18 (args := [.inr 1, .inl x2, .inl x4]) (rest := [.inl (r26 - r28), .inl x3, .inl x2, .inr W]) rfl rfl rfl rfl rfl ?_
              refine CWI.mono hC (fun r36 m35 H hy => ?_) H
              replace H := H hy
              refine Wx.virtV hC te_23_174 mt_20 (args := [.inr W, .inl x2, .inl x3, .inl (r26 - r28), .inl r36]) (rest := []) rfl rfl rfl rfl rfl rfl hW.1 rfl ?_
              refine CWV.mono hC (fun m37 H => ?_) H
              refine Wx.goto hC (t := 205) te_23_177 (by decide) ?_
              exact Wx.vret hC te_23_205 rfl H
            · replace H := H.2 q
              refine Wx.iconst hC te_23_123 rfl ?_
              refine Wx.goto hC (t := 128) te_23_124 (by decide) ?_
              refine Wx.istore hC te_23_128 rfl ?_
              refine Wx.iload hC te_23_130 rfl ?_
              refine Wx.ifc hC (t := 154) te_23_132 (by decide) (fun q => absurd q (show ¬ ((1 : Int) = 0) by decide)) (fun q => ?_)
              refine Wx.iload hC te_23_135 rfl ?_
              refine Wx.ifc hC (t := 154) te_23_137 (by decide) (fun q => absurd q (show ¬ ((1 : Int) = 0) by decide)) (fun q => ?_)
              refine Wx.aload_n hC te_23_140 rfl ?_
              refine Wx.iload hC te_23_141 rfl ?_
              refine Wx.iload hC te_23_143 rfl ?_
              refine Wx.iload hC te_23_145 rfl ?_
              refine Wx.iconst hC te_23_147 rfl ?_
              refine Wx.virtV hC te_23_148 mt_20 (args := [.inr W, .inl x2, .inl x3, .inl (r26 - r28), .inl 1]) (rest := []) rfl rfl rfl rfl rfl rfl hW.1 rfl ?_
              refine CWV.mono hC (fun m38 H => ?_) H
              refine Wx.goto hC (t := 205) te_23_151 (by decide) ?_
              exact Wx.vret hC te_23_205 rfl H
      · replace H := H.2 q
        exact Wx.vret hC te_23_34 rfl H
    · replace H := H.2 q
      exact Wx.vret hC te_23_20 rfl H
theorem w_17_0 {C : CXW} (hC : Cmono C) {S : Nat × (Nat → Int32)} {K : WK} {mem : MM} {W : Nat} (hW : WebSh W) {x2 : Int} (H : (Wx C S M_17 K 7 [some (.inr W), some (.inr 1), some (.inl x2), some (.inl 0), none, none] [] (upm mem W 0 0))) : Wx C S M_17 K 0 [some (.inr W), some (.inr 1), some (.inl x2), none, none, none] [] mem := by
  refine Wx.aload_n hC te_17_0 rfl ?_
  refine Wx.iconst hC te_17_1 rfl ?_
  refine Wx.putI hC te_17_2 hW.1 rfl rfl rfl ?_
  refine Wx.iconst hC te_17_5 rfl ?_
  refine Wx.istore_n hC te_17_6 rfl ?_
  exact H
theorem w_17_7 {C : CXW} (hC : Cmono C) {S : Nat × (Nat → Int32)} {K : WK} {mem : MM} {W : Nat} (hW : WebSh W) {x2 x3 : Int} (H : ∀ v1 : Int, v1 = mem 1 0 → InI v1 → ((v1 ≤ x3 → (Wx C S M_17 K 77 [some (.inr W), some (.inr 1), some (.inl x2), some (.inl 0), none, none] [] mem)) ∧ (¬ (v1 ≤ x3) → (Wx C S M_17 K 18 [some (.inr W), some (.inr 1), some (.inl x2), some (.inl x3), some (.inl 0), none] [] mem)))) : Wx C S M_17 K 7 [some (.inr W), some (.inr 1), some (.inl x2), some (.inl x3), none, none] [] mem := by
  refine Wx.iload_n hC te_17_7 rfl ?_
  refine Wx.aload_n hC te_17_8 rfl ?_
  refine Wx.getI hC te_17_9 rfl rfl rfl (fun v1 e1 e2 => ?_)
  replace H := H v1 e1 e2
  refine Wx.icmp hC (t := 75) te_17_12 (by decide) (fun q => ?_) (fun q => ?_)
  · replace H := H.1 q
    refine Wx.iconst hC te_17_75 rfl ?_
    refine Wx.istore_n hC te_17_76 rfl ?_
    exact H
  · replace H := H.2 q
    refine Wx.iconst hC te_17_15 rfl ?_
    refine Wx.istore hC te_17_16 rfl ?_
    exact H
theorem w_17_18 {C : CXW} (hC : Cmono C) {S : Nat × (Nat → Int32)} {K : WK} {mem : MM} {W : Nat} (hW : WebSh W) {x2 x3 x4 : Int} (H : (CWI C 13 [.inr 1, .inl x3] mem fun r2 m1 => InI r2 → ((r2 ≤ x4 → (InI (x3 + 1)) ∧ (Wx C S M_17 K 7 [some (.inr W), some (.inr 1), some (.inl x2), some (.inl (x3 + 1)), none, none] [] m1)) ∧ (¬ (r2 ≤ x4) → (CWI C 14 [.inr 1, .inl x3, .inl x4] m1 fun r4 m3 => InI r4 → ((r4 < 0 → (InI (x4 + 1)) ∧ (Wx C S M_17 K 18 [some (.inr W), some (.inr 1), some (.inl x2), some (.inl x3), some (.inl (x4 + 1)), none] [] m3)) ∧ (¬ (r4 < 0) → (CWI C 15 [.inr 1, .inl x3, .inl x4] m3 fun r6 m5 => InI r6 → (CWI C 18 [.inr 1, .inl r4, .inl x2] m5 fun r8 m7 => InI r8 → (CWV C 20 [.inr W, .inl r4, .inl x3, .inl r6, .inl r8] m7 fun m9 => (InI (x4 + 1)) ∧ (Wx C S M_17 K 18 [some (.inr W), some (.inr 1), some (.inl x2), some (.inl x3), some (.inl (x4 + 1)), none] [] m9))))))))))) : Wx C S M_17 K 18 [some (.inr W), some (.inr 1), some (.inl x2), some (.inl x3), some (.inl x4), none] [] mem := by
  refine Wx.iload hC te_17_18 rfl ?_
  refine Wx.aload_n hC te_17_20 rfl ?_
  refine Wx.iload_n hC te_17_21 rfl ?_
  refine Wx.virtI hC te_17_22 mt_13 (args := [.inr 1, .inl x3]) (rest := [.inl x4]) rfl rfl rfl rfl rfl rfl rfl rfl ?_
  refine CWI.mono hC (fun r2 m1 H hy => ?_) H
  replace H := H hy
  refine Wx.icmp hC (t := 69) te_17_25 (by decide) (fun q => ?_) (fun q => ?_)
  · replace H := H.1 q
    refine Wx.iinc hC te_17_69 rfl rfl H.1 ?_
    replace H := H.2
    refine Wx.goto hC (t := 7) te_17_72 (by decide) ?_
    exact Wx.weak (by repeat' (first | exact trivial | exact rfl | constructor)) H
  · replace H := H.2 q
    refine Wx.aload_n hC te_17_28 rfl ?_
    refine Wx.iload_n hC te_17_29 rfl ?_
    refine Wx.iload hC te_17_30 rfl ?_
    refine Wx.virtI hC te_17_32 mt_14 (args := [.inr 1, .inl x3, .inl x4]) (rest := []) rfl rfl rfl rfl rfl rfl rfl rfl ?_
    refine CWI.mono hC (fun r4 m3 H hy => ?_) H
    replace H := H hy
    refine Wx.istore hC te_17_35 rfl ?_
    refine Wx.iload hC te_17_37 rfl ?_
    refine Wx.ifc hC (t := 63) te_17_39 (by decide) (fun q => ?_) (fun q => ?_)
    · replace H := H.1 q
      refine Wx.iinc hC te_17_63 rfl rfl H.1 ?_
      replace H := H.2
      refine Wx.goto hC (t := 18) te_17_66 (by decide) ?_
      exact Wx.weak (by repeat' (first | exact trivial | exact rfl | constructor)) H
    · replace H := H.2 q
      refine Wx.aload_n hC te_17_42 rfl ?_
      refine Wx.iload hC te_17_43 rfl ?_
      refine Wx.iload_n hC te_17_45 rfl ?_
      refine Wx.aload_n hC te_17_46 rfl ?_
      refine Wx.iload_n hC te_17_47 rfl ?_
      refine Wx.iload hC te_17_48 rfl ?_
      refine Wx.virtI hC te_17_50 mt_15 (args := [.inr 1, .inl x3, .inl x4]) (rest := [.inl x3, .inl r4, .inr W]) rfl rfl rfl rfl rfl rfl rfl rfl ?_
      refine CWI.mono hC (fun r6 m5 H hy => ?_) H
      replace H := H hy
      refine Wx.aload_n hC te_17_53 rfl ?_
      refine Wx.iload hC te_17_54 rfl ?_
      refine Wx.iload_n hC te_17_56 rfl ?_
      refine Wx.statI hC te_17_57 (by decide) mt_18 (args := [.inr 1, .inl r4, .inl x2]) (rest := [.inl r6, .inl x3, .inl r4, .inr W]) rfl rfl rfl rfl rfl ?_
      refine CWI.mono hC (fun r8 m7 H hy => ?_) H
      replace H := H hy
      refine Wx.virtV hC te_17_60 mt_20 (args := [.inr W, .inl r4, .inl x3, .inl r6, .inl r8]) (rest := []) rfl rfl rfl rfl rfl rfl hW.1 rfl ?_
      refine CWV.mono hC (fun m9 H => ?_) H
      refine Wx.iinc hC te_17_63 rfl rfl H.1 ?_
      replace H := H.2
      refine Wx.goto hC (t := 18) te_17_66 (by decide) ?_
      exact Wx.weak (by repeat' (first | exact trivial | exact rfl | constructor)) H
theorem w_17_77 {C : CXW} (hC : Cmono C) {S : Nat × (Nat → Int32)} {K : WK} {mem : MM} {W : Nat} (hW : WebSh W) {x2 x3 : Int} (H : ∀ v1 : Int, v1 = mem 1 0 → InI v1 → ((v1 ≤ x3 → (K none mem)) ∧ (¬ (v1 ≤ x3) → (InI (x3 + 1)) ∧ (Wx C S M_17 K 90 [some (.inr W), some (.inr 1), some (.inl x2), some (.inl x3), some (.inl (x3 + 1)), none] [] mem)))) : Wx C S M_17 K 77 [some (.inr W), some (.inr 1), some (.inl x2), some (.inl x3), none, none] [] mem := by
  refine Wx.iload_n hC te_17_77 rfl ?_
  refine Wx.aload_n hC te_17_78 rfl ?_
  refine Wx.getI hC te_17_79 rfl rfl rfl (fun v1 e1 e2 => ?_)
  replace H := H v1 e1 e2
  refine Wx.icmp hC (t := 120) te_17_82 (by decide) (fun q => ?_) (fun q => ?_)
  · replace H := H.1 q
    exact Wx.vret hC te_17_120 rfl H
  · replace H := H.2 q
    refine Wx.iload_n hC te_17_85 rfl ?_
    refine Wx.iconst hC te_17_86 rfl ?_
    refine Wx.iadd hC te_17_87 H.1 ?_
    replace H := H.2
    refine Wx.istore hC te_17_88 rfl ?_
    exact H
theorem w_17_90 {C : CXW} (hC : Cmono C) {S : Nat × (Nat → Int32)} {K : WK} {mem : MM} {W : Nat} (hW : WebSh W) {x2 x3 x4 : Int} (H : ∀ v1 : Int, v1 = mem 1 0 → InI v1 → ((v1 ≤ x4 → (InI (x3 + 1)) ∧ (Wx C S M_17 K 77 [some (.inr W), some (.inr 1), some (.inl x2), some (.inl (x3 + 1)), none, none] [] mem)) ∧ (¬ (v1 ≤ x4) → (CWV C 23 [.inr W, .inr 1, .inl x3, .inl x4, .inl x2] mem fun m2 => (InI (x4 + 1)) ∧ (Wx C S M_17 K 90 [some (.inr W), some (.inr 1), some (.inl x2), some (.inl x3), some (.inl (x4 + 1)), none] [] m2))))) : Wx C S M_17 K 90 [some (.inr W), some (.inr 1), some (.inl x2), some (.inl x3), some (.inl x4), none] [] mem := by
  refine Wx.iload hC te_17_90 rfl ?_
  refine Wx.aload_n hC te_17_92 rfl ?_
  refine Wx.getI hC te_17_93 rfl rfl rfl (fun v1 e1 e2 => ?_)
  replace H := H v1 e1 e2
  refine Wx.icmp hC (t := 114) te_17_96 (by decide) (fun q => ?_) (fun q => ?_)
  · replace H := H.1 q
    refine Wx.iinc hC te_17_114 rfl rfl H.1 ?_
    replace H := H.2
    refine Wx.goto hC (t := 77) te_17_117 (by decide) ?_
    exact Wx.weak (by repeat' (first | exact trivial | exact rfl | constructor)) H
  · replace H := H.2 q
    refine Wx.aload_n hC te_17_99 rfl ?_
    refine Wx.aload_n hC te_17_100 rfl ?_
    refine Wx.iload_n hC te_17_101 rfl ?_
    refine Wx.iload hC te_17_102 rfl ?_
    refine Wx.iload_n hC te_17_104 rfl ?_
    refine Wx.virtV hC te_17_105 mt_23 (args := [.inr W, .inr 1, .inl x3, .inl x4, .inl x2]) (rest := []) rfl rfl rfl rfl rfl rfl hW.1 rfl ?_
    refine CWV.mono hC (fun m2 H => ?_) H
    refine Wx.iinc hC te_17_108 rfl rfl H.1 ?_
    replace H := H.2
    refine Wx.goto hC (t := 90) te_17_111 (by decide) ?_
    exact H
end
section
/-! the class: its ops, and the web of needs -/
def BOp (m : MM) (o : Nat) : Prop := (0 ≤ m 2 o ∧ m 2 o ≤ 5) ∧ (m 2 o ≤ 3 → srcOK (m 3 (4 * o)) (m 3 (4 * o + 1)) ∧ srcOK (m 3 (4 * o + 2)) (m 3 (4 * o + 3))) ∧ (m 2 o = 4 → 0 ≤ m 3 (4 * o) ∧ m 3 (4 * o) ≤ 1 ∧ 0 ≤ m 3 (4 * o + 1) ∧ m 3 (4 * o + 1) ≤ 7) ∧ (m 2 o = 5 → srcOK (m 3 (4 * o)) (m 3 (4 * o + 1)) ∧ 0 ≤ m 3 (4 * o + 2) ∧ m 3 (4 * o + 2) ≤ 1 ∧ 0 ≤ m 3 (4 * o + 3) ∧ m 3 (4 * o + 3) ≤ 7)
def BodyOK (m : MM) : Prop := (0 ≤ m 1 0 ∧ m 1 0 ≤ 8) ∧ (∀ o, o < 8 → BOp m o) ∧ (∀ k, k < 6 → 0 ≤ m 5 k ∧ m 5 k ≤ 2) ∧ (∀ k, k < 6 → 1 ≤ m 6 k ∧ m 6 k ≤ 6) ∧ (∀ k, k < 6 → 1 ≤ m 7 k ∧ m 7 k ≤ 15) ∧ (∀ k, k < 3 → 1 ≤ m 8 k ∧ m 8 k ≤ 3)
def csN (m : MM) (o : Nat) : Int := if m 2 o = 4 then 0 else if m 2 o = 5 then 1 else 2
def rowB (m : MM) (o : Nat) : Int := if m 2 o = 5 then m 3 (4 * o + 2) else m 3 (4 * o)
def plcB (m : MM) (o : Nat) : Int := if m 2 o = 5 then m 3 (4 * o + 3) else m 3 (4 * o + 1)
theorem csN_le (m : MM) (o : Nat) : 0 ≤ csN m o ∧ csN m o ≤ 2 := by unfold csN; split <;> (try split) <;> omega
theorem BodyOK.src {m : MM} (h : BodyOK m) {o k : Nat} (ho : o < 8) (hk : (k : Int) < csN m o) : srcOK (m 3 (4 * o + 2 * k)) (m 3 (4 * o + 2 * k + 1)) := by
  obtain ⟨h1, h3, h4, h5⟩ := h.2.1 o ho
  unfold csN at hk
  split at hk
  · omega
  · split at hk
    · have e : k = 0 := by omega
      subst e
      exact (h5 (by assumption)).1
    · have : k = 0 ∨ k = 1 := by omega
      rcases this with e | e <;> subst e
      · exact (h3 (by omega)).1
      · exact (h3 (by omega)).2
theorem BodyOK.row {m : MM} (h : BodyOK m) {o : Nat} (ho : o < 8) (q : 4 ≤ m 2 o) : (0 ≤ rowB m o ∧ rowB m o ≤ 1) ∧ 0 ≤ plcB m o ∧ plcB m o ≤ 7 := by
  obtain ⟨h1, h3, h4, h5⟩ := h.2.1 o ho
  unfold rowB plcB
  by_cases e : m 2 o = 5
  · rw [if_pos e, if_pos e]; have := h5 e; omega
  · rw [if_neg e, if_neg e]; have := h4 (by omega); omega
def R64 (m : MM) (W : Nat) : Prop := ∀ j, j < 64 → Rg (m (W + 1) j) (m (W + 2) j) (m (W + 3) j) (m (W + 4) j)
def FrWb (W : Nat) (m m' : MM) : Prop := ∀ A i, ¬ (W < A ∧ A ≤ W + 4) → ¬ (A = W ∧ i = 0) → m' A i = m A i
theorem FrWb.rf {W : Nat} {m : MM} : FrWb W m m := fun _ _ _ _ => rfl
theorem FrWb.tr {W : Nat} {a b c : MM} (h1 : FrWb W a b) (h2 : FrWb W b c) : FrWb W a c := fun A i e1 e2 => (h2 A i e1 e2).trans (h1 A i e1 e2)
theorem BodyOK.fr {m m' : MM} (h : BodyOK m) (e : ∀ A i, 0 < A → A < 9 → m' A i = m A i) : BodyOK m' := by
  refine ⟨by rw [e _ _ (by omega) (by omega)]; exact h.1, fun o ho => ?_, fun k hk => ?_, fun k hk => ?_, fun k hk => ?_, fun k hk => ?_⟩
  · unfold BOp
    rw [e 2 o (by omega) (by omega), e 3 (4 * o) (by omega) (by omega), e 3 (4 * o + 1) (by omega) (by omega), e 3 (4 * o + 2) (by omega) (by omega), e 3 (4 * o + 3) (by omega) (by omega)]
    exact h.2.1 o ho
  · rw [e _ _ (by omega) (by omega)]; exact h.2.2.1 k hk
  · rw [e _ _ (by omega) (by omega)]; exact h.2.2.2.1 k hk
  · rw [e _ _ (by omega) (by omega)]; exact h.2.2.2.2.1 k hk
  · rw [e _ _ (by omega) (by omega)]; exact h.2.2.2.2.2 k hk
def WbOK (m : MM) (W : Nat) : Prop := R64 m W ∧ 0 ≤ m W 0 ∧ m W 0 ≤ 64
section WEB
variable {S : Nat × (Nat → Int32)} {n : Nat} {mem : MM} {K : Int → MM → Prop}
theorem f_13 {o : Int} (h : 0 ≤ o ∧ o < 8) (H : K (csN mem o.toNat) mem) : CWI (Ex S (n + 1)) 13 [.inr 1, .inl o] mem K := by
  refine CW.of (k := 0) mt_13 rfl rfl (w_13_0 (Ex.mono S n) ⟨h, fun v e _ => ⟨fun q => ⟨h, fun v2 e2 _ => ⟨fun q2 _ => ⟨_, rfl, ?_⟩, fun q2 _ => ⟨_, rfl, ?_⟩⟩⟩, fun q _ => ⟨_, rfl, ?_⟩⟩⟩)
  · unfold csN at H; rw [if_neg (by omega), if_neg (by omega)] at H; exact H
  · unfold csN at H; rw [if_neg (by omega), if_pos (by omega)] at H; exact H
  · unfold csN at H; rw [if_pos (by omega)] at H; exact H
theorem f_14 {o k : Nat} (ho : o < 8) (hk : k < 2) (H : K (mem 3 (4 * o + 2 * k)) mem) : CWI (Ex S (n + 1)) 14 [.inr 1, .inl (o : Int), .inl (k : Int)] mem K := by
  refine CW.of (k := 0) mt_14 rfl rfl (w_14_0 (Ex.mono S n) ⟨by unfold InI; omega, by unfold InI; omega, by unfold InI; omega, by omega, fun v e _ _ => ⟨_, rfl, ?_⟩⟩)
  rw [show ((o : Int) * 4 + (k : Int) * 2).toNat = 4 * o + 2 * k by omega] at e
  rw [e]; exact H
theorem f_15 {o k : Nat} (ho : o < 8) (hk : k < 2) (H : K (mem 3 (4 * o + 2 * k + 1)) mem) : CWI (Ex S (n + 1)) 15 [.inr 1, .inl (o : Int), .inl (k : Int)] mem K := by
  refine CW.of (k := 0) mt_15 rfl rfl (w_15_0 (Ex.mono S n) ⟨by unfold InI; omega, by unfold InI; omega, by unfold InI; omega, by unfold InI; omega, by omega, fun v e _ _ => ⟨_, rfl, ?_⟩⟩)
  rw [show ((o : Int) * 4 + (k : Int) * 2 + 1).toNat = 4 * o + 2 * k + 1 by omega] at e
  rw [e]; exact H
theorem f_24 {o : Nat} (ho : o < 8) (H : K (rowB mem o) mem) : CWI (Ex S (n + 1)) 24 [.inr 1, .inl (o : Int)] mem K := by
  refine CW.of (k := 0) mt_24 rfl rfl (w_24_0 (Ex.mono S n) ⟨by omega, fun v e _ => ⟨fun q => ⟨by unfold InI; omega, by omega, fun v2 e2 _ _ => ⟨_, rfl, ?_⟩⟩, fun q => ⟨by unfold InI; omega, by unfold InI; omega, by omega, fun v2 e2 _ _ => ⟨_, rfl, ?_⟩⟩⟩⟩) <;> rw [Int.toNat_natCast] at e
  · rw [show ((o : Int) * 4).toNat = 4 * o by omega] at e2
    unfold rowB at H; rw [if_neg (by omega)] at H; rw [e2]; exact H
  · rw [show ((o : Int) * 4 + 2).toNat = 4 * o + 2 by omega] at e2
    unfold rowB at H; rw [if_pos (by omega)] at H; rw [e2]; exact H
theorem f_25 {o : Nat} (ho : o < 8) (H : K (plcB mem o) mem) : CWI (Ex S (n + 1)) 25 [.inr 1, .inl (o : Int)] mem K := by
  refine CW.of (k := 0) mt_25 rfl rfl (w_25_0 (Ex.mono S n) ⟨by omega, fun v e _ => ⟨fun q => ⟨by unfold InI; omega, by unfold InI; omega, by omega, fun v2 e2 _ _ => ⟨_, rfl, ?_⟩⟩, fun q => ⟨by unfold InI; omega, by unfold InI; omega, by omega, fun v2 e2 _ _ => ⟨_, rfl, ?_⟩⟩⟩⟩) <;> rw [Int.toNat_natCast] at e
  · rw [show ((o : Int) * 4 + 1).toNat = 4 * o + 1 by omega] at e2
    unfold plcB at H; rw [if_neg (by omega)] at H; rw [e2]; exact H
  · rw [show ((o : Int) * 4 + 3).toNat = 4 * o + 3 by omega] at e2
    unfold plcB at H; rw [if_pos (by omega)] at H; rw [e2]; exact H
theorem f_19 (hB : BodyOK mem) {o : Int} (h : 0 ≤ o ∧ o < 8) (H : ∀ u, 1 ≤ u → u ≤ 6 → K u mem) : CWI (Ex S (n + 1)) 19 [.inr 1, .inl o] mem K := by
  obtain ⟨h1, -⟩ := hB.2.1 o.toNat (by omega)
  refine CW.of (k := 0) mt_19 rfl rfl (w_19_0 (Ex.mono S n) ⟨h, fun v e _ => ⟨by omega, fun v2 e2 _ _ => ⟨_, rfl, ?_⟩⟩⟩)
  have := hB.2.2.2.1 v.toNat (by omega)
  exact H v2 (by omega) (by omega)
theorem f_37 (hB : BodyOK mem) {o : Int} (h : 0 ≤ o ∧ o < 8) (H : ∀ u, 0 ≤ u → u ≤ 2 → K u mem) : CWI (Ex S (n + 1)) 37 [.inr 1, .inl o] mem K := by
  obtain ⟨h1, -⟩ := hB.2.1 o.toNat (by omega)
  refine CW.of (k := 0) mt_37 rfl rfl (w_37_0 (Ex.mono S n) ⟨h, fun v e _ => ⟨by omega, fun v2 e2 _ _ => ⟨_, rfl, ?_⟩⟩⟩)
  have := hB.2.2.1 v.toNat (by omega)
  exact H v2 (by omega) (by omega)
theorem f_38 (hB : BodyOK mem) {o : Int} (h : 0 ≤ o ∧ o < 8) (H : ∀ u, 1 ≤ u → u ≤ 15 → K u mem) : CWI (Ex S (n + 1)) 38 [.inr 1, .inl o] mem K := by
  obtain ⟨h1, -⟩ := hB.2.1 o.toNat (by omega)
  refine CW.of (k := 0) mt_38 rfl rfl (w_38_0 (Ex.mono S n) ⟨h, fun v e _ => ⟨by omega, fun v2 e2 _ _ => ⟨_, rfl, ?_⟩⟩⟩)
  have := hB.2.2.2.2.1 v.toNat (by omega)
  exact H v2 (by omega) (by omega)
theorem f_18 (hB : BodyOK mem) {o q : Int} (h : 0 ≤ o ∧ o < 8) (H : ∀ u, 0 ≤ u → u ≤ 6 → K u mem) : CWI (Ex S (n + 2)) 18 [.inr 1, .inl o, .inl q] mem K :=
  CW.of (k := 1) mt_18 rfl rfl (w_18_0 (Ex.mono S (n + 1)) (f_19 hB h (fun u u1 u2 _ => ⟨h, fun v _ _ => ⟨fun _ _ => ⟨_, rfl, H u (by omega) u2⟩, fun _ => ⟨by unfold InI; omega, fun _ => ⟨_, rfl, H _ (by omega) (by omega)⟩⟩⟩⟩)))
theorem f_21 {W : Nat} (hW : WebSh W) (hR : R64 mem W) {j a b d l : Int} (hj : 0 ≤ j ∧ j < 64) (hr : Rg a b d l) (H : ∀ r, K r mem) : CWI (Ex S (n + 1)) 21 [.inr W, .inl j, .inl a, .inl b, .inl d, .inl l] mem K := by
  obtain ⟨r1, r2, r3, r4⟩ := hR j.toNat (by omega)
  obtain ⟨s1, s2, s3, s4⟩ := hr
  refine CW.of (k := 0) mt_21 rfl rfl (w_21_0 (Ex.mono S n) hW ⟨hj, fun v1 e1 _ => ⟨fun _ => ⟨hj, fun v2 e2 _ => ⟨fun _ => ⟨hj, fun v3 e3 _ => ⟨fun _ => ⟨hj, fun v4 e4 _ => ⟨by unfold InI; omega, fun _ => ⟨_, rfl, H _⟩⟩⟩, fun _ => ⟨hj, fun v5 e5 _ => ⟨by unfold InI; omega, fun _ => ⟨_, rfl, H _⟩⟩⟩⟩⟩, fun _ => ⟨hj, fun v5 e5 _ => ⟨by unfold InI; omega, fun _ => ⟨_, rfl, H _⟩⟩⟩⟩⟩, fun _ => ⟨hj, fun v5 e5 _ => ⟨by unfold InI; omega, fun _ => ⟨_, rfl, H _⟩⟩⟩⟩⟩)
theorem f_22 {K : MM → Prop} {W : Nat} (hW : WebSh W) (hR : R64 mem W) {j a b d l : Int} (hj : 0 ≤ j ∧ j < 64) (hr : Rg a b d l) (H : ∀ m', FrWb W mem m' → m' W 0 = mem W 0 → R64 m' W → K m') : CWV (Ex S (n + 1)) 22 [.inr W, .inl j, .inl a, .inl b, .inl d, .inl l] mem K := by
  refine CW.of (k := 0) mt_22 rfl rfl (w_22_0 (Ex.mono S n) hW ⟨hj, hj, hj, hj, rfl, H _ (fun A i e1 e2 => ?_) ?_ (fun i hi => ?_)⟩)
  · rw [upm_ne (by omega), upm_ne (by omega), upm_ne (by omega), upm_ne (by omega)]
  · rw [upm_ne (by omega), upm_ne (by omega), upm_ne (by omega), upm_ne (by omega)]
  · by_cases e : i = j.toNat
    · subst e
      rw [upm_ne (A := W + 4) (B := W + 1) (by omega), upm_ne (A := W + 3) (B := W + 1) (by omega), upm_ne (A := W + 2) (B := W + 1) (by omega), upm_eq, upm_ne (A := W + 4) (B := W + 2) (by omega), upm_ne (A := W + 3) (B := W + 2) (by omega), upm_eq, upm_ne (A := W + 4) (B := W + 3) (by omega), upm_eq, upm_eq]
      exact hr
    · rw [upm_ne (A := W + 4) (B := W + 1) (by omega), upm_ne (A := W + 3) (B := W + 1) (by omega), upm_ne (A := W + 2) (B := W + 1) (by omega), upm_ne (A := W + 1) (B := W + 1) (by omega), upm_ne (A := W + 4) (B := W + 2) (by omega), upm_ne (A := W + 3) (B := W + 2) (by omega), upm_ne (A := W + 2) (B := W + 2) (by omega), upm_ne (A := W + 1) (B := W + 2) (by omega), upm_ne (A := W + 4) (B := W + 3) (by omega), upm_ne (A := W + 3) (B := W + 3) (by omega), upm_ne (A := W + 2) (B := W + 3) (by omega), upm_ne (A := W + 1) (B := W + 3) (by omega), upm_ne (A := W + 4) (B := W + 4) (by omega), upm_ne (A := W + 3) (B := W + 4) (by omega), upm_ne (A := W + 2) (B := W + 4) (by omega), upm_ne (A := W + 1) (B := W + 4) (by omega)]
      exact hR i hi
theorem f_20 {K : MM → Prop} {W : Nat} (hW : WebSh W) (hO : WbOK mem W) {a b d l : Int} (hr : Rg a b d l) (H : ∀ m', FrWb W mem m' → WbOK m' W → K m') : CWV (Ex S (n + 2)) 20 [.inr W, .inl a, .inl b, .inl d, .inl l] mem K := by
  obtain ⟨hR, h0, h64⟩ := hO
  have at72 : ∀ (N : Nat) (p x i : Int) (m : MM), 0 ≤ p → p ≤ i → i < 64 → (i - p).toNat < N → FrWb W mem m → m W 0 = mem W 0 → R64 m W → mem W 0 < 64 → Wx (Ex S (n + 1)) S M_20 (fun r m => r = none ∧ K m) 72 [some (.inr W), some (.inl a), some (.inl b), some (.inl d), some (.inl l), some (.inl p), some (.inl x), some (.inl i)] [] m := by
    intro N
    induction N with
    | zero => intros; omega
    | succ N ih =>
      intro p x i m hp hpi hi hN hF e0 hRm h63
      refine w_20_72 (Ex.mono S (n + 1)) hW ⟨fun q => f_22 hW hRm ⟨hp, by omega⟩ hr (fun m1 k1 k2 k3 v2 e2 _ => ⟨by unfold InI; omega, rfl, H _ (fun A i e1 e2 => ?_) ⟨fun j hj => ?_, ?_⟩⟩), fun q => ?_⟩
      · rw [upm_ne e2]; exact (hF.tr k1) A i e1 e2
      · rw [upm_ne (by omega), upm_ne (by omega), upm_ne (by omega), upm_ne (by omega)]; exact k3 j hj
      · rw [upm_eq]; omega
      · have hi1 : 0 ≤ i - 1 ∧ i - 1 < 64 := by omega
        have hI : InI (i - 1) := by unfold InI; omega
        refine ⟨hI, hi1, fun v3 e3 _ => ⟨hI, hi1, fun v4 e4 _ => ⟨hI, hi1, fun v5 e5 _ => ⟨hI, hi1, fun v6 e6 _ => ?_⟩⟩⟩⟩
        have hg := hRm (i - 1).toNat (by omega)
        rw [← e3, ← e4, ← e5, ← e6] at hg
        refine f_22 hW hRm ⟨by omega, hi⟩ hg (fun m7 k1 k2 k3 => ⟨by unfold InI; omega, ?_⟩)
        rw [show i + -1 = i - 1 by omega]
        exact ih p x (i - 1) m7 hp (by omega) (by omega) (by omega) (hF.tr k1) (k2.trans e0) k3 h63
  have key : ∀ (N : Nat) (p x : Int), 0 ≤ p → p ≤ mem W 0 → (mem W 0 - p).toNat < N → Wx (Ex S (n + 1)) S M_20 (fun r m => r = none ∧ K m) 6 [some (.inr W), some (.inl a), some (.inl b), some (.inl d), some (.inl l), some (.inl p), some (.inl x), none] [] mem := by
    intro N
    induction N with
    | zero => intros; omega
    | succ N ih =>
      intro p x hp hp2 hN
      have fin : ∃ z : Option Int, z = none ∧ K mem := ⟨none, rfl, H mem FrWb.rf ⟨hR, h0, h64⟩⟩
      have fk : K mem := H mem FrWb.rf ⟨hR, h0, h64⟩
      have go : ∀ x v : Int, v = mem W 0 → v < 64 → Wx (Ex S (n + 1)) S M_20 (fun r m => r = none ∧ K m) 72 [some (.inr W), some (.inl a), some (.inl b), some (.inl d), some (.inl l), some (.inl p), some (.inl x), some (.inl v)] [] mem := fun x v e z => at72 _ p x v mem hp (by omega) (by omega) (Nat.lt_succ_self _) FrWb.rf rfl hR (by omega)
      refine w_20_6 (Ex.mono S (n + 1)) hW (fun v1 e1 _ => ⟨fun q v2 e2 _ => ⟨fun _ v3 e3 _ => ⟨fun z v4 e4 _ => go _ _ e4 (by omega), fun _ => ⟨rfl, fk⟩⟩, fun z => ⟨fun _ => ⟨rfl, fk⟩, fun _ v5 e5 _ => ⟨fun z v6 e6 _ => go _ _ e6 (by omega), fun _ => ⟨rfl, fk⟩⟩⟩⟩, fun q => ?_⟩)
      exact f_21 hW hR ⟨hp, by omega⟩ hr (fun r _ => ⟨fun _ => ⟨by unfold InI; omega, ih (p + 1) r (by omega) (by omega) (by omega)⟩, fun _ v9 e9 _ => ⟨fun _ v10 e10 _ => ⟨fun z v11 e11 _ => go _ _ e11 (by omega), fun _ => ⟨rfl, fk⟩⟩, fun _ => ⟨fun _ => ⟨rfl, fk⟩, fun _ v12 e12 _ => ⟨fun z v13 e13 _ => go _ _ e13 (by omega), fun _ => ⟨rfl, fk⟩⟩⟩⟩⟩)
  exact CW.of (k := 3) mt_20 rfl rfl (w_20_0 (Ex.mono S (n + 1)) hW (key _ 0 (-1) (by omega) h0 (Nat.lt_succ_self _)))
theorem f_23 {K : MM → Prop} {W : Nat} (hW : WebSh W) (hB : BodyOK mem) (hO : WbOK mem W) {o p : Nat} {q : Int} (ho : o < 8) (hp : p < 8) (H : ∀ m', FrWb W mem m' → WbOK m' W → K m') : CWV (Ex S (n + 3)) 23 [.inr W, .inr 1, .inl (o : Int), .inl (p : Int), .inl q] mem K := by
  have same : none = (none : Option Int) ∧ K mem := ⟨rfl, H mem FrWb.rf hO⟩
  have ko : 0 ≤ (o : Int) ∧ (o : Int) < 8 := by omega
  have kp : 0 ≤ (p : Int) ∧ (p : Int) < 8 := by omega
  refine CW.of (k := 6) mt_23 rfl rfl (w_23_0 (Ex.mono S (n + 2)) hW ⟨ko, fun v1 e1 _ => ⟨fun _ => same, fun q1 => ⟨kp, fun v2 e2 _ => ⟨fun q2 => f_24 ho (fun _ => f_24 hp (fun _ => ⟨fun _ => f_25 ho (fun _ => f_25 hp (fun _ => ?_)), fun _ => same⟩)), fun _ => same⟩⟩⟩⟩)
  rw [Int.toNat_natCast] at e1 e2
  have ro := hB.row ho (by omega)
  have rp := hB.row hp (by omega)
  have put : ∀ a b d l : Int, Rg a b d l → CWV (Ex S (n + 2)) 20 [.inr W, .inl a, .inl b, .inl d, .inl l] mem fun m' => none = (none : Option Int) ∧ K m' := fun a b d l hg => f_20 hW hO hg (fun m' k1 k2 => ⟨rfl, H m' k1 k2⟩)
  refine ⟨fun z => f_25 hp (fun _ => f_25 ho (fun _ => ⟨by unfold InI; omega, kp, fun v15 _ _ => ⟨fun _ => ⟨ko, fun v16 _ _ => ⟨fun _ => same, fun _ => f_18 hB ko (fun u u1 u2 _ => ⟨by unfold InI; omega, put p o (plcB mem p - plcB mem o) (1 - u) (by unfold Rg; omega)⟩)⟩⟩, fun _ => ⟨ko, fun v20 _ _ => ⟨fun _ => f_18 hB kp (fun u u1 u2 _ => put p o (plcB mem p - plcB mem o) u (by unfold Rg; omega)), fun _ => put p o (plcB mem p - plcB mem o) 1 (by unfold Rg; omega)⟩⟩⟩⟩)), fun z => f_25 ho (fun _ => f_25 hp (fun _ => ⟨by unfold InI; omega, ko, fun v15 _ _ => ⟨fun _ => ⟨kp, fun v16 _ _ => ⟨fun _ => same, fun _ => f_18 hB kp (fun u u1 u2 _ => ⟨by unfold InI; omega, put o p (plcB mem o - plcB mem p) (1 - u) (by unfold Rg; omega)⟩)⟩⟩, fun _ => ⟨kp, fun v20 _ _ => ⟨fun _ => f_18 hB ko (fun u u1 u2 _ => put o p (plcB mem o - plcB mem p) u (by unfold Rg; omega)), fun _ => put o p (plcB mem o - plcB mem p) 1 (by unfold Rg; omega)⟩⟩⟩⟩))⟩
theorem f_17 {K : MM → Prop} {W : Nat} (hW : WebSh W) (hWv : W = 9 ∨ W = 14) (hB : BodyOK mem) (hO : R64 mem W) {q : Int} (H : ∀ m', FrWb W mem m' → WbOK m' W → K m') : CWV (Ex S (n + 4)) 17 [.inr W, .inr 1, .inl q] mem K := by
  have h8 := hB.1
  have bF : ∀ m, FrWb W mem m → BodyOK m := fun m hF => hB.fr (fun A i e1 e2 => hF A i (by omega) (by omega))
  have sz : ∀ m, FrWb W mem m → m 1 0 = mem 1 0 := fun m hF => hF _ _ (by omega) (by omega)
  have l77 : ∀ (N : Nat) (o : Nat) (m : MM), (mem 1 0 - o).toNat < N → FrWb W mem m → WbOK m W → Wx (Ex S (n + 3)) S M_17 (fun r m => r = none ∧ K m) 77 [some (.inr W), some (.inr 1), some (.inl q), some (.inl (o : Int)), none, none] [] m := by
    intro N
    induction N with
    | zero => intros; omega
    | succ N ih =>
      intro o m hN hF hO'
      have es := sz m hF
      refine w_17_77 (Ex.mono S (n + 3)) hW (fun v1 e1 _ => ⟨fun _ => ⟨rfl, H m hF hO'⟩, fun z => ⟨by unfold InI; omega, ?_⟩⟩)
      have inner : ∀ (N' : Nat) (p : Nat) (m : MM), (mem 1 0 - p).toNat < N' → FrWb W mem m → WbOK m W → Wx (Ex S (n + 3)) S M_17 (fun r m => r = none ∧ K m) 90 [some (.inr W), some (.inr 1), some (.inl q), some (.inl (o : Int)), some (.inl (p : Int)), none] [] m := by
        intro N'
        induction N' with
        | zero => intros; omega
        | succ N' ih2 =>
          intro p m hN' hF hO'
          have es := sz m hF
          exact w_17_90 (Ex.mono S (n + 3)) hW (fun v1 e1 _ => ⟨fun _ => ⟨by unfold InI; omega, ih (o + 1) m (by omega) hF hO'⟩, fun z2 => f_23 hW (bF m hF) hO' (by omega) (by omega) (fun m' k1 k2 => ⟨by unfold InI; omega, ih2 (p + 1) m' (by omega) (hF.tr k1) k2⟩)⟩)
      exact inner _ (o + 1) m (Nat.lt_succ_self _) hF hO'
  have l7 : ∀ (N : Nat) (o : Nat) (m : MM), (mem 1 0 - o).toNat < N → FrWb W mem m → WbOK m W → Wx (Ex S (n + 3)) S M_17 (fun r m => r = none ∧ K m) 7 [some (.inr W), some (.inr 1), some (.inl q), some (.inl (o : Int)), none, none] [] m := by
    intro N
    induction N with
    | zero => intros; omega
    | succ N ih =>
      intro o m hN hF hO'
      have es := sz m hF
      refine w_17_7 (Ex.mono S (n + 3)) hW (fun v1 e1 _ => ⟨fun _ => l77 _ 0 m (Nat.lt_succ_self _) hF hO', fun z => ?_⟩)
      have inner : ∀ (N' : Nat) (k : Nat) (m : MM), k ≤ 2 → 3 - k < N' → FrWb W mem m → WbOK m W → Wx (Ex S (n + 3)) S M_17 (fun r m => r = none ∧ K m) 18 [some (.inr W), some (.inr 1), some (.inl q), some (.inl (o : Int)), some (.inl (k : Int)), none] [] m := by
        intro N'
        induction N' with
        | zero => intros; omega
        | succ N' ih2 =>
          intro k m hk hN' hF hO'
          have es := sz m hF
          have hcs := csN_le m o
          refine w_17_18 (Ex.mono S (n + 3)) hW (f_13 ⟨by omega, by omega⟩ (fun _ => ⟨fun _ => ⟨by unfold InI; omega, ih (o + 1) m (by omega) hF hO'⟩, fun z2 => ?_⟩))
          rw [Int.toNat_natCast] at z2
          have hs := (bF m hF).src (o := o) (k := k) (by omega) (by omega)
          refine f_14 (by omega) (by omega) (fun _ => ⟨fun _ => ⟨by unfold InI; omega, ih2 (k + 1) m (by omega) (by omega) hF hO'⟩, fun z3 => f_15 (by omega) (by omega) (fun _ => ?_)⟩)
          unfold srcOK at hs
          exact f_18 (bF m hF) ⟨by omega, by omega⟩ (fun u u1 u2 _ => f_20 hW hO' (by unfold Rg; omega) (fun m' k1 k2 => ⟨by unfold InI; omega, ih2 (k + 1) m' (by omega) (by omega) (hF.tr k1) k2⟩))
      exact inner 4 0 m (by omega) (by omega) hF hO'
  refine CW.of (k := 3) mt_17 rfl rfl (w_17_0 (Ex.mono S (n + 3)) hW (l7 _ 0 _ (Nat.lt_succ_self _) (fun A i e1 e2 => upm_ne e2) ⟨fun j hj => ?_, by rw [upm_eq]; omega⟩))
  rw [upm_ne (by omega), upm_ne (by omega), upm_ne (by omega), upm_ne (by omega)]; exact hO j hj
end WEB
end
section
/-! bits of a set of ops -/
def X1 (o : Int) : Int32 := Int32.ofInt 1 <<< (Int32.ofInt o &&& 31)
def tb (t o : Int) : Prop := ¬ (Int32.ofInt t &&& X1 o = 0)
theorem i32_dist (x a b : Int32) : (x ||| a) &&& b = (x &&& b) ||| (a &&& b) := Int32.toBitVec_inj.1 (by
  show (x.toBitVec ||| a.toBitVec) &&& b.toBitVec = (x.toBitVec &&& b.toBitVec) ||| (a.toBitVec &&& b.toBitVec)
  ext i hi
  simp [Bool.and_or_distrib_right])
theorem X1_off {o p : Int} (ho : 0 ≤ o ∧ o < 8) (hp : 0 ≤ p ∧ p < 8) (h : ¬ o = p) : X1 o &&& X1 p = 0 := by
  have a : o = 0 ∨ o = 1 ∨ o = 2 ∨ o = 3 ∨ o = 4 ∨ o = 5 ∨ o = 6 ∨ o = 7 := by omega
  have b : p = 0 ∨ p = 1 ∨ p = 2 ∨ p = 3 ∨ p = 4 ∨ p = 5 ∨ p = 6 ∨ p = 7 := by omega
  rcases a with a | a | a | a | a | a | a | a <;> rcases b with b | b | b | b | b | b | b | b <;> subst a <;> subst b <;> first | exact absurd rfl h | decide
theorem X1_on {o : Int} (ho : 0 ≤ o ∧ o < 8) : ¬ X1 o = 0 := by
  have a : o = 0 ∨ o = 1 ∨ o = 2 ∨ o = 3 ∨ o = 4 ∨ o = 5 ∨ o = 6 ∨ o = 7 := by omega
  rcases a with a | a | a | a | a | a | a | a <;> subst a <;> decide
theorem tI0 (x : Int32) : x.toInt = 0 ↔ x = 0 := ⟨fun h => toInt_inj (by rw [h]; rfl), fun h => by rw [h]; rfl⟩
theorem tb_of {t o b1 b2 : Int} (e1 : b1 = ((fun (x y : Int32) => x <<< (y &&& 31)) (Int32.ofInt 1) (Int32.ofInt o)).toInt) (e2 : b2 = ((fun (x y : Int32) => x &&& y) (Int32.ofInt t) (Int32.ofInt b1)).toInt) : b2 = 0 ↔ ¬ tb t o := by
  have e1 : b1 = (X1 o).toInt := e1
  rw [e2, e1]
  show (Int32.ofInt t &&& Int32.ofInt (X1 o).toInt).toInt = 0 ↔ _
  rw [Int32.ofInt_toInt, tI0]
  unfold tb
  exact ⟨fun h q => q h, fun h => Classical.not_not.mp h⟩
theorem tb_set {t o p b1 t' : Int} (e1 : b1 = ((fun (x y : Int32) => x <<< (y &&& 31)) (Int32.ofInt 1) (Int32.ofInt o)).toInt) (e2 : t' = ((fun (x y : Int32) => x ||| y) (Int32.ofInt t) (Int32.ofInt b1)).toInt) (ho : 0 ≤ o ∧ o < 8) (hp : 0 ≤ p ∧ p < 8) : tb t' p ↔ tb t p ∨ o = p := by
  have e1 : b1 = (X1 o).toInt := e1
  have e2 : t' = (Int32.ofInt t ||| X1 o).toInt := by
    rw [e2, e1]
    show (Int32.ofInt t ||| Int32.ofInt (X1 o).toInt).toInt = _
    rw [Int32.ofInt_toInt]
  unfold tb
  rw [e2, Int32.ofInt_toInt, i32_dist]
  by_cases h : o = p
  · subst h
    rw [Int32.and_self]
    refine ⟨fun _ => Or.inr rfl, fun _ q => ?_⟩
    exact X1_on ho (Int32.or_eq_zero_iff.mp q).2
  · rw [X1_off ho hp h, Int32.or_zero]
    exact ⟨Or.inl, fun q => q.elim id (fun z => absurd z h)⟩
theorem tb_and {t y p t' : Int} (e2 : t' = ((fun (x y : Int32) => x &&& y) (Int32.ofInt t) (Int32.ofInt y)).toInt) (h : tb t' p) : tb t p := by
  unfold tb at h ⊢
  intro q
  apply h
  have e2 : t' = (Int32.ofInt t &&& Int32.ofInt y).toInt := e2
  rw [e2, Int32.ofInt_toInt, Int32.and_assoc, Int32.and_comm (Int32.ofInt y), ← Int32.and_assoc, q, Int32.zero_and]
def cnt (t : Int) : Nat := smN (fun p => if Int32.ofInt t &&& X1 (p : Int) = 0 then 1 else 0) 8
theorem smN_mono {f g : Nat → Nat} : ∀ k, (∀ i, i < k → f i ≤ g i) → smN f k ≤ smN g k
  | 0, _ => Nat.le_refl _
  | k + 1, h => by
    have := smN_mono k (fun i hi => h i (by omega))
    have := h k (by omega)
    simp only [smN]; omega
theorem smN_lt {f g : Nat → Nat} {i : Nat} : ∀ k, (∀ i, i < k → f i ≤ g i) → i < k → f i < g i → smN f k < smN g k
  | 0, _, h, _ => by omega
  | k + 1, h, hi, hl => by
    have h2 := h k (by omega)
    simp only [smN]
    by_cases e : i = k
    · subst e
      have := smN_mono i (fun j hj => h j (by omega))
      omega
    · have := smN_lt k (fun j hj => h j (by omega)) (by omega) hl
      omega
theorem cnt_le (t : Int) : cnt t ≤ 8 := by
  have := smN_le (f := fun p => if Int32.ofInt t &&& X1 (p : Int) = 0 then 1 else 0) (c := 1) 8 (fun i _ => by split <;> omega)
  unfold cnt; omega
theorem cnt_set {t o b1 t' : Int} (e1 : b1 = ((fun (x y : Int32) => x <<< (y &&& 31)) (Int32.ofInt 1) (Int32.ofInt o)).toInt) (e2 : t' = ((fun (x y : Int32) => x ||| y) (Int32.ofInt t) (Int32.ofInt b1)).toInt) (ho : 0 ≤ o ∧ o < 8) (h : ¬ tb t o) : cnt t' < cnt t := by
  unfold cnt
  refine smN_lt (i := o.toNat) 8 (fun i hi => ?_) (by omega) ?_
  · have := tb_set (p := (i : Int)) e1 e2 ho ⟨by omega, by omega⟩
    unfold tb at this
    by_cases z : Int32.ofInt t &&& X1 (i : Int) = 0
    · rw [if_pos z]; split <;> omega
    · rw [if_neg (this.mpr (Or.inl z))]; omega
  · have := tb_set (p := o) e1 e2 ho ho
    unfold tb at this h
    rw [show ((o.toNat : Nat) : Int) = o by omega, if_neg (this.mpr (Or.inr rfl)), if_pos (Classical.not_not.mp h)]; omega
end
