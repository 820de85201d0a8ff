/-! laid by wip/hand/tg.py: the class refreshes -/
theorem ChtOK.up1 {m : MM} {Q : Nat} {x : Int} (h : ChtOK m Q) (hx : 0 ≤ x ∧ x ≤ 1) : ChtOK (upm m Q 1 x) Q := by
  refine ⟨⟨?_, ?_, ?_⟩, fun o ho => ?_⟩
  · rw [upm_ne (by omega)]; exact h.1.1
  · rw [upm_ne (by omega)]; exact h.1.2.1
  · rw [upm_eq]; exact hx
  · rw [upm_ne (by omega), upm_ne (by omega), upm_ne (by omega)]; exact h.2 o ho
set_option maxRecDepth 100000 in
theorem mt_10 : MT[10]? = some M_10 := rfl
set_option maxRecDepth 100000 in
theorem mt_11 : MT[11]? = some M_11 := rfl
set_option maxRecDepth 100000 in
theorem mt_69 : MT[69]? = some M_69 := rfl
set_option maxRecDepth 100000 in
theorem mt_73 : MT[73]? = some M_73 := rfl
set_option maxRecDepth 100000 in
theorem mt_85 : MT[85]? = some M_85 := rfl
set_option maxRecDepth 100000 in
theorem mt_115 : MT[115]? = some M_115 := rfl
theorem te_10_0 : (pT M_10).find? (fun e => e.1 == 0) = some (0, .aload_n 0, 0, 0) := rfl
theorem te_10_1 : (pT M_10).find? (fun e => e.1 == 1) = some (1, .invokevirtual 152, 11, 0) := rfl
theorem te_10_4 : (pT M_10).find? (fun e => e.1 == 4) = some (4, .aload_n 0, 0, 0) := rfl
theorem te_10_5 : (pT M_10).find? (fun e => e.1 == 5) = some (5, .getfield 155, 9, 10) := rfl
theorem te_10_8 : (pT M_10).find? (fun e => e.1 == 8) = some (8, .ireturn, 0, 0) := rfl
theorem te_11_0 : (pT M_11).find? (fun e => e.1 == 0) = some (0, .aload_n 0, 0, 0) := rfl
theorem te_11_1 : (pT M_11).find? (fun e => e.1 == 1) = some (1, .getfield 75, 9, 11) := rfl
theorem te_11_4 : (pT M_11).find? (fun e => e.1 == 4) = some (4, .ifCond .ne 4, 0, 0) := rfl
theorem te_11_7 : (pT M_11).find? (fun e => e.1 == 7) = some (7, .return_, 0, 0) := rfl
theorem te_11_8 : (pT M_11).find? (fun e => e.1 == 8) = some (8, .aload_n 0, 0, 0) := rfl
theorem te_11_9 : (pT M_11).find? (fun e => e.1 == 9) = some (9, .iconst 0, 0, 0) := rfl
theorem te_11_10 : (pT M_11).find? (fun e => e.1 == 10) = some (10, .putfield 75, 9, 11) := rfl
theorem te_11_13 : (pT M_11).find? (fun e => e.1 == 13) = some (13, .aload_n 0, 0, 0) := rfl
theorem te_11_14 : (pT M_11).find? (fun e => e.1 == 14) = some (14, .aload_n 0, 0, 0) := rfl
theorem te_11_15 : (pT M_11).find? (fun e => e.1 == 15) = some (15, .getfield 12, 9, 0) := rfl
theorem te_11_18 : (pT M_11).find? (fun e => e.1 == 18) = some (18, .invokevirtual 396, 12, 1) := rfl
theorem te_11_21 : (pT M_11).find? (fun e => e.1 == 21) = some (21, .putfield 155, 9, 10) := rfl
theorem te_11_24 : (pT M_11).find? (fun e => e.1 == 24) = some (24, .aload_n 0, 0, 0) := rfl
theorem te_11_25 : (pT M_11).find? (fun e => e.1 == 25) = some (25, .getfield 155, 9, 10) := rfl
theorem te_11_28 : (pT M_11).find? (fun e => e.1 == 28) = some (28, .ifCond .eq 29, 0, 0) := rfl
theorem te_11_31 : (pT M_11).find? (fun e => e.1 == 31) = some (31, .aload_n 0, 0, 0) := rfl
theorem te_11_32 : (pT M_11).find? (fun e => e.1 == 32) = some (32, .getfield 19, 9, 1) := rfl
theorem te_11_35 : (pT M_11).find? (fun e => e.1 == 35) = some (35, .aload_n 0, 0, 0) := rfl
theorem te_11_36 : (pT M_11).find? (fun e => e.1 == 36) = some (36, .getfield 12, 9, 0) := rfl
theorem te_11_39 : (pT M_11).find? (fun e => e.1 == 39) = some (39, .iconst (-1), 0, 0) := rfl
theorem te_11_40 : (pT M_11).find? (fun e => e.1 == 40) = some (40, .invokevirtual 352, 17, 1) := rfl
theorem te_11_43 : (pT M_11).find? (fun e => e.1 == 43) = some (43, .aload_n 0, 0, 0) := rfl
theorem te_11_44 : (pT M_11).find? (fun e => e.1 == 44) = some (44, .getfield 19, 9, 1) := rfl
theorem te_11_47 : (pT M_11).find? (fun e => e.1 == 47) = some (47, .aload_n 0, 0, 0) := rfl
theorem te_11_48 : (pT M_11).find? (fun e => e.1 == 48) = some (48, .getfield 12, 9, 0) := rfl
theorem te_11_51 : (pT M_11).find? (fun e => e.1 == 51) = some (51, .getfield 101, 0, 0) := rfl
theorem te_11_54 : (pT M_11).find? (fun e => e.1 == 54) = some (54, .invokevirtual 355, 26, 1) := rfl
theorem te_11_57 : (pT M_11).find? (fun e => e.1 == 57) = some (57, .aload_n 0, 0, 0) := rfl
theorem te_11_58 : (pT M_11).find? (fun e => e.1 == 58) = some (58, .getfield 29, 9, 3) := rfl
theorem te_11_61 : (pT M_11).find? (fun e => e.1 == 61) = some (61, .iconst 0, 0, 0) := rfl
theorem te_11_62 : (pT M_11).find? (fun e => e.1 == 62) = some (62, .putfield 400, 5, 1) := rfl
theorem te_11_65 : (pT M_11).find? (fun e => e.1 == 65) = some (65, .aload_n 0, 0, 0) := rfl
theorem te_11_66 : (pT M_11).find? (fun e => e.1 == 66) = some (66, .getfield 50, 9, 6) := rfl
theorem te_11_69 : (pT M_11).find? (fun e => e.1 == 69) = some (69, .iconst 0, 0, 0) := rfl
theorem te_11_70 : (pT M_11).find? (fun e => e.1 == 70) = some (70, .putfield 403, 2, 0) := rfl
theorem te_11_73 : (pT M_11).find? (fun e => e.1 == 73) = some (73, .iconst 0, 0, 0) := rfl
theorem te_11_74 : (pT M_11).find? (fun e => e.1 == 74) = some (74, .istore_n 1, 0, 0) := rfl
theorem te_11_75 : (pT M_11).find? (fun e => e.1 == 75) = some (75, .iload_n 1, 0, 0) := rfl
theorem te_11_76 : (pT M_11).find? (fun e => e.1 == 76) = some (76, .bipush 12, 0, 0) := rfl
theorem te_11_78 : (pT M_11).find? (fun e => e.1 == 78) = some (78, .if_icmp .gt 19, 0, 0) := rfl
theorem te_11_81 : (pT M_11).find? (fun e => e.1 == 81) = some (81, .aload_n 0, 0, 0) := rfl
theorem te_11_82 : (pT M_11).find? (fun e => e.1 == 82) = some (82, .getfield 42, 9, 5) := rfl
theorem te_11_85 : (pT M_11).find? (fun e => e.1 == 85) = some (85, .iload_n 1, 0, 0) := rfl
theorem te_11_86 : (pT M_11).find? (fun e => e.1 == 86) = some (86, .aaload, 0, 0) := rfl
theorem te_11_87 : (pT M_11).find? (fun e => e.1 == 87) = some (87, .iconst 0, 0, 0) := rfl
theorem te_11_88 : (pT M_11).find? (fun e => e.1 == 88) = some (88, .putfield 404, 1, 0) := rfl
theorem te_11_91 : (pT M_11).find? (fun e => e.1 == 91) = some (91, .iinc 1 1, 0, 0) := rfl
theorem te_11_94 : (pT M_11).find? (fun e => e.1 == 94) = some (94, .goto (-19), 0, 0) := rfl
theorem te_11_97 : (pT M_11).find? (fun e => e.1 == 97) = some (97, .return_, 0, 0) := rfl
theorem te_69_0 : (pT M_69).find? (fun e => e.1 == 0) = some (0, .aload_n 0, 0, 0) := rfl
theorem te_69_1 : (pT M_69).find? (fun e => e.1 == 1) = some (1, .invokevirtual 152, 11, 0) := rfl
theorem te_69_4 : (pT M_69).find? (fun e => e.1 == 4) = some (4, .aload_n 0, 0, 0) := rfl
theorem te_69_5 : (pT M_69).find? (fun e => e.1 == 5) = some (5, .getfield 155, 9, 10) := rfl
theorem te_69_8 : (pT M_69).find? (fun e => e.1 == 8) = some (8, .ifCond .ne 14, 0, 0) := rfl
theorem te_69_11 : (pT M_69).find? (fun e => e.1 == 11) = some (11, .new 105, 21, 1) := rfl
theorem te_69_22 : (pT M_69).find? (fun e => e.1 == 22) = some (22, .return_, 0, 0) := rfl
theorem te_73_0 : (pT M_73).find? (fun e => e.1 == 0) = some (0, .iload_n 1, 0, 0) := rfl
theorem te_73_1 : (pT M_73).find? (fun e => e.1 == 1) = some (1, .invokestatic 190, 74, 2) := rfl
theorem te_73_4 : (pT M_73).find? (fun e => e.1 == 4) = some (4, .aload_n 0, 0, 0) := rfl
theorem te_73_5 : (pT M_73).find? (fun e => e.1 == 5) = some (5, .invokevirtual 158, 69, 0) := rfl
theorem te_73_8 : (pT M_73).find? (fun e => e.1 == 8) = some (8, .iload_n 1, 0, 0) := rfl
theorem te_73_9 : (pT M_73).find? (fun e => e.1 == 9) = some (9, .aload_n 0, 0, 0) := rfl
theorem te_73_10 : (pT M_73).find? (fun e => e.1 == 10) = some (10, .getfield 19, 9, 1) := rfl
theorem te_73_13 : (pT M_73).find? (fun e => e.1 == 13) = some (13, .invokevirtual 224, 32, 1) := rfl
theorem te_73_16 : (pT M_73).find? (fun e => e.1 == 16) = some (16, .if_icmp .ge 14, 0, 0) := rfl
theorem te_73_19 : (pT M_73).find? (fun e => e.1 == 19) = some (19, .new 105, 22, 1) := rfl
theorem te_73_30 : (pT M_73).find? (fun e => e.1 == 30) = some (30, .aload_n 0, 0, 0) := rfl
theorem te_73_31 : (pT M_73).find? (fun e => e.1 == 31) = some (31, .getfield 29, 9, 3) := rfl
theorem te_73_34 : (pT M_73).find? (fun e => e.1 == 34) = some (34, .aload_n 0, 0, 0) := rfl
theorem te_73_35 : (pT M_73).find? (fun e => e.1 == 35) = some (35, .getfield 12, 9, 0) := rfl
theorem te_73_38 : (pT M_73).find? (fun e => e.1 == 38) = some (38, .aload_n 0, 0, 0) := rfl
theorem te_73_39 : (pT M_73).find? (fun e => e.1 == 39) = some (39, .getfield 19, 9, 1) := rfl
theorem te_73_42 : (pT M_73).find? (fun e => e.1 == 42) = some (42, .iload_n 1, 0, 0) := rfl
theorem te_73_43 : (pT M_73).find? (fun e => e.1 == 43) = some (43, .invokevirtual 234, 75, 1) := rfl
theorem te_73_46 : (pT M_73).find? (fun e => e.1 == 46) = some (46, .return_, 0, 0) := rfl
theorem te_85_0 : (pT M_85).find? (fun e => e.1 == 0) = some (0, .aload_n 0, 0, 0) := rfl
theorem te_85_1 : (pT M_85).find? (fun e => e.1 == 1) = some (1, .getfield 42, 9, 5) := rfl
theorem te_85_4 : (pT M_85).find? (fun e => e.1 == 4) = some (4, .iload_n 1, 0, 0) := rfl
theorem te_85_5 : (pT M_85).find? (fun e => e.1 == 5) = some (5, .aaload, 0, 0) := rfl
theorem te_85_6 : (pT M_85).find? (fun e => e.1 == 6) = some (6, .astore_n 2, 0, 0) := rfl
theorem te_85_7 : (pT M_85).find? (fun e => e.1 == 7) = some (7, .aload_n 2, 0, 0) := rfl
theorem te_85_8 : (pT M_85).find? (fun e => e.1 == 8) = some (8, .getfield 404, 1, 0) := rfl
theorem te_85_11 : (pT M_85).find? (fun e => e.1 == 11) = some (11, .ifCond .ne 108, 0, 0) := rfl
theorem te_85_14 : (pT M_85).find? (fun e => e.1 == 14) = some (14, .aload_n 2, 0, 0) := rfl
theorem te_85_15 : (pT M_85).find? (fun e => e.1 == 15) = some (15, .iconst 1, 0, 0) := rfl
theorem te_85_16 : (pT M_85).find? (fun e => e.1 == 16) = some (16, .putfield 404, 1, 0) := rfl
theorem te_85_19 : (pT M_85).find? (fun e => e.1 == 19) = some (19, .aload_n 2, 0, 0) := rfl
theorem te_85_20 : (pT M_85).find? (fun e => e.1 == 20) = some (20, .iconst 0, 0, 0) := rfl
theorem te_85_21 : (pT M_85).find? (fun e => e.1 == 21) = some (21, .putfield 197, 1, 1) := rfl
theorem te_85_24 : (pT M_85).find? (fun e => e.1 == 24) = some (24, .iload_n 1, 0, 0) := rfl
theorem te_85_25 : (pT M_85).find? (fun e => e.1 == 25) = some (25, .aload_n 0, 0, 0) := rfl
theorem te_85_26 : (pT M_85).find? (fun e => e.1 == 26) = some (26, .getfield 19, 9, 1) := rfl
theorem te_85_29 : (pT M_85).find? (fun e => e.1 == 29) = some (29, .invokevirtual 224, 32, 1) := rfl
theorem te_85_32 : (pT M_85).find? (fun e => e.1 == 32) = some (32, .if_icmp .lt 60, 0, 0) := rfl
theorem te_85_35 : (pT M_85).find? (fun e => e.1 == 35) = some (35, .aload_n 0, 0, 0) := rfl
theorem te_85_36 : (pT M_85).find? (fun e => e.1 == 36) = some (36, .getfield 29, 9, 3) := rfl
theorem te_85_39 : (pT M_85).find? (fun e => e.1 == 39) = some (39, .aload_n 0, 0, 0) := rfl
theorem te_85_40 : (pT M_85).find? (fun e => e.1 == 40) = some (40, .getfield 12, 9, 0) := rfl
theorem te_85_43 : (pT M_85).find? (fun e => e.1 == 43) = some (43, .aload_n 0, 0, 0) := rfl
theorem te_85_44 : (pT M_85).find? (fun e => e.1 == 44) = some (44, .getfield 19, 9, 1) := rfl
theorem te_85_47 : (pT M_85).find? (fun e => e.1 == 47) = some (47, .iload_n 1, 0, 0) := rfl
theorem te_85_48 : (pT M_85).find? (fun e => e.1 == 48) = some (48, .invokevirtual 234, 75, 1) := rfl
theorem te_85_51 : (pT M_85).find? (fun e => e.1 == 51) = some (51, .aload_n 2, 0, 0) := rfl
theorem te_85_52 : (pT M_85).find? (fun e => e.1 == 52) = some (52, .aload_n 0, 0, 0) := rfl
theorem te_85_53 : (pT M_85).find? (fun e => e.1 == 53) = some (53, .getfield 36, 9, 4) := rfl
theorem te_85_56 : (pT M_85).find? (fun e => e.1 == 56) = some (56, .aload_n 0, 0, 0) := rfl
theorem te_85_57 : (pT M_85).find? (fun e => e.1 == 57) = some (57, .getfield 12, 9, 0) := rfl
theorem te_85_60 : (pT M_85).find? (fun e => e.1 == 60) = some (60, .iload_n 1, 0, 0) := rfl
theorem te_85_61 : (pT M_85).find? (fun e => e.1 == 61) = some (61, .invokevirtual 407, 86, 1) := rfl
theorem te_85_64 : (pT M_85).find? (fun e => e.1 == 64) = some (64, .ifCond .eq 24, 0, 0) := rfl
theorem te_85_67 : (pT M_85).find? (fun e => e.1 == 67) = some (67, .aload_n 0, 0, 0) := rfl
theorem te_85_68 : (pT M_85).find? (fun e => e.1 == 68) = some (68, .getfield 36, 9, 4) := rfl
theorem te_85_71 : (pT M_85).find? (fun e => e.1 == 71) = some (71, .aload_n 0, 0, 0) := rfl
theorem te_85_72 : (pT M_85).find? (fun e => e.1 == 72) = some (72, .getfield 29, 9, 3) := rfl
theorem te_85_75 : (pT M_85).find? (fun e => e.1 == 75) = some (75, .getfield 179, 5, 2) := rfl
theorem te_85_78 : (pT M_85).find? (fun e => e.1 == 78) = some (78, .invokevirtual 411, 103, 1) := rfl
theorem te_85_81 : (pT M_85).find? (fun e => e.1 == 81) = some (81, .ifCond .eq 7, 0, 0) := rfl
theorem te_85_84 : (pT M_85).find? (fun e => e.1 == 84) = some (84, .iconst 1, 0, 0) := rfl
theorem te_85_85 : (pT M_85).find? (fun e => e.1 == 85) = some (85, .goto 4, 0, 0) := rfl
theorem te_85_88 : (pT M_85).find? (fun e => e.1 == 88) = some (88, .iconst 0, 0, 0) := rfl
theorem te_85_89 : (pT M_85).find? (fun e => e.1 == 89) = some (89, .putfield 197, 1, 1) := rfl
theorem te_85_92 : (pT M_85).find? (fun e => e.1 == 92) = some (92, .aload_n 2, 0, 0) := rfl
theorem te_85_93 : (pT M_85).find? (fun e => e.1 == 93) = some (93, .getfield 197, 1, 1) := rfl
theorem te_85_96 : (pT M_85).find? (fun e => e.1 == 96) = some (96, .ifCond .eq 23, 0, 0) := rfl
theorem te_85_99 : (pT M_85).find? (fun e => e.1 == 99) = some (99, .aload_n 2, 0, 0) := rfl
theorem te_85_100 : (pT M_85).find? (fun e => e.1 == 100) = some (100, .aload_n 0, 0, 0) := rfl
theorem te_85_101 : (pT M_85).find? (fun e => e.1 == 101) = some (101, .getfield 12, 9, 0) := rfl
theorem te_85_104 : (pT M_85).find? (fun e => e.1 == 104) = some (104, .aload_n 0, 0, 0) := rfl
theorem te_85_105 : (pT M_85).find? (fun e => e.1 == 105) = some (105, .getfield 19, 9, 1) := rfl
theorem te_85_108 : (pT M_85).find? (fun e => e.1 == 108) = some (108, .aload_n 0, 0, 0) := rfl
theorem te_85_109 : (pT M_85).find? (fun e => e.1 == 109) = some (109, .getfield 36, 9, 4) := rfl
theorem te_85_112 : (pT M_85).find? (fun e => e.1 == 112) = some (112, .getfield 415, 6, 5) := rfl
theorem te_85_115 : (pT M_85).find? (fun e => e.1 == 115) = some (115, .iload_n 1, 0, 0) := rfl
theorem te_85_116 : (pT M_85).find? (fun e => e.1 == 116) = some (116, .invokevirtual 416, 106, 1) := rfl
theorem te_85_119 : (pT M_85).find? (fun e => e.1 == 119) = some (119, .aload_n 2, 0, 0) := rfl
theorem te_85_120 : (pT M_85).find? (fun e => e.1 == 120) = some (120, .areturn, 0, 0) := rfl
theorem te_115_0 : (pT M_115).find? (fun e => e.1 == 0) = some (0, .iload_n 1, 0, 0) := rfl
theorem te_115_1 : (pT M_115).find? (fun e => e.1 == 1) = some (1, .invokestatic 190, 74, 2) := rfl
theorem te_115_4 : (pT M_115).find? (fun e => e.1 == 4) = some (4, .aload_n 0, 0, 0) := rfl
theorem te_115_5 : (pT M_115).find? (fun e => e.1 == 5) = some (5, .invokevirtual 158, 69, 0) := rfl
theorem te_115_8 : (pT M_115).find? (fun e => e.1 == 8) = some (8, .aload_n 0, 0, 0) := rfl
theorem te_115_9 : (pT M_115).find? (fun e => e.1 == 9) = some (9, .iload_n 1, 0, 0) := rfl
theorem te_115_10 : (pT M_115).find? (fun e => e.1 == 10) = some (10, .invokevirtual 193, 85, 0) := rfl
theorem te_115_13 : (pT M_115).find? (fun e => e.1 == 13) = some (13, .astore_n 2, 0, 0) := rfl
theorem te_115_14 : (pT M_115).find? (fun e => e.1 == 14) = some (14, .aload_n 2, 0, 0) := rfl
theorem te_115_15 : (pT M_115).find? (fun e => e.1 == 15) = some (15, .getfield 197, 1, 1) := rfl
theorem te_115_18 : (pT M_115).find? (fun e => e.1 == 18) = some (18, .ifCond .ne 14, 0, 0) := rfl
theorem te_115_21 : (pT M_115).find? (fun e => e.1 == 21) = some (21, .new 105, 20, 1) := rfl
theorem te_115_32 : (pT M_115).find? (fun e => e.1 == 32) = some (32, .aload_n 2, 0, 0) := rfl
theorem te_115_33 : (pT M_115).find? (fun e => e.1 == 33) = some (33, .areturn, 0, 0) := rfl
theorem f_11 {S : Nat × (Nat → Int32)} {n : Nat} {mem : MM} {K : MM → Prop} {E : Nat → MM → Prop} (hI : ClS mem) (H : ∀ m', RfD m' → Frm pNb mem m' → K m') : CQV (Ex S (n + 13)) 11 [.inr 0] mem K E := by
  refine CY.of (k := 1) mt_11 rfl rfl (fun hv => ?_)
  have hC := Ex.mono S (n + 12)
  clear hv
  have h8 := hI.1.b.1
  have hst := hI.1.st
  show Tx (Ex S (n + 12)) S M_11 (kV K E) 0 0 0 [some (.inr 0), none] [] mem
  have l_75 : ∀ (N : Nat) (x1 : Int) (m_75 : MM), (0 ≤ x1) → (RfC m_75) → (m_75 19 1 = 0) → ((13 - x1).toNat) < N → Frm pNb mem m_75 → Tx (Ex S (n + 12)) S M_11 (kV K E) 0 0 75 [some (.inr 0), some (.inl x1)] [] m_75 := by
    intro N
    induction N with
    | zero => intros; omega
    | succ N ih_75 =>
      intro x1 m_75 i75_0 i75_1 i75_2 hN_75 hF_75
      refine Tx.iload_n hC te_11_75 rfl ?_
      refine Tx.bipush hC te_11_76 rfl rfl ?_
      refine Tx.icmp hC (t := 97) te_11_78 (by decide) (fun q1 => ?_) (fun q1 => ?_)
      · replace q1 : 12 < (x1 : Int) := q1
        exact Tx.vret hC te_11_97 rfl (show K m_75 from H _ ⟨i75_1, fun _ => Or.inl i75_2⟩ hF_75)
      · replace q1 : ¬ (12 < (x1 : Int)) := q1
        refine Tx.aload_n hC te_11_81 rfl ?_
        refine Tx.getR hC te_11_82 rfl rfl rfl ?_
        refine Tx.iload_n hC te_11_85 rfl ?_
        refine Tx.aaldC hC te_11_86 (by omega) (fun Q eQ => ?_)
        have hQ : ChSh Q := ChSh.mk eQ (by omega)
        have hq8 := hQ.rg
        refine Tx.iconst hC te_11_87 rfl ?_
        refine Tx.putB hC te_11_88 hQ.s0 rfl rfl rfl (by omega) ?_
        have hF3 : Frm pNb mem (upm m_75 Q 0 0) := Frm.up hF_75 (by unfold pNb; omega)
        have hI4 := RfC.e_try (m' := upm m_75 Q 0 0) hQ i75_1 (up1F (by unfold pQ0; omega))
        have hZ5 : (upm m_75 Q 0 0) 19 1 = 0 := by rw [upm_ne (by omega)]; exact i75_2
        generalize upm m_75 Q 0 0 = m2 at hF3 hI4 hZ5 ⊢
        refine Tx.iincW hC te_11_91 rfl rfl (fun z6 z6i z6e => ?_)
        unfold InI at z6i z6e
        first | replace z6e := z6e (by omega) | clear z6e
        refine Tx.goto hC (t := 75) te_11_94 (by decide) ?_
        exact ih_75 z6 m2 (by omega) (hI4) (hZ5) (by omega) hF3
  refine Tx.aload_n hC te_11_0 rfl ?_
  refine Tx.getI hC te_11_1 rfl rfl rfl (fun v7 v7e v7i => ?_)
  unfold InI at v7i
  refine Tx.ifc hC (t := 8) te_11_4 (by decide) (fun q8 => ?_) (fun q8 => ?_)
  · replace q8 : ¬ (v7 : Int) = 0 := q8
    refine Tx.aload_n hC te_11_8 rfl ?_
    refine Tx.iconst hC te_11_9 rfl ?_
    refine Tx.putB hC te_11_10 rfl rfl rfl rfl (by omega) ?_
    have hF10 : Frm pNb mem (upm mem 0 11 0) := Frm.up Frm.rf (by unfold pNb; omega)
    have hJ11 := CJ.e_st (m' := upm mem 0 11 0) hI.1 (up1F (by unfold p11; omega)) (by rw [upm_eq]; omega)
    have hZ12 : (upm mem 0 11 0) 0 11 = 0 := upm_eq
    generalize upm mem 0 11 0 = m9 at hF10 hJ11 hZ12 ⊢
    refine Tx.aload_n hC te_11_13 rfl ?_
    refine Tx.aload_n hC te_11_14 rfl ?_
    refine Tx.getR hC te_11_15 rfl rfl rfl ?_
    refine Tx.virtI hC te_11_18 mt_12 (args := [.inr 1]) (rest := [.inr 0]) (c' := 0) (s' := 0) rfl rfl rfl rfl rfl rfl rfl rfl rfl rfl ?_
    refine f_12x hJ11.b (fun r14 r14b r14s r14i => ?_)
    have r14n : r14 = 1 → Snd mem := fun q => (r14s.mp q).snd.fr (fun A i a b => (hF10 A i (by unfold pNb; omega)).symm)
    unfold InI at r14i
    refine Tx.putB hC te_11_21 rfl rfl rfl rfl (by omega) ?_
    have hF18 : Frm pNb mem (upm m9 0 10 r14) := Frm.up hF10 (by unfold pNb; omega)
    have hJ19 := CJ.e_so (m' := upm m9 0 10 r14) hJ11 (up1F (by unfold p10; omega)) (by rw [upm_eq]; omega)
    have hZ20 : (upm m9 0 10 r14) 0 11 = 0 := by rw [upm_ne (by omega)]; exact hZ12
    have hT21 : (upm m9 0 10 r14) 0 10 = r14 := upm_eq
    have hX22 : (upm m9 0 10 r14) 0 10 = 1 ↔ SndX (upm m9 0 10 r14) := by rw [hT21]; exact r14s.trans (SndX.iff (fun A i a b => upm_ne (by omega)))
    generalize upm m9 0 10 r14 = m17 at hF18 hJ19 hZ20 hT21 hX22 ⊢
    refine Tx.aload_n hC te_11_24 rfl ?_
    refine Tx.getI hC te_11_25 rfl rfl rfl (fun v23 v23e v23i => ?_)
    unfold InI at v23i
    have f24 := hT21
    refine Tx.ifc hC (t := 57) te_11_28 (by decide) (fun q25 => ?_) (fun q25 => ?_)
    · replace q25 : (v23 : Int) = 0 := q25
      refine Tx.aload_n hC te_11_57 rfl ?_
      refine Tx.getR hC te_11_58 rfl rfl rfl ?_
      refine Tx.iconst hC te_11_61 rfl ?_
      refine Tx.putI hC te_11_62 rfl rfl rfl rfl ?_
      have hF27 : Frm pNb mem (upm m17 19 1 0) := Frm.up hF18 (by unfold pNb; omega)
      have hI28 : RfC m17 := ⟨hJ19, hZ20, (fun z => absurd z (by omega)), hX22⟩
      have hI29 := RfC.e_rs (m' := upm m17 19 1 0) hI28 (up1F (by unfold p191; omega))
      have hZ30 : (upm m17 19 1 0) 19 1 = 0 := upm_eq
      generalize upm m17 19 1 0 = m26 at hF27 hI29 hZ30 ⊢
      refine Tx.aload_n hC te_11_65 rfl ?_
      refine Tx.getR hC te_11_66 rfl rfl rfl ?_
      refine Tx.iconst hC te_11_69 rfl ?_
      refine Tx.putI hC te_11_70 rfl rfl rfl rfl ?_
      have hF32 : Frm pNb mem (upm m26 129 0 0) := Frm.up hF27 (by unfold pNb; omega)
      have hI33 := RfC.e_h0 (m' := upm m26 129 0 0) hI29 (up1F (by unfold p129; omega)) (by rw [upm_eq]; omega)
      have hZ34 : (upm m26 129 0 0) 19 1 = 0 := by rw [upm_ne (by omega)]; exact hZ30
      generalize upm m26 129 0 0 = m31 at hF32 hI33 hZ34 ⊢
      refine Tx.iconst hC te_11_73 rfl ?_
      refine Tx.istore_n hC te_11_74 rfl ?_
      exact l_75 _ 0 m31 (by omega) (hI33) (hZ34) (Nat.lt_succ_self _) hF32
    · replace q25 : ¬ ((v23 : Int) = 0) := q25
      refine Tx.aload_n hC te_11_31 rfl ?_
      refine Tx.getR hC te_11_32 rfl rfl rfl ?_
      refine Tx.aload_n hC te_11_35 rfl ?_
      refine Tx.getR hC te_11_36 rfl rfl rfl ?_
      refine Tx.iconst hC te_11_39 rfl ?_
      refine Tx.virtV hC te_11_40 mt_17 (args := [.inr 9, .inr 1, .inl (-1)]) (rest := []) (c' := 0) (s' := 0) rfl rfl rfl rfl rfl rfl rfl rfl rfl rfl ?_
      refine CWV.q hC (f_17e (W := 9) ⟨rfl, rfl, rfl, rfl, rfl⟩ (Or.inl rfl) hJ19.b hJ19.w.1 (fun m36 hF37w r35O r35q r35E => ?_))
      have hF37 : Frm p9w m17 m36 := fun A i q => hF37w A i (by unfold p9w at q; omega) (by unfold p9w at q; omega)
      have r35J := CJ.e_wv hJ19 hF37 r35O
      have r35Z : m36 0 11 = 0 := by rw [hF37 0 11 (by unfold p9w; omega)]; exact hZ20
      have r35n : Snd m17 := (r14n (by omega)).fr (fun A i a b => hF18 A i (by unfold pNb; omega))
      have r35V : WbY m36 := ⟨fun j hj => by have := NdC.lt r35n (r35E.2.1 j (by omega)); rw [hF37 1 0 (by unfold p9w; omega)]; exact this, r35E.cg rfl (fun _ _ => rfl) (fun x => (NdC.fr (fun A i a b c => hF37 A i (by unfold p9w; omega))).symm)⟩
      have r35X := SX.fr hX22 (hF37 0 10 (by unfold p9w; omega)) (fun A i a b => hF37 A i (by unfold p9w; omega))
      have hF37n : Frm pNb mem m36 := hF18.tr (hF37.mono (fun A i q => by unfold p9w at q; unfold pNb; omega))
      refine Tx.aload_n hC te_11_43 rfl ?_
      refine Tx.getR hC te_11_44 rfl rfl rfl ?_
      refine Tx.aload_n hC te_11_47 rfl ?_
      refine Tx.getR hC te_11_48 rfl rfl rfl ?_
      refine Tx.getI hC te_11_51 rfl rfl rfl (fun v38 v38e v38i => ?_)
      unfold InI at v38i
      rw [hF37n 1 _ (by unfold pNb; omega)] at v38e
      refine Tx.virtV hC te_11_54 mt_26 (args := [.inr 9, .inl v38]) (rest := []) (c' := 0) (s' := 0) rfl rfl rfl rfl rfl rfl rfl rfl rfl rfl ?_
      refine CWV.q hC (f_26e (W := 9) ⟨rfl, rfl, rfl, rfl, rfl⟩ r35J.w (by omega) (fun m40 hF41 r39t r39w => ?_))
      have r39J := CJ.e_wg r35J hF41
      have r39Z : m40 0 11 = 0 := by rw [hF41 0 11 (by omega)]; exact r35Z
      have r39y := WbY.fr r35V (fun A i q => hF41 A i (by omega))
      have r39c : cwq m40 9 = cwq m36 9 := funext (fun i => by unfold cwq; rw [hF41 (9 + 1) i (by omega), hF41 (9 + 2) i (by omega), hF41 (9 + 3) i (by omega), hF41 (9 + 4) i (by omega)])
      have r39x : RtX m40 := by
        refine ⟨r39t, ?_⟩
        rw [r39c, hF41 9 0 (by omega), hF41 1 0 (by omega), hF37n 1 0 (by unfold pNb; omega), show mem 1 0 = v38 by omega]
        exact r39w
      have r39V : m40 0 10 = 1 → WbX m40 := fun _ => ⟨r39y.1, r39y.2, r39x⟩
      have r39X := SX.fr r35X (hF41 0 10 (by omega)) (fun A i a b => hF41 A i (by omega))
      have hF41n : Frm pNb mem m40 := hF37n.tr (Frm.mono (P := pW9c) hF41 (fun A i q => by unfold pW9c at q; unfold pNb; omega))
      refine Tx.aload_n hC te_11_57 rfl ?_
      refine Tx.getR hC te_11_58 rfl rfl rfl ?_
      refine Tx.iconst hC te_11_61 rfl ?_
      refine Tx.putI hC te_11_62 rfl rfl rfl rfl ?_
      have hF43 : Frm pNb mem (upm m40 19 1 0) := Frm.up hF41n (by unfold pNb; omega)
      have hI44 : RfC m40 := ⟨r39J, r39Z, r39V, r39X⟩
      have hI45 := RfC.e_rs (m' := upm m40 19 1 0) hI44 (up1F (by unfold p191; omega))
      have hZ46 : (upm m40 19 1 0) 19 1 = 0 := upm_eq
      generalize upm m40 19 1 0 = m42 at hF43 hI45 hZ46 ⊢
      refine Tx.aload_n hC te_11_65 rfl ?_
      refine Tx.getR hC te_11_66 rfl rfl rfl ?_
      refine Tx.iconst hC te_11_69 rfl ?_
      refine Tx.putI hC te_11_70 rfl rfl rfl rfl ?_
      have hF48 : Frm pNb mem (upm m42 129 0 0) := Frm.up hF43 (by unfold pNb; omega)
      have hI49 := RfC.e_h0 (m' := upm m42 129 0 0) hI45 (up1F (by unfold p129; omega)) (by rw [upm_eq]; omega)
      have hZ50 : (upm m42 129 0 0) 19 1 = 0 := by rw [upm_ne (by omega)]; exact hZ46
      generalize upm m42 129 0 0 = m47 at hF48 hI49 hZ50 ⊢
      refine Tx.iconst hC te_11_73 rfl ?_
      refine Tx.istore_n hC te_11_74 rfl ?_
      exact l_75 _ 0 m47 (by omega) (hI49) (hZ50) (Nat.lt_succ_self _) hF48
  · replace q8 : ¬ (¬ (v7 : Int) = 0) := q8
    exact Tx.vret hC te_11_7 rfl (show K mem from H _ ⟨⟨hI.1, by omega, fun q => (hI.2.1 (by omega) q).1, hI.2.2 (by omega)⟩, fun q => (hI.2.1 (by omega) q).2⟩ Frm.rf)
theorem f_69 {S : Nat × (Nat → Int32)} {n : Nat} {mem : MM} {K : MM → Prop} {E : Nat → MM → Prop} (hI : ClS mem) (H : ∀ m', Rdy m' → Frm pNb mem m' → K m') (HE : ∀ m', ClS m' → Frm pNb mem m' → E 1 m') : CQV (Ex S (n + 14)) 69 [.inr 0] mem K E := by
  refine CY.of (k := 0) mt_69 rfl rfl (fun hv => ?_)
  have hC := Ex.mono S (n + 13)
  clear hv
  show Tx (Ex S (n + 13)) S M_69 (kV K E) 0 0 0 [some (.inr 0)] [] mem
  refine Tx.aload_n hC te_69_0 rfl ?_
  refine Tx.virtV hC te_69_1 mt_11 (args := [.inr 0]) (rest := []) (c' := 0) (s' := 0) rfl rfl rfl rfl rfl rfl rfl rfl rfl rfl ?_
  refine f_11 hI (fun m2 r1I hF3 => ?_)
  have hF3n : Frm pNb mem m2 := Frm.rf.tr hF3
  refine Tx.aload_n hC te_69_4 rfl ?_
  refine Tx.getI hC te_69_5 rfl rfl rfl (fun v4 v4e v4i => ?_)
  unfold InI at v4i
  have f5 := r1I.1.1.so
  refine Tx.ifc hC (t := 22) te_69_8 (by decide) (fun q6 => ?_) (fun q6 => ?_)
  · replace q6 : ¬ (v4 : Int) = 0 := q6
    exact Tx.vret hC te_69_22 rfl (show K m2 from H _ (r1I.rdy (by omega)) hF3n)
  · replace q6 : ¬ (¬ (v4 : Int) = 0) := q6
    exact Tx.thr hC te_69_11 rfl rfl rfl rfl rfl (show E 1 m2 from HE _ r1I.cs hF3n)
theorem f_85 {S : Nat × (Nat → Int32)} {n : Nat} {mem : MM} {K : Nat → MM → Prop} {E : Nat → MM → Prop} (hR : Rdy mem) {d : Int} (hd : 1 ≤ d ∧ d ≤ 12) (H : ∀ Q m', ChSh Q → Rdy m' → Frm pNb mem m' → K Q m') : CQR (Ex S (n + 15)) 85 [.inr 0, .inl d] mem K E := by
  refine CY.of (k := 1) mt_85 rfl rfl (fun hv => ?_)
  have hC := Ex.mono S (n + 14)
  have ii_d : InI d := hv (.inl d) (by simp)
  unfold InI at ii_d
  clear hv
  show Tx (Ex S (n + 14)) S M_85 (kR K E) 0 0 0 [some (.inr 0), some (.inl d), none] [] mem
  refine Tx.aload_n hC te_85_0 rfl ?_
  refine Tx.getR hC te_85_1 rfl rfl rfl ?_
  refine Tx.iload_n hC te_85_4 rfl ?_
  refine Tx.aaldC hC te_85_5 (by omega) (fun Q eQ => ?_)
  have hQ : ChSh Q := ChSh.mk eQ (by omega)
  have hq8 := hQ.rg
  refine Tx.astore_n hC te_85_6 rfl ?_
  refine Tx.aload_n hC te_85_7 rfl ?_
  refine Tx.getI hC te_85_8 hQ.s0 rfl rfl (fun v1 v1e v1i => ?_)
  unfold InI at v1i
  refine Tx.ifc hC (t := 119) te_85_11 (by decide) (fun q2 => ?_) (fun q2 => ?_)
  · replace q2 : ¬ (v1 : Int) = 0 := q2
    refine Tx.aload_n hC te_85_119 rfl ?_
    exact Tx.aret hC te_85_120 rfl (show K Q mem from H _ _ hQ hR Frm.rf)
  · replace q2 : ¬ (¬ (v1 : Int) = 0) := q2
    refine Tx.aload_n hC te_85_14 rfl ?_
    refine Tx.iconst hC te_85_15 rfl ?_
    refine Tx.putB hC te_85_16 hQ.s0 rfl rfl rfl (by omega) ?_
    have hF4 : Frm pNb mem (upm mem Q 0 1) := Frm.up Frm.rf (by unfold pNb; omega)
    have hR5 := Rdy.e_try (m' := upm mem Q 0 1) hQ hR (up1F (by unfold pQ0; omega))
    generalize upm mem Q 0 1 = m3 at hF4 hR5 ⊢
    refine Tx.aload_n hC te_85_19 rfl ?_
    refine Tx.iconst hC te_85_20 rfl ?_
    refine Tx.putB hC te_85_21 hQ.s0 rfl rfl rfl (by omega) ?_
    have hF7 : Frm pNb mem (upm m3 Q 1 0) := Frm.up hF4 (by unfold pNb; omega)
    have hR8 := Rdy.e_fit (m' := upm m3 Q 1 0) hQ hR5 (up1F (by unfold pQ1; omega)) (ChtOK.up1 (hR5.1.ch Q hQ) (by omega))
    generalize upm m3 Q 1 0 = m6 at hF7 hR8 ⊢
    refine Tx.iload_n hC te_85_24 rfl ?_
    refine Tx.aload_n hC te_85_25 rfl ?_
    refine Tx.getR hC te_85_26 rfl rfl rfl ?_
    refine Tx.virtI hC te_85_29 mt_32 (args := [.inr 9]) (rest := [.inl d]) (c' := 0) (s' := 0) rfl rfl rfl rfl rfl rfl rfl rfl rfl rfl ?_
    refine f_32x (W := 9) ⟨rfl, rfl, rfl, rfl, rfl⟩ hR8.2.2.2.1.2.2.1 (fun r9 r9e r9a r9b r9i => ?_)
    unfold InI at r9i
    refine Tx.icmp hC (t := 92) te_85_32 (by decide) (fun q12 => ?_) (fun q12 => ?_)
    · replace q12 : (d : Int) < r9 := q12
      refine Tx.aload_n hC te_85_92 rfl ?_
      refine Tx.getI hC te_85_93 hQ.s0 rfl rfl (fun v13 v13e v13i => ?_)
      unfold InI at v13i
      refine Tx.ifc hC (t := 119) te_85_96 (by decide) (fun q14 => ?_) (fun q14 => ?_)
      · replace q14 : (v13 : Int) = 0 := q14
        refine Tx.aload_n hC te_85_119 rfl ?_
        exact Tx.aret hC te_85_120 rfl (show K Q m6 from H _ _ hQ hR8 hF7)
      · replace q14 : ¬ ((v13 : Int) = 0) := q14
        refine Tx.aload_n hC te_85_99 rfl ?_
        refine Tx.aload_n hC te_85_100 rfl ?_
        refine Tx.getR hC te_85_101 rfl rfl rfl ?_
        refine Tx.aload_n hC te_85_104 rfl ?_
        refine Tx.getR hC te_85_105 rfl rfl rfl ?_
        refine Tx.aload_n hC te_85_108 rfl ?_
        refine Tx.getR hC te_85_109 rfl rfl rfl ?_
        refine Tx.getR hC te_85_112 rfl rfl rfl ?_
        refine Tx.iload_n hC te_85_115 rfl ?_
        refine Tx.virtV hC te_85_116 mt_106 (args := [.inr Q, .inr 1, .inr 9, .inr 22, .inl d]) (rest := []) (c' := 0) (s' := 0) rfl rfl rfl rfl rfl rfl rfl rfl hQ.s0 rfl ?_
        refine f_106 hQ (hR8.1.ch Q hQ) hR8.1.b hR8.1.w hR8.2.2.2.1.1 (fun o ho => (hR8.1.us o ho).2) (by omega) (fun m16 hF17 r15c => ?_)
        have r15R := Rdy.e_draw hQ hR8 hF17 r15c
        have hF17n : Frm pNb mem m16 := hF7.tr (hF17.mono (fun A i q => by unfold pCh at q; unfold pNb; omega))
        refine Tx.aload_n hC te_85_119 rfl ?_
        exact Tx.aret hC te_85_120 rfl (show K Q m16 from H _ _ hQ r15R hF17n)
    · replace q12 : ¬ ((d : Int) < r9) := q12
      refine Tx.aload_n hC te_85_35 rfl ?_
      refine Tx.getR hC te_85_36 rfl rfl rfl ?_
      refine Tx.aload_n hC te_85_39 rfl ?_
      refine Tx.getR hC te_85_40 rfl rfl rfl ?_
      refine Tx.aload_n hC te_85_43 rfl ?_
      refine Tx.getR hC te_85_44 rfl rfl rfl ?_
      refine Tx.iload_n hC te_85_47 rfl ?_
      refine Tx.virtV hC te_85_48 mt_75 (args := [.inr 19, .inr 1, .inr 9, .inl d]) (rest := []) (c' := 0) (s' := 0) rfl rfl rfl rfl rfl rfl rfl rfl rfl rfl ?_
      refine f_75x hR8.1.b hR8.1.w hR8.2.2.2.1.1 hR8.edv (Rdy.noup hR8 (by omega) (by omega)) hR8.2.1.2 (by omega) (fun m19 hF20 r18x r18z r18y => ?_)
      have r18R := Rdy.e_span hR8 hF20 (by have := hR8.1.b.1; omega) r18x
      have r18u : upV (m19 9 5) (m19 9 6) = upV (m6 9 5) (m6 9 6) := by rw [hF20 9 5 (by unfold pRe; omega), hF20 9 6 (by unfold pRe; omega)]
      have hF20n : Frm pNb mem m19 := hF7.tr (hF20.mono (fun A i q => by unfold pRe at q; unfold pNb; omega))
      refine Tx.aload_n hC te_85_51 rfl ?_
      refine Tx.aload_n hC te_85_52 rfl ?_
      refine Tx.getR hC te_85_53 rfl rfl rfl ?_
      refine Tx.aload_n hC te_85_56 rfl ?_
      refine Tx.getR hC te_85_57 rfl rfl rfl ?_
      refine Tx.iload_n hC te_85_60 rfl ?_
      refine Tx.virtI hC te_85_61 mt_86 (args := [.inr 21, .inr 1, .inl d]) (rest := [.inr Q]) (c' := 0) (s' := 0) rfl rfl rfl rfl rfl rfl rfl rfl rfl rfl ?_
      refine f_86 r18R.1.b (by omega) (fun o ho => (r18R.1.us o ho).1) (fun r21 m22 r21b hF23 r21u r21l r21s r21i => ?_)
      have r21R := Rdy.e_hold r18R hF23 r21u r21l
      have hF23n : Frm pNb mem m22 := hF20n.tr (hF23.mono (fun A i q => by unfold pT6 at q; unfold pNb; omega))
      unfold InI at r21i
      refine Tx.ifc hC (t := 88) te_85_64 (by decide) (fun q24 => ?_) (fun q24 => ?_)
      · replace q24 : (r21 : Int) = 0 := q24
        refine Tx.iconst hC te_85_88 rfl ?_
        refine Tx.putB hC te_85_89 hQ.s0 rfl rfl rfl (by omega) ?_
        have hF26 : Frm pNb mem (upm m22 Q 1 0) := Frm.up hF23n (by unfold pNb; omega)
        have hR27 := Rdy.e_fit (m' := upm m22 Q 1 0) hQ r21R (up1F (by unfold pQ1; omega)) (ChtOK.up1 (r21R.1.ch Q hQ) (by omega))
        generalize upm m22 Q 1 0 = m25 at hF26 hR27 ⊢
        refine Tx.aload_n hC te_85_92 rfl ?_
        refine Tx.getI hC te_85_93 hQ.s0 rfl rfl (fun v28 v28e v28i => ?_)
        unfold InI at v28i
        refine Tx.ifc hC (t := 119) te_85_96 (by decide) (fun q29 => ?_) (fun q29 => ?_)
        · replace q29 : (v28 : Int) = 0 := q29
          refine Tx.aload_n hC te_85_119 rfl ?_
          exact Tx.aret hC te_85_120 rfl (show K Q m25 from H _ _ hQ hR27 hF26)
        · replace q29 : ¬ ((v28 : Int) = 0) := q29
          refine Tx.aload_n hC te_85_99 rfl ?_
          refine Tx.aload_n hC te_85_100 rfl ?_
          refine Tx.getR hC te_85_101 rfl rfl rfl ?_
          refine Tx.aload_n hC te_85_104 rfl ?_
          refine Tx.getR hC te_85_105 rfl rfl rfl ?_
          refine Tx.aload_n hC te_85_108 rfl ?_
          refine Tx.getR hC te_85_109 rfl rfl rfl ?_
          refine Tx.getR hC te_85_112 rfl rfl rfl ?_
          refine Tx.iload_n hC te_85_115 rfl ?_
          refine Tx.virtV hC te_85_116 mt_106 (args := [.inr Q, .inr 1, .inr 9, .inr 22, .inl d]) (rest := []) (c' := 0) (s' := 0) rfl rfl rfl rfl rfl rfl rfl rfl hQ.s0 rfl ?_
          refine f_106 hQ (hR27.1.ch Q hQ) hR27.1.b hR27.1.w hR27.2.2.2.1.1 (fun o ho => (hR27.1.us o ho).2) (by omega) (fun m31 hF32 r30c => ?_)
          have r30R := Rdy.e_draw hQ hR27 hF32 r30c
          have hF32n : Frm pNb mem m31 := hF26.tr (hF32.mono (fun A i q => by unfold pCh at q; unfold pNb; omega))
          refine Tx.aload_n hC te_85_119 rfl ?_
          exact Tx.aret hC te_85_120 rfl (show K Q m31 from H _ _ hQ r30R hF32n)
      · replace q24 : ¬ ((r21 : Int) = 0) := q24
        refine Tx.aload_n hC te_85_67 rfl ?_
        refine Tx.getR hC te_85_68 rfl rfl rfl ?_
        refine Tx.aload_n hC te_85_71 rfl ?_
        refine Tx.getR hC te_85_72 rfl rfl rfl ?_
        refine Tx.getR hC te_85_75 rfl rfl rfl ?_
        refine Tx.virtI hC te_85_78 mt_103 (args := [.inr 21, .inr 20]) (rest := [.inr Q]) (c' := 0) (s' := 0) rfl rfl rfl rfl rfl rfl rfl rfl rfl rfl ?_
        refine f_103 (r21s (by omega)) (fun r33 m34 r33b hF35 r33i => ?_)
        have r33R := Rdy.e_find r21R hF35.1 hF35.2
        have hF35n : Frm pNb mem m34 := hF23n.tr (hF35.1.mono (fun A i q => by unfold pSk at q; unfold pNb; omega))
        unfold InI at r33i
        refine Tx.ifc hC (t := 88) te_85_81 (by decide) (fun q36 => ?_) (fun q36 => ?_)
        · replace q36 : (r33 : Int) = 0 := q36
          refine Tx.iconst hC te_85_88 rfl ?_
          refine Tx.putB hC te_85_89 hQ.s0 rfl rfl rfl (by omega) ?_
          have hF38 : Frm pNb mem (upm m34 Q 1 0) := Frm.up hF35n (by unfold pNb; omega)
          have hR39 := Rdy.e_fit (m' := upm m34 Q 1 0) hQ r33R (up1F (by unfold pQ1; omega)) (ChtOK.up1 (r33R.1.ch Q hQ) (by omega))
          generalize upm m34 Q 1 0 = m37 at hF38 hR39 ⊢
          refine Tx.aload_n hC te_85_92 rfl ?_
          refine Tx.getI hC te_85_93 hQ.s0 rfl rfl (fun v40 v40e v40i => ?_)
          unfold InI at v40i
          refine Tx.ifc hC (t := 119) te_85_96 (by decide) (fun q41 => ?_) (fun q41 => ?_)
          · replace q41 : (v40 : Int) = 0 := q41
            refine Tx.aload_n hC te_85_119 rfl ?_
            exact Tx.aret hC te_85_120 rfl (show K Q m37 from H _ _ hQ hR39 hF38)
          · replace q41 : ¬ ((v40 : Int) = 0) := q41
            refine Tx.aload_n hC te_85_99 rfl ?_
            refine Tx.aload_n hC te_85_100 rfl ?_
            refine Tx.getR hC te_85_101 rfl rfl rfl ?_
            refine Tx.aload_n hC te_85_104 rfl ?_
            refine Tx.getR hC te_85_105 rfl rfl rfl ?_
            refine Tx.aload_n hC te_85_108 rfl ?_
            refine Tx.getR hC te_85_109 rfl rfl rfl ?_
            refine Tx.getR hC te_85_112 rfl rfl rfl ?_
            refine Tx.iload_n hC te_85_115 rfl ?_
            refine Tx.virtV hC te_85_116 mt_106 (args := [.inr Q, .inr 1, .inr 9, .inr 22, .inl d]) (rest := []) (c' := 0) (s' := 0) rfl rfl rfl rfl rfl rfl rfl rfl hQ.s0 rfl ?_
            refine f_106 hQ (hR39.1.ch Q hQ) hR39.1.b hR39.1.w hR39.2.2.2.1.1 (fun o ho => (hR39.1.us o ho).2) (by omega) (fun m43 hF44 r42c => ?_)
            have r42R := Rdy.e_draw hQ hR39 hF44 r42c
            have hF44n : Frm pNb mem m43 := hF38.tr (hF44.mono (fun A i q => by unfold pCh at q; unfold pNb; omega))
            refine Tx.aload_n hC te_85_119 rfl ?_
            exact Tx.aret hC te_85_120 rfl (show K Q m43 from H _ _ hQ r42R hF44n)
        · replace q36 : ¬ ((r33 : Int) = 0) := q36
          refine Tx.iconst hC te_85_84 rfl ?_
          refine Tx.goto hC (t := 89) te_85_85 (by decide) ?_
          refine Tx.putB hC te_85_89 hQ.s0 rfl rfl rfl (by omega) ?_
          have hF46 : Frm pNb mem (upm m34 Q 1 1) := Frm.up hF35n (by unfold pNb; omega)
          have hR47 := Rdy.e_fit (m' := upm m34 Q 1 1) hQ r33R (up1F (by unfold pQ1; omega)) (ChtOK.up1 (r33R.1.ch Q hQ) (by omega))
          generalize upm m34 Q 1 1 = m45 at hF46 hR47 ⊢
          refine Tx.aload_n hC te_85_92 rfl ?_
          refine Tx.getI hC te_85_93 hQ.s0 rfl rfl (fun v48 v48e v48i => ?_)
          unfold InI at v48i
          refine Tx.ifc hC (t := 119) te_85_96 (by decide) (fun q49 => ?_) (fun q49 => ?_)
          · replace q49 : (v48 : Int) = 0 := q49
            refine Tx.aload_n hC te_85_119 rfl ?_
            exact Tx.aret hC te_85_120 rfl (show K Q m45 from H _ _ hQ hR47 hF46)
          · replace q49 : ¬ ((v48 : Int) = 0) := q49
            refine Tx.aload_n hC te_85_99 rfl ?_
            refine Tx.aload_n hC te_85_100 rfl ?_
            refine Tx.getR hC te_85_101 rfl rfl rfl ?_
            refine Tx.aload_n hC te_85_104 rfl ?_
            refine Tx.getR hC te_85_105 rfl rfl rfl ?_
            refine Tx.aload_n hC te_85_108 rfl ?_
            refine Tx.getR hC te_85_109 rfl rfl rfl ?_
            refine Tx.getR hC te_85_112 rfl rfl rfl ?_
            refine Tx.iload_n hC te_85_115 rfl ?_
            refine Tx.virtV hC te_85_116 mt_106 (args := [.inr Q, .inr 1, .inr 9, .inr 22, .inl d]) (rest := []) (c' := 0) (s' := 0) rfl rfl rfl rfl rfl rfl rfl rfl hQ.s0 rfl ?_
            refine f_106 hQ (hR47.1.ch Q hQ) hR47.1.b hR47.1.w hR47.2.2.2.1.1 (fun o ho => (hR47.1.us o ho).2) (by omega) (fun m51 hF52 r50c => ?_)
            have r50R := Rdy.e_draw hQ hR47 hF52 r50c
            have hF52n : Frm pNb mem m51 := hF46.tr (hF52.mono (fun A i q => by unfold pCh at q; unfold pNb; omega))
            refine Tx.aload_n hC te_85_119 rfl ?_
            exact Tx.aret hC te_85_120 rfl (show K Q m51 from H _ _ hQ r50R hF52n)
theorem f_115 {S : Nat × (Nat → Int32)} {n : Nat} {mem : MM} {K : Nat → MM → Prop} {E : Nat → MM → Prop} (hI : ClS mem) {d : Int} (H : ∀ Q m', ChSh Q → Rdy m' → Frm pNb mem m' → 1 ≤ d → d ≤ 12 → K Q m') (HE : ∀ e m', (e = 0 ∨ e = 1) → ClS m' → Frm pNb mem m' → E e m') : CQR (Ex S (n + 16)) 115 [.inr 0, .inl d] mem K E := by
  refine CY.of (k := 1) mt_115 rfl rfl (fun hv => ?_)
  have hC := Ex.mono S (n + 15)
  have ii_d : InI d := hv (.inl d) (by simp)
  unfold InI at ii_d
  clear hv
  show Tx (Ex S (n + 15)) S M_115 (kR K E) 0 0 0 [some (.inr 0), some (.inl d), none] [] mem
  refine Tx.iload_n hC te_115_0 rfl ?_
  refine Tx.statV hC te_115_1 (by decide) mt_74 (args := [.inl d]) (rest := []) (c' := 1) (s' := 6) rfl rfl rfl rfl rfl rfl rfl ?_
  refine f_74 (fun r1a r1b => ?_) (HE 0 _ (by omega) hI Frm.rf)
  refine Tx.aload_n hC te_115_4 rfl ?_
  refine Tx.virtV hC te_115_5 mt_69 (args := [.inr 0]) (rest := []) (c' := 2) (s' := 12) rfl rfl rfl rfl rfl rfl rfl rfl rfl rfl ?_
  refine f_69 hI (fun m5 r4R hF6 => ?_) (fun m5 r4C hF6 => HE 1 _ (by omega) r4C (Frm.rf.tr hF6))
  have r4w := r4R.1.w.2
  have hF6n : Frm pNb mem m5 := Frm.rf.tr hF6
  refine Tx.aload_n hC te_115_8 rfl ?_
  refine Tx.iload_n hC te_115_9 rfl ?_
  refine Tx.virtR hC te_115_10 mt_85 (args := [.inr 0, .inl d]) (rest := []) (c' := 2) (s' := 12) rfl rfl rfl rfl rfl rfl rfl rfl rfl rfl ?_
  refine f_85 r4R (by omega) (fun Q m8 hQ r7R hF9 => ?_)
  have hq8 := hQ.rg
  have r7o := (r7R.1.ch Q hQ).1
  have hF9n : Frm pNb mem m8 := hF6n.tr hF9
  refine Tx.astore_n hC te_115_13 rfl ?_
  refine Tx.aload_n hC te_115_14 rfl ?_
  refine Tx.getI hC te_115_15 hQ.s0 rfl rfl (fun v10 v10e v10i => ?_)
  unfold InI at v10i
  refine Tx.ifc hC (t := 32) te_115_18 (by decide) (fun q11 => ?_) (fun q11 => ?_)
  · replace q11 : ¬ (v10 : Int) = 0 := q11
    refine Tx.aload_n hC te_115_32 rfl ?_
    exact Tx.aret hC te_115_33 rfl (show K Q m8 from H _ _ hQ r7R hF9n (by omega) (by omega))
  · replace q11 : ¬ (¬ (v10 : Int) = 0) := q11
    exact Tx.thr hC te_115_21 rfl rfl rfl rfl rfl (show E 1 m8 from HE _ _ (by omega) r7R.cs hF9n)
theorem f_73 {S : Nat × (Nat → Int32)} {n : Nat} {mem : MM} {K : MM → Prop} {E : Nat → MM → Prop} (hI : ClS mem) {d : Int} (H : ∀ m', Rdy m' → Frm pNb mem m' → 1 ≤ d → d ≤ 12 → K m') (HE : ∀ e m', (e = 0 ∨ e = 1) → ClS m' → Frm pNb mem m' → E e m') : CQV (Ex S (n + 15)) 73 [.inr 0, .inl d] mem K E := by
  refine CY.of (k := 0) mt_73 rfl rfl (fun hv => ?_)
  have hC := Ex.mono S (n + 14)
  have ii_d : InI d := hv (.inl d) (by simp)
  unfold InI at ii_d
  clear hv
  show Tx (Ex S (n + 14)) S M_73 (kV K E) 0 0 0 [some (.inr 0), some (.inl d)] [] mem
  refine Tx.iload_n hC te_73_0 rfl ?_
  refine Tx.statV hC te_73_1 (by decide) mt_74 (args := [.inl d]) (rest := []) (c' := 1) (s' := 6) rfl rfl rfl rfl rfl rfl rfl ?_
  refine f_74 (fun r1a r1b => ?_) (HE 0 _ (by omega) hI Frm.rf)
  refine Tx.aload_n hC te_73_4 rfl ?_
  refine Tx.virtV hC te_73_5 mt_69 (args := [.inr 0]) (rest := []) (c' := 2) (s' := 12) rfl rfl rfl rfl rfl rfl rfl rfl rfl rfl ?_
  refine f_69 hI (fun m5 r4R hF6 => ?_) (fun m5 r4C hF6 => HE 1 _ (by omega) r4C (Frm.rf.tr hF6))
  have r4w := r4R.1.w.2
  have hF6n : Frm pNb mem m5 := Frm.rf.tr hF6
  refine Tx.iload_n hC te_73_8 rfl ?_
  refine Tx.aload_n hC te_73_9 rfl ?_
  refine Tx.getR hC te_73_10 rfl rfl rfl ?_
  refine Tx.virtI hC te_73_13 mt_32 (args := [.inr 9]) (rest := [.inl d]) (c' := 2) (s' := 12) rfl rfl rfl rfl rfl rfl rfl rfl rfl rfl ?_
  refine f_32x (W := 9) ⟨rfl, rfl, rfl, rfl, rfl⟩ r4R.2.2.2.1.2.2.1 (fun r7 r7e r7a r7b r7i => ?_)
  unfold InI at r7i
  refine Tx.icmp hC (t := 30) te_73_16 (by decide) (fun q10 => ?_) (fun q10 => ?_)
  · replace q10 : r7 ≤ (d : Int) := q10
    refine Tx.aload_n hC te_73_30 rfl ?_
    refine Tx.getR hC te_73_31 rfl rfl rfl ?_
    refine Tx.aload_n hC te_73_34 rfl ?_
    refine Tx.getR hC te_73_35 rfl rfl rfl ?_
    refine Tx.aload_n hC te_73_38 rfl ?_
    refine Tx.getR hC te_73_39 rfl rfl rfl ?_
    refine Tx.iload_n hC te_73_42 rfl ?_
    refine Tx.virtV hC te_73_43 mt_75 (args := [.inr 19, .inr 1, .inr 9, .inl d]) (rest := []) (c' := 2) (s' := 12) rfl rfl rfl rfl rfl rfl rfl rfl rfl rfl ?_
    refine f_75x r4R.1.b r4R.1.w r4R.2.2.2.1.1 r4R.edv (Rdy.noup r4R (by omega) (by omega)) r4R.2.1.2 (by omega) (fun m12 hF13 r11x r11z r11y => ?_)
    have r11R := Rdy.e_span r4R hF13 (by have := r4R.1.b.1; omega) r11x
    have r11u : upV (m12 9 5) (m12 9 6) = upV (m5 9 5) (m5 9 6) := by rw [hF13 9 5 (by unfold pRe; omega), hF13 9 6 (by unfold pRe; omega)]
    have hF13n : Frm pNb mem m12 := hF6n.tr (hF13.mono (fun A i q => by unfold pRe at q; unfold pNb; omega))
    exact Tx.vret hC te_73_46 rfl (show K m12 from H _ r11R hF13n (by omega) (by omega))
  · replace q10 : ¬ (r7 ≤ (d : Int)) := q10
    exact Tx.thr hC te_73_19 rfl rfl rfl rfl rfl (show E 1 m5 from HE _ _ (by omega) r4R.cs hF6n)
