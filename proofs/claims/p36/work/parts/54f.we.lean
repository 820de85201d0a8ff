/-! laid by wip/hand/tg.py: the web once more, draw -/
set_option maxRecDepth 100000 in
theorem mt_12 : MT[12]? = some M_12 := rfl
set_option maxRecDepth 100000 in
theorem mt_106 : MT[106]? = some M_106 := rfl
set_option maxRecDepth 100000 in
theorem mt_199 : MT[199]? = some M_199 := rfl
theorem te_12_0 : (pT M_12).find? (fun e => e.1 == 0) = some (0, .iconst 0, 0, 0) := rfl
theorem te_12_1 : (pT M_12).find? (fun e => e.1 == 1) = some (1, .istore_n 1, 0, 0) := rfl
theorem te_12_2 : (pT M_12).find? (fun e => e.1 == 2) = some (2, .iload_n 1, 0, 0) := rfl
theorem te_12_3 : (pT M_12).find? (fun e => e.1 == 3) = some (3, .aload_n 0, 0, 0) := rfl
theorem te_12_4 : (pT M_12).find? (fun e => e.1 == 4) = some (4, .getfield 33, 0, 0) := rfl
theorem te_12_7 : (pT M_12).find? (fun e => e.1 == 7) = some (7, .if_icmp .ge 48, 0, 0) := rfl
theorem te_12_10 : (pT M_12).find? (fun e => e.1 == 10) = some (10, .iconst 0, 0, 0) := rfl
theorem te_12_11 : (pT M_12).find? (fun e => e.1 == 11) = some (11, .istore_n 2, 0, 0) := rfl
theorem te_12_12 : (pT M_12).find? (fun e => e.1 == 12) = some (12, .iload_n 2, 0, 0) := rfl
theorem te_12_13 : (pT M_12).find? (fun e => e.1 == 13) = some (13, .aload_n 0, 0, 0) := rfl
theorem te_12_14 : (pT M_12).find? (fun e => e.1 == 14) = some (14, .iload_n 1, 0, 0) := rfl
theorem te_12_15 : (pT M_12).find? (fun e => e.1 == 15) = some (15, .invokevirtual 37, 13, 0) := rfl
theorem te_12_18 : (pT M_12).find? (fun e => e.1 == 18) = some (18, .if_icmp .ge 31, 0, 0) := rfl
theorem te_12_21 : (pT M_12).find? (fun e => e.1 == 21) = some (21, .aload_n 0, 0, 0) := rfl
theorem te_12_22 : (pT M_12).find? (fun e => e.1 == 22) = some (22, .iload_n 1, 0, 0) := rfl
theorem te_12_23 : (pT M_12).find? (fun e => e.1 == 23) = some (23, .aload_n 0, 0, 0) := rfl
theorem te_12_24 : (pT M_12).find? (fun e => e.1 == 24) = some (24, .iload_n 1, 0, 0) := rfl
theorem te_12_25 : (pT M_12).find? (fun e => e.1 == 25) = some (25, .iload_n 2, 0, 0) := rfl
theorem te_12_26 : (pT M_12).find? (fun e => e.1 == 26) = some (26, .invokevirtual 41, 14, 0) := rfl
theorem te_12_29 : (pT M_12).find? (fun e => e.1 == 29) = some (29, .aload_n 0, 0, 0) := rfl
theorem te_12_30 : (pT M_12).find? (fun e => e.1 == 30) = some (30, .iload_n 1, 0, 0) := rfl
theorem te_12_31 : (pT M_12).find? (fun e => e.1 == 31) = some (31, .iload_n 2, 0, 0) := rfl
theorem te_12_32 : (pT M_12).find? (fun e => e.1 == 32) = some (32, .invokevirtual 45, 15, 0) := rfl
theorem te_12_35 : (pT M_12).find? (fun e => e.1 == 35) = some (35, .invokevirtual 48, 16, 0) := rfl
theorem te_12_38 : (pT M_12).find? (fun e => e.1 == 38) = some (38, .ifCond .ne 5, 0, 0) := rfl
theorem te_12_41 : (pT M_12).find? (fun e => e.1 == 41) = some (41, .iconst 0, 0, 0) := rfl
theorem te_12_42 : (pT M_12).find? (fun e => e.1 == 42) = some (42, .ireturn, 0, 0) := rfl
theorem te_12_43 : (pT M_12).find? (fun e => e.1 == 43) = some (43, .iinc 2 1, 0, 0) := rfl
theorem te_12_46 : (pT M_12).find? (fun e => e.1 == 46) = some (46, .goto (-34), 0, 0) := rfl
theorem te_12_49 : (pT M_12).find? (fun e => e.1 == 49) = some (49, .iinc 1 1, 0, 0) := rfl
theorem te_12_52 : (pT M_12).find? (fun e => e.1 == 52) = some (52, .goto (-50), 0, 0) := rfl
theorem te_12_55 : (pT M_12).find? (fun e => e.1 == 55) = some (55, .iconst 1, 0, 0) := rfl
theorem te_12_56 : (pT M_12).find? (fun e => e.1 == 56) = some (56, .ireturn, 0, 0) := rfl
theorem te_106_0 : (pT M_106).find? (fun e => e.1 == 0) = some (0, .aload_n 0, 0, 0) := rfl
theorem te_106_1 : (pT M_106).find? (fun e => e.1 == 1) = some (1, .aload_n 1, 0, 0) := rfl
theorem te_106_2 : (pT M_106).find? (fun e => e.1 == 2) = some (2, .getfield 34, 0, 0) := rfl
theorem te_106_5 : (pT M_106).find? (fun e => e.1 == 5) = some (5, .putfield 39, 1, 2) := rfl
theorem te_106_8 : (pT M_106).find? (fun e => e.1 == 8) = some (8, .aload_n 0, 0, 0) := rfl
theorem te_106_9 : (pT M_106).find? (fun e => e.1 == 9) = some (9, .iload 4, 0, 0) := rfl
theorem te_106_11 : (pT M_106).find? (fun e => e.1 == 11) = some (11, .putfield 9, 1, 3) := rfl
theorem te_106_14 : (pT M_106).find? (fun e => e.1 == 14) = some (14, .aload_n 3, 0, 0) := rfl
theorem te_106_15 : (pT M_106).find? (fun e => e.1 == 15) = some (15, .iconst 0, 0, 0) := rfl
theorem te_106_16 : (pT M_106).find? (fun e => e.1 == 16) = some (16, .aload_n 0, 0, 0) := rfl
theorem te_106_17 : (pT M_106).find? (fun e => e.1 == 17) = some (17, .getfield 15, 1, 8) := rfl
theorem te_106_20 : (pT M_106).find? (fun e => e.1 == 20) = some (20, .iconst 0, 0, 0) := rfl
theorem te_106_21 : (pT M_106).find? (fun e => e.1 == 21) = some (21, .bipush 8, 0, 0) := rfl
theorem te_106_23 : (pT M_106).find? (fun e => e.1 == 23) = some (23, .invokestatic 40, 0, 7) := rfl
theorem te_106_26 : (pT M_106).find? (fun e => e.1 == 26) = some (26, .aload_n 0, 0, 0) := rfl
theorem te_106_27 : (pT M_106).find? (fun e => e.1 == 27) = some (27, .aload_n 2, 0, 0) := rfl
theorem te_106_28 : (pT M_106).find? (fun e => e.1 == 28) = some (28, .invokevirtual 46, 107, 0) := rfl
theorem te_106_31 : (pT M_106).find? (fun e => e.1 == 31) = some (31, .aload_n 0, 0, 0) := rfl
theorem te_106_32 : (pT M_106).find? (fun e => e.1 == 32) = some (32, .iconst 0, 0, 0) := rfl
theorem te_106_33 : (pT M_106).find? (fun e => e.1 == 33) = some (33, .putfield 50, 1, 4) := rfl
theorem te_106_36 : (pT M_106).find? (fun e => e.1 == 36) = some (36, .aload_n 0, 0, 0) := rfl
theorem te_106_37 : (pT M_106).find? (fun e => e.1 == 37) = some (37, .iconst 1, 0, 0) := rfl
theorem te_106_38 : (pT M_106).find? (fun e => e.1 == 38) = some (38, .putfield 53, 1, 5) := rfl
theorem te_106_41 : (pT M_106).find? (fun e => e.1 == 41) = some (41, .iconst 0, 0, 0) := rfl
theorem te_106_42 : (pT M_106).find? (fun e => e.1 == 42) = some (42, .istore 5, 0, 0) := rfl
theorem te_106_44 : (pT M_106).find? (fun e => e.1 == 44) = some (44, .iload 5, 0, 0) := rfl
theorem te_106_46 : (pT M_106).find? (fun e => e.1 == 46) = some (46, .aload_n 0, 0, 0) := rfl
theorem te_106_47 : (pT M_106).find? (fun e => e.1 == 47) = some (47, .getfield 39, 1, 2) := rfl
theorem te_106_50 : (pT M_106).find? (fun e => e.1 == 50) = some (50, .if_icmp .ge 67, 0, 0) := rfl
theorem te_106_53 : (pT M_106).find? (fun e => e.1 == 53) = some (53, .aload_n 0, 0, 0) := rfl
theorem te_106_54 : (pT M_106).find? (fun e => e.1 == 54) = some (54, .getfield 22, 1, 10) := rfl
theorem te_106_57 : (pT M_106).find? (fun e => e.1 == 57) = some (57, .iload 5, 0, 0) := rfl
theorem te_106_59 : (pT M_106).find? (fun e => e.1 == 59) = some (59, .aload_n 0, 0, 0) := rfl
theorem te_106_60 : (pT M_106).find? (fun e => e.1 == 60) = some (60, .getfield 19, 1, 9) := rfl
theorem te_106_63 : (pT M_106).find? (fun e => e.1 == 63) = some (63, .iload 5, 0, 0) := rfl
theorem te_106_65 : (pT M_106).find? (fun e => e.1 == 65) = some (65, .iaload, 0, 0) := rfl
theorem te_106_66 : (pT M_106).find? (fun e => e.1 == 66) = some (66, .aload_n 1, 0, 0) := rfl
theorem te_106_67 : (pT M_106).find? (fun e => e.1 == 67) = some (67, .iload 5, 0, 0) := rfl
theorem te_106_69 : (pT M_106).find? (fun e => e.1 == 69) = some (69, .invokevirtual 56, 19, 1) := rfl
theorem te_106_72 : (pT M_106).find? (fun e => e.1 == 72) = some (72, .iadd, 0, 0) := rfl
theorem te_106_73 : (pT M_106).find? (fun e => e.1 == 73) = some (73, .iastore, 0, 0) := rfl
theorem te_106_74 : (pT M_106).find? (fun e => e.1 == 74) = some (74, .aload_n 0, 0, 0) := rfl
theorem te_106_75 : (pT M_106).find? (fun e => e.1 == 75) = some (75, .aload_n 0, 0, 0) := rfl
theorem te_106_76 : (pT M_106).find? (fun e => e.1 == 76) = some (76, .getfield 50, 1, 4) := rfl
theorem te_106_79 : (pT M_106).find? (fun e => e.1 == 79) = some (79, .aload_n 0, 0, 0) := rfl
theorem te_106_80 : (pT M_106).find? (fun e => e.1 == 80) = some (80, .getfield 22, 1, 10) := rfl
theorem te_106_83 : (pT M_106).find? (fun e => e.1 == 83) = some (83, .iload 5, 0, 0) := rfl
theorem te_106_85 : (pT M_106).find? (fun e => e.1 == 85) = some (85, .iaload, 0, 0) := rfl
theorem te_106_86 : (pT M_106).find? (fun e => e.1 == 86) = some (86, .invokestatic 60, 40, 2) := rfl
theorem te_106_89 : (pT M_106).find? (fun e => e.1 == 89) = some (89, .putfield 50, 1, 4) := rfl
theorem te_106_92 : (pT M_106).find? (fun e => e.1 == 92) = some (92, .aload_n 0, 0, 0) := rfl
theorem te_106_93 : (pT M_106).find? (fun e => e.1 == 93) = some (93, .aload_n 0, 0, 0) := rfl
theorem te_106_94 : (pT M_106).find? (fun e => e.1 == 94) = some (94, .getfield 53, 1, 5) := rfl
theorem te_106_97 : (pT M_106).find? (fun e => e.1 == 97) = some (97, .aload_n 0, 0, 0) := rfl
theorem te_106_98 : (pT M_106).find? (fun e => e.1 == 98) = some (98, .iload 5, 0, 0) := rfl
theorem te_106_100 : (pT M_106).find? (fun e => e.1 == 100) = some (100, .invokevirtual 66, 108, 0) := rfl
theorem te_106_103 : (pT M_106).find? (fun e => e.1 == 103) = some (103, .iconst 1, 0, 0) := rfl
theorem te_106_104 : (pT M_106).find? (fun e => e.1 == 104) = some (104, .iadd, 0, 0) := rfl
theorem te_106_105 : (pT M_106).find? (fun e => e.1 == 105) = some (105, .invokestatic 60, 40, 2) := rfl
theorem te_106_108 : (pT M_106).find? (fun e => e.1 == 108) = some (108, .putfield 53, 1, 5) := rfl
theorem te_106_111 : (pT M_106).find? (fun e => e.1 == 111) = some (111, .iinc 5 1, 0, 0) := rfl
theorem te_106_114 : (pT M_106).find? (fun e => e.1 == 114) = some (114, .goto (-70), 0, 0) := rfl
theorem te_106_117 : (pT M_106).find? (fun e => e.1 == 117) = some (117, .aload_n 0, 0, 0) := rfl
theorem te_106_118 : (pT M_106).find? (fun e => e.1 == 118) = some (118, .aload_n 1, 0, 0) := rfl
theorem te_106_119 : (pT M_106).find? (fun e => e.1 == 119) = some (119, .invokevirtual 69, 109, 0) := rfl
theorem te_106_122 : (pT M_106).find? (fun e => e.1 == 122) = some (122, .aload_n 0, 0, 0) := rfl
theorem te_106_123 : (pT M_106).find? (fun e => e.1 == 123) = some (123, .aload_n 1, 0, 0) := rfl
theorem te_106_124 : (pT M_106).find? (fun e => e.1 == 124) = some (124, .invokevirtual 73, 110, 0) := rfl
theorem te_106_127 : (pT M_106).find? (fun e => e.1 == 127) = some (127, .return_, 0, 0) := rfl
theorem te_199_0 : (pT M_199).find? (fun e => e.1 == 0) = some (0, .aload_n 0, 0, 0) := rfl
theorem te_199_1 : (pT M_199).find? (fun e => e.1 == 1) = some (1, .iconst 0, 0, 0) := rfl
theorem te_199_2 : (pT M_199).find? (fun e => e.1 == 2) = some (2, .putfield 35, 7, 0) := rfl
theorem te_199_5 : (pT M_199).find? (fun e => e.1 == 5) = some (5, .iconst 0, 0, 0) := rfl
theorem te_199_6 : (pT M_199).find? (fun e => e.1 == 6) = some (6, .istore_n 3, 0, 0) := rfl
theorem te_199_7 : (pT M_199).find? (fun e => e.1 == 7) = some (7, .iload_n 3, 0, 0) := rfl
theorem te_199_8 : (pT M_199).find? (fun e => e.1 == 8) = some (8, .aload_n 1, 0, 0) := rfl
theorem te_199_9 : (pT M_199).find? (fun e => e.1 == 9) = some (9, .getfield 35, 7, 0) := rfl
theorem te_199_12 : (pT M_199).find? (fun e => e.1 == 12) = some (12, .if_icmp .ge 56, 0, 0) := rfl
theorem te_199_15 : (pT M_199).find? (fun e => e.1 == 15) = some (15, .iload_n 3, 0, 0) := rfl
theorem te_199_16 : (pT M_199).find? (fun e => e.1 == 16) = some (16, .iload_n 2, 0, 0) := rfl
theorem te_199_17 : (pT M_199).find? (fun e => e.1 == 17) = some (17, .if_icmp .eq 45, 0, 0) := rfl
theorem te_199_20 : (pT M_199).find? (fun e => e.1 == 20) = some (20, .aload_n 0, 0, 0) := rfl
theorem te_199_21 : (pT M_199).find? (fun e => e.1 == 21) = some (21, .aload_n 0, 0, 0) := rfl
theorem te_199_22 : (pT M_199).find? (fun e => e.1 == 22) = some (22, .getfield 35, 7, 0) := rfl
theorem te_199_25 : (pT M_199).find? (fun e => e.1 == 25) = some (25, .aload_n 1, 0, 0) := rfl
theorem te_199_26 : (pT M_199).find? (fun e => e.1 == 26) = some (26, .getfield 11, 7, 1) := rfl
theorem te_199_29 : (pT M_199).find? (fun e => e.1 == 29) = some (29, .iload_n 3, 0, 0) := rfl
theorem te_199_30 : (pT M_199).find? (fun e => e.1 == 30) = some (30, .iaload, 0, 0) := rfl
theorem te_199_31 : (pT M_199).find? (fun e => e.1 == 31) = some (31, .aload_n 1, 0, 0) := rfl
theorem te_199_32 : (pT M_199).find? (fun e => e.1 == 32) = some (32, .getfield 15, 7, 2) := rfl
theorem te_199_35 : (pT M_199).find? (fun e => e.1 == 35) = some (35, .iload_n 3, 0, 0) := rfl
theorem te_199_36 : (pT M_199).find? (fun e => e.1 == 36) = some (36, .iaload, 0, 0) := rfl
theorem te_199_37 : (pT M_199).find? (fun e => e.1 == 37) = some (37, .aload_n 1, 0, 0) := rfl
theorem te_199_38 : (pT M_199).find? (fun e => e.1 == 38) = some (38, .getfield 18, 7, 3) := rfl
theorem te_199_41 : (pT M_199).find? (fun e => e.1 == 41) = some (41, .iload_n 3, 0, 0) := rfl
theorem te_199_42 : (pT M_199).find? (fun e => e.1 == 42) = some (42, .iaload, 0, 0) := rfl
theorem te_199_43 : (pT M_199).find? (fun e => e.1 == 43) = some (43, .aload_n 1, 0, 0) := rfl
theorem te_199_44 : (pT M_199).find? (fun e => e.1 == 44) = some (44, .getfield 21, 7, 4) := rfl
theorem te_199_47 : (pT M_199).find? (fun e => e.1 == 47) = some (47, .iload_n 3, 0, 0) := rfl
theorem te_199_48 : (pT M_199).find? (fun e => e.1 == 48) = some (48, .iaload, 0, 0) := rfl
theorem te_199_49 : (pT M_199).find? (fun e => e.1 == 49) = some (49, .invokevirtual 79, 22, 0) := rfl
theorem te_199_52 : (pT M_199).find? (fun e => e.1 == 52) = some (52, .aload_n 0, 0, 0) := rfl
theorem te_199_53 : (pT M_199).find? (fun e => e.1 == 53) = some (53, .dup, 0, 0) := rfl
theorem te_199_54 : (pT M_199).find? (fun e => e.1 == 54) = some (54, .getfield 35, 7, 0) := rfl
theorem te_199_57 : (pT M_199).find? (fun e => e.1 == 57) = some (57, .iconst 1, 0, 0) := rfl
theorem te_199_58 : (pT M_199).find? (fun e => e.1 == 58) = some (58, .iadd, 0, 0) := rfl
theorem te_199_59 : (pT M_199).find? (fun e => e.1 == 59) = some (59, .putfield 35, 7, 0) := rfl
theorem te_199_62 : (pT M_199).find? (fun e => e.1 == 62) = some (62, .iinc 3 1, 0, 0) := rfl
theorem te_199_65 : (pT M_199).find? (fun e => e.1 == 65) = some (65, .goto (-58), 0, 0) := rfl
theorem te_199_68 : (pT M_199).find? (fun e => e.1 == 68) = some (68, .return_, 0, 0) := rfl
theorem f_22s {S : Nat × (Nat → Int32)} {n : Nat} {mem : MM} {K : MM → Prop} {E : Nat → MM → Prop} {j a b e l : Int} (hj : 0 ≤ j ∧ j < 64) (H : ∀ m', m' = set4 mem j.toNat a b e l → K m') : CQV (Ex S (n + 1)) 22 [.inr 9, .inl j, .inl a, .inl b, .inl e, .inl l] mem K E := by
  refine CY.of (k := 0) mt_22 rfl rfl (fun hv => ?_)
  have hC := Ex.mono S n
  have ii_j : InI j := hv (.inl j) (by simp)
  unfold InI at ii_j
  have ii_a : InI a := hv (.inl a) (by simp)
  unfold InI at ii_a
  have ii_b : InI b := hv (.inl b) (by simp)
  unfold InI at ii_b
  have ii_e : InI e := hv (.inl e) (by simp)
  unfold InI at ii_e
  have ii_l : InI l := hv (.inl l) (by simp)
  unfold InI at ii_l
  clear hv
  show Tx (Ex S n) S M_22 (kV K E) 0 0 0 [some (.inr 9), some (.inl j), some (.inl a), some (.inl b), some (.inl e), some (.inl l)] [] mem
  refine Tx.aload_n hC te_22_0 rfl ?_
  refine Tx.getR hC te_22_1 rfl rfl rfl ?_
  refine Tx.iload_n hC te_22_4 rfl ?_
  refine Tx.iload_n hC te_22_5 rfl ?_
  refine Tx.iast hC te_22_6 rfl (by omega) ?_
  have hF2 : Frm p9w mem (upm mem 10 (Int.toNat j) a) := Frm.up Frm.rf (by unfold p9w; omega)
  refine Tx.aload_n hC te_22_7 rfl ?_
  refine Tx.getR hC te_22_8 rfl rfl rfl ?_
  refine Tx.iload_n hC te_22_11 rfl ?_
  refine Tx.iload_n hC te_22_12 rfl ?_
  refine Tx.iast hC te_22_13 rfl (by omega) ?_
  have hF4 : Frm p9w mem (upm (upm mem 10 (Int.toNat j) a) 11 (Int.toNat j) b) := Frm.up hF2 (by unfold p9w; omega)
  refine Tx.aload_n hC te_22_14 rfl ?_
  refine Tx.getR hC te_22_15 rfl rfl rfl ?_
  refine Tx.iload_n hC te_22_18 rfl ?_
  refine Tx.iload hC te_22_19 rfl ?_
  refine Tx.iast hC te_22_21 rfl (by omega) ?_
  have hF6 : Frm p9w mem (upm (upm (upm mem 10 (Int.toNat j) a) 11 (Int.toNat j) b) 12 (Int.toNat j) e) := Frm.up hF4 (by unfold p9w; omega)
  refine Tx.aload_n hC te_22_22 rfl ?_
  refine Tx.getR hC te_22_23 rfl rfl rfl ?_
  refine Tx.iload_n hC te_22_26 rfl ?_
  refine Tx.iload hC te_22_27 rfl ?_
  refine Tx.iast hC te_22_29 rfl (by omega) ?_
  have hF8 : Frm p9w mem (upm (upm (upm (upm mem 10 (Int.toNat j) a) 11 (Int.toNat j) b) 12 (Int.toNat j) e) 13 (Int.toNat j) l) := Frm.up hF6 (by unfold p9w; omega)
  exact Tx.vret hC te_22_30 rfl (show K (upm (upm (upm (upm mem 10 (Int.toNat j) a) 11 (Int.toNat j) b) 12 (Int.toNat j) e) 13 (Int.toNat j) l) from H _ rfl)
theorem f_20s {S : Nat × (Nat → Int32)} {n : Nat} {mem : MM} {K : MM → Prop} {E : Nat → MM → Prop} {s a b e l : Int} (hI : INS mem s) (hr : Rg a b e l) (hab : a < s ∧ b < s) (H : ∀ m', Frm p9w mem m' → INS m' s → K m') : CQV (Ex S (n + 2)) 20 [.inr 9, .inl a, .inl b, .inl e, .inl l] mem K E := by
  refine CY.of (k := 3) mt_20 rfl rfl (fun hv => ?_)
  have hC := Ex.mono S (n + 1)
  have ii_a : InI a := hv (.inl a) (by simp)
  unfold InI at ii_a
  have ii_b : InI b := hv (.inl b) (by simp)
  unfold InI at ii_b
  have ii_e : InI e := hv (.inl e) (by simp)
  unfold InI at ii_e
  have ii_l : InI l := hv (.inl l) (by simp)
  unfold InI at ii_l
  clear hv
  have hw := hI.1.2
  show Tx (Ex S (n + 1)) S M_20 (kV K E) 0 0 0 [some (.inr 9), some (.inl a), some (.inl b), some (.inl e), some (.inl l), none, none, none] [] mem
  have l_72 : ∀ (N : Nat) (x5 x6 x7 : Int) (m_72 : MM), (0 ≤ x5 ∧ x5 ≤ x7 ∧ x7 ≤ mem 9 0 ∧ mem 9 0 < 64) → (I72 mem m_72 s x7) → ((x7 - x5).toNat) < N → Frm p9w mem m_72 → Tx (Ex S (n + 1)) S M_20 (kV K E) 0 0 72 [some (.inr 9), some (.inl a), some (.inl b), some (.inl e), some (.inl l), some (.inl x5), some (.inl x6), some (.inl x7)] [] m_72 := by
    intro N
    induction N with
    | zero => intros; omega
    | succ N ih_72 =>
      intro x5 x6 x7 m_72 i72_0 i72_1 hN_72 hF_72
      refine Tx.iload hC te_20_72 rfl ?_
      refine Tx.iload hC te_20_74 rfl ?_
      refine Tx.icmp hC (t := 127) te_20_76 (by decide) (fun q1 => ?_) (fun q1 => ?_)
      · replace q1 : (x7 : Int) ≤ x5 := q1
        refine Tx.aload_n hC te_20_127 rfl ?_
        refine Tx.iload hC te_20_128 rfl ?_
        refine Tx.iload_n hC te_20_130 rfl ?_
        refine Tx.iload_n hC te_20_131 rfl ?_
        refine Tx.iload_n hC te_20_132 rfl ?_
        refine Tx.iload hC te_20_133 rfl ?_
        refine Tx.virtV hC te_20_135 mt_22 (args := [.inr 9, .inl x5, .inl a, .inl b, .inl e, .inl l]) (rest := []) (c' := 0) (s' := 0) rfl rfl rfl rfl rfl rfl rfl rfl rfl rfl ?_
        refine f_22s (by omega) (fun m3 r2q => ?_)
        have r29 : m3 9 0 = mem 9 0 := by rw [r2q, set4_ne (by omega)]; exact i72_1.1
        have hF4n : Frm p9w mem m3 := hF_72.tr (fun A i q => by rw [r2q]; exact set4_ne (by unfold p9w at q; omega))
        refine Tx.aload_n hC te_20_138 rfl ?_
        refine Tx.dup hC te_20_139 ?_
        refine Tx.getI hC te_20_140 rfl rfl rfl (fun v5 v5e v5i => ?_)
        unfold InI at v5i
        refine Tx.iconst hC te_20_143 rfl ?_
        refine Tx.iaddW hC te_20_144 (fun z6 z6i z6e => ?_)
        unfold InI at z6i z6e
        first | replace z6e := z6e (by omega) | clear z6e
        refine Tx.putI hC te_20_145 rfl rfl rfl rfl ?_
        have hF8 : Frm p9w mem (upm m3 9 0 z6) := Frm.up hF4n (by unfold p9w; omega)
        exact Tx.vret hC te_20_148 rfl (show K (upm m3 9 0 z6) from H _ hF8 (by rw [r2q]; exact I72.fin i72_1 (by omega) (by omega) hr hab (by omega)))
      · replace q1 : ¬ ((x7 : Int) ≤ x5) := q1
        refine Tx.aload_n hC te_20_79 rfl ?_
        refine Tx.iload hC te_20_80 rfl ?_
        refine Tx.aload_n hC te_20_82 rfl ?_
        refine Tx.getR hC te_20_83 rfl rfl rfl ?_
        refine Tx.iload hC te_20_86 rfl ?_
        refine Tx.iconst hC te_20_88 rfl ?_
        refine Tx.isubW hC te_20_89 (fun z9 z9i z9e => ?_)
        unfold InI at z9i z9e
        first | replace z9e := z9e (by omega) | clear z9e
        refine Tx.iald hC te_20_90 rfl (by omega) (fun v10 v10e v10i => ?_)
        unfold InI at v10i
        refine Tx.aload_n hC te_20_91 rfl ?_
        refine Tx.getR hC te_20_92 rfl rfl rfl ?_
        refine Tx.iload hC te_20_95 rfl ?_
        refine Tx.iconst hC te_20_97 rfl ?_
        refine Tx.isubW hC te_20_98 (fun z11 z11i z11e => ?_)
        unfold InI at z11i z11e
        first | replace z11e := z11e (by omega) | clear z11e
        refine Tx.iald hC te_20_99 rfl (by omega) (fun v12 v12e v12i => ?_)
        unfold InI at v12i
        refine Tx.aload_n hC te_20_100 rfl ?_
        refine Tx.getR hC te_20_101 rfl rfl rfl ?_
        refine Tx.iload hC te_20_104 rfl ?_
        refine Tx.iconst hC te_20_106 rfl ?_
        refine Tx.isubW hC te_20_107 (fun z13 z13i z13e => ?_)
        unfold InI at z13i z13e
        first | replace z13e := z13e (by omega) | clear z13e
        refine Tx.iald hC te_20_108 rfl (by omega) (fun v14 v14e v14i => ?_)
        unfold InI at v14i
        refine Tx.aload_n hC te_20_109 rfl ?_
        refine Tx.getR hC te_20_110 rfl rfl rfl ?_
        refine Tx.iload hC te_20_113 rfl ?_
        refine Tx.iconst hC te_20_115 rfl ?_
        refine Tx.isubW hC te_20_116 (fun z15 z15i z15e => ?_)
        unfold InI at z15i z15e
        first | replace z15e := z15e (by omega) | clear z15e
        refine Tx.iald hC te_20_117 rfl (by omega) (fun v16 v16e v16i => ?_)
        unfold InI at v16i
        refine Tx.virtV hC te_20_118 mt_22 (args := [.inr 9, .inl x7, .inl v10, .inl v12, .inl v14, .inl v16]) (rest := []) (c' := 0) (s' := 0) rfl rfl rfl rfl rfl rfl rfl rfl rfl rfl ?_
        refine f_22s (by omega) (fun m18 r17q => ?_)
        have r17I : I72 mem m18 s (x7 - 1) := by rw [r17q]; exact I72.eq (I72.step i72_1 (by omega) (by omega) v10e v12e v14e v16e (by omega) (by omega) (by omega) (by omega)) (by omega)
        have hF19n : Frm p9w mem m18 := hF_72.tr (fun A i q => by rw [r17q]; exact set4_ne (by unfold p9w at q; omega))
        refine Tx.iincW hC te_20_121 rfl rfl (fun z20 z20i z20e => ?_)
        unfold InI at z20i z20e
        first | replace z20e := z20e (by omega) | clear z20e
        refine Tx.goto hC (t := 72) te_20_124 (by decide) ?_
        exact ih_72 x5 x6 z20 m18 (by omega) (I72.eq r17I (by omega)) (by omega) hF19n
  have l_6 : ∀ (N : Nat) (x5 x6 : Int), (0 ≤ x5 ∧ x5 ≤ mem 9 0) → ((64 - x5).toNat) < N → Tx (Ex S (n + 1)) S M_20 (kV K E) 0 0 6 [some (.inr 9), some (.inl a), some (.inl b), some (.inl e), some (.inl l), some (.inl x5), some (.inl x6), none] [] mem := by
    intro N
    induction N with
    | zero => intros; omega
    | succ N ih_6 =>
      intro x5 x6 i6_0 hN_6 
      refine Tx.iload hC te_20_6 rfl ?_
      refine Tx.aload_n hC te_20_8 rfl ?_
      refine Tx.getI hC te_20_9 rfl rfl rfl (fun v21 v21e v21i => ?_)
      unfold InI at v21i
      refine Tx.icmp hC (t := 42) te_20_12 (by decide) (fun q22 => ?_) (fun q22 => ?_)
      · replace q22 : v21 ≤ (x5 : Int) := q22
        refine Tx.iload hC te_20_42 rfl ?_
        refine Tx.aload_n hC te_20_44 rfl ?_
        refine Tx.getI hC te_20_45 rfl rfl rfl (fun v23 v23e v23i => ?_)
        unfold InI at v23i
        refine Tx.icmp hC (t := 56) te_20_48 (by decide) (fun q24 => ?_) (fun q24 => ?_)
        · replace q24 : v23 ≤ (x5 : Int) := q24
          refine Tx.aload_n hC te_20_56 rfl ?_
          refine Tx.getI hC te_20_57 rfl rfl rfl (fun v25 v25e v25i => ?_)
          unfold InI at v25i
          refine Tx.bipush hC te_20_60 rfl rfl ?_
          refine Tx.icmp hC (t := 66) te_20_62 (by decide) (fun q26 => ?_) (fun q26 => ?_)
          · replace q26 : (v25 : Int) < 64 := q26
            refine Tx.aload_n hC te_20_66 rfl ?_
            refine Tx.getI hC te_20_67 rfl rfl rfl (fun v27 v27e v27i => ?_)
            unfold InI at v27i
            refine Tx.istore hC te_20_70 rfl ?_
            exact l_72 _ x5 x6 v27 mem (by omega) (INS.i72 hI (by omega)) (Nat.lt_succ_self _) Frm.rf
          · replace q26 : ¬ ((v25 : Int) < 64) := q26
            exact Tx.vret hC te_20_65 rfl (show K mem from H _ Frm.rf hI)
        · replace q24 : ¬ (v23 ≤ (x5 : Int)) := q24
          refine Tx.iload hC te_20_51 rfl ?_
          refine Tx.ifc hC (t := 65) te_20_53 (by decide) (fun q28 => ?_) (fun q28 => ?_)
          · replace q28 : (x6 : Int) = 0 := q28
            exact Tx.vret hC te_20_65 rfl (show K mem from H _ Frm.rf hI)
          · replace q28 : ¬ ((x6 : Int) = 0) := q28
            refine Tx.aload_n hC te_20_56 rfl ?_
            refine Tx.getI hC te_20_57 rfl rfl rfl (fun v29 v29e v29i => ?_)
            unfold InI at v29i
            refine Tx.bipush hC te_20_60 rfl rfl ?_
            refine Tx.icmp hC (t := 66) te_20_62 (by decide) (fun q30 => ?_) (fun q30 => ?_)
            · replace q30 : (v29 : Int) < 64 := q30
              refine Tx.aload_n hC te_20_66 rfl ?_
              refine Tx.getI hC te_20_67 rfl rfl rfl (fun v31 v31e v31i => ?_)
              unfold InI at v31i
              refine Tx.istore hC te_20_70 rfl ?_
              exact l_72 _ x5 x6 v31 mem (by omega) (INS.i72 hI (by omega)) (Nat.lt_succ_self _) Frm.rf
            · replace q30 : ¬ ((v29 : Int) < 64) := q30
              exact Tx.vret hC te_20_65 rfl (show K mem from H _ Frm.rf hI)
      · replace q22 : ¬ (v21 ≤ (x5 : Int)) := q22
        refine Tx.aload_n hC te_20_15 rfl ?_
        refine Tx.iload hC te_20_16 rfl ?_
        refine Tx.iload_n hC te_20_18 rfl ?_
        refine Tx.iload_n hC te_20_19 rfl ?_
        refine Tx.iload_n hC te_20_20 rfl ?_
        refine Tx.iload hC te_20_21 rfl ?_
        refine Tx.virtI hC te_20_23 mt_21 (args := [.inr 9, .inl x5, .inl a, .inl b, .inl e, .inl l]) (rest := []) (c' := 0) (s' := 0) rfl rfl rfl rfl rfl rfl rfl rfl rfl rfl ?_
        refine CWI.q hC (f_21 (W := 9) ⟨rfl, rfl, rfl, rfl, rfl⟩ hI.1.1 (by omega) hr (fun r32 r32i => ?_))
        unfold InI at r32i
        refine Tx.istore hC te_20_26 rfl ?_
        refine Tx.iload hC te_20_28 rfl ?_
        refine Tx.ifc hC (t := 36) te_20_30 (by decide) (fun q35 => ?_) (fun q35 => ?_)
        · replace q35 : (r32 : Int) < 0 := q35
          refine Tx.iincW hC te_20_36 rfl rfl (fun z36 z36i z36e => ?_)
          unfold InI at z36i z36e
          first | replace z36e := z36e (by omega) | clear z36e
          refine Tx.goto hC (t := 6) te_20_39 (by decide) ?_
          exact ih_6 z36 r32 (by omega) (by omega)
        · replace q35 : ¬ ((r32 : Int) < 0) := q35
          refine Tx.goto hC (t := 42) te_20_33 (by decide) ?_
          refine Tx.iload hC te_20_42 rfl ?_
          refine Tx.aload_n hC te_20_44 rfl ?_
          refine Tx.getI hC te_20_45 rfl rfl rfl (fun v37 v37e v37i => ?_)
          unfold InI at v37i
          refine Tx.icmp hC (t := 56) te_20_48 (by decide) (fun q38 => ?_) (fun q38 => ?_)
          · replace q38 : v37 ≤ (x5 : Int) := q38
            refine Tx.aload_n hC te_20_56 rfl ?_
            refine Tx.getI hC te_20_57 rfl rfl rfl (fun v39 v39e v39i => ?_)
            unfold InI at v39i
            refine Tx.bipush hC te_20_60 rfl rfl ?_
            refine Tx.icmp hC (t := 66) te_20_62 (by decide) (fun q40 => ?_) (fun q40 => ?_)
            · replace q40 : (v39 : Int) < 64 := q40
              refine Tx.aload_n hC te_20_66 rfl ?_
              refine Tx.getI hC te_20_67 rfl rfl rfl (fun v41 v41e v41i => ?_)
              unfold InI at v41i
              refine Tx.istore hC te_20_70 rfl ?_
              exact l_72 _ x5 r32 v41 mem (by omega) (INS.i72 hI (by omega)) (Nat.lt_succ_self _) Frm.rf
            · replace q40 : ¬ ((v39 : Int) < 64) := q40
              exact Tx.vret hC te_20_65 rfl (show K mem from H _ Frm.rf hI)
          · replace q38 : ¬ (v37 ≤ (x5 : Int)) := q38
            refine Tx.iload hC te_20_51 rfl ?_
            refine Tx.ifc hC (t := 65) te_20_53 (by decide) (fun q42 => ?_) (fun q42 => ?_)
            · replace q42 : (r32 : Int) = 0 := q42
              exact Tx.vret hC te_20_65 rfl (show K mem from H _ Frm.rf hI)
            · replace q42 : ¬ ((r32 : Int) = 0) := q42
              refine Tx.aload_n hC te_20_56 rfl ?_
              refine Tx.getI hC te_20_57 rfl rfl rfl (fun v43 v43e v43i => ?_)
              unfold InI at v43i
              refine Tx.bipush hC te_20_60 rfl rfl ?_
              refine Tx.icmp hC (t := 66) te_20_62 (by decide) (fun q44 => ?_) (fun q44 => ?_)
              · replace q44 : (v43 : Int) < 64 := q44
                refine Tx.aload_n hC te_20_66 rfl ?_
                refine Tx.getI hC te_20_67 rfl rfl rfl (fun v45 v45e v45i => ?_)
                unfold InI at v45i
                refine Tx.istore hC te_20_70 rfl ?_
                exact l_72 _ x5 r32 v45 mem (by omega) (INS.i72 hI (by omega)) (Nat.lt_succ_self _) Frm.rf
              · replace q44 : ¬ ((v43 : Int) < 64) := q44
                exact Tx.vret hC te_20_65 rfl (show K mem from H _ Frm.rf hI)
  refine Tx.iconst hC te_20_0 rfl ?_
  refine Tx.istore hC te_20_1 rfl ?_
  refine Tx.iconst hC te_20_3 rfl ?_
  refine Tx.istore hC te_20_4 rfl ?_
  exact l_6 _ 0 (-1) (by omega) (Nat.lt_succ_self _)
theorem f_23s {S : Nat × (Nat → Int32)} {n : Nat} {mem : MM} {K : MM → Prop} {E : Nat → MM → Prop} (hB : BodyOK mem) {s o p kq : Int} (hI : INS mem s) (hs : s ≤ 8) (ho : 0 ≤ o ∧ o < s) (hp : 0 ≤ p ∧ p < s) (H : ∀ m', Frm p9w mem m' → INS m' s → K m') : CQV (Ex S (n + 3)) 23 [.inr 9, .inr 1, .inl o, .inl p, .inl kq] mem K E := by
  refine CY.of (k := 6) mt_23 rfl rfl (fun hv => ?_)
  have hC := Ex.mono S (n + 2)
  have ii_o : InI o := hv (.inl o) (by simp)
  unfold InI at ii_o
  have ii_p : InI p := hv (.inl p) (by simp)
  unfold InI at ii_p
  have ii_kq : InI kq := hv (.inl kq) (by simp)
  unfold InI at ii_kq
  clear hv
  show Tx (Ex S (n + 2)) S M_23 (kV K E) 0 0 0 [some (.inr 9), some (.inr 1), some (.inl o), some (.inl p), some (.inl kq), none, none, none, none, none, none] [] mem
  refine Tx.aload_n hC te_23_0 rfl ?_
  refine Tx.getR hC te_23_1 rfl rfl rfl ?_
  refine Tx.iload_n hC te_23_4 rfl ?_
  refine Tx.iald hC te_23_5 rfl (by omega) (fun v1 v1e v1i => ?_)
  unfold InI at v1i
  have f2 := hB.kd (o := (Int.toNat o)) (by omega)
  refine Tx.iconst hC te_23_6 rfl ?_
  refine Tx.icmp hC (t := 20) te_23_7 (by decide) (fun q3 => ?_) (fun q3 => ?_)
  · replace q3 : (v1 : Int) < 4 := q3
    exact Tx.vret hC te_23_20 rfl (show K mem from H _ Frm.rf hI)
  · replace q3 : ¬ ((v1 : Int) < 4) := q3
    refine Tx.aload_n hC te_23_10 rfl ?_
    refine Tx.getR hC te_23_11 rfl rfl rfl ?_
    refine Tx.iload_n hC te_23_14 rfl ?_
    refine Tx.iald hC te_23_15 rfl (by omega) (fun v4 v4e v4i => ?_)
    unfold InI at v4i
    have f5 := hB.kd (o := (Int.toNat p)) (by omega)
    refine Tx.iconst hC te_23_16 rfl ?_
    refine Tx.icmp hC (t := 21) te_23_17 (by decide) (fun q6 => ?_) (fun q6 => ?_)
    · replace q6 : 4 ≤ (v4 : Int) := q6
      refine Tx.aload_n hC te_23_21 rfl ?_
      refine Tx.iload_n hC te_23_22 rfl ?_
      refine Tx.virtI hC te_23_23 mt_24 (args := [.inr 1, .inl o]) (rest := []) (c' := 0) (s' := 0) rfl rfl rfl rfl rfl rfl rfl rfl rfl rfl ?_
      refine f_24q (by omega) (fun r7 r7e r7i => ?_)
      have r7w := hB.row (o := Int.toNat o) (by omega) (by omega)
      unfold InI at r7i
      refine Tx.aload_n hC te_23_26 rfl ?_
      refine Tx.iload_n hC te_23_27 rfl ?_
      refine Tx.virtI hC te_23_28 mt_24 (args := [.inr 1, .inl p]) (rest := [.inl r7]) (c' := 0) (s' := 0) rfl rfl rfl rfl rfl rfl rfl rfl rfl rfl ?_
      refine f_24q (by omega) (fun r10 r10e r10i => ?_)
      have r10w := hB.row (o := Int.toNat p) (by omega) (by omega)
      unfold InI at r10i
      refine Tx.icmp hC (t := 35) te_23_31 (by decide) (fun q13 => ?_) (fun q13 => ?_)
      · replace q13 : (r7 : Int) = r10 := q13
        refine Tx.aload_n hC te_23_35 rfl ?_
        refine Tx.iload_n hC te_23_36 rfl ?_
        refine Tx.virtI hC te_23_37 mt_25 (args := [.inr 1, .inl o]) (rest := []) (c' := 0) (s' := 0) rfl rfl rfl rfl rfl rfl rfl rfl rfl rfl ?_
        refine f_25q (by omega) (fun r14 r14e r14i => ?_)
        have r14w := hB.row (o := Int.toNat o) (by omega) (by omega)
        unfold InI at r14i
        refine Tx.aload_n hC te_23_40 rfl ?_
        refine Tx.iload_n hC te_23_41 rfl ?_
        refine Tx.virtI hC te_23_42 mt_25 (args := [.inr 1, .inl p]) (rest := [.inl r14]) (c' := 0) (s' := 0) rfl rfl rfl rfl rfl rfl rfl rfl rfl rfl ?_
        refine f_25q (by omega) (fun r17 r17e r17i => ?_)
        have r17w := hB.row (o := Int.toNat p) (by omega) (by omega)
        unfold InI at r17i
        refine Tx.icmp hC (t := 52) te_23_45 (by decide) (fun q20 => ?_) (fun q20 => ?_)
        · replace q20 : (r14 : Int) < r17 := q20
          refine Tx.iconst hC te_23_52 rfl ?_
          refine Tx.istore hC te_23_53 rfl ?_
          refine Tx.iload hC te_23_55 rfl ?_
          refine Tx.ifc hC (t := 64) te_23_57 (by decide) (fun q => ?_) (fun q => absurd (show (0 : Int) = 0 by decide) q)
          refine Tx.iload_n hC te_23_64 rfl ?_
          refine Tx.istore hC te_23_65 rfl ?_
          refine Tx.iload hC te_23_67 rfl ?_
          refine Tx.ifc hC (t := 76) te_23_69 (by decide) (fun q => ?_) (fun q => absurd (show (0 : Int) = 0 by decide) q)
          refine Tx.iload_n hC te_23_76 rfl ?_
          refine Tx.istore hC te_23_77 rfl ?_
          refine Tx.aload_n hC te_23_79 rfl ?_
          refine Tx.iload hC te_23_80 rfl ?_
          refine Tx.virtI hC te_23_82 mt_25 (args := [.inr 1, .inl p]) (rest := []) (c' := 0) (s' := 0) rfl rfl rfl rfl rfl rfl rfl rfl rfl rfl ?_
          refine f_25q (by omega) (fun r21 r21e r21i => ?_)
          have r21w := hB.row (o := Int.toNat p) (by omega) (by omega)
          unfold InI at r21i
          refine Tx.aload_n hC te_23_85 rfl ?_
          refine Tx.iload hC te_23_86 rfl ?_
          refine Tx.virtI hC te_23_88 mt_25 (args := [.inr 1, .inl o]) (rest := [.inl r21]) (c' := 0) (s' := 0) rfl rfl rfl rfl rfl rfl rfl rfl rfl rfl ?_
          refine f_25q (by omega) (fun r24 r24e r24i => ?_)
          have r24w := hB.row (o := Int.toNat o) (by omega) (by omega)
          unfold InI at r24i
          refine Tx.isubW hC te_23_91 (fun z27 z27i z27e => ?_)
          unfold InI at z27i z27e
          first | replace z27e := z27e (by omega) | clear z27e
          refine Tx.istore hC te_23_92 rfl ?_
          refine Tx.aload_n hC te_23_94 rfl ?_
          refine Tx.getR hC te_23_95 rfl rfl rfl ?_
          refine Tx.iload hC te_23_98 rfl ?_
          refine Tx.iald hC te_23_100 rfl (by omega) (fun v28 v28e v28i => ?_)
          unfold InI at v28i
          have f29 := hB.kd (o := (Int.toNat p)) (by omega)
          refine Tx.iconst hC te_23_101 rfl ?_
          refine Tx.icmp hC (t := 109) te_23_102 (by decide) (fun q30 => ?_) (fun q30 => ?_)
          · replace q30 : ¬ (v28 : Int) = 5 := q30
            refine Tx.iconst hC te_23_109 rfl ?_
            refine Tx.istore hC te_23_110 rfl ?_
            refine Tx.aload_n hC te_23_112 rfl ?_
            refine Tx.getR hC te_23_113 rfl rfl rfl ?_
            refine Tx.iload hC te_23_116 rfl ?_
            refine Tx.iald hC te_23_118 rfl (by omega) (fun v31 v31e v31i => ?_)
            unfold InI at v31i
            have f32 := hB.kd (o := (Int.toNat o)) (by omega)
            refine Tx.iconst hC te_23_119 rfl ?_
            refine Tx.icmp hC (t := 127) te_23_120 (by decide) (fun q33 => ?_) (fun q33 => ?_)
            · replace q33 : ¬ (v31 : Int) = 5 := q33
              refine Tx.iconst hC te_23_127 rfl ?_
              refine Tx.istore hC te_23_128 rfl ?_
              refine Tx.iload hC te_23_130 rfl ?_
              refine Tx.ifc hC (t := 154) te_23_132 (by decide) (fun q => ?_) (fun q => absurd (show (0 : Int) = 0 by decide) q)
              refine Tx.iload hC te_23_154 rfl ?_
              refine Tx.ifc hC (t := 180) te_23_156 (by decide) (fun q => ?_) (fun q => absurd (show (0 : Int) = 0 by decide) q)
              refine Tx.iload hC te_23_180 rfl ?_
              refine Tx.ifc hC (t := 205) te_23_182 (by decide) (fun q => ?_) (fun q => absurd (show (0 : Int) = 0 by decide) q)
              exact Tx.vret hC te_23_205 rfl (show K mem from H _ Frm.rf hI)
            · replace q33 : ¬ (¬ (v31 : Int) = 5) := q33
              refine Tx.iconst hC te_23_123 rfl ?_
              refine Tx.goto hC (t := 128) te_23_124 (by decide) ?_
              refine Tx.istore hC te_23_128 rfl ?_
              refine Tx.iload hC te_23_130 rfl ?_
              refine Tx.ifc hC (t := 154) te_23_132 (by decide) (fun q => ?_) (fun q => absurd (show (0 : Int) = 0 by decide) q)
              refine Tx.iload hC te_23_154 rfl ?_
              refine Tx.ifc hC (t := 180) te_23_156 (by decide) (fun q => ?_) (fun q => absurd (show (0 : Int) = 0 by decide) q)
              refine Tx.iload hC te_23_180 rfl ?_
              refine Tx.ifc hC (t := 205) te_23_182 (by decide) (fun q => absurd q (show ¬ ((1 : Int) = 0) by decide)) (fun q => ?_)
              refine Tx.aload_n hC te_23_185 rfl ?_
              refine Tx.iload hC te_23_186 rfl ?_
              refine Tx.iload hC te_23_188 rfl ?_
              refine Tx.iload hC te_23_190 rfl ?_
              refine Tx.iconst hC te_23_192 rfl ?_
              refine Tx.aload_n hC te_23_193 rfl ?_
              refine Tx.iload hC te_23_194 rfl ?_
              refine Tx.iload hC te_23_196 rfl ?_
              refine Tx.statI hC te_23_198 (by decide) mt_18 (args := [.inr 1, .inl o, .inl kq]) (rest := [.inl 1, .inl z27, .inl o, .inl p, .inr 9]) (c' := 0) (s' := 0) rfl rfl rfl rfl rfl rfl rfl ?_
              refine CWI.q hC (f_18 hB (by omega) (fun r34 r34a r34b r34i => ?_))
              unfold InI at r34i
              refine Tx.isubW hC te_23_201 (fun z37 z37i z37e => ?_)
              unfold InI at z37i z37e
              first | replace z37e := z37e (by omega) | clear z37e
              refine Tx.virtV hC te_23_202 mt_20 (args := [.inr 9, .inl p, .inl o, .inl z27, .inl z37]) (rest := []) (c' := 0) (s' := 0) rfl rfl rfl rfl rfl rfl rfl rfl rfl rfl ?_
              refine f_20s hI (by unfold Rg; omega) (by omega) (fun m39 hF40 r38I => ?_)
              have hF40n : Frm p9w mem m39 := Frm.rf.tr hF40
              exact Tx.vret hC te_23_205 rfl (show K m39 from H _ hF40n r38I)
          · replace q30 : ¬ (¬ (v28 : Int) = 5) := q30
            refine Tx.iconst hC te_23_105 rfl ?_
            refine Tx.goto hC (t := 110) te_23_106 (by decide) ?_
            refine Tx.istore hC te_23_110 rfl ?_
            refine Tx.aload_n hC te_23_112 rfl ?_
            refine Tx.getR hC te_23_113 rfl rfl rfl ?_
            refine Tx.iload hC te_23_116 rfl ?_
            refine Tx.iald hC te_23_118 rfl (by omega) (fun v41 v41e v41i => ?_)
            unfold InI at v41i
            have f42 := hB.kd (o := (Int.toNat o)) (by omega)
            refine Tx.iconst hC te_23_119 rfl ?_
            refine Tx.icmp hC (t := 127) te_23_120 (by decide) (fun q43 => ?_) (fun q43 => ?_)
            · replace q43 : ¬ (v41 : Int) = 5 := q43
              refine Tx.iconst hC te_23_127 rfl ?_
              refine Tx.istore hC te_23_128 rfl ?_
              refine Tx.iload hC te_23_130 rfl ?_
              refine Tx.ifc hC (t := 154) te_23_132 (by decide) (fun q => absurd q (show ¬ ((1 : Int) = 0) by decide)) (fun q => ?_)
              refine Tx.iload hC te_23_135 rfl ?_
              refine Tx.ifc hC (t := 154) te_23_137 (by decide) (fun q => ?_) (fun q => absurd (show (0 : Int) = 0 by decide) q)
              refine Tx.iload hC te_23_154 rfl ?_
              refine Tx.ifc hC (t := 180) te_23_156 (by decide) (fun q => absurd q (show ¬ ((1 : Int) = 0) by decide)) (fun q => ?_)
              refine Tx.aload_n hC te_23_159 rfl ?_
              refine Tx.iload hC te_23_160 rfl ?_
              refine Tx.iload hC te_23_162 rfl ?_
              refine Tx.iload hC te_23_164 rfl ?_
              refine Tx.aload_n hC te_23_166 rfl ?_
              refine Tx.iload hC te_23_167 rfl ?_
              refine Tx.iload hC te_23_169 rfl ?_
              refine Tx.statI hC te_23_171 (by decide) mt_18 (args := [.inr 1, .inl p, .inl kq]) (rest := [.inl z27, .inl o, .inl p, .inr 9]) (c' := 0) (s' := 0) rfl rfl rfl rfl rfl rfl rfl ?_
              refine CWI.q hC (f_18 hB (by omega) (fun r44 r44a r44b r44i => ?_))
              unfold InI at r44i
              refine Tx.virtV hC te_23_174 mt_20 (args := [.inr 9, .inl p, .inl o, .inl z27, .inl r44]) (rest := []) (c' := 0) (s' := 0) rfl rfl rfl rfl rfl rfl rfl rfl rfl rfl ?_
              refine f_20s hI (by unfold Rg; omega) (by omega) (fun m48 hF49 r47I => ?_)
              have hF49n : Frm p9w mem m48 := Frm.rf.tr hF49
              refine Tx.goto hC (t := 205) te_23_177 (by decide) ?_
              exact Tx.vret hC te_23_205 rfl (show K m48 from H _ hF49n r47I)
            · replace q43 : ¬ (¬ (v41 : Int) = 5) := q43
              refine Tx.iconst hC te_23_123 rfl ?_
              refine Tx.goto hC (t := 128) te_23_124 (by decide) ?_
              refine Tx.istore hC te_23_128 rfl ?_
              refine Tx.iload hC te_23_130 rfl ?_
              refine Tx.ifc hC (t := 154) te_23_132 (by decide) (fun q => absurd q (show ¬ ((1 : Int) = 0) by decide)) (fun q => ?_)
              refine Tx.iload hC te_23_135 rfl ?_
              refine Tx.ifc hC (t := 154) te_23_137 (by decide) (fun q => absurd q (show ¬ ((1 : Int) = 0) by decide)) (fun q => ?_)
              refine Tx.aload_n hC te_23_140 rfl ?_
              refine Tx.iload hC te_23_141 rfl ?_
              refine Tx.iload hC te_23_143 rfl ?_
              refine Tx.iload hC te_23_145 rfl ?_
              refine Tx.iconst hC te_23_147 rfl ?_
              refine Tx.virtV hC te_23_148 mt_20 (args := [.inr 9, .inl p, .inl o, .inl z27, .inl 1]) (rest := []) (c' := 0) (s' := 0) rfl rfl rfl rfl rfl rfl rfl rfl rfl rfl ?_
              refine f_20s hI (by unfold Rg; omega) (by omega) (fun m51 hF52 r50I => ?_)
              have hF52n : Frm p9w mem m51 := Frm.rf.tr hF52
              refine Tx.goto hC (t := 205) te_23_151 (by decide) ?_
              exact Tx.vret hC te_23_205 rfl (show K m51 from H _ hF52n r50I)
        · replace q20 : ¬ ((r14 : Int) < r17) := q20
          refine Tx.iconst hC te_23_48 rfl ?_
          refine Tx.goto hC (t := 53) te_23_49 (by decide) ?_
          refine Tx.istore hC te_23_53 rfl ?_
          refine Tx.iload hC te_23_55 rfl ?_
          refine Tx.ifc hC (t := 64) te_23_57 (by decide) (fun q => absurd q (show ¬ ((1 : Int) = 0) by decide)) (fun q => ?_)
          refine Tx.iload_n hC te_23_60 rfl ?_
          refine Tx.goto hC (t := 65) te_23_61 (by decide) ?_
          refine Tx.istore hC te_23_65 rfl ?_
          refine Tx.iload hC te_23_67 rfl ?_
          refine Tx.ifc hC (t := 76) te_23_69 (by decide) (fun q => absurd q (show ¬ ((1 : Int) = 0) by decide)) (fun q => ?_)
          refine Tx.iload_n hC te_23_72 rfl ?_
          refine Tx.goto hC (t := 77) te_23_73 (by decide) ?_
          refine Tx.istore hC te_23_77 rfl ?_
          refine Tx.aload_n hC te_23_79 rfl ?_
          refine Tx.iload hC te_23_80 rfl ?_
          refine Tx.virtI hC te_23_82 mt_25 (args := [.inr 1, .inl o]) (rest := []) (c' := 0) (s' := 0) rfl rfl rfl rfl rfl rfl rfl rfl rfl rfl ?_
          refine f_25q (by omega) (fun r53 r53e r53i => ?_)
          have r53w := hB.row (o := Int.toNat o) (by omega) (by omega)
          unfold InI at r53i
          refine Tx.aload_n hC te_23_85 rfl ?_
          refine Tx.iload hC te_23_86 rfl ?_
          refine Tx.virtI hC te_23_88 mt_25 (args := [.inr 1, .inl p]) (rest := [.inl r53]) (c' := 0) (s' := 0) rfl rfl rfl rfl rfl rfl rfl rfl rfl rfl ?_
          refine f_25q (by omega) (fun r56 r56e r56i => ?_)
          have r56w := hB.row (o := Int.toNat p) (by omega) (by omega)
          unfold InI at r56i
          refine Tx.isubW hC te_23_91 (fun z59 z59i z59e => ?_)
          unfold InI at z59i z59e
          first | replace z59e := z59e (by omega) | clear z59e
          refine Tx.istore hC te_23_92 rfl ?_
          refine Tx.aload_n hC te_23_94 rfl ?_
          refine Tx.getR hC te_23_95 rfl rfl rfl ?_
          refine Tx.iload hC te_23_98 rfl ?_
          refine Tx.iald hC te_23_100 rfl (by omega) (fun v60 v60e v60i => ?_)
          unfold InI at v60i
          have f61 := hB.kd (o := (Int.toNat o)) (by omega)
          refine Tx.iconst hC te_23_101 rfl ?_
          refine Tx.icmp hC (t := 109) te_23_102 (by decide) (fun q62 => ?_) (fun q62 => ?_)
          · replace q62 : ¬ (v60 : Int) = 5 := q62
            refine Tx.iconst hC te_23_109 rfl ?_
            refine Tx.istore hC te_23_110 rfl ?_
            refine Tx.aload_n hC te_23_112 rfl ?_
            refine Tx.getR hC te_23_113 rfl rfl rfl ?_
            refine Tx.iload hC te_23_116 rfl ?_
            refine Tx.iald hC te_23_118 rfl (by omega) (fun v63 v63e v63i => ?_)
            unfold InI at v63i
            have f64 := hB.kd (o := (Int.toNat p)) (by omega)
            refine Tx.iconst hC te_23_119 rfl ?_
            refine Tx.icmp hC (t := 127) te_23_120 (by decide) (fun q65 => ?_) (fun q65 => ?_)
            · replace q65 : ¬ (v63 : Int) = 5 := q65
              refine Tx.iconst hC te_23_127 rfl ?_
              refine Tx.istore hC te_23_128 rfl ?_
              refine Tx.iload hC te_23_130 rfl ?_
              refine Tx.ifc hC (t := 154) te_23_132 (by decide) (fun q => ?_) (fun q => absurd (show (0 : Int) = 0 by decide) q)
              refine Tx.iload hC te_23_154 rfl ?_
              refine Tx.ifc hC (t := 180) te_23_156 (by decide) (fun q => ?_) (fun q => absurd (show (0 : Int) = 0 by decide) q)
              refine Tx.iload hC te_23_180 rfl ?_
              refine Tx.ifc hC (t := 205) te_23_182 (by decide) (fun q => ?_) (fun q => absurd (show (0 : Int) = 0 by decide) q)
              exact Tx.vret hC te_23_205 rfl (show K mem from H _ Frm.rf hI)
            · replace q65 : ¬ (¬ (v63 : Int) = 5) := q65
              refine Tx.iconst hC te_23_123 rfl ?_
              refine Tx.goto hC (t := 128) te_23_124 (by decide) ?_
              refine Tx.istore hC te_23_128 rfl ?_
              refine Tx.iload hC te_23_130 rfl ?_
              refine Tx.ifc hC (t := 154) te_23_132 (by decide) (fun q => ?_) (fun q => absurd (show (0 : Int) = 0 by decide) q)
              refine Tx.iload hC te_23_154 rfl ?_
              refine Tx.ifc hC (t := 180) te_23_156 (by decide) (fun q => ?_) (fun q => absurd (show (0 : Int) = 0 by decide) q)
              refine Tx.iload hC te_23_180 rfl ?_
              refine Tx.ifc hC (t := 205) te_23_182 (by decide) (fun q => absurd q (show ¬ ((1 : Int) = 0) by decide)) (fun q => ?_)
              refine Tx.aload_n hC te_23_185 rfl ?_
              refine Tx.iload hC te_23_186 rfl ?_
              refine Tx.iload hC te_23_188 rfl ?_
              refine Tx.iload hC te_23_190 rfl ?_
              refine Tx.iconst hC te_23_192 rfl ?_
              refine Tx.aload_n hC te_23_193 rfl ?_
              refine Tx.iload hC te_23_194 rfl ?_
              refine Tx.iload hC te_23_196 rfl ?_
              refine Tx.statI hC te_23_198 (by decide) mt_18 (args := [.inr 1, .inl p, .inl kq]) (rest := [.inl 1, .inl z59, .inl p, .inl o, .inr 9]) (c' := 0) (s' := 0) rfl rfl rfl rfl rfl rfl rfl ?_
              refine CWI.q hC (f_18 hB (by omega) (fun r66 r66a r66b r66i => ?_))
              unfold InI at r66i
              refine Tx.isubW hC te_23_201 (fun z69 z69i z69e => ?_)
              unfold InI at z69i z69e
              first | replace z69e := z69e (by omega) | clear z69e
              refine Tx.virtV hC te_23_202 mt_20 (args := [.inr 9, .inl o, .inl p, .inl z59, .inl z69]) (rest := []) (c' := 0) (s' := 0) rfl rfl rfl rfl rfl rfl rfl rfl rfl rfl ?_
              refine f_20s hI (by unfold Rg; omega) (by omega) (fun m71 hF72 r70I => ?_)
              have hF72n : Frm p9w mem m71 := Frm.rf.tr hF72
              exact Tx.vret hC te_23_205 rfl (show K m71 from H _ hF72n r70I)
          · replace q62 : ¬ (¬ (v60 : Int) = 5) := q62
            refine Tx.iconst hC te_23_105 rfl ?_
            refine Tx.goto hC (t := 110) te_23_106 (by decide) ?_
            refine Tx.istore hC te_23_110 rfl ?_
            refine Tx.aload_n hC te_23_112 rfl ?_
            refine Tx.getR hC te_23_113 rfl rfl rfl ?_
            refine Tx.iload hC te_23_116 rfl ?_
            refine Tx.iald hC te_23_118 rfl (by omega) (fun v73 v73e v73i => ?_)
            unfold InI at v73i
            have f74 := hB.kd (o := (Int.toNat p)) (by omega)
            refine Tx.iconst hC te_23_119 rfl ?_
            refine Tx.icmp hC (t := 127) te_23_120 (by decide) (fun q75 => ?_) (fun q75 => ?_)
            · replace q75 : ¬ (v73 : Int) = 5 := q75
              refine Tx.iconst hC te_23_127 rfl ?_
              refine Tx.istore hC te_23_128 rfl ?_
              refine Tx.iload hC te_23_130 rfl ?_
              refine Tx.ifc hC (t := 154) te_23_132 (by decide) (fun q => absurd q (show ¬ ((1 : Int) = 0) by decide)) (fun q => ?_)
              refine Tx.iload hC te_23_135 rfl ?_
              refine Tx.ifc hC (t := 154) te_23_137 (by decide) (fun q => ?_) (fun q => absurd (show (0 : Int) = 0 by decide) q)
              refine Tx.iload hC te_23_154 rfl ?_
              refine Tx.ifc hC (t := 180) te_23_156 (by decide) (fun q => absurd q (show ¬ ((1 : Int) = 0) by decide)) (fun q => ?_)
              refine Tx.aload_n hC te_23_159 rfl ?_
              refine Tx.iload hC te_23_160 rfl ?_
              refine Tx.iload hC te_23_162 rfl ?_
              refine Tx.iload hC te_23_164 rfl ?_
              refine Tx.aload_n hC te_23_166 rfl ?_
              refine Tx.iload hC te_23_167 rfl ?_
              refine Tx.iload hC te_23_169 rfl ?_
              refine Tx.statI hC te_23_171 (by decide) mt_18 (args := [.inr 1, .inl o, .inl kq]) (rest := [.inl z59, .inl p, .inl o, .inr 9]) (c' := 0) (s' := 0) rfl rfl rfl rfl rfl rfl rfl ?_
              refine CWI.q hC (f_18 hB (by omega) (fun r76 r76a r76b r76i => ?_))
              unfold InI at r76i
              refine Tx.virtV hC te_23_174 mt_20 (args := [.inr 9, .inl o, .inl p, .inl z59, .inl r76]) (rest := []) (c' := 0) (s' := 0) rfl rfl rfl rfl rfl rfl rfl rfl rfl rfl ?_
              refine f_20s hI (by unfold Rg; omega) (by omega) (fun m80 hF81 r79I => ?_)
              have hF81n : Frm p9w mem m80 := Frm.rf.tr hF81
              refine Tx.goto hC (t := 205) te_23_177 (by decide) ?_
              exact Tx.vret hC te_23_205 rfl (show K m80 from H _ hF81n r79I)
            · replace q75 : ¬ (¬ (v73 : Int) = 5) := q75
              refine Tx.iconst hC te_23_123 rfl ?_
              refine Tx.goto hC (t := 128) te_23_124 (by decide) ?_
              refine Tx.istore hC te_23_128 rfl ?_
              refine Tx.iload hC te_23_130 rfl ?_
              refine Tx.ifc hC (t := 154) te_23_132 (by decide) (fun q => absurd q (show ¬ ((1 : Int) = 0) by decide)) (fun q => ?_)
              refine Tx.iload hC te_23_135 rfl ?_
              refine Tx.ifc hC (t := 154) te_23_137 (by decide) (fun q => absurd q (show ¬ ((1 : Int) = 0) by decide)) (fun q => ?_)
              refine Tx.aload_n hC te_23_140 rfl ?_
              refine Tx.iload hC te_23_141 rfl ?_
              refine Tx.iload hC te_23_143 rfl ?_
              refine Tx.iload hC te_23_145 rfl ?_
              refine Tx.iconst hC te_23_147 rfl ?_
              refine Tx.virtV hC te_23_148 mt_20 (args := [.inr 9, .inl o, .inl p, .inl z59, .inl 1]) (rest := []) (c' := 0) (s' := 0) rfl rfl rfl rfl rfl rfl rfl rfl rfl rfl ?_
              refine f_20s hI (by unfold Rg; omega) (by omega) (fun m83 hF84 r82I => ?_)
              have hF84n : Frm p9w mem m83 := Frm.rf.tr hF84
              refine Tx.goto hC (t := 205) te_23_151 (by decide) ?_
              exact Tx.vret hC te_23_205 rfl (show K m83 from H _ hF84n r82I)
      · replace q13 : ¬ ((r7 : Int) = r10) := q13
        exact Tx.vret hC te_23_34 rfl (show K mem from H _ Frm.rf hI)
    · replace q6 : ¬ (4 ≤ (v4 : Int)) := q6
      exact Tx.vret hC te_23_20 rfl (show K mem from H _ Frm.rf hI)
theorem f_17s {S : Nat × (Nat → Int32)} {n : Nat} {mem : MM} {K : MM → Prop} {E : Nat → MM → Prop} (hB : BodyOK mem) (hR9 : R64 mem 9) (hSn : Snd mem) {kq : Int} (H : ∀ m', Frm p9w mem m' → INS m' (mem 1 0) → K m') : CQV (Ex S (n + 4)) 17 [.inr 9, .inr 1, .inl kq] mem K E := by
  refine CY.of (k := 3) mt_17 rfl rfl (fun hv => ?_)
  have hC := Ex.mono S (n + 3)
  have ii_kq : InI kq := hv (.inl kq) (by simp)
  unfold InI at ii_kq
  clear hv
  have h8 := hB.1
  show Tx (Ex S (n + 3)) S M_17 (kV K E) 0 0 0 [some (.inr 9), some (.inr 1), some (.inl kq), none, none, none] [] mem
  have l_77 : ∀ (N : Nat) (x3 : Int) (m_77 : MM), (0 ≤ x3) → (INS m_77 (mem 1 0)) → ((8 - x3).toNat) < N → Frm p9w mem m_77 → Tx (Ex S (n + 3)) S M_17 (kV K E) 0 0 77 [some (.inr 9), some (.inr 1), some (.inl kq), some (.inl x3), none, none] [] m_77 := by
    intro N
    induction N with
    | zero => intros; omega
    | succ N ih_77 =>
      intro x3 m_77 i77_0 i77_1 hN_77 hF_77
      have l_90 : ∀ (N : Nat) (x4 : Int) (m_90 : MM), (0 ≤ x4) → (INS m_90 (mem 1 0)) → (0 ≤ x3 ∧ x3 < mem 1 0) → ((8 - x4).toNat) < N → Frm p9w mem m_90 → Tx (Ex S (n + 3)) S M_17 (kV K E) 0 0 90 [some (.inr 9), some (.inr 1), some (.inl kq), some (.inl x3), some (.inl x4), none] [] m_90 := by
        intro N
        induction N with
        | zero => intros; omega
        | succ N ih_90 =>
          intro x4 m_90 i90_0 i90_1 i90_2 hN_90 hF_90
          refine Tx.iload hC te_17_90 rfl ?_
          refine Tx.aload_n hC te_17_92 rfl ?_
          refine Tx.getI hC te_17_93 rfl rfl rfl (fun v1 v1e v1i => ?_)
          unfold InI at v1i
          rw [hF_90 1 _ (by unfold p9w; omega)] at v1e
          refine Tx.icmp hC (t := 114) te_17_96 (by decide) (fun q2 => ?_) (fun q2 => ?_)
          · replace q2 : v1 ≤ (x4 : Int) := q2
            refine Tx.iincW hC te_17_114 rfl rfl (fun z3 z3i z3e => ?_)
            unfold InI at z3i z3e
            first | replace z3e := z3e (by omega) | clear z3e
            refine Tx.goto hC (t := 77) te_17_117 (by decide) ?_
            exact Tx.weak (by repeat' (first | exact trivial | exact rfl | constructor)) (ih_77 z3 m_90 (by omega) (i90_1) (by omega) hF_90)
          · replace q2 : ¬ (v1 ≤ (x4 : Int)) := q2
            refine Tx.aload_n hC te_17_99 rfl ?_
            refine Tx.aload_n hC te_17_100 rfl ?_
            refine Tx.iload_n hC te_17_101 rfl ?_
            refine Tx.iload hC te_17_102 rfl ?_
            refine Tx.iload_n hC te_17_104 rfl ?_
            refine Tx.virtV hC te_17_105 mt_23 (args := [.inr 9, .inr 1, .inl x3, .inl x4, .inl kq]) (rest := []) (c' := 0) (s' := 0) rfl rfl rfl rfl rfl rfl rfl rfl rfl rfl ?_
            refine f_23s (hB.fr (fun A i a b => hF_90 A i (by unfold p9w; omega))) i90_1 (by omega) (by omega) (by omega) (fun m5 hF6 r4I => ?_)
            have hF6n : Frm p9w mem m5 := hF_90.tr hF6
            refine Tx.iincW hC te_17_108 rfl rfl (fun z7 z7i z7e => ?_)
            unfold InI at z7i z7e
            first | replace z7e := z7e (by omega) | clear z7e
            refine Tx.goto hC (t := 90) te_17_111 (by decide) ?_
            exact ih_90 z7 m5 (by omega) (r4I) (by omega) (by omega) hF6n
      refine Tx.iload_n hC te_17_77 rfl ?_
      refine Tx.aload_n hC te_17_78 rfl ?_
      refine Tx.getI hC te_17_79 rfl rfl rfl (fun v8 v8e v8i => ?_)
      unfold InI at v8i
      rw [hF_77 1 _ (by unfold p9w; omega)] at v8e
      refine Tx.icmp hC (t := 120) te_17_82 (by decide) (fun q9 => ?_) (fun q9 => ?_)
      · replace q9 : v8 ≤ (x3 : Int) := q9
        exact Tx.vret hC te_17_120 rfl (show K m_77 from H _ hF_77 i77_1)
      · replace q9 : ¬ (v8 ≤ (x3 : Int)) := q9
        refine Tx.iload_n hC te_17_85 rfl ?_
        refine Tx.iconst hC te_17_86 rfl ?_
        refine Tx.iaddW hC te_17_87 (fun z10 z10i z10e => ?_)
        unfold InI at z10i z10e
        first | replace z10e := z10e (by omega) | clear z10e
        refine Tx.istore hC te_17_88 rfl ?_
        exact l_90 _ z10 m_77 (by omega) (i77_1) (by omega) (Nat.lt_succ_self _) hF_77
  have l_7 : ∀ (N : Nat) (x3 : Int) (m_7 : MM), (0 ≤ x3) → (INS m_7 (mem 1 0)) → ((8 - x3).toNat) < N → Frm p9w mem m_7 → Tx (Ex S (n + 3)) S M_17 (kV K E) 0 0 7 [some (.inr 9), some (.inr 1), some (.inl kq), some (.inl x3), none, none] [] m_7 := by
    intro N
    induction N with
    | zero => intros; omega
    | succ N ih_7 =>
      intro x3 m_7 i7_0 i7_1 hN_7 hF_7
      have l_18 : ∀ (N : Nat) (x4 : Int) (m_18 : MM), (0 ≤ x4) → (INS m_18 (mem 1 0)) → (0 ≤ x3 ∧ x3 < mem 1 0) → ((3 - x4).toNat) < N → Frm p9w mem m_18 → Tx (Ex S (n + 3)) S M_17 (kV K E) 0 0 18 [some (.inr 9), some (.inr 1), some (.inl kq), some (.inl x3), some (.inl x4), none] [] m_18 := by
        intro N
        induction N with
        | zero => intros; omega
        | succ N ih_18 =>
          intro x4 m_18 i18_0 i18_1 i18_2 hN_18 hF_18
          refine Tx.iload hC te_17_18 rfl ?_
          refine Tx.aload_n hC te_17_20 rfl ?_
          refine Tx.iload_n hC te_17_21 rfl ?_
          refine Tx.virtI hC te_17_22 mt_13 (args := [.inr 1, .inl x3]) (rest := [.inl x4]) (c' := 0) (s' := 0) rfl rfl rfl rfl rfl rfl rfl rfl rfl rfl ?_
          refine f_13q (by omega) (fun r11 r11e r11a r11b r11i => ?_)
          unfold InI at r11i
          refine Tx.icmp hC (t := 69) te_17_25 (by decide) (fun q14 => ?_) (fun q14 => ?_)
          · replace q14 : r11 ≤ (x4 : Int) := q14
            refine Tx.iincW hC te_17_69 rfl rfl (fun z15 z15i z15e => ?_)
            unfold InI at z15i z15e
            first | replace z15e := z15e (by omega) | clear z15e
            refine Tx.goto hC (t := 7) te_17_72 (by decide) ?_
            exact Tx.weak (by repeat' (first | exact trivial | exact rfl | constructor)) (ih_7 z15 m_18 (by omega) (i18_1) (by omega) hF_18)
          · replace q14 : ¬ (r11 ≤ (x4 : Int)) := q14
            refine Tx.aload_n hC te_17_28 rfl ?_
            refine Tx.iload_n hC te_17_29 rfl ?_
            refine Tx.iload hC te_17_30 rfl ?_
            refine Tx.virtI hC te_17_32 mt_14 (args := [.inr 1, .inl x3, .inl x4]) (rest := []) (c' := 0) (s' := 0) rfl rfl rfl rfl rfl rfl rfl rfl rfl rfl ?_
            have r16z := hF_18 1 0 (by unfold p9w; omega)
            refine f_14s (hB.fr (fun A i a b => hF_18 A i (by unfold p9w; omega))) (by omega) (by omega) (fun r16 r16e r16a r16b r16i => ?_)
            have r16s := (hSn.fr (fun A i a b => hF_18 A i (by unfold p9w; omega))) (Int.toNat x3) (Int.toNat x4) (by omega) (by omega)
            unfold InI at r16i
            refine Tx.istore hC te_17_35 rfl ?_
            refine Tx.iload hC te_17_37 rfl ?_
            refine Tx.ifc hC (t := 63) te_17_39 (by decide) (fun q19 => ?_) (fun q19 => ?_)
            · replace q19 : (r16 : Int) < 0 := q19
              refine Tx.iincW hC te_17_63 rfl rfl (fun z20 z20i z20e => ?_)
              unfold InI at z20i z20e
              first | replace z20e := z20e (by omega) | clear z20e
              refine Tx.goto hC (t := 18) te_17_66 (by decide) ?_
              exact Tx.weak (by repeat' (first | exact trivial | exact rfl | constructor)) (ih_18 z20 m_18 (by omega) (i18_1) (by omega) (by omega) hF_18)
            · replace q19 : ¬ ((r16 : Int) < 0) := q19
              refine Tx.aload_n hC te_17_42 rfl ?_
              refine Tx.iload hC te_17_43 rfl ?_
              refine Tx.iload_n hC te_17_45 rfl ?_
              refine Tx.aload_n hC te_17_46 rfl ?_
              refine Tx.iload_n hC te_17_47 rfl ?_
              refine Tx.iload hC te_17_48 rfl ?_
              refine Tx.virtI hC te_17_50 mt_15 (args := [.inr 1, .inl x3, .inl x4]) (rest := [.inl x3, .inl r16, .inr 9]) (c' := 0) (s' := 0) rfl rfl rfl rfl rfl rfl rfl rfl rfl rfl ?_
              refine f_15s (hB.fr (fun A i a b => hF_18 A i (by unfold p9w; omega))) (by omega) (by omega) (fun r21 r21e r21i => ?_)
              unfold InI at r21i
              refine Tx.aload_n hC te_17_53 rfl ?_
              refine Tx.iload hC te_17_54 rfl ?_
              refine Tx.iload_n hC te_17_56 rfl ?_
              refine Tx.statI hC te_17_57 (by decide) mt_18 (args := [.inr 1, .inl r16, .inl kq]) (rest := [.inl r21, .inl x3, .inl r16, .inr 9]) (c' := 0) (s' := 0) rfl rfl rfl rfl rfl rfl rfl ?_
              refine CWI.q hC (f_18 (hB.fr (fun A i a b => hF_18 A i (by unfold p9w; omega))) (by omega) (fun r24 r24a r24b r24i => ?_))
              unfold InI at r24i
              refine Tx.virtV hC te_17_60 mt_20 (args := [.inr 9, .inl r16, .inl x3, .inl r21, .inl r24]) (rest := []) (c' := 0) (s' := 0) rfl rfl rfl rfl rfl rfl rfl rfl rfl rfl ?_
              refine f_20s i18_1 (by unfold Rg; omega) (by omega) (fun m28 hF29 r27I => ?_)
              have hF29n : Frm p9w mem m28 := hF_18.tr hF29
              refine Tx.iincW hC te_17_63 rfl rfl (fun z30 z30i z30e => ?_)
              unfold InI at z30i z30e
              first | replace z30e := z30e (by omega) | clear z30e
              refine Tx.goto hC (t := 18) te_17_66 (by decide) ?_
              exact Tx.weak (by repeat' (first | exact trivial | exact rfl | constructor)) (ih_18 z30 m28 (by omega) (r27I) (by omega) (by omega) hF29n)
      refine Tx.iload_n hC te_17_7 rfl ?_
      refine Tx.aload_n hC te_17_8 rfl ?_
      refine Tx.getI hC te_17_9 rfl rfl rfl (fun v31 v31e v31i => ?_)
      unfold InI at v31i
      rw [hF_7 1 _ (by unfold p9w; omega)] at v31e
      refine Tx.icmp hC (t := 75) te_17_12 (by decide) (fun q32 => ?_) (fun q32 => ?_)
      · replace q32 : v31 ≤ (x3 : Int) := q32
        refine Tx.iconst hC te_17_75 rfl ?_
        refine Tx.istore_n hC te_17_76 rfl ?_
        exact l_77 _ 0 m_7 (by omega) (i7_1) (Nat.lt_succ_self _) hF_7
      · replace q32 : ¬ (v31 ≤ (x3 : Int)) := q32
        refine Tx.iconst hC te_17_15 rfl ?_
        refine Tx.istore hC te_17_16 rfl ?_
        exact l_18 _ 0 m_7 (by omega) (i7_1) (by omega) (Nat.lt_succ_self _) hF_7
  refine Tx.aload_n hC te_17_0 rfl ?_
  refine Tx.iconst hC te_17_1 rfl ?_
  refine Tx.putI hC te_17_2 rfl rfl rfl rfl ?_
  have hF34 : Frm p9w mem (upm mem 9 0 0) := Frm.up Frm.rf (by unfold p9w; omega)
  have hI35 : INS (upm mem 9 0 0) (mem 1 0) := ⟨⟨R64.up0 hR9, by rw [upm_eq]; omega⟩, fun j hj => by rw [upm_eq] at hj; omega⟩
  generalize upm mem 9 0 0 = m33 at hF34 hI35 ⊢
  refine Tx.iconst hC te_17_5 rfl ?_
  refine Tx.istore_n hC te_17_6 rfl ?_
  exact l_7 _ 0 m33 (by omega) (hI35) (Nat.lt_succ_self _) hF34
theorem f_12 {S : Nat × (Nat → Int32)} {n : Nat} {mem : MM} {K : Int → MM → Prop} {E : Nat → MM → Prop} (hB : BodyOK mem) (H : ∀ r, r = 0 ∨ r = 1 → (r = 1 → Snd mem) → K r mem) : CQI (Ex S (n + 2)) 12 [.inr 1] mem K E := by
  refine CY.of (k := 2) mt_12 rfl rfl (fun hv => ?_)
  have hC := Ex.mono S (n + 1)
  clear hv
  have h8 := hB.1
  show Tx (Ex S (n + 1)) S M_12 (kI K E) 0 0 0 [some (.inr 1), none, none] [] mem
  have l_2 : ∀ (N : Nat) (x1 : Int), (0 ≤ x1) → (∀ o k : Nat, (o : Int) < x1 → (k : Int) < csN mem o → mem 3 (4 * o + 2 * k) < mem 1 0) → ((8 - x1).toNat) < N → Tx (Ex S (n + 1)) S M_12 (kI K E) 0 0 2 [some (.inr 1), some (.inl x1), none] [] mem := by
    intro N
    induction N with
    | zero => intros; omega
    | succ N ih_2 =>
      intro x1 i2_0 i2_1 hN_2 
      have l_12 : ∀ (N : Nat) (x2 : Int), (0 ≤ x2) → (∀ k : Nat, (k : Int) < x2 → mem 3 (4 * Int.toNat x1 + 2 * k) < mem 1 0) → (0 ≤ x1 ∧ x1 < mem 1 0) → ((3 - x2).toNat) < N → Tx (Ex S (n + 1)) S M_12 (kI K E) 0 0 12 [some (.inr 1), some (.inl x1), some (.inl x2)] [] mem := by
        intro N
        induction N with
        | zero => intros; omega
        | succ N ih_12 =>
          intro x2 i12_0 i12_1 i12_2 hN_12 
          refine Tx.iload_n hC te_12_12 rfl ?_
          refine Tx.aload_n hC te_12_13 rfl ?_
          refine Tx.iload_n hC te_12_14 rfl ?_
          refine Tx.virtI hC te_12_15 mt_13 (args := [.inr 1, .inl x1]) (rest := [.inl x2]) (c' := 0) (s' := 0) rfl rfl rfl rfl rfl rfl rfl rfl rfl rfl ?_
          refine f_13q (by omega) (fun r1 r1e r1a r1b r1i => ?_)
          unfold InI at r1i
          refine Tx.icmp hC (t := 49) te_12_18 (by decide) (fun q4 => ?_) (fun q4 => ?_)
          · replace q4 : r1 ≤ (x2 : Int) := q4
            refine Tx.iincW hC te_12_49 rfl rfl (fun z5 z5i z5e => ?_)
            unfold InI at z5i z5e
            first | replace z5e := z5e (by omega) | clear z5e
            refine Tx.goto hC (t := 2) te_12_52 (by decide) ?_
            exact Tx.weak (by repeat' (first | exact trivial | exact rfl | constructor)) (ih_2 z5 (by omega) (fun o k ho hk => by first | (exfalso; omega) | exact (Classical.em ((o : Int) < x1)).elim (fun q => i2_1 o k q hk) (fun q => by rw [show o = Int.toNat x1 by omega] at hk ⊢; exact i12_1 k (by omega))) (by omega))
          · replace q4 : ¬ (r1 ≤ (x2 : Int)) := q4
            refine Tx.aload_n hC te_12_21 rfl ?_
            refine Tx.iload_n hC te_12_22 rfl ?_
            refine Tx.aload_n hC te_12_23 rfl ?_
            refine Tx.iload_n hC te_12_24 rfl ?_
            refine Tx.iload_n hC te_12_25 rfl ?_
            refine Tx.virtI hC te_12_26 mt_14 (args := [.inr 1, .inl x1, .inl x2]) (rest := [.inl x1, .inr 1]) (c' := 0) (s' := 0) rfl rfl rfl rfl rfl rfl rfl rfl rfl rfl ?_
            refine f_14s hB (by omega) (by omega) (fun r6 r6e r6a r6b r6i => ?_)
            unfold InI at r6i
            refine Tx.aload_n hC te_12_29 rfl ?_
            refine Tx.iload_n hC te_12_30 rfl ?_
            refine Tx.iload_n hC te_12_31 rfl ?_
            refine Tx.virtI hC te_12_32 mt_15 (args := [.inr 1, .inl x1, .inl x2]) (rest := [.inl r6, .inl x1, .inr 1]) (c' := 0) (s' := 0) rfl rfl rfl rfl rfl rfl rfl rfl rfl rfl ?_
            refine f_15s hB (by omega) (by omega) (fun r9 r9e r9i => ?_)
            unfold InI at r9i
            refine Tx.virtI hC te_12_35 mt_16 (args := [.inr 1, .inl x1, .inl r6, .inl r9]) (rest := []) (c' := 0) (s' := 0) rfl rfl rfl rfl rfl rfl rfl rfl rfl rfl ?_
            refine f_16 hB (fun r12 r12b r12f r12i => ?_)
            unfold InI at r12i
            refine Tx.ifc hC (t := 43) te_12_38 (by decide) (fun q15 => ?_) (fun q15 => ?_)
            · replace q15 : ¬ (r12 : Int) = 0 := q15
              refine Tx.iincW hC te_12_43 rfl rfl (fun z16 z16i z16e => ?_)
              unfold InI at z16i z16e
              first | replace z16e := z16e (by omega) | clear z16e
              refine Tx.goto hC (t := 12) te_12_46 (by decide) ?_
              exact ih_12 z16 (by omega) (fun k hk => by first | (exfalso; omega) | exact (Classical.em ((k : Int) < x2)).elim (fun q => i12_1 k q) (fun q => by rw [show k = Int.toNat x2 by omega]; omega)) (by omega) (by omega)
            · replace q15 : ¬ (¬ (r12 : Int) = 0) := q15
              refine Tx.iconst hC te_12_41 rfl ?_
              exact Tx.bret hC te_12_42 rfl (by omega) (show K 0 mem from H 0 (by omega) (fun q => absurd q (by omega)))
      refine Tx.iload_n hC te_12_2 rfl ?_
      refine Tx.aload_n hC te_12_3 rfl ?_
      refine Tx.getI hC te_12_4 rfl rfl rfl (fun v17 v17e v17i => ?_)
      unfold InI at v17i
      refine Tx.icmp hC (t := 55) te_12_7 (by decide) (fun q18 => ?_) (fun q18 => ?_)
      · replace q18 : v17 ≤ (x1 : Int) := q18
        refine Tx.iconst hC te_12_55 rfl ?_
        exact Tx.bret hC te_12_56 rfl (by omega) (show K 1 mem from H 1 (by omega) (fun _ o k ho hk => i2_1 o k (by omega) hk))
      · replace q18 : ¬ (v17 ≤ (x1 : Int)) := q18
        refine Tx.iconst hC te_12_10 rfl ?_
        refine Tx.istore_n hC te_12_11 rfl ?_
        exact l_12 _ 0 (by omega) (fun k hk => by first | (exfalso; omega) | exact (Classical.em ((k : Int) < x2)).elim (fun q => i12_1 k q) (fun q => by rw [show k = Int.toNat x2 by omega]; omega)) (by omega) (Nat.lt_succ_self _)
  refine Tx.iconst hC te_12_0 rfl ?_
  refine Tx.istore_n hC te_12_1 rfl ?_
  exact l_2 _ 0 (by omega) (fun o k ho hk => by first | (exfalso; omega) | exact (Classical.em ((o : Int) < x1)).elim (fun q => i2_1 o k q hk) (fun q => by rw [show o = Int.toNat x1 by omega] at hk ⊢; exact i12_1 k (by omega))) (Nat.lt_succ_self _)
theorem f_199 {S : Nat × (Nat → Int32)} {n : Nat} {mem : MM} {K : MM → Prop} {E : Nat → MM → Prop} (hW9 : WbOK mem 9) (hR14 : R64 mem 14) {l : Int} (H : ∀ m', Frm p14 mem m' → WbOK m' 14 → K m') : CQV (Ex S (n + 2)) 199 [.inr 14, .inr 9, .inl l] mem K E := by
  refine CY.of (k := 1) mt_199 rfl rfl (fun hv => ?_)
  have hC := Ex.mono S (n + 1)
  have ii_l : InI l := hv (.inl l) (by simp)
  unfold InI at ii_l
  clear hv
  have hw := hW9.2
  show Tx (Ex S (n + 1)) S M_199 (kV K E) 0 0 0 [some (.inr 14), some (.inr 9), some (.inl l), none] [] mem
  have l_7 : ∀ (N : Nat) (x3 : Int) (m_7 : MM), (0 ≤ x3 ∧ x3 ≤ 64) → (R64 m_7 14) → (0 ≤ m_7 14 0 ∧ m_7 14 0 ≤ x3) → ((64 - x3).toNat) < N → Frm p14 mem m_7 → Tx (Ex S (n + 1)) S M_199 (kV K E) 0 0 7 [some (.inr 14), some (.inr 9), some (.inl l), some (.inl x3)] [] m_7 := by
    intro N
    induction N with
    | zero => intros; omega
    | succ N ih_7 =>
      intro x3 m_7 i7_0 i7_1 i7_2 hN_7 hF_7
      refine Tx.iload_n hC te_199_7 rfl ?_
      refine Tx.aload_n hC te_199_8 rfl ?_
      refine Tx.getI hC te_199_9 rfl rfl rfl (fun v1 v1e v1i => ?_)
      unfold InI at v1i
      rw [hF_7 9 _ (by unfold p14; omega)] at v1e
      refine Tx.icmp hC (t := 68) te_199_12 (by decide) (fun q2 => ?_) (fun q2 => ?_)
      · replace q2 : v1 ≤ (x3 : Int) := q2
        exact Tx.vret hC te_199_68 rfl (show K m_7 from H _ hF_7 ⟨i7_1, by omega⟩)
      · replace q2 : ¬ (v1 ≤ (x3 : Int)) := q2
        refine Tx.iload_n hC te_199_15 rfl ?_
        refine Tx.iload_n hC te_199_16 rfl ?_
        refine Tx.icmp hC (t := 62) te_199_17 (by decide) (fun q3 => ?_) (fun q3 => ?_)
        · replace q3 : (x3 : Int) = l := q3
          refine Tx.iincW hC te_199_62 rfl rfl (fun z4 z4i z4e => ?_)
          unfold InI at z4i z4e
          first | replace z4e := z4e (by omega) | clear z4e
          refine Tx.goto hC (t := 7) te_199_65 (by decide) ?_
          exact ih_7 z4 m_7 (by omega) (i7_1) (by omega) (by omega) hF_7
        · replace q3 : ¬ ((x3 : Int) = l) := q3
          refine Tx.aload_n hC te_199_20 rfl ?_
          refine Tx.aload_n hC te_199_21 rfl ?_
          refine Tx.getI hC te_199_22 rfl rfl rfl (fun v5 v5e v5i => ?_)
          unfold InI at v5i
          refine Tx.aload_n hC te_199_25 rfl ?_
          refine Tx.getR hC te_199_26 rfl rfl rfl ?_
          refine Tx.iload_n hC te_199_29 rfl ?_
          refine Tx.iald hC te_199_30 rfl (by omega) (fun v6 v6e v6i => ?_)
          unfold InI at v6i
          rw [hF_7 10 _ (by unfold p14; omega)] at v6e
          have f7 : Rg (mem 10 (Int.toNat x3)) (mem 11 (Int.toNat x3)) (mem 12 (Int.toNat x3)) (mem 13 (Int.toNat x3)) := hW9.1 (Int.toNat x3) (by omega)
          unfold Rg at f7
          refine Tx.aload_n hC te_199_31 rfl ?_
          refine Tx.getR hC te_199_32 rfl rfl rfl ?_
          refine Tx.iload_n hC te_199_35 rfl ?_
          refine Tx.iald hC te_199_36 rfl (by omega) (fun v8 v8e v8i => ?_)
          unfold InI at v8i
          rw [hF_7 11 _ (by unfold p14; omega)] at v8e
          have f9 : Rg (mem 10 (Int.toNat x3)) (mem 11 (Int.toNat x3)) (mem 12 (Int.toNat x3)) (mem 13 (Int.toNat x3)) := hW9.1 (Int.toNat x3) (by omega)
          unfold Rg at f9
          refine Tx.aload_n hC te_199_37 rfl ?_
          refine Tx.getR hC te_199_38 rfl rfl rfl ?_
          refine Tx.iload_n hC te_199_41 rfl ?_
          refine Tx.iald hC te_199_42 rfl (by omega) (fun v10 v10e v10i => ?_)
          unfold InI at v10i
          rw [hF_7 12 _ (by unfold p14; omega)] at v10e
          have f11 : Rg (mem 10 (Int.toNat x3)) (mem 11 (Int.toNat x3)) (mem 12 (Int.toNat x3)) (mem 13 (Int.toNat x3)) := hW9.1 (Int.toNat x3) (by omega)
          unfold Rg at f11
          refine Tx.aload_n hC te_199_43 rfl ?_
          refine Tx.getR hC te_199_44 rfl rfl rfl ?_
          refine Tx.iload_n hC te_199_47 rfl ?_
          refine Tx.iald hC te_199_48 rfl (by omega) (fun v12 v12e v12i => ?_)
          unfold InI at v12i
          rw [hF_7 13 _ (by unfold p14; omega)] at v12e
          have f13 : Rg (mem 10 (Int.toNat x3)) (mem 11 (Int.toNat x3)) (mem 12 (Int.toNat x3)) (mem 13 (Int.toNat x3)) := hW9.1 (Int.toNat x3) (by omega)
          unfold Rg at f13
          refine Tx.virtV hC te_199_49 mt_22 (args := [.inr 14, .inl v5, .inl v6, .inl v8, .inl v10, .inl v12]) (rest := []) (c' := 0) (s' := 0) rfl rfl rfl rfl rfl rfl rfl rfl rfl rfl ?_
          refine CWV.q hC (f_22 (W := 14) ⟨rfl, rfl, rfl, rfl, rfl⟩ i7_1 (by omega) (by unfold Rg; omega) (fun m15 hF16 r14z r14t => ?_))
          have hF16n : Frm p14 mem m15 := hF_7.tr (fun A i q => hF16 A i (by unfold p14 at q; omega) (by unfold p14 at q; omega))
          refine Tx.aload_n hC te_199_52 rfl ?_
          refine Tx.dup hC te_199_53 ?_
          refine Tx.getI hC te_199_54 rfl rfl rfl (fun v17 v17e v17i => ?_)
          unfold InI at v17i
          refine Tx.iconst hC te_199_57 rfl ?_
          refine Tx.iaddW hC te_199_58 (fun z18 z18i z18e => ?_)
          unfold InI at z18i z18e
          first | replace z18e := z18e (by omega) | clear z18e
          refine Tx.putI hC te_199_59 rfl rfl rfl rfl ?_
          have hF20 : Frm p14 mem (upm m15 14 0 z18) := Frm.up hF16n (by unfold p14; omega)
          have hT21 : R64 (upm m15 14 0 z18) 14 := R64.up0 r14t
          have hZ22 : (upm m15 14 0 z18) 14 0 = z18 := upm_eq
          generalize upm m15 14 0 z18 = m19 at hF20 hT21 hZ22 ⊢
          refine Tx.iincW hC te_199_62 rfl rfl (fun z23 z23i z23e => ?_)
          unfold InI at z23i z23e
          first | replace z23e := z23e (by omega) | clear z23e
          refine Tx.goto hC (t := 7) te_199_65 (by decide) ?_
          exact ih_7 z23 m19 (by omega) (hT21) (by omega) (by omega) hF20
  refine Tx.aload_n hC te_199_0 rfl ?_
  refine Tx.iconst hC te_199_1 rfl ?_
  refine Tx.putI hC te_199_2 rfl rfl rfl rfl ?_
  have hF25 : Frm p14 mem (upm mem 14 0 0) := Frm.up Frm.rf (by unfold p14; omega)
  have hT26 : R64 (upm mem 14 0 0) 14 := R64.up0 hR14
  have hZ27 : (upm mem 14 0 0) 14 0 = 0 := upm_eq
  generalize upm mem 14 0 0 = m24 at hF25 hT26 hZ27 ⊢
  refine Tx.iconst hC te_199_5 rfl ?_
  refine Tx.istore_n hC te_199_6 rfl ?_
  exact l_7 _ 0 m24 (by omega) (hT26) (by omega) (Nat.lt_succ_self _) hF25
theorem f_106 {S : Nat × (Nat → Int32)} {n : Nat} {mem : MM} {K : MM → Prop} {E : Nat → MM → Prop} {Q : Nat} (hQ : ChSh Q) (hO : ChtOK mem Q) (hB : BodyOK mem) (hW9 : WbOK mem 9) (hWS : WbS mem) (hSl : ∀ o, o < 8 → 0 ≤ mem 22 o ∧ mem 22 o ≤ 11) {d : Int} (hd : 1 ≤ d ∧ d ≤ 12) (H : ∀ m', Frm (pCh Q) mem m' → ChtOK m' Q → K m') : CQV (Ex S (n + 4)) 106 [.inr Q, .inr 1, .inr 9, .inr 22, .inl d] mem K E := by
  refine CY.of (k := 1) mt_106 rfl rfl (fun hv => ?_)
  have hC := Ex.mono S (n + 3)
  have ii_d : InI d := hv (.inl d) (by simp)
  unfold InI at ii_d
  clear hv
  have hq8 := hQ.rg
  show Tx (Ex S (n + 3)) S M_106 (kV K E) 0 0 0 [some (.inr Q), some (.inr 1), some (.inr 9), some (.inr 22), some (.inl d), none] [] mem
  have l_44 : ∀ (N : Nat) (x5 : Int) (m_44 : MM), (0 ≤ x5) → (ChtOK m_44 Q) → ((8 - x5).toNat) < N → Frm (pCh Q) mem m_44 → Tx (Ex S (n + 3)) S M_106 (kV K E) 0 0 44 [some (.inr Q), some (.inr 1), some (.inr 9), some (.inr 22), some (.inl d), some (.inl x5)] [] m_44 := by
    intro N
    induction N with
    | zero => intros; omega
    | succ N ih_44 =>
      intro x5 m_44 i44_0 i44_1 hN_44 hF_44
      refine Tx.iload hC te_106_44 rfl ?_
      refine Tx.aload_n hC te_106_46 rfl ?_
      refine Tx.getI hC te_106_47 hQ.s0 rfl rfl (fun v1 v1e v1i => ?_)
      unfold InI at v1i
      have f2 := i44_1.1
      refine Tx.icmp hC (t := 117) te_106_50 (by decide) (fun q3 => ?_) (fun q3 => ?_)
      · replace q3 : v1 ≤ (x5 : Int) := q3
        refine Tx.aload_n hC te_106_117 rfl ?_
        refine Tx.aload_n hC te_106_118 rfl ?_
        refine Tx.virtV hC te_106_119 mt_109 (args := [.inr Q, .inr 1]) (rest := []) (c' := 0) (s' := 0) rfl rfl rfl rfl rfl rfl rfl rfl hQ.s0 rfl ?_
        refine f_109 hQ i44_1 (hB.fr (fun A i a b => hF_44 A i (by unfold pCh; omega))) (fun m5 hF6 => ?_)
        have r4I := ChtOK.fr2 i44_1 (fun A i q => hF6 A i (by unfold pLi; omega))
        have hF6n : Frm (pCh Q) mem m5 := hF_44.tr (hF6.mono (fun A i q => by unfold pLi at q; unfold pCh; omega))
        refine Tx.aload_n hC te_106_122 rfl ?_
        refine Tx.aload_n hC te_106_123 rfl ?_
        refine Tx.virtV hC te_106_124 mt_110 (args := [.inr Q, .inr 1]) (rest := []) (c' := 0) (s' := 0) rfl rfl rfl rfl rfl rfl rfl rfl hQ.s0 rfl ?_
        refine f_110 hQ r4I (hB.fr (fun A i a b => hF6n A i (by unfold pCh; omega))) (fun m8 hF9 => ?_)
        have r7I := ChtOK.fr2 r4I (fun A i q => hF9 A i (by unfold pNm; omega))
        have hF9n : Frm (pCh Q) mem m8 := hF6n.tr (hF9.mono (fun A i q => by unfold pNm at q; unfold pCh; omega))
        exact Tx.vret hC te_106_127 rfl (show K m8 from H _ hF9n r7I)
      · replace q3 : ¬ (v1 ≤ (x5 : Int)) := q3
        refine Tx.aload_n hC te_106_53 rfl ?_
        refine Tx.getR hC te_106_54 hQ.s0 rfl rfl ?_
        refine Tx.iload hC te_106_57 rfl ?_
        refine Tx.aload_n hC te_106_59 rfl ?_
        refine Tx.getR hC te_106_60 hQ.s0 rfl rfl ?_
        refine Tx.iload hC te_106_63 rfl ?_
        refine Tx.iald hC te_106_65 hQ.s2 (by omega) (fun v10 v10e v10i => ?_)
        unfold InI at v10i
        have f11 := i44_1.2 (Int.toNat x5) (by omega)
        refine Tx.aload_n hC te_106_66 rfl ?_
        refine Tx.iload hC te_106_67 rfl ?_
        refine Tx.virtI hC te_106_69 mt_19 (args := [.inr 1, .inl x5]) (rest := [.inl v10, .inl x5, .inr (Q + 3)]) (c' := 0) (s' := 0) rfl rfl rfl rfl rfl rfl rfl rfl rfl rfl ?_
        refine CWI.q hC (f_19 (hB.fr (fun A i a b => hF_44 A i (by unfold pCh; omega))) (by omega) (fun r12 r12a r12b r12i => ?_))
        unfold InI at r12i
        refine Tx.iaddW hC te_106_72 (fun z15 z15i z15e => ?_)
        unfold InI at z15i z15e
        first | replace z15e := z15e (by omega) | clear z15e
        refine Tx.iast hC te_106_73 hQ.s3 (by omega) ?_
        have hF17 : Frm (pCh Q) mem (upm m_44 (Q + 3) (Int.toNat x5) z15) := Frm.up hF_44 (by unfold pCh; omega)
        have hI18 : ChtOK (upm m_44 (Q + 3) (Int.toNat x5) z15) Q := ChtOK.up3 i44_1 (by omega)
        generalize upm m_44 (Q + 3) (Int.toNat x5) z15 = m16 at hF17 hI18 ⊢
        refine Tx.aload_n hC te_106_74 rfl ?_
        refine Tx.aload_n hC te_106_75 rfl ?_
        refine Tx.getI hC te_106_76 hQ.s0 rfl rfl (fun v19 v19e v19i => ?_)
        unfold InI at v19i
        refine Tx.aload_n hC te_106_79 rfl ?_
        refine Tx.getR hC te_106_80 hQ.s0 rfl rfl ?_
        refine Tx.iload hC te_106_83 rfl ?_
        refine Tx.iald hC te_106_85 hQ.s3 (by omega) (fun v20 v20e v20i => ?_)
        unfold InI at v20i
        refine Tx.statI hC te_106_86 (by decide) mt_40 (args := [.inl v19, .inl v20]) (rest := [.inr Q]) (c' := 0) (s' := 0) rfl rfl rfl rfl rfl rfl rfl ?_
        refine f_40q (fun r21 r21a r21b r21c r21i => ?_)
        unfold InI at r21i
        refine Tx.putI hC te_106_89 hQ.s0 rfl rfl rfl ?_
        have hF25 : Frm (pCh Q) mem (upm m16 Q 4 r21) := Frm.up hF17 (by unfold pCh; omega)
        have hI26 : ChtOK (upm m16 Q 4 r21) Q := ChtOK.fr2 hI18 (fun A i q => upm_ne (by omega))
        generalize upm m16 Q 4 r21 = m24 at hF25 hI26 ⊢
        refine Tx.aload_n hC te_106_92 rfl ?_
        refine Tx.aload_n hC te_106_93 rfl ?_
        refine Tx.getI hC te_106_94 hQ.s0 rfl rfl (fun v27 v27e v27i => ?_)
        unfold InI at v27i
        refine Tx.aload_n hC te_106_97 rfl ?_
        refine Tx.iload hC te_106_98 rfl ?_
        refine Tx.virtI hC te_106_100 mt_108 (args := [.inr Q, .inl x5]) (rest := [.inl v27, .inr Q]) (c' := 0) (s' := 0) rfl rfl rfl rfl rfl rfl rfl rfl hQ.s0 rfl ?_
        refine f_108 hQ hI26 (by omega) (fun r28 r28i => ?_)
        unfold InI at r28i
        refine Tx.iconst hC te_106_103 rfl ?_
        refine Tx.iaddW hC te_106_104 (fun z31 z31i z31e => ?_)
        unfold InI at z31i z31e
        first | replace z31e := z31e (by omega) | clear z31e
        refine Tx.statI hC te_106_105 (by decide) mt_40 (args := [.inl v27, .inl z31]) (rest := [.inr Q]) (c' := 0) (s' := 0) rfl rfl rfl rfl rfl rfl rfl ?_
        refine f_40q (fun r32 r32a r32b r32c r32i => ?_)
        unfold InI at r32i
        refine Tx.putI hC te_106_108 hQ.s0 rfl rfl rfl ?_
        have hF36 : Frm (pCh Q) mem (upm m24 Q 5 r32) := Frm.up hF25 (by unfold pCh; omega)
        have hI37 : ChtOK (upm m24 Q 5 r32) Q := ChtOK.fr2 hI26 (fun A i q => upm_ne (by omega))
        generalize upm m24 Q 5 r32 = m35 at hF36 hI37 ⊢
        refine Tx.iincW hC te_106_111 rfl rfl (fun z38 z38i z38e => ?_)
        unfold InI at z38i z38e
        first | replace z38e := z38e (by omega) | clear z38e
        refine Tx.goto hC (t := 44) te_106_114 (by decide) ?_
        exact ih_44 z38 m35 (by omega) (hI37) (by omega) hF36
  refine Tx.aload_n hC te_106_0 rfl ?_
  refine Tx.aload_n hC te_106_1 rfl ?_
  refine Tx.getI hC te_106_2 rfl rfl rfl (fun v39 v39e v39i => ?_)
  unfold InI at v39i
  refine Tx.putI hC te_106_5 hQ.s0 rfl rfl rfl ?_
  have hF41 : Frm (pCh Q) mem (upm mem Q 2 v39) := Frm.up Frm.rf (by unfold pCh; omega)
  refine Tx.aload_n hC te_106_8 rfl ?_
  refine Tx.iload hC te_106_9 rfl ?_
  refine Tx.putI hC te_106_11 hQ.s0 rfl rfl rfl ?_
  have hF43 : Frm (pCh Q) mem (upm (upm mem Q 2 v39) Q 3 d) := Frm.up hF41 (by unfold pCh; omega)
  refine Tx.aload_n hC te_106_14 rfl ?_
  refine Tx.iconst hC te_106_15 rfl ?_
  refine Tx.aload_n hC te_106_16 rfl ?_
  refine Tx.getR hC te_106_17 hQ.s0 rfl rfl ?_
  refine Tx.iconst hC te_106_20 rfl ?_
  refine Tx.bipush hC te_106_21 rfl rfl ?_
  refine Tx.copy hC te_106_23 rfl hQ.s1 (by omega) rfl (fun m44 m44a m44b => ?_)
  have hD1 := dr_start hQ hO hB hSl (by assumption) hd m44a m44b
  refine Tx.aload_n hC te_106_26 rfl ?_
  refine Tx.aload_n hC te_106_27 rfl ?_
  refine Tx.virtV hC te_106_28 mt_107 (args := [.inr Q, .inr 9]) (rest := []) (c' := 0) (s' := 0) rfl rfl rfl rfl rfl rfl rfl rfl hQ.s0 rfl ?_
  refine f_107 hQ (by rw [hD1.2.1, hD1.2.2 1 0 (by unfold pCh; omega)]) (by rw [hD1.2.2 1 0 (by unfold pCh; omega)]; exact hB.1) hD1.1.1.2.1 (fun o ho => (hD1.1.2 o ho).1) (fun o ho => ⟨(hD1.1.2 o ho).2.1, fun z => by omega⟩) (hW9.fr (fun A i a b => hD1.2.2 A i (by unfold pCh; omega))) (hWS.fr (fun A i a => hD1.2.2 A i (by unfold pCh; omega))) (fun m47 hF48 r46D => ?_)
  have r46I := dr_times hD1.1 hF48 r46D
  have hF48n : Frm (pCh Q) mem m47 := hD1.2.2.tr (hF48.mono (fun A i q => by unfold pTm at q; unfold pCh; omega))
  refine Tx.aload_n hC te_106_31 rfl ?_
  refine Tx.iconst hC te_106_32 rfl ?_
  refine Tx.putI hC te_106_33 hQ.s0 rfl rfl rfl ?_
  have hF50 : Frm (pCh Q) mem (upm m47 Q 4 0) := Frm.up hF48n (by unfold pCh; omega)
  have hI51 : ChtOK (upm m47 Q 4 0) Q := ChtOK.fr2 r46I (fun A i q => upm_ne (by omega))
  generalize upm m47 Q 4 0 = m49 at hF50 hI51 ⊢
  refine Tx.aload_n hC te_106_36 rfl ?_
  refine Tx.iconst hC te_106_37 rfl ?_
  refine Tx.putI hC te_106_38 hQ.s0 rfl rfl rfl ?_
  have hF53 : Frm (pCh Q) mem (upm m49 Q 5 1) := Frm.up hF50 (by unfold pCh; omega)
  have hI54 : ChtOK (upm m49 Q 5 1) Q := ChtOK.fr2 hI51 (fun A i q => upm_ne (by omega))
  generalize upm m49 Q 5 1 = m52 at hF53 hI54 ⊢
  refine Tx.iconst hC te_106_41 rfl ?_
  refine Tx.istore hC te_106_42 rfl ?_
  exact l_44 _ 0 m52 (by omega) (hI54) (Nat.lt_succ_self _) hF53
