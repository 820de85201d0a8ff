section
/-! laid by wip/hand/tg.py: the web once more, draw -/
set_option maxRecDepth 100000 in
theorem mt_12 : MT[12]? = some M_12 := rfl
set_option maxRecDepth 100000 in
theorem mt_106 : MT[106]? = some M_106 := rfl
set_option maxRecDepth 100000 in
theorem mt_199 : MT[199]? = some M_199 := rfl
theorem te_12_0 : (pT M_12).find? (fun e => e.1 == 0) = some (0, .iconst 0, 0, 0) := rfl
theorem te_12_1 : (pT M_12).find? (fun e => e.1 == 1) = some (1, .istore_n 1, 0, 0) := rfl
theorem te_12_2 : (pT M_12).find? (fun e => e.1 == 2) = some (2, .iload_n 1, 0, 0) := rfl
theorem te_12_3 : (pT M_12).find? (fun e => e.1 == 3) = some (3, .aload_n 0, 0, 0) := rfl
theorem te_12_4 : (pT M_12).find? (fun e => e.1 == 4) = some (4, .getfield 33, 0, 0) := rfl
theorem te_12_7 : (pT M_12).find? (fun e => e.1 == 7) = some (7, .if_icmp .ge 48, 0, 0) := rfl
theorem te_12_10 : (pT M_12).find? (fun e => e.1 == 10) = some (10, .iconst 0, 0, 0) := rfl
theorem te_12_11 : (pT M_12).find? (fun e => e.1 == 11) = some (11, .istore_n 2, 0, 0) := rfl
theorem te_12_12 : (pT M_12).find? (fun e => e.1 == 12) = some (12, .iload_n 2, 0, 0) := rfl
theorem te_12_13 : (pT M_12).find? (fun e => e.1 == 13) = some (13, .aload_n 0, 0, 0) := rfl
theorem te_12_14 : (pT M_12).find? (fun e => e.1 == 14) = some (14, .iload_n 1, 0, 0) := rfl
theorem te_12_15 : (pT M_12).find? (fun e => e.1 == 15) = some (15, .invokevirtual 37, 13, 0) := rfl
theorem te_12_18 : (pT M_12).find? (fun e => e.1 == 18) = some (18, .if_icmp .ge 31, 0, 0) := rfl
theorem te_12_21 : (pT M_12).find? (fun e => e.1 == 21) = some (21, .aload_n 0, 0, 0) := rfl
theorem te_12_22 : (pT M_12).find? (fun e => e.1 == 22) = some (22, .iload_n 1, 0, 0) := rfl
theorem te_12_23 : (pT M_12).find? (fun e => e.1 == 23) = some (23, .aload_n 0, 0, 0) := rfl
theorem te_12_24 : (pT M_12).find? (fun e => e.1 == 24) = some (24, .iload_n 1, 0, 0) := rfl
theorem te_12_25 : (pT M_12).find? (fun e => e.1 == 25) = some (25, .iload_n 2, 0, 0) := rfl
theorem te_12_26 : (pT M_12).find? (fun e => e.1 == 26) = some (26, .invokevirtual 41, 14, 0) := rfl
theorem te_12_29 : (pT M_12).find? (fun e => e.1 == 29) = some (29, .aload_n 0, 0, 0) := rfl
theorem te_12_30 : (pT M_12).find? (fun e => e.1 == 30) = some (30, .iload_n 1, 0, 0) := rfl
theorem te_12_31 : (pT M_12).find? (fun e => e.1 == 31) = some (31, .iload_n 2, 0, 0) := rfl
theorem te_12_32 : (pT M_12).find? (fun e => e.1 == 32) = some (32, .invokevirtual 45, 15, 0) := rfl
theorem te_12_35 : (pT M_12).find? (fun e => e.1 == 35) = some (35, .invokevirtual 48, 16, 0) := rfl
theorem te_12_38 : (pT M_12).find? (fun e => e.1 == 38) = some (38, .ifCond .ne 5, 0, 0) := rfl
theorem te_12_41 : (pT M_12).find? (fun e => e.1 == 41) = some (41, .iconst 0, 0, 0) := rfl
theorem te_12_42 : (pT M_12).find? (fun e => e.1 == 42) = some (42, .ireturn, 0, 0) := rfl
theorem te_12_43 : (pT M_12).find? (fun e => e.1 == 43) = some (43, .iinc 2 1, 0, 0) := rfl
theorem te_12_46 : (pT M_12).find? (fun e => e.1 == 46) = some (46, .goto (-34), 0, 0) := rfl
theorem te_12_49 : (pT M_12).find? (fun e => e.1 == 49) = some (49, .iinc 1 1, 0, 0) := rfl
theorem te_12_52 : (pT M_12).find? (fun e => e.1 == 52) = some (52, .goto (-50), 0, 0) := rfl
theorem te_12_55 : (pT M_12).find? (fun e => e.1 == 55) = some (55, .iconst 1, 0, 0) := rfl
theorem te_12_56 : (pT M_12).find? (fun e => e.1 == 56) = some (56, .ireturn, 0, 0) := rfl
theorem te_106_0 : (pT M_106).find? (fun e => e.1 == 0) = some (0, .aload_n 0, 0, 0) := rfl
theorem te_106_1 : (pT M_106).find? (fun e => e.1 == 1) = some (1, .aload_n 1, 0, 0) := rfl
theorem te_106_2 : (pT M_106).find? (fun e => e.1 == 2) = some (2, .getfield 34, 0, 0) := rfl
theorem te_106_5 : (pT M_106).find? (fun e => e.1 == 5) = some (5, .putfield 39, 1, 2) := rfl
theorem te_106_8 : (pT M_106).find? (fun e => e.1 == 8) = some (8, .aload_n 0, 0, 0) := rfl
theorem te_106_9 : (pT M_106).find? (fun e => e.1 == 9) = some (9, .iload 4, 0, 0) := rfl
theorem te_106_11 : (pT M_106).find? (fun e => e.1 == 11) = some (11, .putfield 9, 1, 3) := rfl
theorem te_106_14 : (pT M_106).find? (fun e => e.1 == 14) = some (14, .aload_n 3, 0, 0) := rfl
theorem te_106_15 : (pT M_106).find? (fun e => e.1 == 15) = some (15, .iconst 0, 0, 0) := rfl
theorem te_106_16 : (pT M_106).find? (fun e => e.1 == 16) = some (16, .aload_n 0, 0, 0) := rfl
theorem te_106_17 : (pT M_106).find? (fun e => e.1 == 17) = some (17, .getfield 15, 1, 8) := rfl
theorem te_106_20 : (pT M_106).find? (fun e => e.1 == 20) = some (20, .iconst 0, 0, 0) := rfl
theorem te_106_21 : (pT M_106).find? (fun e => e.1 == 21) = some (21, .bipush 8, 0, 0) := rfl
theorem te_106_23 : (pT M_106).find? (fun e => e.1 == 23) = some (23, .invokestatic 40, 0, 7) := rfl
theorem te_106_26 : (pT M_106).find? (fun e => e.1 == 26) = some (26, .aload_n 0, 0, 0) := rfl
theorem te_106_27 : (pT M_106).find? (fun e => e.1 == 27) = some (27, .aload_n 2, 0, 0) := rfl
theorem te_106_28 : (pT M_106).find? (fun e => e.1 == 28) = some (28, .invokevirtual 46, 107, 0) := rfl
theorem te_106_31 : (pT M_106).find? (fun e => e.1 == 31) = some (31, .aload_n 0, 0, 0) := rfl
theorem te_106_32 : (pT M_106).find? (fun e => e.1 == 32) = some (32, .iconst 0, 0, 0) := rfl
theorem te_106_33 : (pT M_106).find? (fun e => e.1 == 33) = some (33, .putfield 50, 1, 4) := rfl
theorem te_106_36 : (pT M_106).find? (fun e => e.1 == 36) = some (36, .aload_n 0, 0, 0) := rfl
theorem te_106_37 : (pT M_106).find? (fun e => e.1 == 37) = some (37, .iconst 1, 0, 0) := rfl
theorem te_106_38 : (pT M_106).find? (fun e => e.1 == 38) = some (38, .putfield 53, 1, 5) := rfl
theorem te_106_41 : (pT M_106).find? (fun e => e.1 == 41) = some (41, .iconst 0, 0, 0) := rfl
theorem te_106_42 : (pT M_106).find? (fun e => e.1 == 42) = some (42, .istore 5, 0, 0) := rfl
theorem te_106_44 : (pT M_106).find? (fun e => e.1 == 44) = some (44, .iload 5, 0, 0) := rfl
theorem te_106_46 : (pT M_106).find? (fun e => e.1 == 46) = some (46, .aload_n 0, 0, 0) := rfl
theorem te_106_47 : (pT M_106).find? (fun e => e.1 == 47) = some (47, .getfield 39, 1, 2) := rfl
theorem te_106_50 : (pT M_106).find? (fun e => e.1 == 50) = some (50, .if_icmp .ge 67, 0, 0) := rfl
theorem te_106_53 : (pT M_106).find? (fun e => e.1 == 53) = some (53, .aload_n 0, 0, 0) := rfl
theorem te_106_54 : (pT M_106).find? (fun e => e.1 == 54) = some (54, .getfield 22, 1, 10) := rfl
theorem te_106_57 : (pT M_106).find? (fun e => e.1 == 57) = some (57, .iload 5, 0, 0) := rfl
theorem te_106_59 : (pT M_106).find? (fun e => e.1 == 59) = some (59, .aload_n 0, 0, 0) := rfl
theorem te_106_60 : (pT M_106).find? (fun e => e.1 == 60) = some (60, .getfield 19, 1, 9) := rfl
theorem te_106_63 : (pT M_106).find? (fun e => e.1 == 63) = some (63, .iload 5, 0, 0) := rfl
theorem te_106_65 : (pT M_106).find? (fun e => e.1 == 65) = some (65, .iaload, 0, 0) := rfl
theorem te_106_66 : (pT M_106).find? (fun e => e.1 == 66) = some (66, .aload_n 1, 0, 0) := rfl
theorem te_106_67 : (pT M_106).find? (fun e => e.1 == 67) = some (67, .iload 5, 0, 0) := rfl
theorem te_106_69 : (pT M_106).find? (fun e => e.1 == 69) = some (69, .invokevirtual 56, 19, 1) := rfl
theorem te_106_72 : (pT M_106).find? (fun e => e.1 == 72) = some (72, .iadd, 0, 0) := rfl
theorem te_106_73 : (pT M_106).find? (fun e => e.1 == 73) = some (73, .iastore, 0, 0) := rfl
theorem te_106_74 : (pT M_106).find? (fun e => e.1 == 74) = some (74, .aload_n 0, 0, 0) := rfl
theorem te_106_75 : (pT M_106).find? (fun e => e.1 == 75) = some (75, .aload_n 0, 0, 0) := rfl
theorem te_106_76 : (pT M_106).find? (fun e => e.1 == 76) = some (76, .getfield 50, 1, 4) := rfl
theorem te_106_79 : (pT M_106).find? (fun e => e.1 == 79) = some (79, .aload_n 0, 0, 0) := rfl
theorem te_106_80 : (pT M_106).find? (fun e => e.1 == 80) = some (80, .getfield 22, 1, 10) := rfl
theorem te_106_83 : (pT M_106).find? (fun e => e.1 == 83) = some (83, .iload 5, 0, 0) := rfl
theorem te_106_85 : (pT M_106).find? (fun e => e.1 == 85) = some (85, .iaload, 0, 0) := rfl
theorem te_106_86 : (pT M_106).find? (fun e => e.1 == 86) = some (86, .invokestatic 60, 40, 2) := rfl
theorem te_106_89 : (pT M_106).find? (fun e => e.1 == 89) = some (89, .putfield 50, 1, 4) := rfl
theorem te_106_92 : (pT M_106).find? (fun e => e.1 == 92) = some (92, .aload_n 0, 0, 0) := rfl
theorem te_106_93 : (pT M_106).find? (fun e => e.1 == 93) = some (93, .aload_n 0, 0, 0) := rfl
theorem te_106_94 : (pT M_106).find? (fun e => e.1 == 94) = some (94, .getfield 53, 1, 5) := rfl
theorem te_106_97 : (pT M_106).find? (fun e => e.1 == 97) = some (97, .aload_n 0, 0, 0) := rfl
theorem te_106_98 : (pT M_106).find? (fun e => e.1 == 98) = some (98, .iload 5, 0, 0) := rfl
theorem te_106_100 : (pT M_106).find? (fun e => e.1 == 100) = some (100, .invokevirtual 66, 108, 0) := rfl
theorem te_106_103 : (pT M_106).find? (fun e => e.1 == 103) = some (103, .iconst 1, 0, 0) := rfl
theorem te_106_104 : (pT M_106).find? (fun e => e.1 == 104) = some (104, .iadd, 0, 0) := rfl
theorem te_106_105 : (pT M_106).find? (fun e => e.1 == 105) = some (105, .invokestatic 60, 40, 2) := rfl
theorem te_106_108 : (pT M_106).find? (fun e => e.1 == 108) = some (108, .putfield 53, 1, 5) := rfl
theorem te_106_111 : (pT M_106).find? (fun e => e.1 == 111) = some (111, .iinc 5 1, 0, 0) := rfl
theorem te_106_114 : (pT M_106).find? (fun e => e.1 == 114) = some (114, .goto (-70), 0, 0) := rfl
theorem te_106_117 : (pT M_106).find? (fun e => e.1 == 117) = some (117, .aload_n 0, 0, 0) := rfl
theorem te_106_118 : (pT M_106).find? (fun e => e.1 == 118) = some (118, .aload_n 1, 0, 0) := rfl
theorem te_106_119 : (pT M_106).find? (fun e => e.1 == 119) = some (119, .invokevirtual 69, 109, 0) := rfl
theorem te_106_122 : (pT M_106).find? (fun e => e.1 == 122) = some (122, .aload_n 0, 0, 0) := rfl
theorem te_106_123 : (pT M_106).find? (fun e => e.1 == 123) = some (123, .aload_n 1, 0, 0) := rfl
theorem te_106_124 : (pT M_106).find? (fun e => e.1 == 124) = some (124, .invokevirtual 73, 110, 0) := rfl
theorem te_106_127 : (pT M_106).find? (fun e => e.1 == 127) = some (127, .return_, 0, 0) := rfl
theorem te_199_0 : (pT M_199).find? (fun e => e.1 == 0) = some (0, .aload_n 0, 0, 0) := rfl
theorem te_199_1 : (pT M_199).find? (fun e => e.1 == 1) = some (1, .iconst 0, 0, 0) := rfl
theorem te_199_2 : (pT M_199).find? (fun e => e.1 == 2) = some (2, .putfield 35, 7, 0) := rfl
theorem te_199_5 : (pT M_199).find? (fun e => e.1 == 5) = some (5, .iconst 0, 0, 0) := rfl
theorem te_199_6 : (pT M_199).find? (fun e => e.1 == 6) = some (6, .istore_n 3, 0, 0) := rfl
theorem te_199_7 : (pT M_199).find? (fun e => e.1 == 7) = some (7, .iload_n 3, 0, 0) := rfl
theorem te_199_8 : (pT M_199).find? (fun e => e.1 == 8) = some (8, .aload_n 1, 0, 0) := rfl
theorem te_199_9 : (pT M_199).find? (fun e => e.1 == 9) = some (9, .getfield 35, 7, 0) := rfl
theorem te_199_12 : (pT M_199).find? (fun e => e.1 == 12) = some (12, .if_icmp .ge 56, 0, 0) := rfl
theorem te_199_15 : (pT M_199).find? (fun e => e.1 == 15) = some (15, .iload_n 3, 0, 0) := rfl
theorem te_199_16 : (pT M_199).find? (fun e => e.1 == 16) = some (16, .iload_n 2, 0, 0) := rfl
theorem te_199_17 : (pT M_199).find? (fun e => e.1 == 17) = some (17, .if_icmp .eq 45, 0, 0) := rfl
theorem te_199_20 : (pT M_199).find? (fun e => e.1 == 20) = some (20, .aload_n 0, 0, 0) := rfl
theorem te_199_21 : (pT M_199).find? (fun e => e.1 == 21) = some (21, .aload_n 0, 0, 0) := rfl
theorem te_199_22 : (pT M_199).find? (fun e => e.1 == 22) = some (22, .getfield 35, 7, 0) := rfl
theorem te_199_25 : (pT M_199).find? (fun e => e.1 == 25) = some (25, .aload_n 1, 0, 0) := rfl
theorem te_199_26 : (pT M_199).find? (fun e => e.1 == 26) = some (26, .getfield 11, 7, 1) := rfl
theorem te_199_29 : (pT M_199).find? (fun e => e.1 == 29) = some (29, .iload_n 3, 0, 0) := rfl
theorem te_199_30 : (pT M_199).find? (fun e => e.1 == 30) = some (30, .iaload, 0, 0) := rfl
theorem te_199_31 : (pT M_199).find? (fun e => e.1 == 31) = some (31, .aload_n 1, 0, 0) := rfl
theorem te_199_32 : (pT M_199).find? (fun e => e.1 == 32) = some (32, .getfield 15, 7, 2) := rfl
theorem te_199_35 : (pT M_199).find? (fun e => e.1 == 35) = some (35, .iload_n 3, 0, 0) := rfl
theorem te_199_36 : (pT M_199).find? (fun e => e.1 == 36) = some (36, .iaload, 0, 0) := rfl
theorem te_199_37 : (pT M_199).find? (fun e => e.1 == 37) = some (37, .aload_n 1, 0, 0) := rfl
theorem te_199_38 : (pT M_199).find? (fun e => e.1 == 38) = some (38, .getfield 18, 7, 3) := rfl
theorem te_199_41 : (pT M_199).find? (fun e => e.1 == 41) = some (41, .iload_n 3, 0, 0) := rfl
theorem te_199_42 : (pT M_199).find? (fun e => e.1 == 42) = some (42, .iaload, 0, 0) := rfl
theorem te_199_43 : (pT M_199).find? (fun e => e.1 == 43) = some (43, .aload_n 1, 0, 0) := rfl
theorem te_199_44 : (pT M_199).find? (fun e => e.1 == 44) = some (44, .getfield 21, 7, 4) := rfl
theorem te_199_47 : (pT M_199).find? (fun e => e.1 == 47) = some (47, .iload_n 3, 0, 0) := rfl
theorem te_199_48 : (pT M_199).find? (fun e => e.1 == 48) = some (48, .iaload, 0, 0) := rfl
theorem te_199_49 : (pT M_199).find? (fun e => e.1 == 49) = some (49, .invokevirtual 79, 22, 0) := rfl
theorem te_199_52 : (pT M_199).find? (fun e => e.1 == 52) = some (52, .aload_n 0, 0, 0) := rfl
theorem te_199_53 : (pT M_199).find? (fun e => e.1 == 53) = some (53, .dup, 0, 0) := rfl
theorem te_199_54 : (pT M_199).find? (fun e => e.1 == 54) = some (54, .getfield 35, 7, 0) := rfl
theorem te_199_57 : (pT M_199).find? (fun e => e.1 == 57) = some (57, .iconst 1, 0, 0) := rfl
theorem te_199_58 : (pT M_199).find? (fun e => e.1 == 58) = some (58, .iadd, 0, 0) := rfl
theorem te_199_59 : (pT M_199).find? (fun e => e.1 == 59) = some (59, .putfield 35, 7, 0) := rfl
theorem te_199_62 : (pT M_199).find? (fun e => e.1 == 62) = some (62, .iinc 3 1, 0, 0) := rfl
theorem te_199_65 : (pT M_199).find? (fun e => e.1 == 65) = some (65, .goto (-58), 0, 0) := rfl
theorem te_199_68 : (pT M_199).find? (fun e => e.1 == 68) = some (68, .return_, 0, 0) := rfl
theorem f_199 {S : Nat × (Nat → Int32)} {n : Nat} {mem : MM} {K : MM → Prop} {E : Nat → MM → Prop} (hW9 : WbOK mem 9) (hR14 : R64 mem 14) {l : Int} (H : ∀ m', Frm p14 mem m' → WbOK m' 14 → K m') : CQV (Ex S (n + 2)) 199 [.inr 14, .inr 9, .inl l] mem K E := by
  refine CY.of (k := 1) mt_199 rfl rfl (fun hv => ?_)
  have hC := Ex.mono S (n + 1)
  have ii_l : InI l := hv (.inl l) (by simp)
  unfold InI at ii_l
  clear hv
  have hw := hW9.2
  show Tx (Ex S (n + 1)) S M_199 (kV K E) 0 0 0 [some (.inr 14), some (.inr 9), some (.inl l), none] [] mem
  have l_7 : ∀ (N : Nat) (x3 : Int) (m_7 : MM), (0 ≤ x3 ∧ x3 ≤ 64) → (R64 m_7 14) → (0 ≤ m_7 14 0 ∧ m_7 14 0 ≤ x3) → ((64 - x3).toNat) < N → Frm p14 mem m_7 → Tx (Ex S (n + 1)) S M_199 (kV K E) 0 0 7 [some (.inr 14), some (.inr 9), some (.inl l), some (.inl x3)] [] m_7 := by
    intro N
    induction N with
    | zero => intros; omega
    | succ N ih_7 =>
      intro x3 m_7 i7_0 i7_1 i7_2 hN_7 hF_7
      refine Tx.iload_n hC te_199_7 rfl ?_
      refine Tx.aload_n hC te_199_8 rfl ?_
      refine Tx.getI hC te_199_9 rfl rfl rfl (fun v1 v1e v1i => ?_)
      unfold InI at v1i
      rw [hF_7 9 _ (by unfold p14; omega)] at v1e
      refine Tx.icmp hC (t := 68) te_199_12 (by decide) (fun q2 => ?_) (fun q2 => ?_)
      · replace q2 : v1 ≤ (x3 : Int) := q2
        exact Tx.vret hC te_199_68 rfl (show K m_7 from H _ hF_7 ⟨i7_1, by omega⟩)
      · replace q2 : ¬ (v1 ≤ (x3 : Int)) := q2
        refine Tx.iload_n hC te_199_15 rfl ?_
        refine Tx.iload_n hC te_199_16 rfl ?_
        refine Tx.icmp hC (t := 62) te_199_17 (by decide) (fun q3 => ?_) (fun q3 => ?_)
        · replace q3 : (x3 : Int) = l := q3
          refine Tx.iincW hC te_199_62 rfl rfl (fun z4 z4i z4e => ?_)
          unfold InI at z4i z4e
          first | replace z4e := z4e (by omega) | clear z4e
          refine Tx.goto hC (t := 7) te_199_65 (by decide) ?_
          exact ih_7 z4 m_7 (by omega) (i7_1) (by omega) (by omega) hF_7
        · replace q3 : ¬ ((x3 : Int) = l) := q3
          refine Tx.aload_n hC te_199_20 rfl ?_
          refine Tx.aload_n hC te_199_21 rfl ?_
          refine Tx.getI hC te_199_22 rfl rfl rfl (fun v5 v5e v5i => ?_)
          unfold InI at v5i
          refine Tx.aload_n hC te_199_25 rfl ?_
          refine Tx.getR hC te_199_26 rfl rfl rfl ?_
          refine Tx.iload_n hC te_199_29 rfl ?_
          refine Tx.iald hC te_199_30 rfl (by omega) (fun v6 v6e v6i => ?_)
          unfold InI at v6i
          rw [hF_7 10 _ (by unfold p14; omega)] at v6e
          have f7 : Rg (mem 10 (Int.toNat x3)) (mem 11 (Int.toNat x3)) (mem 12 (Int.toNat x3)) (mem 13 (Int.toNat x3)) := hW9.1 (Int.toNat x3) (by omega)
          unfold Rg at f7
          refine Tx.aload_n hC te_199_31 rfl ?_
          refine Tx.getR hC te_199_32 rfl rfl rfl ?_
          refine Tx.iload_n hC te_199_35 rfl ?_
          refine Tx.iald hC te_199_36 rfl (by omega) (fun v8 v8e v8i => ?_)
          unfold InI at v8i
          rw [hF_7 11 _ (by unfold p14; omega)] at v8e
          have f9 : Rg (mem 10 (Int.toNat x3)) (mem 11 (Int.toNat x3)) (mem 12 (Int.toNat x3)) (mem 13 (Int.toNat x3)) := hW9.1 (Int.toNat x3) (by omega)
          unfold Rg at f9
          refine Tx.aload_n hC te_199_37 rfl ?_
          refine Tx.getR hC te_199_38 rfl rfl rfl ?_
          refine Tx.iload_n hC te_199_41 rfl ?_
          refine Tx.iald hC te_199_42 rfl (by omega) (fun v10 v10e v10i => ?_)
          unfold InI at v10i
          rw [hF_7 12 _ (by unfold p14; omega)] at v10e
          have f11 : Rg (mem 10 (Int.toNat x3)) (mem 11 (Int.toNat x3)) (mem 12 (Int.toNat x3)) (mem 13 (Int.toNat x3)) := hW9.1 (Int.toNat x3) (by omega)
          unfold Rg at f11
          refine Tx.aload_n hC te_199_43 rfl ?_
          refine Tx.getR hC te_199_44 rfl rfl rfl ?_
          refine Tx.iload_n hC te_199_47 rfl ?_
          refine Tx.iald hC te_199_48 rfl (by omega) (fun v12 v12e v12i => ?_)
          unfold InI at v12i
          rw [hF_7 13 _ (by unfold p14; omega)] at v12e
          have f13 : Rg (mem 10 (Int.toNat x3)) (mem 11 (Int.toNat x3)) (mem 12 (Int.toNat x3)) (mem 13 (Int.toNat x3)) := hW9.1 (Int.toNat x3) (by omega)
          unfold Rg at f13
          refine Tx.virtV hC te_199_49 mt_22 (args := [.inr 14, .inl v5, .inl v6, .inl v8, .inl v10, .inl v12]) (rest := []) (c' := 0) (s' := 0) rfl rfl rfl rfl rfl rfl rfl rfl rfl rfl ?_
          refine CWV.q hC (f_22 (W := 14) ⟨rfl, rfl, rfl, rfl, rfl⟩ i7_1 (by omega) (by unfold Rg; omega) (fun m15 hF16 r14z r14t => ?_))
          have hF16n : Frm p14 mem m15 := hF_7.tr (fun A i q => hF16 A i (by unfold p14 at q; omega) (by unfold p14 at q; omega))
          refine Tx.aload_n hC te_199_52 rfl ?_
          refine Tx.dup hC te_199_53 ?_
          refine Tx.getI hC te_199_54 rfl rfl rfl (fun v17 v17e v17i => ?_)
          unfold InI at v17i
          refine Tx.iconst hC te_199_57 rfl ?_
          refine Tx.iaddW hC te_199_58 (fun z18 z18i z18e => ?_)
          unfold InI at z18i z18e
          first | replace z18e := z18e (by omega) | clear z18e
          refine Tx.putI hC te_199_59 rfl rfl rfl rfl ?_
          have hF20 : Frm p14 mem (upm m15 14 0 z18) := Frm.up hF16n (by unfold p14; omega)
          have hT21 : R64 (upm m15 14 0 z18) 14 := R64.up0 r14t
          have hZ22 : (upm m15 14 0 z18) 14 0 = z18 := upm_eq
          generalize upm m15 14 0 z18 = m19 at hF20 hT21 hZ22 ⊢
          refine Tx.iincW hC te_199_62 rfl rfl (fun z23 z23i z23e => ?_)
          unfold InI at z23i z23e
          first | replace z23e := z23e (by omega) | clear z23e
          refine Tx.goto hC (t := 7) te_199_65 (by decide) ?_
          exact ih_7 z23 m19 (by omega) (hT21) (by omega) (by omega) hF20
  refine Tx.aload_n hC te_199_0 rfl ?_
  refine Tx.iconst hC te_199_1 rfl ?_
  refine Tx.putI hC te_199_2 rfl rfl rfl rfl ?_
  have hF25 : Frm p14 mem (upm mem 14 0 0) := Frm.up Frm.rf (by unfold p14; omega)
  have hT26 : R64 (upm mem 14 0 0) 14 := R64.up0 hR14
  have hZ27 : (upm mem 14 0 0) 14 0 = 0 := upm_eq
  generalize upm mem 14 0 0 = m24 at hF25 hT26 hZ27 ⊢
  refine Tx.iconst hC te_199_5 rfl ?_
  refine Tx.istore_n hC te_199_6 rfl ?_
  exact l_7 _ 0 m24 (by omega) (hT26) (by omega) (Nat.lt_succ_self _) hF25
end
section
/-! laid by wip/hand/tg.py: soundness, exactly, in the class -/
def SrcC (m : MM) (o k : Nat) : Prop := m 3 (4 * o + 2 * k) < 0 ∨ (m 3 (4 * o + 2 * k) < m 1 0 ∧ ¬ m 2 (m 3 (4 * o + 2 * k)).toNat = 5 ∧ (0 < m 3 (4 * o + 2 * k + 1) ∨ m 3 (4 * o + 2 * k) < o))
def SndX (m : MM) : Prop := ∀ o k : Nat, (o : Int) < m 1 0 → (k : Int) < csN m o → SrcC m o k
theorem SndX.fr {m m' : MM} (h : SndX m) (e : ∀ A i, 0 < A → A < 4 → m' A i = m A i) : SndX m' := fun o k ho hk => by
  rw [e 1 0 (by omega) (by omega)] at ho
  have ec : csN m' o = csN m o := by unfold csN; rw [e 2 o (by omega) (by omega)]
  rw [ec] at hk
  have := h o k ho hk
  unfold SrcC at this ⊢
  rw [e 3 _ (by omega) (by omega), e 3 _ (by omega) (by omega), e 1 0 (by omega) (by omega), e 2 _ (by omega) (by omega)]; exact this
theorem SndX.iff {m m' : MM} (e : ∀ A i, 0 < A → A < 4 → m' A i = m A i) : SndX m ↔ SndX m' := ⟨fun h => h.fr e, fun h => h.fr (fun A i a b => (e A i a b).symm)⟩
theorem SX.fr {m m' : MM} (h : m 0 10 = 1 ↔ SndX m) (e0 : m' 0 10 = m 0 10) (e : ∀ A i, 0 < A → A < 4 → m' A i = m A i) : m' 0 10 = 1 ↔ SndX m' := by rw [e0]; exact h.trans (SndX.iff e)
theorem SndX.snd {m : MM} (h : SndX m) : Snd m := fun o k ho hk => by
  have := h o k ho hk
  unfold SrcC at this
  omega
theorem f_16x {S : Nat × (Nat → Int32)} {n : Nat} {mem : MM} {K : Int → MM → Prop} {E : Nat → MM → Prop} (hB : BodyOK mem) {o s d : Int} {k : Nat} (ho : 0 ≤ o) (hs : s = mem 3 (4 * o.toNat + 2 * k)) (hd : d = mem 3 (4 * o.toNat + 2 * k + 1)) (H : ∀ r, (r = 0 ∨ r = 1) → (r = 1 ↔ SrcC mem o.toNat k) → K r mem) : CQI (Ex S (n + 1)) 16 [.inr 1, .inl o, .inl s, .inl d] mem K E := by
  refine CY.of (k := 0) mt_16 rfl rfl (fun hv => ?_)
  have hC := Ex.mono S n
  have ii_o : InI o := hv (.inl o) (by simp)
  unfold InI at ii_o
  have ii_s : InI s := hv (.inl s) (by simp)
  unfold InI at ii_s
  have ii_d : InI d := hv (.inl d) (by simp)
  unfold InI at ii_d
  clear hv
  have h8 := hB.1
  have hSC : SrcC mem o.toNat k ↔ (s < 0 ∨ (s < mem 1 0 ∧ ¬ mem 2 s.toNat = 5 ∧ (0 < d ∨ s < o))) := by unfold SrcC; rw [← hs, ← hd, Int.toNat_of_nonneg ho]
  show Tx (Ex S n) S M_16 (kI K E) 0 0 0 [some (.inr 1), some (.inl o), some (.inl s), some (.inl d)] [] mem
  refine Tx.iload_n hC te_16_0 rfl ?_
  refine Tx.ifc hC (t := 6) te_16_1 (by decide) (fun q1 => ?_) (fun q1 => ?_)
  · replace q1 : 0 ≤ (s : Int) := q1
    refine Tx.iload_n hC te_16_6 rfl ?_
    refine Tx.aload_n hC te_16_7 rfl ?_
    refine Tx.getI hC te_16_8 rfl rfl rfl (fun v2 v2e v2i => ?_)
    unfold InI at v2i
    refine Tx.icmp hC (t := 24) te_16_11 (by decide) (fun q3 => ?_) (fun q3 => ?_)
    · replace q3 : v2 ≤ (s : Int) := q3
      refine Tx.iconst hC te_16_24 rfl ?_
      exact Tx.bret hC te_16_25 rfl (by omega) (show K 0 mem from H 0 (by omega) (by rw [hSC]; omega))
    · replace q3 : ¬ (v2 ≤ (s : Int)) := q3
      refine Tx.aload_n hC te_16_14 rfl ?_
      refine Tx.getR hC te_16_15 rfl rfl rfl ?_
      refine Tx.iload_n hC te_16_18 rfl ?_
      refine Tx.iald hC te_16_19 rfl (by omega) (fun v4 v4e v4i => ?_)
      unfold InI at v4i
      have f5 := hB.kd (o := (Int.toNat s)) (by omega)
      refine Tx.iconst hC te_16_20 rfl ?_
      refine Tx.icmp hC (t := 26) te_16_21 (by decide) (fun q6 => ?_) (fun q6 => ?_)
      · replace q6 : ¬ (v4 : Int) = 5 := q6
        refine Tx.iload_n hC te_16_26 rfl ?_
        refine Tx.ifc hC (t := 35) te_16_27 (by decide) (fun q7 => ?_) (fun q7 => ?_)
        · replace q7 : 0 < (d : Int) := q7
          refine Tx.iconst hC te_16_35 rfl ?_
          refine Tx.goto hC (t := 40) te_16_36 (by decide) ?_
          exact Tx.bret hC te_16_40 rfl (by omega) (show K 1 mem from H 1 (by omega) (by rw [hSC]; omega))
        · replace q7 : ¬ (0 < (d : Int)) := q7
          refine Tx.iload_n hC te_16_30 rfl ?_
          refine Tx.iload_n hC te_16_31 rfl ?_
          refine Tx.icmp hC (t := 39) te_16_32 (by decide) (fun q8 => ?_) (fun q8 => ?_)
          · replace q8 : o ≤ (s : Int) := q8
            refine Tx.iconst hC te_16_39 rfl ?_
            exact Tx.bret hC te_16_40 rfl (by omega) (show K 0 mem from H 0 (by omega) (by rw [hSC]; omega))
          · replace q8 : ¬ (o ≤ (s : Int)) := q8
            refine Tx.iconst hC te_16_35 rfl ?_
            refine Tx.goto hC (t := 40) te_16_36 (by decide) ?_
            exact Tx.bret hC te_16_40 rfl (by omega) (show K 1 mem from H 1 (by omega) (by rw [hSC]; omega))
      · replace q6 : ¬ (¬ (v4 : Int) = 5) := q6
        refine Tx.iconst hC te_16_24 rfl ?_
        exact Tx.bret hC te_16_25 rfl (by omega) (show K 0 mem from H 0 (by omega) (by rw [hSC]; omega))
  · replace q1 : ¬ (0 ≤ (s : Int)) := q1
    refine Tx.iconst hC te_16_4 rfl ?_
    exact Tx.bret hC te_16_5 rfl (by omega) (show K 1 mem from H 1 (by omega) (by rw [hSC]; omega))
theorem f_12x {S : Nat × (Nat → Int32)} {n : Nat} {mem : MM} {K : Int → MM → Prop} {E : Nat → MM → Prop} (hB : BodyOK mem) (H : ∀ r, r = 0 ∨ r = 1 → (r = 1 ↔ SndX mem) → K r mem) : CQI (Ex S (n + 2)) 12 [.inr 1] mem K E := by
  refine CY.of (k := 2) mt_12 rfl rfl (fun hv => ?_)
  have hC := Ex.mono S (n + 1)
  clear hv
  have h8 := hB.1
  show Tx (Ex S (n + 1)) S M_12 (kI K E) 0 0 0 [some (.inr 1), none, none] [] mem
  have l_2 : ∀ (N : Nat) (x1 : Int), (0 ≤ x1) → (∀ o k : Nat, (o : Int) < x1 → (k : Int) < csN mem o → SrcC mem o k) → ((8 - x1).toNat) < N → Tx (Ex S (n + 1)) S M_12 (kI K E) 0 0 2 [some (.inr 1), some (.inl x1), none] [] mem := by
    intro N
    induction N with
    | zero => intros; omega
    | succ N ih_2 =>
      intro x1 i2_0 i2_1 hN_2 
      have l_12 : ∀ (N : Nat) (x2 : Int), (0 ≤ x2) → (∀ k : Nat, (k : Int) < x2 → SrcC mem (Int.toNat x1) k) → (0 ≤ x1 ∧ x1 < mem 1 0) → ((3 - x2).toNat) < N → Tx (Ex S (n + 1)) S M_12 (kI K E) 0 0 12 [some (.inr 1), some (.inl x1), some (.inl x2)] [] mem := by
        intro N
        induction N with
        | zero => intros; omega
        | succ N ih_12 =>
          intro x2 i12_0 i12_1 i12_2 hN_12 
          refine Tx.iload_n hC te_12_12 rfl ?_
          refine Tx.aload_n hC te_12_13 rfl ?_
          refine Tx.iload_n hC te_12_14 rfl ?_
          refine Tx.virtI hC te_12_15 mt_13 (args := [.inr 1, .inl x1]) (rest := [.inl x2]) (c' := 0) (s' := 0) rfl rfl rfl rfl rfl rfl rfl rfl rfl rfl ?_
          refine f_13q (by omega) (fun r1 r1e r1a r1b r1i => ?_)
          unfold InI at r1i
          refine Tx.icmp hC (t := 49) te_12_18 (by decide) (fun q4 => ?_) (fun q4 => ?_)
          · replace q4 : r1 ≤ (x2 : Int) := q4
            refine Tx.iincW hC te_12_49 rfl rfl (fun z5 z5i z5e => ?_)
            unfold InI at z5i z5e
            first | replace z5e := z5e (by omega) | clear z5e
            refine Tx.goto hC (t := 2) te_12_52 (by decide) ?_
            exact Tx.weak (by repeat' (first | exact trivial | exact rfl | constructor)) (ih_2 z5 (by omega) (fun o k ho hk => (Classical.em ((o : Int) < x1)).elim (fun q => i2_1 o k q hk) (fun q => by have e : o = Int.toNat x1 := by { omega }; subst e; exact i12_1 k (by omega))) (by omega))
          · replace q4 : ¬ (r1 ≤ (x2 : Int)) := q4
            refine Tx.aload_n hC te_12_21 rfl ?_
            refine Tx.iload_n hC te_12_22 rfl ?_
            refine Tx.aload_n hC te_12_23 rfl ?_
            refine Tx.iload_n hC te_12_24 rfl ?_
            refine Tx.iload_n hC te_12_25 rfl ?_
            refine Tx.virtI hC te_12_26 mt_14 (args := [.inr 1, .inl x1, .inl x2]) (rest := [.inl x1, .inr 1]) (c' := 0) (s' := 0) rfl rfl rfl rfl rfl rfl rfl rfl rfl rfl ?_
            refine f_14q (by omega) (by omega) (fun r6 r6e r6i => ?_)
            unfold InI at r6i
            refine Tx.aload_n hC te_12_29 rfl ?_
            refine Tx.iload_n hC te_12_30 rfl ?_
            refine Tx.iload_n hC te_12_31 rfl ?_
            refine Tx.virtI hC te_12_32 mt_15 (args := [.inr 1, .inl x1, .inl x2]) (rest := [.inl r6, .inl x1, .inr 1]) (c' := 0) (s' := 0) rfl rfl rfl rfl rfl rfl rfl rfl rfl rfl ?_
            refine f_15q (by omega) (by omega) (fun r9 r9e r9i => ?_)
            unfold InI at r9i
            refine Tx.virtI hC te_12_35 mt_16 (args := [.inr 1, .inl x1, .inl r6, .inl r9]) (rest := []) (c' := 0) (s' := 0) rfl rfl rfl rfl rfl rfl rfl rfl rfl rfl ?_
            refine f_16x (k := Int.toNat x2) hB (by omega) (by assumption) (by assumption) (fun r12 r12b r12f r12i => ?_)
            unfold InI at r12i
            refine Tx.ifc hC (t := 43) te_12_38 (by decide) (fun q15 => ?_) (fun q15 => ?_)
            · replace q15 : ¬ (r12 : Int) = 0 := q15
              refine Tx.iincW hC te_12_43 rfl rfl (fun z16 z16i z16e => ?_)
              unfold InI at z16i z16e
              first | replace z16e := z16e (by omega) | clear z16e
              refine Tx.goto hC (t := 12) te_12_46 (by decide) ?_
              exact ih_12 z16 (by omega) (fun k hk => (Classical.em ((k : Int) < x2)).elim (fun q => i12_1 k q) (fun q => by rw [show k = Int.toNat x2 by omega]; exact r12f.mp (by omega))) (by omega) (by omega)
            · replace q15 : ¬ (¬ (r12 : Int) = 0) := q15
              refine Tx.iconst hC te_12_41 rfl ?_
              exact Tx.bret hC te_12_42 rfl (by omega) (show K 0 mem from H 0 (by omega) ⟨fun q => absurd q (by omega), fun q => absurd (r12f.mpr (q _ _ (by omega) (by omega))) (by omega)⟩)
      refine Tx.iload_n hC te_12_2 rfl ?_
      refine Tx.aload_n hC te_12_3 rfl ?_
      refine Tx.getI hC te_12_4 rfl rfl rfl (fun v17 v17e v17i => ?_)
      unfold InI at v17i
      refine Tx.icmp hC (t := 55) te_12_7 (by decide) (fun q18 => ?_) (fun q18 => ?_)
      · replace q18 : v17 ≤ (x1 : Int) := q18
        refine Tx.iconst hC te_12_55 rfl ?_
        exact Tx.bret hC te_12_56 rfl (by omega) (show K 1 mem from H 1 (by omega) ⟨fun _ o k ho hk => i2_1 o k (by omega) hk, fun _ => rfl⟩)
      · replace q18 : ¬ (v17 ≤ (x1 : Int)) := q18
        refine Tx.iconst hC te_12_10 rfl ?_
        refine Tx.istore_n hC te_12_11 rfl ?_
        exact l_12 _ 0 (by omega) (fun k hk => absurd hk (by omega)) (by omega) (Nat.lt_succ_self _)
  refine Tx.iconst hC te_12_0 rfl ?_
  refine Tx.istore_n hC te_12_1 rfl ?_
  exact l_2 _ 0 (by omega) (fun o k ho hk => absurd ho (by omega)) (Nat.lt_succ_self _)
end
section
/-! strictly rising rows of needs, and what they hold -/
abbrev Q4 : Type := Int × Int × Int × Int
def lt4 (x y : Q4) : Prop := x.1 < y.1 ∨ (x.1 = y.1 ∧ (x.2.1 < y.2.1 ∨ (x.2.1 = y.2.1 ∧ (x.2.2.1 < y.2.2.1 ∨ (x.2.2.1 = y.2.2.1 ∧ x.2.2.2 < y.2.2.2)))))
theorem lt4.irr {x : Q4} (h : lt4 x x) : False := by unfold lt4 at h; omega
theorem lt4.tr {x y z : Q4} (h : lt4 x y) (g : lt4 y z) : lt4 x z := by unfold lt4 at *; omega
theorem lt4.tri (x y : Q4) : lt4 x y ∨ x = y ∨ lt4 y x := by
  obtain ⟨a, b, c, d⟩ := x
  obtain ⟨a', b', c', d'⟩ := y
  by_cases h : a = a' ∧ b = b' ∧ c = c' ∧ d = d'
  · obtain ⟨rfl, rfl, rfl, rfl⟩ := h
    exact Or.inr (Or.inl rfl)
  · have : lt4 (a, b, c, d) (a', b', c', d') ∨ lt4 (a', b', c', d') (a, b, c, d) := by
      simp only [lt4]
      omega
    exact this.elim Or.inl (fun q => Or.inr (Or.inr q))
def Enum (c : Nat → Q4) (n : Nat) (P : Q4 → Prop) : Prop := (∀ i j : Nat, i < j → j < n → lt4 (c i) (c j)) ∧ (∀ i, i < n → P (c i)) ∧ ∀ q, P q → ∃ i, i < n ∧ c i = q
theorem Enum.le {c : Nat → Q4} {n : Nat} {P : Q4 → Prop} (h : Enum c n P) {i j : Nat} (hi : i < n) (hj : j < n) (q : lt4 (c i) (c j)) : i < j := by
  by_cases w : i < j
  · exact w
  · by_cases e : i = j
    · subst e; exact (lt4.irr q).elim
    · exact (lt4.irr (q.tr (h.1 j i (by omega) hi))).elim
theorem Enum.inj {c : Nat → Q4} {n : Nat} {P : Q4 → Prop} (h : Enum c n P) {i j : Nat} (hi : i < n) (hj : j < n) (q : c i = c j) : i = j := by
  by_cases w : i < j
  · have := h.1 i j w hj
    rw [q] at this
    exact (lt4.irr this).elim
  · by_cases e : i = j
    · exact e
    · have := h.1 j i (by omega) hi
      rw [q] at this
      exact (lt4.irr this).elim
theorem Enum.key {c c' : Nat → Q4} {n n' : Nat} {P P' : Q4 → Prop} (h : Enum c n P) (h' : Enum c' n' P') (e : ∀ q, P q ↔ P' q) : ∀ i, i < n → i < n' ∧ c i = c' i := by
  intro i
  induction i using Nat.strongRecOn with
  | _ i ih =>
    intro hi
    obtain ⟨j, hj, ej⟩ := h'.2.2 (c i) ((e _).mp (h.2.1 i hi))
    have hij : i ≤ j := by
      by_cases w : j < i
      · have q := (ih j w (by omega)).2
        have := h.inj (i := j) (j := i) (by omega) hi (q.trans ej)
        omega
      · omega
    by_cases w : i = j
    · subst w; exact ⟨hj, ej.symm⟩
    · have hi' : i < n' := by omega
      obtain ⟨k, hk, ek⟩ := h.2.2 (c' i) ((e _).mpr (h'.2.1 i hi'))
      have l1 : lt4 (c k) (c i) := by rw [ek, ← ej]; exact h'.1 i j (by omega) hj
      have k1 := h.le hk hi l1
      have q := (ih k k1 hk).2
      have := h'.inj (i := k) (j := i) (by omega) hi' (q.symm.trans ek)
      omega
theorem Enum.uniq {c c' : Nat → Q4} {n n' : Nat} {P P' : Q4 → Prop} (h : Enum c n P) (h' : Enum c' n' P') (e : ∀ q, P q ↔ P' q) : n = n' ∧ ∀ i, i < n → c i = c' i := by
  have k1 := h.key h' e
  have k2 := h'.key h (fun q => (e q).symm)
  refine ⟨?_, fun i hi => (k1 i hi).2⟩
  by_cases a : n < n'
  · have := (k2 n a).1; omega
  · by_cases b : n' < n
    · have := (k1 n' b).1; omega
    · omega
theorem Enum.cg {c c' : Nat → Q4} {n n' : Nat} {P P' : Q4 → Prop} (h : Enum c n P) (hn : n' = n) (e : ∀ i, i < n → c' i = c i) (eP : ∀ q, P q ↔ P' q) : Enum c' n' P' := by
  subst hn
  refine ⟨fun i j hij hj => ?_, fun i hi => ?_, fun q hq => ?_⟩
  · rw [e i (by omega), e j hj]; exact h.1 i j hij hj
  · rw [e i hi]; exact (eP _).mp (h.2.1 i hi)
  · obtain ⟨i, hi, ei⟩ := h.2.2 q ((eP q).mpr hq)
    exact ⟨i, hi, (e i hi).trans ei⟩
theorem Enum.ins {c c' : Nat → Q4} {n t : Nat} {P : Q4 → Prop} {q : Q4} (h : Enum c n P) (ht : t ≤ n) (lo : ∀ i, i < t → lt4 (c i) q) (hi : ∀ i, t ≤ i → i < n → lt4 q (c i)) (e1 : ∀ i, i < t → c' i = c i) (e2 : c' t = q) (e3 : ∀ i, t ≤ i → i < n → c' (i + 1) = c i) : Enum c' (n + 1) (fun x => P x ∨ x = q) := by
  have up : ∀ j, t < j → j < n + 1 → c' j = c (j - 1) := fun j a b => by
    have := e3 (j - 1) (by omega) (by omega)
    rw [show j - 1 + 1 = j by omega] at this
    exact this
  refine ⟨fun i j hij hj => ?_, fun i hi' => ?_, fun x hx => ?_⟩
  · by_cases a : j < t
    · rw [e1 i (by omega), e1 j a]; exact h.1 i j hij (by omega)
    · by_cases b : j = t
      · subst b; rw [e1 i hij, e2]; exact lo i hij
      · rw [up j (by omega) hj]
        by_cases d : i < t
        · rw [e1 i d]
          by_cases f : i = j - 1
          · omega
          · exact h.1 i (j - 1) (by omega) (by omega)
        · by_cases f : i = t
          · subst f; rw [e2]; exact hi (j - 1) (by omega) (by omega)
          · rw [up i (by omega) (by omega)]; exact h.1 (i - 1) (j - 1) (by omega) (by omega)
  · by_cases a : i < t
    · rw [e1 i a]; exact Or.inl (h.2.1 i (by omega))
    · by_cases b : i = t
      · subst b; exact Or.inr e2
      · rw [up i (by omega) hi']; exact Or.inl (h.2.1 (i - 1) (by omega))
  · rcases hx with hx | hx
    · obtain ⟨i, hi', ei⟩ := h.2.2 x hx
      by_cases a : i < t
      · exact ⟨i, by omega, (e1 i a).trans ei⟩
      · exact ⟨i + 1, by omega, (e3 i (by omega) hi').trans ei⟩
    · subst hx; exact ⟨t, by omega, e2⟩
theorem Enum.nil {c : Nat → Q4} : Enum c 0 (fun _ => False) := ⟨fun i j _ h => by omega, fun i h => by omega, fun _ h => h.elim⟩
def NdR (kd row pl la : Nat → Int) (s o : Nat) (x : Q4) : Prop := kd s = 5 ∧ row o = row s ∧ ((kd o = 4 ∧ (pl o < pl s ∨ (pl s = pl o ∧ s < o)) ∧ x = ((s : Int), (o : Int), pl s - pl o, la s)) ∨ (kd o = 4 ∧ ¬ (pl o < pl s ∨ (pl s = pl o ∧ s < o)) ∧ x = ((o : Int), (s : Int), pl o - pl s, 1 - la s)) ∨ (kd o = 5 ∧ (pl o < pl s ∨ (pl s = pl o ∧ s < o)) ∧ x = ((s : Int), (o : Int), pl s - pl o, 1)))
end
section
/-! the class's web, exactly -/
def cwq (m : MM) (W i : Nat) : Q4 := (m (W + 1) i, m (W + 2) i, m (W + 3) i, m (W + 4) i)
def cLa2 (m : MM) (o : Nat) : Int := m 6 (m 2 o).toNat
def laB (m : MM) (q : Int) (o : Nat) : Int := if m 2 o = q then cLa2 m o - 1 else cLa2 m o
def tri : Nat → Int
  | 0 => 0
  | i + 1 => tri i + (7 - i)
theorem tri_le {i : Nat} (h : i ≤ 8) : tri i ≤ 28 := by
  have a : i = 0 ∨ i = 1 ∨ i = 2 ∨ i = 3 ∨ i = 4 ∨ i = 5 ∨ i = 6 ∨ i = 7 ∨ i = 8 := by omega
  rcases a with rfl | rfl | rfl | rfl | rfl | rfl | rfl | rfl | rfl <;> decide
theorem cmp_ok {x1 x2 x3 x4 a b d l r : Int} (h : (¬ x1 = a ∧ r = x1 - a) ∨ (x1 = a ∧ ¬ x2 = b ∧ r = x2 - b) ∨ (x1 = a ∧ x2 = b ∧ ¬ x3 = d ∧ r = x3 - d) ∨ (x1 = a ∧ x2 = b ∧ x3 = d ∧ r = x4 - l)) : (r < 0 ↔ lt4 (x1, x2, x3, x4) (a, b, d, l)) ∧ (r = 0 ↔ ((x1, x2, x3, x4) : Q4) = (a, b, d, l)) := by
  constructor
  · simp only [lt4]; omega
  · simp only [Prod.mk.injEq]; omega
section CWB
variable {S : Nat × (Nat → Int32)} {n : Nat} {mem : MM} {K : Int → MM → Prop}
theorem f_19e (hB : BodyOK mem) {o : Int} (h : 0 ≤ o ∧ o < 8) (H : 1 ≤ cLa2 mem o.toNat → cLa2 mem o.toNat ≤ 6 → K (cLa2 mem o.toNat) mem) : CWI (Ex S (n + 1)) 19 [.inr 1, .inl o] mem K := by
  obtain ⟨h1, -⟩ := hB.2.1 o.toNat (by omega)
  refine CW.of (k := 0) mt_19 rfl rfl (w_19_0 (Ex.mono S n) ⟨h, fun v e _ => ⟨by omega, fun v2 e2 _ _ => ⟨_, rfl, ?_⟩⟩⟩)
  have := hB.2.2.2.1 v.toNat (by omega)
  subst e
  subst e2
  exact H this.1 this.2
theorem f_18e (hB : BodyOK mem) {o q : Int} (h : 0 ≤ o ∧ o < 8) (H : 0 ≤ laB mem q o.toNat → laB mem q o.toNat ≤ 6 → K (laB mem q o.toNat) mem) : CWI (Ex S (n + 2)) 18 [.inr 1, .inl o, .inl q] mem K := by
  refine CW.of (k := 1) mt_18 rfl rfl (w_18_0 (Ex.mono S (n + 1)) (f_19e hB h (fun u1 u2 _ => ⟨h, fun v e _ => ⟨fun ne _ => ⟨_, rfl, ?_⟩, fun ee => ⟨by unfold InI; omega, fun _ => ⟨_, rfl, ?_⟩⟩⟩⟩)))
  · have e2 : laB mem q o.toNat = cLa2 mem o.toNat := if_neg (by rw [← e]; exact ne)
    rw [e2] at H
    exact H (by omega) u2
  · have e2 : laB mem q o.toNat = cLa2 mem o.toNat - 1 := if_pos (by rw [← e]; exact Classical.not_not.mp ee)
    rw [e2] at H
    exact H (by omega) (by omega)
theorem f_18n (hB : BodyOK mem) {o : Nat} {q : Int} (h : o < 8) (H : 0 ≤ laB mem q o → laB mem q o ≤ 6 → K (laB mem q o) mem) : CWI (Ex S (n + 2)) 18 [.inr 1, .inl (o : Int), .inl q] mem K := f_18e hB ⟨by omega, by omega⟩ (by rw [Int.toNat_natCast]; exact H)
theorem f_21e {W : Nat} (hW : WebSh W) (hR : R64 mem W) {j a b d l : Int} (hj : 0 ≤ j ∧ j < 64) (hr : Rg a b d l) (H : ∀ r, (r < 0 ↔ lt4 (cwq mem W j.toNat) (a, b, d, l)) → (r = 0 ↔ cwq mem W j.toNat = (a, b, d, l)) → K r mem) : CWI (Ex S (n + 1)) 21 [.inr W, .inl j, .inl a, .inl b, .inl d, .inl l] mem K := by
  obtain ⟨r1, r2, r3, r4⟩ := hR j.toNat (by omega)
  obtain ⟨s1, s2, s3, s4⟩ := hr
  have H : ∀ r, ((¬ mem (W + 1) j.toNat = a ∧ r = mem (W + 1) j.toNat - a) ∨ (mem (W + 1) j.toNat = a ∧ ¬ mem (W + 2) j.toNat = b ∧ r = mem (W + 2) j.toNat - b) ∨ (mem (W + 1) j.toNat = a ∧ mem (W + 2) j.toNat = b ∧ ¬ mem (W + 3) j.toNat = d ∧ r = mem (W + 3) j.toNat - d) ∨ (mem (W + 1) j.toNat = a ∧ mem (W + 2) j.toNat = b ∧ mem (W + 3) j.toNat = d ∧ r = mem (W + 4) j.toNat - l)) → K r mem := fun r h => H r (cmp_ok h).1 (cmp_ok h).2
  refine CW.of (k := 0) mt_21 rfl rfl (w_21_0 (Ex.mono S n) hW ⟨hj, fun v1 e1 _ => ⟨fun q1 => ⟨hj, fun v2 e2 _ => ⟨fun q2 => ⟨hj, fun v3 e3 _ => ⟨fun q3 => ⟨hj, fun v4 e4 _ => ⟨by unfold InI; omega, fun _ => ⟨_, rfl, H _ (by omega)⟩⟩⟩, fun q3 => ⟨hj, fun v5 e5 _ => ⟨by unfold InI; omega, fun _ => ⟨_, rfl, H _ (by omega)⟩⟩⟩⟩⟩, fun q2 => ⟨hj, fun v5 e5 _ => ⟨by unfold InI; omega, fun _ => ⟨_, rfl, H _ (by omega)⟩⟩⟩⟩⟩, fun q1 => ⟨hj, fun v5 e5 _ => ⟨by unfold InI; omega, fun _ => ⟨_, rfl, H _ (by omega)⟩⟩⟩⟩⟩)
theorem f_22e {K : MM → Prop} {W : Nat} (hW : WebSh W) (hR : R64 mem W) {j a b d l : Int} (hj : 0 ≤ j ∧ j < 64) (hr : Rg a b d l) (H : ∀ m', FrWb W mem m' → m' W 0 = mem W 0 → R64 m' W → cwq m' W j.toNat = (a, b, d, l) → (∀ i, ¬ i = j.toNat → cwq m' W i = cwq mem W i) → K m') : CWV (Ex S (n + 1)) 22 [.inr W, .inl j, .inl a, .inl b, .inl d, .inl l] mem K := by
  have z : cwq (upm (upm (upm (upm mem (W + 1) (Int.toNat j) a) (W + 2) (Int.toNat j) b) (W + 3) (Int.toNat j) d) (W + 4) (Int.toNat j) l) W j.toNat = (a, b, d, l) := by
    unfold cwq
    rw [upm_ne (A := W + 4) (B := W + 1) (by omega), upm_ne (A := W + 3) (B := W + 1) (by omega), upm_ne (A := W + 2) (B := W + 1) (by omega), upm_eq, upm_ne (A := W + 4) (B := W + 2) (by omega), upm_ne (A := W + 3) (B := W + 2) (by omega), upm_eq, upm_ne (A := W + 4) (B := W + 3) (by omega), upm_eq, upm_eq]
  have o : ∀ i, ¬ i = j.toNat → cwq (upm (upm (upm (upm mem (W + 1) (Int.toNat j) a) (W + 2) (Int.toNat j) b) (W + 3) (Int.toNat j) d) (W + 4) (Int.toNat j) l) W i = cwq mem W i := fun i e => by
    unfold cwq
    rw [upm_ne (A := W + 4) (B := W + 1) (by omega), upm_ne (A := W + 3) (B := W + 1) (by omega), upm_ne (A := W + 2) (B := W + 1) (by omega), upm_ne (A := W + 1) (B := W + 1) (by omega), upm_ne (A := W + 4) (B := W + 2) (by omega), upm_ne (A := W + 3) (B := W + 2) (by omega), upm_ne (A := W + 2) (B := W + 2) (by omega), upm_ne (A := W + 1) (B := W + 2) (by omega), upm_ne (A := W + 4) (B := W + 3) (by omega), upm_ne (A := W + 3) (B := W + 3) (by omega), upm_ne (A := W + 2) (B := W + 3) (by omega), upm_ne (A := W + 1) (B := W + 3) (by omega), upm_ne (A := W + 4) (B := W + 4) (by omega), upm_ne (A := W + 3) (B := W + 4) (by omega), upm_ne (A := W + 2) (B := W + 4) (by omega), upm_ne (A := W + 1) (B := W + 4) (by omega)]
  have hg : ∀ {x : Q4} (m : MM) (i : Nat), cwq m W i = x → Rg x.1 x.2.1 x.2.2.1 x.2.2.2 → Rg (m (W + 1) i) (m (W + 2) i) (m (W + 3) i) (m (W + 4) i) := fun m i e h => by rw [← e] at h; exact h
  refine CW.of (k := 0) mt_22 rfl rfl (w_22_0 (Ex.mono S n) hW ⟨hj, hj, hj, hj, rfl, H _ (fun A i e1 e2 => ?_) ?_ (fun i hi => ?_) z o⟩)
  · rw [upm_ne (by omega), upm_ne (by omega), upm_ne (by omega), upm_ne (by omega)]
  · rw [upm_ne (by omega), upm_ne (by omega), upm_ne (by omega), upm_ne (by omega)]
  · by_cases e : i = j.toNat
    · subst e; exact hg _ _ z hr
    · exact hg _ _ (o i e) (hR i hi)
theorem f_20e {K : MM → Prop} {W : Nat} {P : Q4 → Prop} (hW : WebSh W) (hO : WbOK mem W) (h63 : mem W 0 < 64) {a b d l : Int} (hr : Rg a b d l) (hE : Enum (cwq mem W) (mem W 0).toNat P) (H : ∀ m', FrWb W mem m' → WbOK m' W → m' W 0 ≤ mem W 0 + 1 → Enum (cwq m' W) (m' W 0).toNat (fun x => P x ∨ x = (a, b, d, l)) → K m') : CWV (Ex S (n + 2)) 20 [.inr W, .inl a, .inl b, .inl d, .inl l] mem K := by
  obtain ⟨hR, h0, h64⟩ := hO
  have at72 : ∀ (N : Nat) (p x i : Int) (m : MM), 0 ≤ p → p ≤ i → i ≤ mem W 0 → (i - p).toNat < N → FrWb W mem m → m W 0 = mem W 0 → R64 m W → (∀ j : Nat, (j : Int) < p → lt4 (cwq mem W j) (a, b, d, l)) → (∀ j : Nat, p ≤ j → (j : Int) < mem W 0 → lt4 (a, b, d, l) (cwq mem W j)) → (∀ j : Nat, (j : Int) < i → cwq m W j = cwq mem W j) → (∀ j : Nat, i < j → (j : Int) ≤ mem W 0 → cwq m W j = cwq mem W (j - 1)) → Wx (Ex S (n + 1)) S M_20 (fun r m => r = none ∧ K m) 72 [some (.inr W), some (.inl a), some (.inl b), some (.inl d), some (.inl l), some (.inl p), some (.inl x), some (.inl i)] [] m := by
    intro N
    induction N with
    | zero => intros; omega
    | succ N ih =>
      intro p x i m hp hpi hi hN hF e0 hRm lo hi2 cA cB
      refine w_20_72 (Ex.mono S (n + 1)) hW ⟨fun q => f_22e hW hRm ⟨hp, by omega⟩ hr (fun m1 k1 k2 k3 k4 k5 v2 e2 _ => ⟨by unfold InI; omega, rfl, H _ (fun A i e1 e2 => ?_) ⟨fun j hj => ?_, ?_⟩ ?_ ?_⟩), fun q => ?_⟩
      · rw [upm_ne e2]; exact (hF.tr k1) A i e1 e2
      · rw [upm_ne (by omega), upm_ne (by omega), upm_ne (by omega), upm_ne (by omega)]; exact k3 j hj
      · rw [upm_eq]; omega
      · rw [upm_eq]; omega
      · have ec : ∀ j, cwq (upm m1 W 0 (v2 + 1)) W j = cwq m1 W j := fun j => by
          unfold cwq
          rw [upm_ne (by omega), upm_ne (by omega), upm_ne (by omega), upm_ne (by omega)]
        have hi3 : i = p := by omega
        subst hi3
        have en : ((upm m1 W 0 (v2 + 1)) W 0).toNat = (mem W 0).toNat + 1 := by rw [upm_eq]; omega
        rw [en]
        refine hE.ins (t := i.toNat) (by omega) (fun j hj => lo j (by omega)) (fun j w1 w2 => hi2 j (by omega) (by omega)) (fun j hj => ?_) ?_ (fun j w1 w2 => ?_)
        · rw [ec, k5 j (by omega)]; exact cA j (by omega)
        · rw [ec]; exact k4
        · rw [ec, k5 (j + 1) (by omega), cB (j + 1) (by omega) (by omega)]; rfl
      · have hi1 : 0 ≤ i - 1 ∧ i - 1 < 64 := by omega
        have hI : InI (i - 1) := by unfold InI; omega
        refine ⟨hI, hi1, fun v3 e3 _ => ⟨hI, hi1, fun v4 e4 _ => ⟨hI, hi1, fun v5 e5 _ => ⟨hI, hi1, fun v6 e6 _ => ?_⟩⟩⟩⟩
        have hg := hRm (i - 1).toNat (by omega)
        have ev : cwq m W (i - 1).toNat = (v3, v4, v5, v6) := by rw [e3, e4, e5, e6]; rfl
        rw [← e3, ← e4, ← e5, ← e6] at hg
        refine f_22e hW hRm ⟨by omega, by omega⟩ hg (fun m7 k1 k2 k3 k4 k5 => ⟨by unfold InI; omega, ?_⟩)
        rw [show i + -1 = i - 1 by omega]
        refine ih p x (i - 1) m7 hp (by omega) (by omega) (by omega) (hF.tr k1) (k2.trans e0) k3 lo hi2 (fun j hj => ?_) (fun j w1 w2 => ?_)
        · rw [k5 j (by omega)]; exact cA j (by omega)
        · by_cases w : j = i.toNat
          · subst w
            rw [k4, ← ev, cA (i - 1).toNat (by omega)]
            congr 1
            omega
          · rw [k5 j w]; exact cB j (by omega) w2
  have key : ∀ (N : Nat) (p x : Int), 0 ≤ p → p ≤ mem W 0 → (mem W 0 - p).toNat < N → (∀ j : Nat, (j : Int) < p → lt4 (cwq mem W j) (a, b, d, l)) → Wx (Ex S (n + 1)) S M_20 (fun r m => r = none ∧ K m) 6 [some (.inr W), some (.inl a), some (.inl b), some (.inl d), some (.inl l), some (.inl p), some (.inl x), none] [] mem := by
    intro N
    induction N with
    | zero => intros; omega
    | succ N ih =>
      intro p x hp hp2 hN lo
      have go : ∀ x v : Int, v = mem W 0 → (∀ j : Nat, p ≤ j → (j : Int) < mem W 0 → lt4 (a, b, d, l) (cwq mem W j)) → Wx (Ex S (n + 1)) S M_20 (fun r m => r = none ∧ K m) 72 [some (.inr W), some (.inl a), some (.inl b), some (.inl d), some (.inl l), some (.inl p), some (.inl x), some (.inl v)] [] mem := fun x v e hi2 => at72 _ p x v mem hp (by omega) (by omega) (Nat.lt_succ_self _) FrWb.rf rfl hR lo hi2 (fun _ _ => rfl) (fun j w1 w2 => by omega)
      refine w_20_6 (Ex.mono S (n + 1)) hW (fun v1 e1 _ => ⟨fun q v2 e2 _ => ⟨fun _ v3 e3 _ => ⟨fun z v4 e4 _ => go _ _ e4 (fun j w1 w2 => by omega), fun z => by omega⟩, fun z => by omega⟩, fun q => ?_⟩)
      refine f_21e hW hR ⟨hp, by omega⟩ hr (fun r g1 g2 _ => ⟨fun z => ⟨by unfold InI; omega, ih (p + 1) r (by omega) (by omega) (by omega) (fun j hj => ?_)⟩, fun z v9 e9 _ => ⟨fun w => by omega, fun _ => ⟨fun w => ⟨rfl, ?_⟩, fun w v12 e12 _ => ⟨fun _ v13 e13 _ => go _ _ e13 (fun j w1 w2 => ?_), fun w => by omega⟩⟩⟩⟩)
      · by_cases w : (j : Int) < p
        · exact lo j w
        · rw [show j = p.toNat by omega]; exact g1.mp z
      · refine H mem FrWb.rf ⟨hR, h0, h64⟩ (by omega) (hE.cg rfl (fun _ _ => rfl) (fun y => ⟨Or.inl, fun h => h.elim id (fun e => ?_)⟩))
        rw [e, ← g2.mp w]; exact hE.2.1 p.toNat (by omega)
      · have l1 : lt4 (a, b, d, l) (cwq mem W p.toNat) := by
          rcases lt4.tri (a, b, d, l) (cwq mem W p.toNat) with e | e | e
          · exact e
          · exact absurd (g2.mpr e.symm) w
          · exact absurd (g1.mpr e) z
        by_cases e : j = p.toNat
        · rw [e]; exact l1
        · exact l1.tr (hE.1 p.toNat j (by omega) (by omega))
  exact CW.of (k := 3) mt_20 rfl rfl (w_20_0 (Ex.mono S (n + 1)) hW (key _ 0 (-1) (by omega) h0 (Nat.lt_succ_self _) (fun j hj => by omega)))
def nrB (m : MM) (q : Int) (s o : Nat) (x : Q4) : Prop := NdR (m 2) (rowB m) (plcB m) (laB m q) s o x
theorem f_23e {K : MM → Prop} {W : Nat} {P : Q4 → Prop} (hW : WebSh W) (hB : BodyOK mem) (hO : WbOK mem W) (h63 : mem W 0 < 64) {o p : Nat} {q : Int} (ho : o < 8) (hp : p < 8) (hop : o < p) (hE : Enum (cwq mem W) (mem W 0).toNat P) (H : ∀ m', FrWb W mem m' → WbOK m' W → m' W 0 ≤ mem W 0 + 1 → Enum (cwq m' W) (m' W 0).toNat (fun x => P x ∨ nrB mem q o p x ∨ nrB mem q p o x) → K m') : CWV (Ex S (n + 3)) 23 [.inr W, .inr 1, .inl (o : Int), .inl (p : Int), .inl q] mem K := by
  have same : (∀ x, ¬ nrB mem q o p x ∧ ¬ nrB mem q p o x) → none = (none : Option Int) ∧ K mem := fun h => ⟨rfl, H mem FrWb.rf hO (by omega) (hE.cg rfl (fun _ _ => rfl) (fun x => ⟨Or.inl, fun w => w.elim id (fun w => w.elim (fun w => absurd w (h x).1) (fun w => absurd w (h x).2))⟩))⟩
  have ko : 0 ≤ (o : Int) ∧ (o : Int) < 8 := by omega
  have kp : 0 ≤ (p : Int) ∧ (p : Int) < 8 := by omega
  have nn : (mem 2 o < 4 ∨ mem 2 p < 4 ∨ ¬ rowB mem o = rowB mem p ∨ (¬ mem 2 o = 5 ∧ ¬ mem 2 p = 5)) → ∀ x, ¬ nrB mem q o p x ∧ ¬ nrB mem q p o x := fun h x => by
    constructor
    · rintro ⟨h1, h2, ⟨h3, h4, h5⟩ | ⟨h3, h4, h5⟩ | ⟨h3, h4, h5⟩⟩ <;> omega
    · rintro ⟨h1, h2, ⟨h3, h4, h5⟩ | ⟨h3, h4, h5⟩ | ⟨h3, h4, h5⟩⟩ <;> omega
  refine CW.of (k := 6) mt_23 rfl rfl (w_23_0 (Ex.mono S (n + 2)) hW ⟨ko, fun v1 e1 _ => ⟨fun z => same (nn (by rw [Int.toNat_natCast] at e1; omega)), fun q1 => ⟨kp, fun v2 e2 _ => ⟨fun q2 => f_24 ho (fun _ => f_24 hp (fun _ => ⟨fun er => f_25 ho (fun _ => f_25 hp (fun _ => ?_)), fun er => same (nn (by omega))⟩)), fun z => same (nn (by rw [Int.toNat_natCast] at e2; omega))⟩⟩⟩⟩)
  rw [Int.toNat_natCast] at e1 e2
  have ro := hB.row ho (by omega)
  have rp := hB.row hp (by omega)
  have k5o := (hB.2.1 o ho).1
  have k5p := (hB.2.1 p hp).1
  have put : ∀ a b d l : Int, Rg a b d l → (∀ x, x = (a, b, d, l) ↔ nrB mem q o p x ∨ nrB mem q p o x) → CWV (Ex S (n + 2)) 20 [.inr W, .inl a, .inl b, .inl d, .inl l] mem fun m' => none = (none : Option Int) ∧ K m' := fun a b d l hg hx => f_20e hW hO h63 hg hE (fun m' k1 k2 k3 k4 => ⟨rfl, H m' k1 k2 k3 (k4.cg rfl (fun _ _ => rfl) (fun x => or_congr Iff.rfl (hx x)))⟩)
  have bk : ∀ (y : Q4), (nrB mem q o p y ∨ nrB mem q p o y) → (∀ x, (nrB mem q o p x → x = y) ∧ (nrB mem q p o x → x = y)) → ∀ x, x = y ↔ nrB mem q o p x ∨ nrB mem q p o x := fun y h1 h2 x => ⟨fun e => by rw [e]; exact h1, fun w => w.elim (h2 x).1 (h2 x).2⟩
  refine ⟨fun z => f_25 hp (fun _ => f_25 ho (fun _ => ⟨by unfold InI; omega, kp, fun v15 e15 _ => ⟨fun w1 => ⟨ko, fun v16 e16 _ => ⟨fun w2 => same (nn ?_), fun w2 => f_18n hB ho (fun u1 u2 _ => ⟨by unfold InI; omega, put p o (plcB mem p - plcB mem o) (1 - laB mem q o) (by unfold Rg; omega) ?_⟩)⟩⟩, fun w1 => ⟨ko, fun v20 e20 _ => ⟨fun w2 => f_18n hB hp (fun u1 u2 _ => put p o (plcB mem p - plcB mem o) (laB mem q p) (by unfold Rg; omega) ?_), fun w2 => put p o (plcB mem p - plcB mem o) 1 (by unfold Rg; omega) ?_⟩⟩⟩⟩)), fun z => f_25 ho (fun _ => f_25 hp (fun _ => ⟨by unfold InI; omega, ko, fun v15 e15 _ => ⟨fun w1 => ⟨kp, fun v16 e16 _ => ⟨fun w2 => same (nn ?_), fun w2 => f_18n hB hp (fun u1 u2 _ => ⟨by unfold InI; omega, put o p (plcB mem o - plcB mem p) (1 - laB mem q p) (by unfold Rg; omega) ?_⟩)⟩⟩, fun w1 => ⟨kp, fun v20 e20 _ => ⟨fun w2 => f_18n hB ho (fun u1 u2 _ => put o p (plcB mem o - plcB mem p) (laB mem q o) (by unfold Rg; omega) ?_), fun w2 => put o p (plcB mem o - plcB mem p) 1 (by unfold Rg; omega) ?_⟩⟩⟩⟩))⟩
  all_goals (first | rw [Int.toNat_natCast] at e15 e16 | rw [Int.toNat_natCast] at e15 e20)
  · omega
  · refine bk _ (Or.inl ⟨by omega, by omega, Or.inr (Or.inl ⟨by omega, by omega, rfl⟩)⟩) (fun x => ⟨?_, ?_⟩) <;> rintro ⟨h1, h2, ⟨h3, h4, h5⟩ | ⟨h3, h4, h5⟩ | ⟨h3, h4, h5⟩⟩ <;> first | exact h5 | (exfalso; omega)
  · refine bk _ (Or.inr ⟨by omega, by omega, Or.inl ⟨by omega, by omega, rfl⟩⟩) (fun x => ⟨?_, ?_⟩) <;> rintro ⟨h1, h2, ⟨h3, h4, h5⟩ | ⟨h3, h4, h5⟩ | ⟨h3, h4, h5⟩⟩ <;> first | exact h5 | (exfalso; omega)
  · refine bk _ (Or.inr ⟨by omega, by omega, Or.inr (Or.inr ⟨by omega, by omega, rfl⟩)⟩) (fun x => ⟨?_, ?_⟩) <;> rintro ⟨h1, h2, ⟨h3, h4, h5⟩ | ⟨h3, h4, h5⟩ | ⟨h3, h4, h5⟩⟩ <;> first | exact h5 | (exfalso; omega)
  · omega
  · refine bk _ (Or.inr ⟨by omega, by omega, Or.inr (Or.inl ⟨by omega, by omega, rfl⟩)⟩) (fun x => ⟨?_, ?_⟩) <;> rintro ⟨h1, h2, ⟨h3, h4, h5⟩ | ⟨h3, h4, h5⟩ | ⟨h3, h4, h5⟩⟩ <;> first | exact h5 | (exfalso; omega)
  · refine bk _ (Or.inl ⟨by omega, by omega, Or.inl ⟨by omega, by omega, rfl⟩⟩) (fun x => ⟨?_, ?_⟩) <;> rintro ⟨h1, h2, ⟨h3, h4, h5⟩ | ⟨h3, h4, h5⟩ | ⟨h3, h4, h5⟩⟩ <;> first | exact h5 | (exfalso; omega)
  · refine bk _ (Or.inl ⟨by omega, by omega, Or.inr (Or.inr ⟨by omega, by omega, rfl⟩)⟩) (fun x => ⟨?_, ?_⟩) <;> rintro ⟨h1, h2, ⟨h3, h4, h5⟩ | ⟨h3, h4, h5⟩ | ⟨h3, h4, h5⟩⟩ <;> first | exact h5 | (exfalso; omega)
end CWB
end
section
/-! the class weaves its web, exactly -/
def nsB (m : MM) (q : Int) (o k : Nat) (x : Q4) : Prop := (k : Int) < csN m o ∧ 0 ≤ m 3 (4 * o + 2 * k) ∧ x = (m 3 (4 * o + 2 * k), (o : Int), m 3 (4 * o + 2 * k + 1), laB m q (m 3 (4 * o + 2 * k)).toNat)
def NdC (m : MM) (q : Int) (x : Q4) : Prop := (∃ o k : Nat, (o : Int) < m 1 0 ∧ nsB m q o k x) ∨ ∃ s o : Nat, (s : Int) < m 1 0 ∧ (o : Int) < m 1 0 ∧ ¬ o = s ∧ nrB m q s o x
theorem bd_fr {m m' : MM} (e : ∀ A i, 0 < A → A < 9 → ¬ A = 4 → m' A i = m A i) {q : Int} : csN m' = csN m ∧ rowB m' = rowB m ∧ plcB m' = plcB m ∧ laB m' q = laB m q := by
  refine ⟨funext fun o => ?_, funext fun o => ?_, funext fun o => ?_, funext fun o => ?_⟩
  · unfold csN; rw [e 2 o (by omega) (by omega) (by omega)]
  · unfold rowB; rw [e 2 o (by omega) (by omega) (by omega), e 3 _ (by omega) (by omega) (by omega), e 3 _ (by omega) (by omega) (by omega)]
  · unfold plcB; rw [e 2 o (by omega) (by omega) (by omega), e 3 _ (by omega) (by omega) (by omega), e 3 _ (by omega) (by omega) (by omega)]
  · unfold laB cLa2; rw [e 2 o (by omega) (by omega) (by omega), e 6 _ (by omega) (by omega) (by omega)]
theorem nsB_fr {m m' : MM} (e : ∀ A i, 0 < A → A < 9 → ¬ A = 4 → m' A i = m A i) {q : Int} {o k : Nat} {x : Q4} : nsB m' q o k x ↔ nsB m q o k x := by
  have h := bd_fr e (q := q)
  unfold nsB
  rw [h.1, h.2.2.2, e 3 _ (by omega) (by omega) (by omega), e 3 _ (by omega) (by omega) (by omega)]
theorem nrB_fr {m m' : MM} (e : ∀ A i, 0 < A → A < 9 → ¬ A = 4 → m' A i = m A i) {q : Int} {o k : Nat} {x : Q4} : nrB m' q o k x ↔ nrB m q o k x := by
  have h := bd_fr e (q := q)
  unfold nrB
  rw [h.2.1, h.2.2.1, h.2.2.2, show m' 2 = m 2 from funext fun i => e 2 i (by omega) (by omega) (by omega)]
theorem NdC.fr {m m' : MM} (e : ∀ A i, 0 < A → A < 9 → ¬ A = 4 → m' A i = m A i) {q : Int} {x : Q4} : NdC m' q x ↔ NdC m q x := by
  unfold NdC
  rw [e 1 0 (by omega) (by omega) (by omega)]
  exact or_congr (exists_congr fun o => exists_congr fun k => and_congr Iff.rfl (nsB_fr e)) (exists_congr fun o => exists_congr fun k => and_congr Iff.rfl (and_congr Iff.rfl (and_congr Iff.rfl (nrB_fr e))))
section CWV2
variable {S : Nat × (Nat → Int32)} {n : Nat} {mem : MM} {K : Int → MM → Prop}
theorem f_17e {K : MM → Prop} {W : Nat} (hW : WebSh W) (hWv : W = 9 ∨ W = 14) (hB : BodyOK mem) (hO : R64 mem W) {q : Int} (H : ∀ m', FrWb W mem m' → WbOK m' W → m' W 0 ≤ 44 → Enum (cwq m' W) (m' W 0).toNat (NdC mem q) → K m') : CWV (Ex S (n + 4)) 17 [.inr W, .inr 1, .inl q] mem K := by
  have h8 := hB.1
  have bF0 : ∀ m, FrWb W mem m → ∀ A i, 0 < A → A < 9 → m A i = mem A i := fun m hF A i e1 e2 => hF A i (by omega) (by omega)
  have bF : ∀ m, FrWb W mem m → ∀ A i, 0 < A → A < 9 → ¬ A = 4 → m A i = mem A i := fun m hF A i e1 e2 _ => hF A i (by omega) (by omega)
  have bB : ∀ m, FrWb W mem m → BodyOK m := fun m hF => hB.fr (bF0 m hF)
  have sz : ∀ m, FrWb W mem m → m 1 0 = mem 1 0 := fun m hF => hF _ _ (by omega) (by omega)
  obtain ⟨PA, ePA⟩ : ∃ PA : Nat → Nat → Q4 → Prop, PA = fun o k x => ∃ o' k' : Nat, (o' < o ∨ (o' = o ∧ k' < k)) ∧ (o' : Int) < mem 1 0 ∧ nsB mem q o' k' x := ⟨_, rfl⟩
  obtain ⟨PB, ePB⟩ : ∃ PB : Nat → Nat → Q4 → Prop, PB = fun i j x => (∃ o k : Nat, (o : Int) < mem 1 0 ∧ nsB mem q o k x) ∨ ∃ s t : Nat, s < t ∧ (t : Int) < mem 1 0 ∧ (s < i ∨ (s = i ∧ t < j)) ∧ (nrB mem q s t x ∨ nrB mem q t s x) := ⟨_, rfl⟩
  have l77 : ∀ (N : Nat) (o : Nat) (m : MM), (mem 1 0 - o).toNat < N → o ≤ 8 → FrWb W mem m → WbOK m W → m W 0 ≤ 16 + tri o → Enum (cwq m W) (m W 0).toNat (PB o 0) → Wx (Ex S (n + 3)) S M_17 (fun r m => r = none ∧ K m) 77 [some (.inr W), some (.inr 1), some (.inl q), some (.inl (o : Int)), none, none] [] m := by
    intro N
    induction N with
    | zero => intros; omega
    | succ N ih =>
      intro o m hN ho8 hF hO' hs hE
      have es := sz m hF
      have ht := tri_le ho8
      refine w_17_77 (Ex.mono S (n + 3)) hW (fun v1 e1 _ => ⟨fun z => ⟨rfl, H m hF hO' (by omega) (hE.cg rfl (fun _ _ => rfl) (fun x => ?_))⟩, fun z => ⟨by unfold InI; omega, ?_⟩⟩)
      · rw [ePB]
        refine or_congr Iff.rfl ⟨?_, ?_⟩
        · rintro ⟨s, t, h1, h2, -, h4 | h4⟩
          · exact ⟨s, t, by omega, h2, by omega, h4⟩
          · exact ⟨t, s, h2, by omega, by omega, h4⟩
        · rintro ⟨s, t, h1, h2, h3, h4⟩
          by_cases w : s < t
          · exact ⟨s, t, w, h2, by omega, Or.inl h4⟩
          · exact ⟨t, s, by omega, h1, by omega, Or.inr h4⟩
      have inner : ∀ (N' : Nat) (p : Nat) (m : MM), (mem 1 0 - p).toNat < N' → o < p → (p : Int) ≤ mem 1 0 → FrWb W mem m → WbOK m W → m W 0 ≤ 16 + tri o + ((p : Int) - o - 1) → Enum (cwq m W) (m W 0).toNat (PB o p) → Wx (Ex S (n + 3)) S M_17 (fun r m => r = none ∧ K m) 90 [some (.inr W), some (.inr 1), some (.inl q), some (.inl (o : Int)), some (.inl (p : Int)), none] [] m := by
        intro N'
        induction N' with
        | zero => intros; omega
        | succ N' ih2 =>
          intro p m hN' hop hp hF hO' hs hE
          have es := sz m hF
          refine w_17_90 (Ex.mono S (n + 3)) hW (fun v1 e1 _ => ⟨fun z2 => ⟨by unfold InI; omega, ih (o + 1) m (by omega) (by omega) hF hO' ?_ (hE.cg rfl (fun _ _ => rfl) (fun x => ?_))⟩, fun z2 => f_23e hW (bB m hF) hO' (by omega) (by omega) (by omega) hop hE (fun m' k1 k2 k3 k4 => ⟨by unfold InI; omega, ih2 (p + 1) m' (by omega) (by omega) (by omega) (hF.tr k1) k2 (by omega) (k4.cg rfl (fun _ _ => rfl) (fun x => ?_))⟩)⟩)
          · have : tri (o + 1) = tri o + (7 - o) := rfl
            omega
          · rw [ePB]
            refine or_congr Iff.rfl ⟨?_, ?_⟩
            · rintro ⟨s, t, h1, h2, h3, h4⟩
              exact ⟨s, t, h1, h2, by omega, h4⟩
            · rintro ⟨s, t, h1, h2, h3, h4⟩
              exact ⟨s, t, h1, h2, by omega, h4⟩
          · rw [ePB]
            constructor
            · rintro ((h | ⟨s, t, h1, h2, h3, h4⟩) | h | h)
              · exact Or.inl h
              · exact Or.inr ⟨s, t, h1, h2, by omega, h4⟩
              · exact Or.inr ⟨o, p, hop, by omega, by omega, Or.inl ((nrB_fr (bF m hF)).mp h)⟩
              · exact Or.inr ⟨o, p, hop, by omega, by omega, Or.inr ((nrB_fr (bF m hF)).mp h)⟩
            · rintro (h | ⟨s, t, h1, h2, h3, h4⟩)
              · exact Or.inl (Or.inl h)
              · by_cases w : s = o ∧ t = p
                · obtain ⟨rfl, rfl⟩ := w
                  exact h4.elim (fun h => Or.inr (Or.inl ((nrB_fr (bF m hF)).mpr h))) (fun h => Or.inr (Or.inr ((nrB_fr (bF m hF)).mpr h)))
                · exact Or.inl (Or.inr ⟨s, t, h1, h2, by omega, h4⟩)
      refine inner _ (o + 1) m (Nat.lt_succ_self _) (by omega) (by omega) hF hO' (by omega) (hE.cg rfl (fun _ _ => rfl) (fun x => ?_))
      rw [ePB]
      refine or_congr Iff.rfl ⟨?_, ?_⟩
      · rintro ⟨s, t, h1, h2, h3, h4⟩
        exact ⟨s, t, h1, h2, by omega, h4⟩
      · rintro ⟨s, t, h1, h2, h3, h4⟩
        exact ⟨s, t, h1, h2, by omega, h4⟩
  have l7 : ∀ (N : Nat) (o : Nat) (m : MM), (mem 1 0 - o).toNat < N → o ≤ 8 → FrWb W mem m → WbOK m W → m W 0 ≤ 2 * o → Enum (cwq m W) (m W 0).toNat (PA o 0) → Wx (Ex S (n + 3)) S M_17 (fun r m => r = none ∧ K m) 7 [some (.inr W), some (.inr 1), some (.inl q), some (.inl (o : Int)), none, none] [] m := by
    intro N
    induction N with
    | zero => intros; omega
    | succ N ih =>
      intro o m hN ho8 hF hO' hs hE
      have es := sz m hF
      refine w_17_7 (Ex.mono S (n + 3)) hW (fun v1 e1 _ => ⟨fun z => l77 _ 0 m (Nat.lt_succ_self _) (by omega) hF hO' (by unfold tri; omega) (hE.cg rfl (fun _ _ => rfl) (fun x => ?_)), fun z => ?_⟩)
      · rw [ePA, ePB]
        constructor
        · rintro ⟨o', k', -, h2, h3⟩
          exact Or.inl ⟨o', k', h2, h3⟩
        · rintro (⟨o', k', h2, h3⟩ | ⟨s, t, -, -, h3, -⟩)
          · exact ⟨o', k', by omega, h2, h3⟩
          · omega
      have inner : ∀ (N' : Nat) (k : Nat) (m : MM), k ≤ 2 → 3 - k < N' → FrWb W mem m → WbOK m W → m W 0 ≤ 2 * o + k → Enum (cwq m W) (m W 0).toNat (PA o k) → Wx (Ex S (n + 3)) S M_17 (fun r m => r = none ∧ K m) 18 [some (.inr W), some (.inr 1), some (.inl q), some (.inl (o : Int)), some (.inl (k : Int)), none] [] m := by
        intro N'
        induction N' with
        | zero => intros; omega
        | succ N' ih2 =>
          intro k m hk hN' hF hO' hs hE
          have es := sz m hF
          have hcs := csN_le m o
          have ecs := (bd_fr (bF m hF) (q := q)).1
          refine w_17_18 (Ex.mono S (n + 3)) hW (f_13 ⟨by omega, by omega⟩ (fun _ => ⟨fun z2 => ⟨by unfold InI; omega, ih (o + 1) m (by omega) (by omega) hF hO' (by omega) (hE.cg rfl (fun _ _ => rfl) (fun x => ?_))⟩, fun z2 => ?_⟩))
          · rw [Int.toNat_natCast, ecs] at z2
            rw [ePA]
            constructor
            · rintro ⟨o', k', h1, h2, h3⟩
              exact ⟨o', k', by omega, h2, h3⟩
            · rintro ⟨o', k', h1, h2, h3⟩
              by_cases w : o' = o
              · subst w
                have := h3.1
                exact ⟨o', k', by omega, h2, h3⟩
              · exact ⟨o', k', by omega, h2, h3⟩
          rw [Int.toNat_natCast] at z2
          have hsr := (bB m hF).src (o := o) (k := k) (by omega) (by omega)
          have step : ∀ x, (PA o k x ∨ nsB mem q o k x) ↔ PA o (k + 1) x := fun x => by
            rw [ePA]
            constructor
            · rintro (⟨o', k', h1, h2, h3⟩ | h)
              · exact ⟨o', k', by omega, h2, h3⟩
              · exact ⟨o, k, by omega, by omega, h⟩
            · rintro ⟨o', k', h1, h2, h3⟩
              by_cases w : o' = o ∧ k' = k
              · obtain ⟨rfl, rfl⟩ := w
                exact Or.inr h3
              · exact Or.inl ⟨o', k', by omega, h2, h3⟩
          refine f_14 (by omega) (by omega) (fun _ => ⟨fun z3 => ⟨by unfold InI; omega, ih2 (k + 1) m (by omega) (by omega) hF hO' (by omega) (hE.cg rfl (fun _ _ => rfl) (fun x => Iff.trans ?_ (step x)))⟩, fun z3 => f_15 (by omega) (by omega) (fun _ => ?_)⟩)
          · constructor
            · exact Or.inl
            · rintro (h | h)
              · exact h
              · have := ((nsB_fr (bF m hF)).mpr h).2.1; omega
          unfold srcOK at hsr
          refine f_18e (bB m hF) ⟨by omega, by omega⟩ (fun u1 u2 _ => f_20e hW hO' (by omega) (by unfold Rg; omega) hE (fun m' k1 k2 k3 k4 => ⟨by unfold InI; omega, ih2 (k + 1) m' (by omega) (by omega) (hF.tr k1) k2 (by omega) (k4.cg rfl (fun _ _ => rfl) (fun x => Iff.trans ?_ (step x)))⟩))
          refine or_congr Iff.rfl (Iff.trans ?_ (nsB_fr (bF m hF)))
          exact ⟨fun e => ⟨by omega, by omega, e⟩, fun h => h.2.2⟩
      refine inner 4 0 m (by omega) (by omega) hF hO' (by omega) hE
  refine CW.of (k := 3) mt_17 rfl rfl (w_17_0 (Ex.mono S (n + 3)) hW (l7 _ 0 _ (Nat.lt_succ_self _) (by omega) (fun A i e1 e2 => upm_ne e2) ⟨fun j hj => ?_, by rw [upm_eq]; omega⟩ (by rw [upm_eq]; omega) ?_))
  · rw [upm_ne (by omega), upm_ne (by omega), upm_ne (by omega), upm_ne (by omega)]; exact hO j hj
  · rw [upm_eq, ePA]
    refine (Enum.nil (c := fun _ => (0, 0, 0, 0))).cg rfl (fun i hi => by omega) (fun x => ⟨fun h => h.elim, ?_⟩)
    rintro ⟨o', k', h1, -⟩
    omega
end CWV2
def WbY (m : MM) : Prop := WbS m ∧ Enum (cwq m 9) (m 9 0).toNat (NdC m (-1))
theorem WbY.fr {m m' : MM} (h : WbY m) (e : ∀ A i, (A = 9 ∧ i = 0) ∨ (10 ≤ A ∧ A ≤ 13) ∨ (0 < A ∧ A < 9 ∧ ¬ A = 4) → m' A i = m A i) : WbY m' := by
  refine ⟨fun j hj => ?_, ?_⟩
  · rw [e 9 0 (by omega)] at hj
    rw [e 10 j (by omega), e 11 j (by omega), e 1 0 (by omega)]; exact h.1 j hj
  · rw [e 9 0 (by omega)]
    refine h.2.cg rfl (fun i _ => ?_) (fun x => (NdC.fr (fun A i a b c => e A i (by omega))).symm)
    unfold cwq
    rw [e (9 + 1) i (by omega), e (9 + 2) i (by omega), e (9 + 3) i (by omega), e (9 + 4) i (by omega)]
theorem NdC.lt {m : MM} {q : Int} {x : Q4} (hs : Snd m) (h : NdC m q x) : x.1 < m 1 0 ∧ x.2.1 < m 1 0 := by
  rcases h with ⟨o, k, h1, h2, h3, h4⟩ | ⟨s, o, h1, h2, h3, h4, h5, ⟨h6, h7, h8⟩ | ⟨h6, h7, h8⟩ | ⟨h6, h7, h8⟩⟩
  · subst h4; exact ⟨hs o k h1 h2, h1⟩
  · subst h8; exact ⟨h1, h2⟩
  · subst h8; exact ⟨h2, h1⟩
  · subst h8; exact ⟨h1, h2⟩
end
section
/-! the reference's needs, exactly -/
def rq (m : MM) (i : Nat) : Q4 := (m 154 i, m 155 i, m 156 i, m 157 i)
def set4r (m : MM) (k : Nat) (a b d l : Int) : MM := upm (upm (upm (upm m 154 k a) 155 k b) 156 k d) 157 k l
theorem set4r_q {m : MM} {k : Nat} {a b d l : Int} : rq (set4r m k a b d l) k = (a, b, d, l) := by
  unfold rq set4r
  rw [upm_ne (A := 157) (B := 154) (by omega), upm_ne (A := 156) (B := 154) (by omega), upm_ne (A := 155) (B := 154) (by omega), upm_eq, upm_ne (A := 157) (B := 155) (by omega), upm_ne (A := 156) (B := 155) (by omega), upm_eq, upm_ne (A := 157) (B := 156) (by omega), upm_eq, upm_eq]
theorem set4r_ne {m : MM} {k A i : Nat} {a b d l : Int} (h : ¬ (154 ≤ A ∧ A ≤ 157 ∧ i = k)) : set4r m k a b d l A i = m A i := by
  unfold set4r
  rw [upm_ne (by omega), upm_ne (by omega), upm_ne (by omega), upm_ne (by omega)]
theorem set4r_o {m : MM} {k i : Nat} {a b d l : Int} (h : ¬ i = k) : rq (set4r m k a b d l) i = rq m i := by
  unfold rq
  rw [set4r_ne (by omega), set4r_ne (by omega), set4r_ne (by omega), set4r_ne (by omega)]
theorem rq_12 {m : MM} {z : Int} {i : Nat} : rq (upm m 143 12 z) i = rq m i := by
  unfold rq
  rw [upm_ne (by omega), upm_ne (by omega), upm_ne (by omega), upm_ne (by omega)]
def NdF (m : MM) (x : Q4) : Prop := (∃ o k : Nat, (o : Int) < m 143 1 ∧ (k : Int) < srcN m o ∧ 0 ≤ srcA m o k ∧ x = (srcA m o k, (o : Int), srcB m o k, latF m (srcA m o k).toNat)) ∨ ∃ s o : Nat, (s : Int) < m 143 1 ∧ (o : Int) < m 143 1 ∧ ¬ o = s ∧ NdR (m 144) (rowF m) (plcF m) (latF m) s o x
section RND
variable {S : Nat × (Nat → Int32)} {n : Nat} {mem : MM} {Pn : Int → Int → Int → Int → Prop} {P : Q4 → Prop} {a b d l : Int}
theorem f_248e {K : Int → MM → Prop} {k : Int} (h : 0 ≤ k ∧ k < 48) (H : ∀ r, (r = 0 ∨ r = 1) → (r = 1 ↔ lt4 (a, b, d, l) (rq mem k.toNat)) → K r mem) : CWI (Ex S (n + 1)) 248 [.inr 143, .inl k, .inl a, .inl b, .inl d, .inl l] mem K := by
  have H : ∀ r, (r = 0 ∨ r = 1) → (r = 1 ↔ (a < mem 154 k.toNat ∨ (a = mem 154 k.toNat ∧ (b < mem 155 k.toNat ∨ (b = mem 155 k.toNat ∧ (d < mem 156 k.toNat ∨ (d = mem 156 k.toNat ∧ l < mem 157 k.toNat))))))) → K r mem := fun r h1 h2 => H r h1 h2
  have h0 : ¬ (a < mem 154 k.toNat ∨ (a = mem 154 k.toNat ∧ (b < mem 155 k.toNat ∨ (b = mem 155 k.toNat ∧ (d < mem 156 k.toNat ∨ (d = mem 156 k.toNat ∧ l < mem 157 k.toNat)))))) → ∃ y, some (0 : Int) = some y ∧ K y mem := fun q => ⟨_, rfl, H _ (Or.inl rfl) ⟨fun z => by omega, fun z => absurd z q⟩⟩
  have h1 : (a < mem 154 k.toNat ∨ (a = mem 154 k.toNat ∧ (b < mem 155 k.toNat ∨ (b = mem 155 k.toNat ∧ (d < mem 156 k.toNat ∨ (d = mem 156 k.toNat ∧ l < mem 157 k.toNat)))))) → ∃ y, some (1 : Int) = some y ∧ K y mem := fun q => ⟨_, rfl, H _ (Or.inr rfl) ⟨fun _ => q, fun _ => rfl⟩⟩
  refine CW.of (k := 0) mt_248 rfl rfl (w_248_0 (Ex.mono S n) ⟨h, fun v1 e1 _ => ⟨fun q1 => ⟨h, fun v2 e2 _ => ⟨fun q2 => ⟨h, fun v3 e3 _ => ⟨fun q3 => ⟨h, fun v4 e4 _ => ⟨fun _ => h0 (by omega), fun _ => h1 (by omega)⟩⟩, fun q3 => ⟨h, fun v4 e4 _ => ⟨fun _ => h0 (by omega), fun _ => h1 (by omega)⟩⟩⟩⟩, fun q2 => ⟨h, fun v4 e4 _ => ⟨fun _ => h0 (by omega), fun _ => h1 (by omega)⟩⟩⟩⟩, fun q1 => ⟨h, fun v4 e4 _ => ⟨fun _ => h0 (by omega), fun _ => h1 (by omega)⟩⟩⟩⟩)
theorem cn_70e {m0 : MM} {c : Int} (hc : 0 ≤ c ∧ c < 48) (h12 : m0 143 12 = c) (hP : Pn a b d l) (hr : Rg a b d l) (hA0 : NdAll Pn m0 c) (hE : Enum (rq m0) c.toNat P) (hne : ∀ j : Nat, (j : Int) < c → ¬ rq m0 j = (a, b, d, l)) {Kk : WK} (H : ∀ m', FrN m0 m' → R4 m0 m' → m' 143 12 = c + 1 → NdAll Pn m' (c + 1) → Enum (rq m') (c + 1).toNat (fun x => P x ∨ x = (a, b, d, l)) → Kk none m') : ∀ (N : Nat) (k : Int) (mem : MM), 0 ≤ k → k ≤ c → k.toNat < N → FrN m0 mem → R4 m0 mem → mem 143 12 = c → (∀ j : Nat, (j : Int) < k → rq mem j = rq m0 j) → (∀ j : Nat, k < j → (j : Int) ≤ c → rq mem j = rq m0 (j - 1)) → (∀ j : Nat, k ≤ j → (j : Int) < c → lt4 (a, b, d, l) (rq m0 j)) → Wx (Ex S (n + 1)) S M_247 Kk 70 [some (.inr 143), some (.inl a), some (.inl b), some (.inl d), some (.inl l), some (.inl k)] [] mem := by
  intro N
  induction N with
  | zero => intros; omega
  | succ N ih =>
    intro k mem hk1 hk2 hN hF h4r hc2 cA cB hi
    have hk : 0 ≤ k ∧ k < 48 := by omega
    have pn : ∀ {m : MM} {i : Nat} {x : Q4}, rq m i = x → Pn x.1 x.2.1 x.2.2.1 x.2.2.2 → Pn (m 154 i) (m 155 i) (m 156 i) (m 157 i) := fun e h => by rw [← e] at h; exact h
    have rg : ∀ {m : MM} {i : Nat} {x : Q4}, rq m i = x → Rg x.1 x.2.1 x.2.2.1 x.2.2.2 → Rg (m 154 i) (m 155 i) (m 156 i) (m 157 i) := fun e h => by rw [← e] at h; exact h
    have fin : (∀ j : Nat, (j : Int) < k → lt4 (rq m0 j) (a, b, d, l)) → ∀ v1 : Int, v1 = (upm (upm (upm (upm mem 154 (Int.toNat k) a) 155 (Int.toNat k) b) 156 (Int.toNat k) d) 157 (Int.toNat k) l) 143 12 → InI v1 → (InI (v1 + 1)) ∧ (Kk none (upm (upm (upm (upm (upm mem 154 (Int.toNat k) a) 155 (Int.toNat k) b) 156 (Int.toNat k) d) 157 (Int.toNat k) l) 143 12 (v1 + 1))) := by
      intro lo v1 e _
      have e : v1 = c := by rw [e, upm_ne (by omega), upm_ne (by omega), upm_ne (by omega), upm_ne (by omega)]; exact hc2
      subst e
      have at_ : ∀ j : Nat, (j : Int) ≤ m0 143 12 → (j = k.toNat ∧ rq (upm (set4r mem k.toNat a b d l) 143 12 (v1 + 1)) j = (a, b, d, l)) ∨ ((j : Int) < k ∧ rq (upm (set4r mem k.toNat a b d l) 143 12 (v1 + 1)) j = rq m0 j) ∨ (k < j ∧ rq (upm (set4r mem k.toNat a b d l) 143 12 (v1 + 1)) j = rq m0 (j - 1)) := fun j hj => by
        rw [rq_12]
        by_cases w : j = k.toNat
        · subst w; exact Or.inl ⟨rfl, set4r_q⟩
        · rw [set4r_o w]
          by_cases w2 : (j : Int) < k
          · exact Or.inr (Or.inl ⟨w2, cA j w2⟩)
          · exact Or.inr (Or.inr ⟨by omega, cB j (by omega) (by omega)⟩)
      refine ⟨by unfold InI; omega, H (upm (set4r mem k.toNat a b d l) 143 12 (v1 + 1)) ?_ ?_ upm_eq ?_ ?_⟩
      · intro A i h1 h2 h3 h4 h5
        rw [upm_ne h5, set4r_ne (by omega)]
        exact hF A i h1 h2 h3 h4 h5
      · intro h0 j hj
        have := h4r h0 j hj
        rw [upm_ne (by omega), upm_ne (by omega), upm_ne (by omega), upm_ne (by omega)]
        by_cases hjk : j = k.toNat
        · subst hjk; exact rg set4r_q hr
        · rw [set4r_ne (by omega), set4r_ne (by omega), set4r_ne (by omega), set4r_ne (by omega)]; exact this
      · intro j hj
        rcases at_ j (by omega) with ⟨-, e⟩ | ⟨w, e⟩ | ⟨w, e⟩
        · exact pn e hP
        · exact pn e (hA0 j (by omega))
        · exact pn e (hA0 (j - 1) (by omega))
      · rw [show (v1 + 1).toNat = v1.toNat + 1 by omega]
        refine hE.ins (t := k.toNat) (by omega) (fun j hj => lo j (by omega)) (fun j w1 w2 => hi j (by omega) (by omega)) (fun j hj => ?_) ?_ (fun j w1 w2 => ?_)
        · rcases at_ j (by omega) with ⟨w, e⟩ | ⟨w, e⟩ | ⟨w, e⟩
          · omega
          · exact e
          · omega
        · rcases at_ k.toNat (by omega) with ⟨w, e⟩ | ⟨w, e⟩ | ⟨w, e⟩
          · exact e
          · omega
          · omega
        · rcases at_ (j + 1) (by omega) with ⟨w, e⟩ | ⟨w, e⟩ | ⟨w, e⟩
          · omega
          · omega
          · exact e
    refine w_247_70 (Ex.mono S (n + 1)) ⟨fun q => ⟨hk, hk, hk, hk, fin (fun j hj => by omega)⟩, fun q => ⟨by unfold InI; omega, f_248e ⟨by omega, by omega⟩ (fun r g0 g1 _ => ⟨fun z => ⟨hk, hk, hk, hk, fin (fun j hj => ?_)⟩, fun z => ?_⟩)⟩⟩
    · rw [cA (k - 1).toNat (by omega)] at g1
      have l1 : lt4 (rq m0 (k - 1).toNat) (a, b, d, l) := by
        rcases lt4.tri (a, b, d, l) (rq m0 (k - 1).toNat) with e | e | e
        · have := g1.mpr e; omega
        · exact absurd e.symm (hne _ (by omega))
        · exact e
      by_cases w : j = (k - 1).toNat
      · rw [w]; exact l1
      · exact (hE.1 j (k - 1).toNat (by omega) (by omega)).tr l1
    have hk3 : 0 ≤ k - 1 ∧ k - 1 < 48 := by omega
    have hI : InI (k - 1) := by unfold InI; omega
    refine ⟨hI, hk3, fun v5 e5 _ => ⟨hk, hI, hk3, fun v6 e6 _ => ⟨hk, hI, hk3, fun v7 e7 _ => ⟨hk, hI, hk3, fun v8 e8 _ => ⟨hk, by unfold InI; omega, ?_⟩⟩⟩⟩⟩
    rw [upm_ne (by omega)] at e6
    rw [upm_ne (by omega), upm_ne (by omega)] at e7
    rw [upm_ne (by omega), upm_ne (by omega), upm_ne (by omega)] at e8
    have ev : rq mem (k - 1).toNat = (v5, v6, v7, v8) := by rw [e5, e6, e7, e8]; rfl
    rw [show k + -1 = k - 1 by omega]
    have g2 : lt4 (a, b, d, l) (rq m0 (k - 1).toNat) := by
      rw [← cA (k - 1).toNat (by omega)]
      exact g1.mp (by omega)
    refine ih (k - 1) (set4r mem k.toNat v5 v6 v7 v8) (by omega) (by omega) (by omega) ?_ ?_ (by rw [set4r_ne (by omega)]; exact hc2) (fun j hj => ?_) (fun j w1 w2 => ?_) (fun j w1 w2 => ?_)
    · intro A i h1 h2 h3 h4 h5
      rw [set4r_ne (by omega)]
      exact hF A i h1 h2 h3 h4 h5
    · intro h0 j hj
      have := h4r h0 j hj
      by_cases hjk : j = k.toNat
      · subst hjk
        have g := h4r h0 (k - 1).toNat (by omega)
        rw [← e5, ← e6, ← e7, ← e8] at g
        exact rg set4r_q g
      · rw [set4r_ne (by omega), set4r_ne (by omega), set4r_ne (by omega), set4r_ne (by omega)]; exact this
    · rw [set4r_o (by omega)]; exact cA j (by omega)
    · by_cases w : j = k.toNat
      · subst w
        rw [set4r_q, ← ev, cA (k - 1).toNat (by omega)]
        congr 1
        omega
      · rw [set4r_o w]; exact cB j (by omega) w2
    · by_cases w : j = (k - 1).toNat
      · rw [w]; exact g2
      · exact hi j (by omega) w2
theorem f_247e {K : MM → Prop} (hc : 0 ≤ mem 143 12 ∧ mem 143 12 < 48) (hP : Pn a b d l) (hr : Rg a b d l) (hA : NdAll Pn mem (mem 143 12)) (hE : Enum (rq mem) (mem 143 12).toNat P) (H : ∀ m', FrN mem m' → R4 mem m' → mem 143 12 ≤ m' 143 12 → m' 143 12 ≤ mem 143 12 + 1 → NdAll Pn m' (m' 143 12) → Enum (rq m') (m' 143 12).toNat (fun x => P x ∨ x = (a, b, d, l)) → K m') : CWV (Ex S (n + 2)) 247 [.inr 143, .inl a, .inl b, .inl d, .inl l] mem K := by
  refine CW.of (k := 1) mt_247 rfl rfl (w_247_0 (Ex.mono S (n + 1)) ?_)
  have key : ∀ (N : Nat) (k : Int), 0 ≤ k → k ≤ mem 143 12 → (mem 143 12 - k).toNat < N → (∀ j : Nat, (j : Int) < k → ¬ rq mem j = (a, b, d, l)) → Wx (Ex S (n + 1)) S M_247 (fun r m => r = none ∧ K m) 3 [some (.inr 143), some (.inl a), some (.inl b), some (.inl d), some (.inl l), some (.inl k)] [] mem := by
    intro N
    induction N with
    | zero => intros; omega
    | succ N ih =>
      intro k hk1 hk2 hN hne
      refine w_247_3 (Ex.mono S (n + 1)) (fun v e _ => ⟨fun q v2 e2 _ => ?_, fun q => ?_⟩)
      · subst e2
        refine cn_70e hc rfl hP hr hA hE (fun j hj => hne j (by omega)) (m0 := mem) (fun m' h1 h4 h2 h3 h5 => ⟨rfl, H m' h1 h4 (by omega) (by omega) (by rw [h2]; exact h3) (by rw [h2]; exact h5)⟩) _ _ mem hc.1 (Int.le_refl _) (Nat.lt_succ_self _) FrN.rf R4.rf rfl (fun j _ => rfl) (fun j h1 h2 => by omega) (fun j h1 h2 => by omega)
      · have hk : 0 ≤ k ∧ k < 48 := by omega
        have nx : ¬ (mem 154 k.toNat = a ∧ mem 155 k.toNat = b ∧ mem 156 k.toNat = d ∧ mem 157 k.toNat = l) → InI (k + 1) ∧ Wx (Ex S (n + 1)) S M_247 (fun r m => r = none ∧ K m) 3 [some (.inr 143), some (.inl a), some (.inl b), some (.inl d), some (.inl l), some (.inl (k + 1))] [] mem := fun ne => ⟨by unfold InI; omega, ih (k + 1) (by omega) (by omega) (by omega) (fun j hj => by
          by_cases w : (j : Int) < k
          · exact hne j w
          · rw [show j = k.toNat by omega]
            unfold rq
            simp only [Prod.mk.injEq]
            exact ne)⟩
        refine ⟨hk, fun v3 e3 _ => ⟨fun _ => nx (by omega), fun q3 => ⟨hk, fun v4 e4 _ => ⟨fun _ => nx (by omega), fun q4 => ⟨hk, fun v5 e5 _ => ⟨fun _ => nx (by omega), fun q5 => ⟨hk, fun v6 e6 _ => ⟨fun _ => nx (by omega), fun q6 => ⟨rfl, H mem FrN.rf R4.rf (by omega) (by omega) hA (hE.cg rfl (fun _ _ => rfl) (fun x => ⟨Or.inl, fun w => w.elim id (fun e => ?_)⟩))⟩⟩⟩⟩⟩⟩⟩⟩⟩
        have : rq mem k.toNat = (a, b, d, l) := by
          unfold rq
          simp only [Prod.mk.injEq]
          omega
        rw [e, ← this]
        exact hE.2.1 k.toNat (by omega)
  exact key _ 0 (by omega) hc.1 (Nat.lt_succ_self _) (fun j hj => by omega)
end RND
end
section
/-! the reference lays its needs, exactly -/
section RLY
variable {S : Nat × (Nat → Int32)} {n : Nat} {m0 : MM}
def nsF (m : MM) (o k : Nat) (x : Q4) : Prop := (k : Int) < srcN m o ∧ 0 ≤ srcA m o k ∧ x = (srcA m o k, (o : Int), srcB m o k, latF m (srcA m o k).toNat)
def nrF (m : MM) (s o : Nat) (x : Q4) : Prop := NdR (m 144) (rowF m) (plcF m) (latF m) s o x
def PBf (m : MM) (s o : Nat) (x : Q4) : Prop := (∃ o k : Nat, (o : Int) < m 143 1 ∧ nsF m o k x) ∨ ∃ s' o' : Nat, (s' : Int) < m 143 1 ∧ (o' : Int) < m 143 1 ∧ ¬ o' = s' ∧ (s' < s ∨ (s' = s ∧ o' < o)) ∧ nrF m s' o' x
def PAf (m : MM) (o : Nat) (k : Int) (x : Q4) : Prop := ∃ o' k' : Nat, (o' < o ∨ (o' = o ∧ (k' : Int) < k)) ∧ (o' : Int) < m 143 1 ∧ nsF m o' k' x
theorem ln_86e (hO : OpsOK m0) {Kk : WK} (H : ∀ m', FrN m0 m' → R4 m0 m' → 0 ≤ m' 143 12 → m' 143 12 ≤ 44 → NdAll (PN (m0 143 1)) m' (m' 143 12) → Enum (rq m') (m' 143 12).toNat (NdF m0) → Kk none m') : ∀ (N : Nat) (s o : Nat) (mem : MM), (s : Int) < m0 143 1 → (o : Int) ≤ m0 143 1 → (9 * (m0 143 1 - s) + (9 - o)).toNat < N → FrN m0 mem → R4 m0 mem → 0 ≤ mem 143 12 → mem 143 12 ≤ 16 + smN (fun s => smN (cNd m0 s) (m0 143 1).toNat) s + smN (cNd m0 s) o → NdAll (PN (m0 143 1)) mem (mem 143 12) → Enum (rq mem) (mem 143 12).toNat (PBf m0 s o) → Wx (Ex S (n + 2)) S M_245 Kk 86 [some (.inr 143), some (.inl (s : Int)), some (.inl (o : Int)), none, none, none] [] mem := by
  intro N
  induction N with
  | zero => intros; omega
  | succ N ih =>
    intro s o mem hs ho hN hF hR4 hn0 hn1 hA hE
    have hO2 := hF.ops hO
    have h8 := hO.1
    have eops : mem 143 1 = m0 143 1 := hF _ _ (by omega) (by omega) (by omega) (by omega) (by omega)
    have e144 : ∀ i, mem 144 i = m0 144 i := fun i => hF _ _ (by omega) (by omega) (by omega) (by omega) (by omega)
    have e145 : ∀ i, mem 145 i = m0 145 i := fun i => hF _ _ (by omega) (by omega) (by omega) (by omega) (by omega)
    have e146 : ∀ i, mem 146 i = m0 146 i := fun i => hF _ _ (by omega) (by omega) (by omega) (by omega) (by omega)
    have e147 : ∀ i, mem 147 i = m0 147 i := fun i => hF _ _ (by omega) (by omega) (by omega) (by omega) (by omega)
    have e148 : ∀ i, mem 148 i = m0 148 i := fun i => hF _ _ (by omega) (by omega) (by omega) (by omega) (by omega)
    have epl : ∀ i, plcF mem i = plcF m0 i := fun i => by unfold plcF; rw [e144, e146, e148]
    have ero : ∀ i, rowF mem i = rowF m0 i := fun i => by unfold rowF; rw [e144, e145, e147]
    have elat : ∀ i, latF mem i = latF m0 i := fun i => by
      unfold latF
      rw [e144]
      exact hF _ _ (by omega) (by omega) (by omega) (by omega) (by omega)
    have hs8 : 0 ≤ (s : Int) ∧ (s : Int) < 8 := by omega
    -- the next of s
    have outer : (∀ o' : Nat, o ≤ o' → (o' : Int) < m0 143 1 → ∀ x, ¬ nrF m0 s o' x) → Wx (Ex S (n + 2)) S M_245 Kk 76 [some (.inr 143), some (.inl ((s : Int) + 1)), none, none, none, none] [] mem := by
      intro hno
      have hle : smN (cNd m0 s) o ≤ smN (cNd m0 s) (m0 143 1).toNat := smN_up (by omega)
      have hn2 : mem 143 12 ≤ 16 + smN (fun s => smN (cNd m0 s) (m0 143 1).toNat) (s + 1) := by simp only [smN]; omega
      have eP : ∀ x, PBf m0 s o x ↔ PBf m0 (s + 1) 0 x := fun x => by
        refine or_congr Iff.rfl ⟨?_, ?_⟩
        · rintro ⟨s', o', h1, h2, h3, h4, h5⟩
          exact ⟨s', o', h1, h2, h3, by omega, h5⟩
        · rintro ⟨s', o', h1, h2, h3, h4, h5⟩
          by_cases w : s' = s ∧ o ≤ o'
          · obtain ⟨rfl, w⟩ := w
            exact absurd h5 (hno o' w h2 x)
          · exact ⟨s', o', h1, h2, h3, by omega, h5⟩
      refine w_245_76 (Ex.mono S (n + 2)) (fun v e _ => ⟨fun q => H mem hF hR4 hn0 ?_ hA (hE.cg rfl (fun _ _ => rfl) (fun x => (eP x).trans (or_congr ⟨?_, ?_⟩ ⟨?_, ?_⟩))), fun q => ?_⟩)
      · have := pairs28 (cNd_self m0) (cNd_anti m0) (m0 143 1).toNat (by omega)
        rw [show s + 1 = (m0 143 1).toNat by omega] at hn2
        omega
      · exact fun ⟨a, b, c, d⟩ => ⟨a, b, c, d⟩
      · exact fun ⟨a, b, c, d⟩ => ⟨a, b, c, d⟩
      · exact fun ⟨s', o', h1, h2, h3, _, h5⟩ => ⟨s', o', h1, h2, h3, h5⟩
      · exact fun ⟨s', o', h1, h2, h3, h5⟩ => ⟨s', o', h1, h2, h3, by omega, h5⟩
      · exact ih (s + 1) 0 mem (by omega) (by omega) (by omega) hF hR4 hn0 (by simp only [smN] at hn2 ⊢; omega) hA (hE.cg rfl (fun _ _ => rfl) eP)
    -- the next of o
    have inner : ∀ m', FrN mem m' → R4 mem m' → 0 ≤ m' 143 12 → m' 143 12 ≤ mem 143 12 + cNd m0 s o → NdAll (PN (m0 143 1)) m' (m' 143 12) → (o : Int) < m0 143 1 → Enum (rq m') (m' 143 12).toNat (PBf m0 s (o + 1)) → InI ((o : Int) + 1) ∧ Wx (Ex S (n + 2)) S M_245 Kk 86 [some (.inr 143), some (.inl (s : Int)), some (.inl ((o : Int) + 1)), none, none, none] [] m' := fun m' h1 hr h2 h3 h4 h5 h6 => by
      refine ⟨by unfold InI; omega, ih s (o + 1) m' hs (by omega) (by omega) (hF.tr h1) (hR4.tr hr) h2 ?_ h4 h6⟩
      simp only [smN]; omega
    have stp : (o : Int) < m0 143 1 → ¬ o = s → ∀ x, (PBf m0 s o x ∨ nrF m0 s o x) ↔ PBf m0 s (o + 1) x := fun ho hos x => by
      constructor
      · rintro ((h | ⟨s', o', h1, h2, h3, h4, h5⟩) | h)
        · exact Or.inl h
        · exact Or.inr ⟨s', o', h1, h2, h3, by omega, h5⟩
        · exact Or.inr ⟨s, o, hs, ho, hos, by omega, h⟩
      · rintro (h | ⟨s', o', h1, h2, h3, h4, h5⟩)
        · exact Or.inl (Or.inl h)
        · by_cases w : s' = s ∧ o' = o
          · obtain ⟨rfl, rfl⟩ := w
            exact Or.inr h5
          · exact Or.inl (Or.inr ⟨s', o', h1, h2, h3, by omega, h5⟩)
    refine w_245_86 (Ex.mono S (n + 2)) (fun v e _ => ⟨fun q => ⟨by unfold InI; omega, outer (fun o' h1 h2 => by omega)⟩, fun q => ⟨hs8, fun v2 e2 _ => ⟨fun q2 => ⟨by unfold InI; omega, outer (fun o' _ _ x hx => ?_)⟩, fun q2 => ?_⟩⟩⟩)
    · have := hx.1
      have := e144 s
      simp only [Int.toNat_natCast] at e2
      omega
    have ho2 : (o : Int) < m0 143 1 := by omega
    have ho8 : 0 ≤ (o : Int) ∧ (o : Int) < 8 := by omega
    have same : (¬ o = s → ∀ x, ¬ nrF m0 s o x) → _ := fun hn => inner mem FrN.rf R4.rf hn0 (by omega) hA ho2 (hE.cg rfl (fun _ _ => rfl) (fun x => by
      by_cases w : o = s
      · refine or_congr Iff.rfl ⟨?_, ?_⟩
        · rintro ⟨s', o', h1, h2, h3, h4, h5⟩
          exact ⟨s', o', h1, h2, h3, by omega, h5⟩
        · rintro ⟨s', o', h1, h2, h3, h4, h5⟩
          exact ⟨s', o', h1, h2, h3, by omega, h5⟩
      · exact Iff.trans ⟨Or.inl, fun h => h.elim id (fun h => absurd h (hn w x))⟩ (stp ho2 w x)))
    refine ⟨fun q3 => same (fun w => absurd (by omega) w), fun q3 => ?_⟩
    have ks : m0 144 s = 5 := by
      have := e144 s
      simp only [Int.toNat_natCast] at e2
      omega
    have nso : ¬ o = s := by omega
    have nk : ¬ mem 144 o = 4 → ¬ mem 144 o = 5 → ∀ x, ¬ nrF m0 s o x := fun w1 w2 x hx => by
      have kE := e144 o
      obtain ⟨h1, h2, ⟨h3, h4, h5⟩ | ⟨h3, h4, h5⟩ | ⟨h3, h4, h5⟩⟩ := hx <;> omega
    refine f_249 ho8 (fun q4 _ => ⟨fun q5 => by omega, fun _ => ?_⟩) (fun w1 w2 _ => ⟨fun _ => same (fun _ => nk (by simpa only [Int.toNat_natCast] using w1) (by simpa only [Int.toNat_natCast] using w2)), fun q5 => absurd rfl q5⟩)
    refine f_250 ho8 (fun _ => f_250 hs8 (fun _ => ⟨fun q5 => ?_, fun q5 => same (fun _ x hx => q5 (by
      simp only [Int.toNat_natCast]
      rw [ero, ero]
      exact hx.2.1))⟩))
    refine f_251 hs8 (fun _ => f_251 ho8 (fun _ => ?_))
    simp only [Int.toNat_natCast] at q4 q5 ⊢
    rw [ero, ero] at q5
    have hps : 0 ≤ plcF mem s ∧ plcF mem s ≤ 7 := by
      obtain ⟨-, -, -, h4, h5⟩ := hO2.2.1 s (by omega)
      have := h5 (by rw [e144]; exact ks)
      unfold plcF; rw [if_neg (by rw [e144]; omega)]; omega
    have hpo : 0 ≤ plcF mem o ∧ plcF mem o ≤ 7 := by
      obtain ⟨-, -, -, h4, h5⟩ := hO2.2.1 o (by omega)
      unfold plcF
      split
      · have := h4 (by assumption); omega
      · have := h5 (by omega); omega
    have hls := hO2.lat (o := s) (by omega)
    have c48 : mem 143 12 < 48 := by
      have h1 := pairs28 (cNd_self m0) (cNd_anti m0) (m0 143 1).toNat (by omega)
      have h2 : smN (cNd m0 s) o ≤ smN (cNd m0 s) (m0 143 1).toNat := smN_up (by omega)
      have h3 : smN (fun s => smN (cNd m0 s) (m0 143 1).toNat) (s + 1) ≤ smN (fun s => smN (cNd m0 s) (m0 143 1).toNat) (m0 143 1).toNat := smN_up (by omega)
      simp only [smN] at h3
      omega
    -- a need comes
    have put : ∀ a b d l : Int, PN (m0 143 1) a b d l → cNd m0 s o = 1 → (∀ x, x = (a, b, d, l) ↔ nrF m0 s o x) → CWV (Ex S (n + 2)) 247 [.inr 143, .inl a, .inl b, .inl d, .inl l] mem fun m' => InI ((o : Int) + 1) ∧ Wx (Ex S (n + 2)) S M_245 Kk 86 [some (.inr 143), some (.inl (s : Int)), some (.inl ((o : Int) + 1)), none, none, none] [] m' := fun a b d l hp hc hx =>
      f_247e (Pn := PN (m0 143 1)) ⟨hn0, c48⟩ hp (by unfold PN at hp; unfold Rg; omega) hA hE (fun m' h1 hr h2 h3 h4 h5 => inner m' h1 hr (by omega) (by omega) h4 ho2 (h5.cg rfl (fun _ _ => rfl) (fun x => (or_congr Iff.rfl (hx x)).trans (stp ho2 nso x))))
    have bk : ∀ y : Q4, nrF m0 s o y → (∀ x, nrF m0 s o x → x = y) → ∀ x, x = y ↔ nrF m0 s o x := fun y h1 h2 x => ⟨fun e => by rw [e]; exact h1, h2 x⟩
    have sub7 : ∀ x y : Int, 0 ≤ x ∧ x ≤ 7 → 0 ≤ y ∧ y ≤ 7 → InI (x - y) := fun x y h1 h2 => by unfold InI; omega
    have at170 : ∀ ah : Int, (ah = 1 ∧ (plcF m0 o < plcF m0 s ∨ (plcF m0 s = plcF m0 o ∧ s < o))) ∨ (ah = 0 ∧ ¬ (plcF m0 o < plcF m0 s ∨ (plcF m0 s = plcF m0 o ∧ s < o))) → Wx (Ex S (n + 2)) S M_245 Kk 170 [some (.inr 143), some (.inl (s : Int)), some (.inl (o : Int)), some (.inl (plcF mem s)), some (.inl (plcF mem o)), some (.inl ah)] [] mem := by
      intro ah hah
      have kE := e144 o
      have pE := epl o
      have pS := epl s
      have c4 : m0 144 o = 4 → cNd m0 s o = 1 := fun h => by unfold cNd; rw [if_pos ⟨ks, nso, Or.inl h⟩]
      have c5 : m0 144 o = 5 → ah = 1 → cNd m0 s o = 1 := fun h h2 => by unfold cNd; rw [if_pos ⟨ks, nso, Or.inr ⟨h, by omega⟩⟩]
      refine w_245_170 (Ex.mono S (n + 2)) ⟨ho8, fun v1 g1 _ => ⟨fun z1 => ⟨ho8, fun v2 g2 _ => ⟨fun z2 => ⟨fun z3 => same (fun _ x hx => ?_), fun z3 => ⟨sub7 _ _ hps hpo, put _ _ _ _ ?_ ?_ ?_⟩⟩, fun z2 => ?_⟩⟩, fun z1 => ⟨fun z2 => ⟨ho8, fun v2 g2 _ => ⟨fun z3 => ?_, fun z3 => ⟨sub7 _ _ hpo hps, f_246 hO2 hs8 (fun _ => ⟨?_, put _ _ _ _ ?_ ?_ ?_⟩)⟩⟩⟩, fun z2 => ⟨sub7 _ _ hps hpo, f_246 hO2 hs8 (fun _ => put _ _ _ _ ?_ ?_ ?_)⟩⟩⟩⟩
      · simp only [Int.toNat_natCast] at g1 g2
        obtain ⟨h1, h2, ⟨h3, h4, h5⟩ | ⟨h3, h4, h5⟩ | ⟨h3, h4, h5⟩⟩ := hx <;> omega
      · simp only [Int.toNat_natCast] at g1 g2; unfold PN; omega
      · simp only [Int.toNat_natCast] at g1 g2; exact c5 (by omega) (by omega)
      · simp only [Int.toNat_natCast] at g1 g2
        rw [pE, pS]
        refine bk _ ⟨ks, q5, Or.inr (Or.inr ⟨by omega, by omega, rfl⟩)⟩ (fun x => ?_)
        rintro ⟨h1, h2, ⟨h3, h4, h5⟩ | ⟨h3, h4, h5⟩ | ⟨h3, h4, h5⟩⟩ <;> first | exact h5 | (exfalso; omega)
      · exfalso; omega
      · exfalso; omega
      · simp only [Int.toNat_natCast]; unfold InI; omega
      · simp only [Int.toNat_natCast] at g1 g2 ⊢; unfold PN; omega
      · simp only [Int.toNat_natCast] at g1 g2; exact c4 (by omega)
      · simp only [Int.toNat_natCast] at g1 g2 ⊢
        rw [pE, pS, elat]
        refine bk _ ⟨ks, q5, Or.inr (Or.inl ⟨by omega, by omega, rfl⟩)⟩ (fun x => ?_)
        rintro ⟨h1, h2, ⟨h3, h4, h5⟩ | ⟨h3, h4, h5⟩ | ⟨h3, h4, h5⟩⟩ <;> first | exact h5 | (exfalso; omega)
      · simp only [Int.toNat_natCast] at g1 ⊢; unfold PN; omega
      · simp only [Int.toNat_natCast] at g1; exact c4 (by omega)
      · simp only [Int.toNat_natCast] at g1 ⊢
        rw [pE, pS, elat]
        refine bk _ ⟨ks, q5, Or.inl ⟨by omega, by omega, rfl⟩⟩ (fun x => ?_)
        rintro ⟨h1, h2, ⟨h3, h4, h5⟩ | ⟨h3, h4, h5⟩ | ⟨h3, h4, h5⟩⟩ <;> first | exact h5 | (exfalso; omega)
    have pE := epl o
    have pS := epl s
    exact w_245_146 (Ex.mono S (n + 2)) ⟨fun z => at170 1 (Or.inl ⟨rfl, by omega⟩), fun z => ⟨fun z2 => at170 0 (Or.inr ⟨rfl, by omega⟩), fun z2 => ⟨fun z3 => at170 0 (Or.inr ⟨rfl, by omega⟩), fun z3 => at170 1 (Or.inl ⟨rfl, by omega⟩)⟩⟩⟩
theorem ln_17e (hO : OpsOK m0) (hS : SoundM m0) {Kk : WK} (H : ∀ m', FrN m0 m' → R4 m0 m' → 0 ≤ m' 143 12 → m' 143 12 ≤ 44 → NdAll (PN (m0 143 1)) m' (m' 143 12) → Enum (rq m') (m' 143 12).toNat (NdF m0) → Kk none m') : ∀ (N : Nat) (o : Nat) (k : Int) (mem : MM), (o : Int) < m0 143 1 → 0 ≤ k → k ≤ 2 → (3 * (m0 143 1 - o) + (3 - k)).toNat < N → FrN m0 mem → R4 m0 mem → 0 ≤ mem 143 12 → mem 143 12 ≤ 2 * o + k → NdAll (PN (m0 143 1)) mem (mem 143 12) → Enum (rq mem) (mem 143 12).toNat (PAf m0 o k) → Wx (Ex S (n + 2)) S M_245 Kk 17 [some (.inr 143), some (.inl (o : Int)), some (.inl k), none, none, none] [] mem := by
  intro N
  induction N with
  | zero => intros; omega
  | succ N ih =>
    intro o k mem ho hk1 hk2 hN hF hR4 hn0 hn1 hA hE
    have hO2 := hF.ops hO
    have h8 := hO.1
    have eops : mem 143 1 = m0 143 1 := hF _ _ (by omega) (by omega) (by omega) (by omega) (by omega)
    have e : ∀ A i, (A = 144 ∨ A = 145 ∨ A = 146 ∨ A = 147 ∨ A = 148 ∨ A = 151) → mem A i = m0 A i := fun A i q => hF A i (by omega) (by omega) (by omega) (by omega) (by omega)
    have esN : srcN mem o = srcN m0 o := by unfold srcN; rw [e 144 _ (by omega)]
    have esA : srcA mem o k = srcA m0 o k := by unfold srcA; rw [e 145 _ (by omega), e 147 _ (by omega)]
    have esB : srcB mem o k = srcB m0 o k := by unfold srcB; rw [e 146 _ (by omega), e 148 _ (by omega)]
    have elat : ∀ i, latF mem i = latF m0 i := fun i => by unfold latF; rw [e 144 _ (by omega), e 151 _ (by omega)]
    have ho8 : 0 ≤ (o : Int) ∧ (o : Int) < 8 := by omega
    refine w_245_17 (Ex.mono S (n + 2)) (f_241 ho8 (fun _ => ⟨fun q => ⟨by unfold InI; omega, ?_⟩, fun q => ?_⟩))
    · have q : srcN m0 o ≤ k := by rw [← esN]; simpa only [Int.toNat_natCast] using q
      have eP : ∀ x, PAf m0 o k x ↔ PAf m0 (o + 1) 0 x := fun x => by
        constructor
        · rintro ⟨o', k', h1, h2, h3⟩
          exact ⟨o', k', by omega, h2, h3⟩
        · rintro ⟨o', k', h1, h2, h3⟩
          have := h3.1
          by_cases w : o' = o
          · subst w; exact ⟨o', k', by omega, h2, h3⟩
          · exact ⟨o', k', by omega, h2, h3⟩
      refine w_245_7 (Ex.mono S (n + 2)) (fun v ev _ => ⟨fun q2 => ?_, fun q2 => ?_⟩)
      · have eQ : ∀ x, PAf m0 o k x ↔ PBf m0 0 0 x := fun x => (eP x).trans (by
          constructor
          · rintro ⟨o', k', h1, h2, h3⟩
            exact Or.inl ⟨o', k', h2, h3⟩
          · rintro (⟨o', k', h2, h3⟩ | ⟨s', o', -, -, -, h4, -⟩)
            · exact ⟨o', k', by omega, h2, h3⟩
            · omega)
        refine w_245_76 (Ex.mono S (n + 2)) (fun v ev _ => ⟨fun q3 => ?_, fun q3 => ?_⟩)
        · omega
        · exact ln_86e hO H _ 0 0 mem (by omega) (by omega) (Nat.lt_succ_self _) hF hR4 hn0 (by simp only [smN]; omega) hA (hE.cg rfl (fun _ _ => rfl) eQ)
      · exact ih (o + 1) 0 mem (by omega) (by omega) (by omega) (by omega) hF hR4 hn0 (by omega) hA (hE.cg rfl (fun _ _ => rfl) eP)
    · simp only [Int.toNat_natCast] at q
      have hs := hO2.src (o := o) (by omega) hk1 (by omega)
      have hS2 := hS o ho k hk1 (by omega)
      have hnn : srcN mem o ≤ 2 := by unfold srcN; split <;> (try split) <;> omega
      have ek : ((k.toNat : Nat) : Int) = k := by omega
      have stp : ∀ x, (PAf m0 o k x ∨ nsF m0 o k.toNat x) ↔ PAf m0 o (k + 1) x := fun x => by
        constructor
        · rintro (⟨o', k', h1, h2, h3⟩ | h)
          · exact ⟨o', k', by omega, h2, h3⟩
          · exact ⟨o, k.toNat, by omega, ho, h⟩
        · rintro ⟨o', k', h1, h2, h3⟩
          by_cases w : o' = o ∧ k' = k.toNat
          · obtain ⟨rfl, rfl⟩ := w
            exact Or.inr h3
          · exact Or.inl ⟨o', k', by omega, h2, h3⟩
      have nx : ∀ m', FrN mem m' → R4 mem m' → 0 ≤ m' 143 12 → m' 143 12 ≤ mem 143 12 + 1 → NdAll (PN (m0 143 1)) m' (m' 143 12) → Enum (rq m') (m' 143 12).toNat (PAf m0 o (k + 1)) → InI (k + 1) ∧ Wx (Ex S (n + 2)) S M_245 Kk 17 [some (.inr 143), some (.inl (o : Int)), some (.inl (k + 1)), none, none, none] [] m' := fun m' h1 hr h2 h3 h4 h5 => ⟨by unfold InI; omega, ih o (k + 1) m' ho (by omega) (by omega) (by omega) (hF.tr h1) (hR4.tr hr) h2 (by omega) h4 h5⟩
      refine f_242 ho8 (fun _ => ⟨fun q2 => nx mem FrN.rf R4.rf hn0 (by omega) hA (hE.cg rfl (fun _ _ => rfl) (fun x => Iff.trans ⟨Or.inl, fun h => h.elim id (fun h => ?_)⟩ (stp x))), fun q2 => ?_⟩)
      · have := h.2.1
        rw [ek, ← esA] at this
        simp only [Int.toNat_natCast] at q2
        omega
      simp only [Int.toNat_natCast] at q2
      have hA7 : 0 ≤ srcA mem o k ∧ srcA mem o k < 8 := by unfold srcOK at hs; omega
      have hl := hO2.lat (o := (srcA mem o k).toNat) (by omega)
      refine f_242 ho8 (fun _ => f_243 ho8 (fun _ => f_242 ho8 (fun _ => f_246 hO2 (by simpa only [Int.toNat_natCast] using hA7) (fun _ => ?_))))
      simp only [Int.toNat_natCast]
      have hpn : PN (m0 143 1) (srcA mem o k) (o : Int) (srcB mem o k) (latF mem (srcA mem o k).toNat) := by
        unfold SrcS at hS2
        unfold srcOK at hs
        unfold PN
        omega
      refine f_247e (Pn := PN (m0 143 1)) ⟨hn0, by omega⟩ hpn (by unfold PN at hpn; unfold Rg; omega) hA hE (fun m' h1 hr h2 h3 h4 h5 => nx m' h1 hr (by omega) (by omega) h4 (h5.cg rfl (fun _ _ => rfl) (fun x => (or_congr Iff.rfl ?_).trans (stp x))))
      unfold nsF
      rw [ek, ← esN, ← esA, ← esB, ← elat]
      exact ⟨fun e => ⟨by omega, by omega, e⟩, fun h => h.2.2⟩
theorem f_245e {K : MM → Prop} (hO : OpsOK m0) (hS : SoundM m0) (H : ∀ m', FrN m0 m' → R4 m0 m' → 0 ≤ m' 143 12 → m' 143 12 ≤ 44 → NdAll (PN (m0 143 1)) m' (m' 143 12) → Enum (rq m') (m' 143 12).toNat (NdF m0) → K m') : CWV (Ex S (n + 3)) 245 [.inr 143] m0 K := by
  have hF : FrN m0 (upm m0 143 12 0) := fun A i _ _ _ _ h => upm_ne h
  have hR : R4 m0 (upm m0 143 12 0) := R4.same (fun A i e => upm_ne (by omega))
  refine CW.of (k := 5) mt_245 rfl rfl (w_245_0 (Ex.mono S (n + 2)) (w_245_7 (Ex.mono S (n + 2)) (fun v e _ => ⟨fun q => ?_, fun q => ?_⟩)))
  · have e : v = m0 143 1 := by rw [e]; simp [upm]
    refine w_245_76 (Ex.mono S (n + 2)) (fun v2 e2 _ => ⟨fun q3 => ⟨rfl, H _ hF hR (by simp [upm]) (by simp [upm]) ?_ ?_⟩, fun q3 => ?_⟩)
    · intro j hj; simp [upm] at hj; omega
    · rw [upm_eq]
      refine (Enum.nil (c := fun _ => (0, 0, 0, 0))).cg rfl (fun i hi => by omega) (fun x => ⟨fun h => h.elim, ?_⟩)
      rintro (⟨o, k, h1, -⟩ | ⟨s, o, h1, -⟩) <;> omega
    · have e2 : v2 = m0 143 1 := by rw [e2]; simp [upm]
      omega
  · have e : v = m0 143 1 := by rw [e]; simp [upm]
    refine ln_17e hO hS (fun m' h1 hr h2 h3 h4 h5 => ⟨rfl, H m' h1 hr h2 h3 h4 h5⟩) _ 0 0 _ (by omega) (by omega) (by omega) (Nat.lt_succ_self _) hF hR (by simp [upm]) (by simp [upm]) (by intro j hj; simp [upm] at hj; omega) ?_
    rw [upm_eq]
    refine (Enum.nil (c := fun _ => (0, 0, 0, 0))).cg rfl (fun i hi => by omega) (fun x => ⟨fun h => h.elim, ?_⟩)
    rintro ⟨o', k', h1, -⟩
    omega
end RLY
end
section
/-! rings of needs, in the order in which both sides go round them -/
def pmK : List Int → Int32
  | [] => 0
  | o :: l => pmK l ||| X1 o
theorem pmK_mem {p : Int} (hp : 0 ≤ p ∧ p < 8) : ∀ l : List Int, (∀ o ∈ l, 0 ≤ o ∧ o < 8) → (¬ pmK l &&& X1 p = 0 ↔ p ∈ l)
  | [], _ => by
    show ¬ (0 : Int32) &&& X1 p = 0 ↔ p ∈ []
    rw [Int32.zero_and]
    exact ⟨fun h => absurd rfl h, fun h => absurd h List.not_mem_nil⟩
  | o :: l, h => by
    have ih := pmK_mem hp l (fun q hq => h q (List.mem_cons_of_mem _ hq))
    have ho := h o List.mem_cons_self
    show ¬ (pmK l ||| X1 o) &&& X1 p = 0 ↔ p ∈ o :: l
    rw [i32_dist, List.mem_cons]
    by_cases e : p = o
    · subst e
      rw [Int32.and_self]
      exact ⟨fun _ => Or.inl rfl, fun _ q => X1_on ho (Int32.or_eq_zero_iff.mp q).2⟩
    · rw [X1_off ho hp (fun z => e z.symm), Int32.or_zero, ih]
      exact ⟨Or.inr, fun q => q.resolve_left e⟩
abbrev Rg3 : Type := Int × Int × Int32
def dfE (st at_ : Int) (vis : List Int) (D W : Int) (rec : Int → List Int → Int → Int → List Rg3) (x : Q4) : List Rg3 := if ¬ x.1 = at_ ∨ x.2.1 < st then [] else if x.2.1 = st then [(D + x.2.2.2, W + x.2.2.1, X1 st ||| pmK vis)] else if x.2.1 ∈ vis then [] else rec x.2.1 (x.2.1 :: vis) (D + x.2.2.2) (W + x.2.2.1)
def fmN (f : Nat → List Rg3) : Nat → List Rg3
  | 0 => []
  | i + 1 => fmN f i ++ f i
def dfs (c : Nat → Q4) (n : Nat) (st : Int) : Nat → Int → List Int → Int → Int → List Rg3
  | 0, _, _, _, _ => []
  | f + 1, at_, vis, D, W => fmN (fun i => dfE st at_ vis D W (dfs c n st f) (c i)) n
def ringsAll (c : Nat → Q4) (n : Nat) : Nat → List Rg3
  | 0 => []
  | o + 1 => ringsAll c n o ++ dfs c n (o : Int) 9 (o : Int) [] 0 0
def wRg (s : Int × Int × Int) (r : Rg3) : Int × Int × Int := if r.1 ≤ 0 ∨ r.2.1 ≤ 0 then s else if 0 < r.1 * s.2.1 - s.1 * r.2.1 then (r.1, r.2.1, r.2.2.toInt) else if r.1 * s.2.1 - s.1 * r.2.1 = 0 then (s.1, s.2.1, min s.2.2 r.2.2.toInt) else s
def wst (m : MM) (W : Nat) : Int × Int × Int := (m W 5, m W 6, m W 7)
section RTE
variable {S : Nat × (Nat → Int32)} {n : Nat} {mem : MM}
theorem f_28e {K : MM → Prop} {W : Nat} (hW : WebSh W) (hT : WtOK mem W) {x y : Int} {k : Int32} (hx : x ≤ 80) (hy : y ≤ 80) (H : ∀ m', FrWc W mem m' → WtOK m' W → wst m' W = wRg (wst mem W) (x, y, k) → K m') : CWV (Ex S (n + 2)) 28 [.inr W, .inl k.toInt, .inl x, .inl y] mem K := by
  have same : wRg (wst mem W) (x, y, k) = wst mem W → none = (none : Option Int) ∧ K mem := fun e => ⟨rfl, H mem FrWc.rf hT e.symm⟩
  obtain ⟨h5, h6⟩ := hT
  refine CW.of (k := 1) mt_28 rfl rfl (w_28_0 (Ex.mono S (n + 1)) hW ⟨fun q => same (if_pos (Or.inl q)), fun q => ⟨fun q2 v1 e1 _ => ?_, fun q2 => same (if_pos (Or.inr (show y ≤ 0 by omega)))⟩⟩)
  have p1 : 0 ≤ x * v1 ∧ x * v1 ≤ 6400 := by
    have a1 : 0 ≤ x * v1 := Int.mul_nonneg (by omega) (by omega)
    have a2 : x * v1 ≤ 80 * v1 := Int.mul_le_mul_of_nonneg_right hx (by omega)
    omega
  refine ⟨by unfold InI; omega, fun v3 e3 _ => ?_⟩
  have p2 : 0 ≤ v3 * y ∧ v3 * y ≤ 6400 := by
    have a1 : 0 ≤ v3 * y := Int.mul_nonneg (by omega) (by omega)
    have a2 : v3 * y ≤ v3 * 80 := Int.mul_le_mul_of_nonneg_left hy (by omega)
    omega
  have ew : wRg (wst mem W) (x, y, k) = if 0 < x * v1 - v3 * y then (x, y, k.toInt) else if x * v1 - v3 * y = 0 then (v3, v1, min (mem W 7) k.toInt) else wst mem W := by
    unfold wRg wst
    rw [if_neg (show ¬ (x ≤ 0 ∨ y ≤ 0) by omega), e1, e3]
  refine ⟨by unfold InI; omega, by unfold InI; omega, fun z => ⟨fun z2 => same ?_, fun z2 v5 e5 _ => f_29 (fun _ => ⟨rfl, H _ (fun A i e => upm_ne (by omega)) ⟨?_, ?_⟩ ?_⟩)⟩, fun z => ⟨rfl, H _ (fun A i e => ?_) ⟨?_, ?_⟩ ?_⟩⟩
  · rw [ew, if_neg (by omega), if_neg z2]
  · rw [upm_ne (by omega)]; exact h5
  · rw [upm_ne (by omega)]; exact h6
  · rw [ew, if_neg (by omega), if_pos (Classical.not_not.mp z2)]
    unfold wst
    rw [upm_ne (by omega), upm_ne (by omega), upm_eq, ← e1, ← e3, e5]
  · rw [upm_ne (by omega), upm_ne (by omega), upm_ne (by omega)]
  · rw [upm_ne (by omega), upm_ne (by omega), upm_eq]; omega
  · rw [upm_ne (by omega), upm_eq]; omega
  · rw [ew, if_pos (by omega)]
    unfold wst
    rw [upm_ne (by omega), upm_ne (by omega), upm_eq, upm_ne (by omega), upm_eq, upm_eq]
def beenI (st : Int) (vis : List Int) : Int := (X1 st ||| pmK vis).toInt
theorem tb_been {st p : Int} {vis : List Int} (hs : 0 ≤ st ∧ st < 8) (hv : ∀ o ∈ vis, 0 ≤ o ∧ o < 8) (hp : 0 ≤ p ∧ p < 8) : tb (beenI st vis) p ↔ p = st ∨ p ∈ vis := by
  unfold tb beenI
  rw [Int32.ofInt_toInt, i32_dist]
  have q := pmK_mem hp vis hv
  by_cases e : p = st
  · subst e
    rw [Int32.and_self]
    exact ⟨fun _ => Or.inl rfl, fun _ z => X1_on hs (Int32.or_eq_zero_iff.mp z).1⟩
  · rw [X1_off hs hp (fun z => e z.symm), Int32.zero_or, q]
    exact ⟨Or.inr, fun z => z.resolve_left e⟩
theorem been_or {st o b1 t' : Int} {vis : List Int} (e1 : b1 = ((fun (x y : Int32) => x <<< (y &&& 31)) (Int32.ofInt 1) (Int32.ofInt o)).toInt) (e2 : t' = ((fun (x y : Int32) => x ||| y) (Int32.ofInt (beenI st vis)) (Int32.ofInt b1)).toInt) : t' = beenI st (o :: vis) := by
  have e1 : b1 = (X1 o).toInt := e1
  rw [e2, e1]
  show (Int32.ofInt (X1 st ||| pmK vis).toInt ||| Int32.ofInt (X1 o).toInt).toInt = (X1 st ||| (pmK vis ||| X1 o)).toInt
  rw [Int32.ofInt_toInt, Int32.ofInt_toInt, Int32.or_assoc]
theorem go_3e {W : Nat} (hW : WebSh W) {s a x y : Int} {vis : List Int} {m0 : MM} {K : MM → Prop} {E : Nat} {rec : Int → List Int → Int → Int → List Rg3} (hs : 0 ≤ s ∧ s < 8) (hv : ∀ o ∈ vis, 0 ≤ o ∧ o < 8) (hO : WbOK m0 W) (x1 : -74 ≤ x) (x2 : x ≤ 74) (y1 : 0 ≤ y) (y2 : y ≤ 73) (H : ∀ m', FrWc W m0 m' → WtOK m' W → wst m' W = (fmN (fun i => dfE s a vis x y rec (cwq m0 W i)) (m0 W 0).toNat).foldl wRg (wst m0 W) → K m') (hrec : ∀ (m : MM) (K : MM → Prop) (v l e : Int), FrWc W m0 m → WtOK m W → 0 ≤ v → v ≤ 7 → -5 ≤ l → l ≤ 6 → 0 ≤ e → e ≤ 7 → ¬ v = s → ¬ v ∈ vis → (∀ m', FrWc W m m' → WtOK m' W → wst m' W = (rec v (v :: vis) (x + l) (y + e)).foldl wRg (wst m W) → K m') → CWV (Ex S (E + 2)) 27 [.inr W, .inl s, .inl v, .inl (beenI s (v :: vis)), .inl (x + l), .inl (y + e)] m K) : ∀ (N : Nat) (i : Nat) (m : MM), 64 - i < N → (i : Int) ≤ m0 W 0 → FrWc W m0 m → WtOK m W → wst m W = (fmN (fun i => dfE s a vis x y rec (cwq m0 W i)) i).foldl wRg (wst m0 W) → Wx (Ex S (E + 2)) S M_27 (fun r m => r = none ∧ K m) 3 [some (.inr W), some (.inl s), some (.inl a), some (.inl (beenI s vis)), some (.inl x), some (.inl y), some (.inl (i : Int))] [] m := by
  intro N
  induction N with
  | zero => intros; omega
  | succ N ih =>
    intro i m hN hin hF hT hE
    have hO' := hF.wb hO
    have es : m W 0 = m0 W 0 := hF W 0 (by omega)
    refine w_27_3 (Ex.mono S (E + 2)) hW (fun v1 e1 _ => ⟨fun q => ⟨rfl, H m hF hT (by rw [hE, show (m0 W 0).toNat = i by omega])⟩, fun q => ?_⟩)
    have hi : 0 ≤ (i : Int) ∧ (i : Int) < 64 := by have := hO'.2; omega
    obtain ⟨g1, g2, g3, g4⟩ := hO'.1 i (by omega)
    have ecw : cwq m W i = cwq m0 W i := by
      unfold cwq
      rw [hF (W + 1) i (by omega), hF (W + 2) i (by omega), hF (W + 3) i (by omega), hF (W + 4) i (by omega)]
    have nx : ∀ m', FrWc W m0 m' → WtOK m' W → wst m' W = (dfE s a vis x y rec (cwq m0 W i)).foldl wRg (wst m W) → InI ((i : Int) + 1) ∧ Wx (Ex S (E + 2)) S M_27 (fun r m => r = none ∧ K m) 3 [some (.inr W), some (.inl s), some (.inl a), some (.inl (beenI s vis)), some (.inl x), some (.inl y), some (.inl ((i : Int) + 1))] [] m' := fun m' z1 z2 z3 => ⟨by unfold InI; omega, ih (i + 1) m' (by omega) (by omega) z1 z2 (by
      rw [z3, hE, ← List.foldl_append]
      rfl)⟩
    have no : dfE s a vis x y rec (cwq m0 W i) = [] → InI ((i : Int) + 1) ∧ Wx (Ex S (E + 2)) S M_27 (fun r m => r = none ∧ K m) 3 [some (.inr W), some (.inl s), some (.inl a), some (.inl (beenI s vis)), some (.inl x), some (.inl y), some (.inl ((i : Int) + 1))] [] m := fun e => nx m hF hT (by rw [e]; rfl)
    rw [← ecw] at no nx
    have c1 : (cwq m W i).1 = m (W + 1) i := rfl
    have c2 : (cwq m W i).2.1 = m (W + 2) i := rfl
    have c3 : (cwq m W i).2.2.1 = m (W + 3) i := rfl
    have c4 : (cwq m W i).2.2.2 = m (W + 4) i := rfl
    rw [Int.toNat_natCast]
    refine ⟨hi, fun v2 e2 _ => ⟨fun z => no (if_pos (Or.inl (by rw [c1, ← e2]; exact z))), fun za => ⟨hi, fun v3 e3 _ => ⟨fun zb => ⟨hi, fun v4 e4 _ => ⟨fun zc => ⟨hi, fun v5 e5 _ b6 e6 _ b7 e7 _ => ⟨fun zd => no ?_, fun z => ⟨hi, fun v8 e8 _ => ⟨hi, fun v9 e9 _ b10 e10 _ b11 e11 _ => ⟨hi, fun v12 e12 _ => ⟨by unfold InI; omega, hi, fun v13 e13 _ => ⟨by unfold InI; omega, ?_⟩⟩⟩⟩⟩⟩⟩, fun zc => ⟨hi, fun v15 e15 _ => ⟨by unfold InI; omega, hi, fun v16 e16 _ => ⟨by unfold InI; omega, f_28e (k := X1 s ||| pmK vis) hW hT (by omega) (by omega) (fun m' k1 k2 k3 => nx m' (hF.tr k1) k2 ?_)⟩⟩⟩⟩⟩, fun zb => no (if_pos (Or.inr (by rw [c2, ← e3]; omega)))⟩⟩⟩⟩
    · have h58 : v5 = v4 := by rw [e5, e4]
      rw [h58] at e6
      have ht := tb_of e6 e7
      have hin2 : tb (beenI s vis) v4 := Classical.byContradiction (fun w => zd (ht.mpr w))
      have hm := ((tb_been hs hv (by omega)).mp hin2).resolve_left zc
      unfold dfE
      rw [if_neg (by rw [c1, c2, ← e2, ← e3]; omega), if_neg (by rw [c2, ← e4]; exact zc), if_pos (by rw [c2, ← e4]; exact hm)]
    · have h59 : v9 = v8 := by rw [e9, e8]
      have h58 : v5 = v8 := by rw [e5, e8]
      have h48 : v4 = v8 := by rw [e4, e8]
      subst h59
      rw [h58] at e6
      rw [h48] at zc
      have hnt : ¬ tb (beenI s vis) v9 := (tb_of e6 e7).mp (Classical.not_not.mp z)
      have hnv : ¬ v9 ∈ vis := fun w => hnt ((tb_been hs hv (by omega)).mpr (Or.inr w))
      have eb := been_or e10 e11
      rw [eb]
      refine hrec m _ v9 v12 v13 hF hT (by omega) (by omega) (by omega) (by omega) (by omega) (by omega) zc hnv (fun m' k1 k2 k3 => nx m' (hF.tr k1) k2 ?_)
      rw [k3]
      unfold dfE
      rw [if_neg (by rw [c1, c2, ← e2, ← e9]; omega), if_neg (by rw [c2, ← e9]; exact zc), if_neg (by rw [c2, ← e9]; exact hnv), c2, c3, c4, ← e9, ← e12, ← e13]
    · rw [k3]
      unfold dfE
      rw [if_neg (by rw [c1, c2, ← e2, ← e3]; omega), if_pos (by rw [c2, ← e4]; exact Classical.not_not.mp zc), c3, c4, ← e15, ← e16]
      rfl
theorem f_27e {W : Nat} (hW : WebSh W) {s : Int} (hs : 0 ≤ s ∧ s < 8) : ∀ (c : Nat) (mem : MM) (K : MM → Prop) (a x y : Int) (vis : List Int), (∀ o ∈ vis, 0 ≤ o ∧ o < 8) → WbOK mem W → WtOK mem W → cnt (beenI s vis) ≤ c → c ≤ 8 → -6 * (9 - (c : Int)) ≤ x → x ≤ 6 * (9 - (c : Int)) → 0 ≤ y → y ≤ 7 * (9 - (c : Int)) → (∀ m', FrWc W mem m' → WtOK m' W → wst m' W = (dfs (cwq mem W) (mem W 0).toNat s (c + 1) a vis x y).foldl wRg (wst mem W) → K m') → CWV (Ex S (n + c + 3)) 27 [.inr W, .inl s, .inl a, .inl (beenI s vis), .inl x, .inl y] mem K := by
  have b1 : ∀ v : Int, ∃ b1 : Int, b1 = ((fun (x y : Int32) => x <<< (y &&& 31)) (Int32.ofInt 1) (Int32.ofInt v)).toInt := fun v => ⟨_, rfl⟩
  have grow : ∀ (vis : List Int) (v : Int), (∀ o ∈ vis, 0 ≤ o ∧ o < 8) → 0 ≤ v → v ≤ 7 → ¬ v = s → ¬ v ∈ vis → cnt (beenI s (v :: vis)) < cnt (beenI s vis) := fun vis v hv v1 v2 ne nv => by
    obtain ⟨b, e1⟩ := b1 v
    have e2 := been_or (st := s) (vis := vis) e1 rfl
    rw [← e2]
    exact cnt_set e1 rfl ⟨v1, by omega⟩ (fun z => ((tb_been hs hv ⟨v1, by omega⟩).mp z).elim ne nv)
  intro c
  induction c with
  | zero =>
    intro mem K a x y vis hv hO hT hc hc8 x1 x2 y1 y2 H
    refine CW.of (k := 1) mt_27 rfl rfl (w_27_0 (Ex.mono S (n + 0 + 2)) hW (go_3e (rec := dfs (cwq mem W) (mem W 0).toNat s 0) hW hs hv hO (by omega) (by omega) y1 (by omega) H (fun m K v l e _ _ v1 v2 _ _ _ _ ne nv _ => ?_) 65 0 mem (by omega) hO.2.1 FrWc.rf hT rfl))
    have := grow vis v hv v1 v2 ne nv
    omega
  | succ c ihc =>
    intro mem K a x y vis hv hO hT hc hc8 x1 x2 y1 y2 H
    refine CW.of (k := 1) mt_27 rfl rfl (w_27_0 (Ex.mono S (n + (c + 1) + 2)) hW (go_3e (rec := dfs (cwq mem W) (mem W 0).toNat s (c + 1)) hW hs hv hO (by omega) (by omega) y1 (by omega) H (fun m K v l e hF hT' v1 v2 l1 l2 d1 d2 ne nv H' => ?_) 65 0 mem (by omega) hO.2.1 FrWc.rf hT rfl))
    have := grow vis v hv v1 v2 ne nv
    have e0 : m W 0 = mem W 0 := hF W 0 (by omega)
    have ec : cwq m W = cwq mem W := funext fun i => by
      unfold cwq
      rw [hF (W + 1) i (by omega), hF (W + 2) i (by omega), hF (W + 3) i (by omega), hF (W + 4) i (by omega)]
    refine ihc m K v (x + l) (y + e) (v :: vis) (fun o ho => (List.mem_cons.mp ho).elim (fun z => by rw [z]; omega) (hv o)) (hF.wb hO) hT' (by omega) (by omega) (by omega) (by omega) (by omega) (by omega) (fun m' k1 k2 k3 => H' m' k1 k2 (by rw [k3, ec, e0]))
end RTE
end
section
/-! the rate of rings, reduced, as both sides come to it -/
def GcD (r a b : Int) : Prop := 0 < r ∧ r ∣ a ∧ r ∣ b ∧ ∀ d : Int, d ∣ a → d ∣ b → d ∣ r
theorem eu_step {x y : Int} (d : Int) : (d ∣ y ∧ d ∣ x.tmod y) ↔ (d ∣ x ∧ d ∣ y) := by
  constructor
  · rintro ⟨h1, h2⟩
    refine ⟨?_, h1⟩
    have k := Int.dvd_add (Int.dvd_mul_of_dvd_left (c := x.tdiv y) h1) h2
    rw [Int.mul_tdiv_add_tmod] at k
    exact k
  · rintro ⟨h1, h2⟩
    refine ⟨h2, ?_⟩
    rw [Int.tmod_def]
    exact Int.dvd_sub h1 (Int.dvd_mul_of_dvd_left h2)
theorem GcD.fin {a b x : Int} (hx : 0 < x) (h : ∀ d : Int, (d ∣ x ∧ d ∣ 0) ↔ (d ∣ a ∧ d ∣ b)) : GcD x a b := ⟨hx, ((h x).mp ⟨Int.dvd_refl _, Int.dvd_zero _⟩).1, ((h x).mp ⟨Int.dvd_refl _, Int.dvd_zero _⟩).2, fun d h1 h2 => ((h d).mpr ⟨h1, h2⟩).1⟩
theorem GcD.red {r a b : Int} (h : GcD r a b) (ha : 0 ≤ a) (hb : 0 < b) : a = r * a.tdiv r ∧ b = r * b.tdiv r ∧ 0 ≤ a.tdiv r ∧ 1 ≤ b.tdiv r ∧ GcD 1 (a.tdiv r) (b.tdiv r) ∧ (0 < a → 0 < a.tdiv r) := by
  obtain ⟨h1, h2, h3, h4⟩ := h
  have ea := Int.mul_tdiv_cancel' h2
  have eb := Int.mul_tdiv_cancel' h3
  have pa := (tdiv_r ha h1).1
  have pb := (tdiv_r (Int.le_of_lt hb) h1).1
  have nb : ¬ b.tdiv r = 0 := fun z => by
    rw [z, Int.mul_zero] at eb
    omega
  refine ⟨ea.symm, eb.symm, pa, by omega, ⟨by omega, ⟨_, (Int.one_mul _).symm⟩, ⟨_, (Int.one_mul _).symm⟩, fun d d1 d2 => ?_⟩, fun z => ?_⟩
  · have k1 := Int.mul_dvd_mul_left r d1
    have k2 := Int.mul_dvd_mul_left r d2
    rw [ea] at k1
    rw [eb] at k2
    have k := h4 (r * d) k1 k2
    exact Int.dvd_of_mul_dvd_mul_left (a := r) (by omega) (by rw [Int.mul_one]; exact k)
  · have na : ¬ a.tdiv r = 0 := fun w => by
      rw [w, Int.mul_zero] at ea
      omega
    omega
theorem GcD.uq {g r u l : Int} (hg : 0 < g) (h1 : GcD 1 u l) (h : GcD r (g * u) (g * l)) : r = g := by
  obtain ⟨r0, r1, r2, r3⟩ := h
  obtain ⟨k, ek⟩ := r3 g (Int.dvd_mul_right _ _) (Int.dvd_mul_right _ _)
  subst ek
  have k1 : k ∣ u := Int.dvd_of_mul_dvd_mul_left (a := g) (by omega) r1
  have k2 : k ∣ l := Int.dvd_of_mul_dvd_mul_left (a := g) (by omega) r2
  have kd := h1.2.2.2 k k1 k2
  have kp : 0 ≤ k := by
    rcases Int.lt_or_le k 0 with z | z
    · have := Int.mul_nonpos_of_nonneg_of_nonpos (Int.le_of_lt hg) (Int.le_of_lt z)
      omega
    · exact z
  rw [Int.eq_one_of_dvd_one kp kd, Int.mul_one]
theorem GcD.gs {u l p : Int} (h : GcD 1 u l) (hd : u ∣ p * l) : u ∣ p := by
  have g : Int.gcd u l = 1 := Int.gcd_eq_one_iff.mpr h.2.2.2
  have k := Int.dvd_mul_gcd_iff_dvd_mul.mpr hd
  rw [g] at k
  have e : p * ((1 : Nat) : Int) = p := Int.mul_one p
  rw [e] at k
  exact k
theorem GcD.same {u l p q : Int} (hu : 0 ≤ u) (hp : 0 < p) (h1 : GcD 1 u l) (h2 : GcD 1 p q) (e : p * l = u * q) : u = p ∧ l = q := by
  have c := Int.dvd_antisymm hu (Int.le_of_lt hp) (h1.gs ⟨q, e⟩) (h2.gs ⟨l, e.symm⟩)
  refine ⟨c, ?_⟩
  rw [c] at e
  exact Int.eq_of_mul_eq_mul_left (by omega) e
def RtR (s : Int × Int × Int) (u l c : Int) : Prop := (∃ g : Int, 0 < g ∧ s.1 = g * u ∧ s.2.1 = g * l ∧ GcD 1 u l) ∧ 0 ≤ u ∧ 1 ≤ l ∧ s.2.2 = c ∧ (0 < u → 1 ≤ c)
theorem RtR.ini : RtR (0, 1, 0) 0 1 0 := ⟨⟨1, by omega, rfl, rfl, by omega, ⟨0, rfl⟩, ⟨1, rfl⟩, fun _ _ h => h⟩, by omega, by omega, rfl, fun h => by omega⟩
theorem RtR.step {s : Int × Int × Int} {u l c D W : Int} {M : Int32} (h : RtR s u l c) (hW : 1 ≤ W) (hM : 1 ≤ M.toInt) : (D ≤ 0 ∨ D * l - u * W < 0 → RtR (wRg s (D, W, M)) u l c) ∧ (0 < D → 0 ≤ D * l - u * W → ∀ r, GcD r D W → ∀ c', (0 < D * l - u * W → c' = M.toInt) → (D * l - u * W = 0 → (c = 0 → c' = M.toInt) ∧ (¬ c = 0 → c' = min c M.toInt)) → RtR (wRg s (D, W, M)) (D.tdiv r) (W.tdiv r) c') := by
  obtain ⟨s1, s2, s3⟩ := s
  obtain ⟨⟨g, g0, g1, g2, g3⟩, hu, hl, hc, h1⟩ := h
  have g1 : s1 = g * u := g1
  have g2 : s2 = g * l := g2
  have hc : s3 = c := hc
  subst g1
  subst g2
  subst hc
  have e1 : D * (g * l) = g * (D * l) := Int.mul_left_comm D g l
  have e2 : g * u * W = g * (u * W) := Int.mul_assoc g u W
  have em : D * (g * l) - g * u * W = g * (D * l - u * W) := by rw [e1, e2, Int.mul_sub]
  have ew : wRg (g * u, g * l, s3) (D, W, M) = if D ≤ 0 ∨ W ≤ 0 then (g * u, g * l, s3) else if 0 < D * (g * l) - g * u * W then (D, W, M.toInt) else if D * (g * l) - g * u * W = 0 then (g * u, g * l, min s3 M.toInt) else (g * u, g * l, s3) := rfl
  rw [ew, em]
  have same : RtR (g * u, g * l, s3) u l s3 := ⟨⟨g, g0, rfl, rfl, g3⟩, hu, hl, rfl, h1⟩
  generalize hz : D * l - u * W = z
  refine ⟨fun q => ?_, fun hD hz0 r hr c' k1 k2 => ?_⟩
  · by_cases q2 : D ≤ 0
    · rw [if_pos (Or.inl q2)]; exact same
    · have gz : g * z < 0 := Int.mul_neg_of_pos_of_neg g0 (by omega)
      rw [if_neg (by omega), if_neg (by omega), if_neg (by omega)]; exact same
  · obtain ⟨ea, eb, pa, pb, gc, pp⟩ := hr.red (by omega) (by omega)
    rw [if_neg (by omega)]
    by_cases q : 0 < z
    · have gz : 0 < g * z := Int.mul_pos g0 q
      rw [if_pos gz]
      exact ⟨⟨r, hr.1, ea, eb, gc⟩, pa, pb, (k1 q).symm, fun _ => by rw [k1 q]; exact hM⟩
    · have z0 : z = 0 := by omega
      have gz : g * z = 0 := by rw [z0]; exact Int.mul_zero _
      rw [if_neg (by omega), if_pos gz]
      have up : 0 < u := by
        have d1 : 0 < D * l := Int.mul_pos hD (by omega)
        by_cases w : u = 0
        · rw [w, Int.zero_mul] at hz
          omega
        · omega
      have c1 := h1 up
      have e : D.tdiv r * l = u * W.tdiv r := Int.eq_of_mul_eq_mul_left (a := r) (by have := hr.1; omega) (by
        have a1 : r * (D.tdiv r * l) = D * l := by rw [← Int.mul_assoc, ← ea]
        have a2 : r * (u * W.tdiv r) = u * W := by rw [Int.mul_left_comm, ← eb]
        rw [a1, a2]
        omega)
      obtain ⟨x1, x2⟩ := GcD.same hu (pp hD) g3 gc e
      rw [← x1, ← x2]
      have ck := (k2 z0).2 (by omega)
      exact ⟨⟨g, g0, rfl, rfl, g3⟩, hu, hl, ck.symm, fun _ => by omega⟩
def RtL (L : List Rg3) (m : MM) (W : Nat) : Prop := ∃ r, GcD r (L.foldl wRg (0, 1, 0)).1 (L.foldl wRg (0, 1, 0)).2.1 ∧ m W 5 = (L.foldl wRg (0, 1, 0)).1.tdiv r ∧ m W 6 = (L.foldl wRg (0, 1, 0)).2.1.tdiv r ∧ m W 7 = (L.foldl wRg (0, 1, 0)).2.2
theorem RtL.eq {L : List Rg3} {m : MM} {W : Nat} {u l c : Int} (h : RtL L m W) (h2 : RtR (L.foldl wRg (0, 1, 0)) u l c) : m W 5 = u ∧ m W 6 = l ∧ m W 7 = c := by
  obtain ⟨r, h3, h4, h5, h6⟩ := h
  obtain ⟨⟨g, g0, g1, g2, g3⟩, -, -, g4, -⟩ := h2
  rw [g1, g2] at h3
  have e := GcD.uq g0 g3 h3
  subst e
  rw [h4, h5, h6, g1, g2, g4]
  exact ⟨Int.mul_tdiv_cancel_left _ (by omega), Int.mul_tdiv_cancel_left _ (by omega), rfl⟩
section RTW
variable {S : Nat × (Nat → Int32)} {n : Nat} {mem : MM}
theorem f_30e {K : Int → MM → Prop} {a b : Int} (ha : 0 ≤ a ∧ a ≤ 80) (hb : 1 ≤ b ∧ b ≤ 80) (H : ∀ r, GcD r a b → K r mem) : CWI (Ex S (n + 1)) 30 [.inl a, .inl b] mem K := by
  have key : ∀ (N : Nat) (x y i : Int), 0 < x ∨ (x = 0 ∧ 0 < y) → 0 ≤ y → 0 ≤ x → 0 ≤ i → y ≤ 80 - i → (100 - i).toNat < N → (∀ d : Int, (d ∣ x ∧ d ∣ y) ↔ (d ∣ a ∧ d ∣ b)) → Wx (Ex S n) S M_30 (fun r m => ∃ y, r = some y ∧ K y m) 7 [some (.inl a), some (.inl b), some (.inl x), some (.inl y), some (.inl i), none] [] mem := by
    intro N
    induction N with
    | zero => intros; omega
    | succ N ih =>
      intro x y i h0 hy hx hi hyi hN hd
      refine w_30_7 (Ex.mono S n) ⟨fun q _ => by omega, fun q => ⟨fun q2 _ => ⟨_, rfl, H x (GcD.fin (by omega) (by subst q2; exact hd))⟩, fun q2 => ⟨by omega, by unfold InI; omega, ?_⟩⟩⟩
      have r := tmod_r hx (show 0 < y by omega)
      exact ih y _ (i + 1) (by omega) r.1 hy (by omega) (by omega) (by omega) (fun d => (eu_step d).trans (hd d))
  exact CW.of (k := 4) mt_30 rfl rfl (w_30_0 (Ex.mono S n) (key 101 a b 0 (by omega) (by omega) ha.1 (by omega) (by omega) (by omega) (fun d => Iff.rfl)))
theorem f_26e {K : MM → Prop} {W : Nat} (hW : WebSh W) (hO : WbOK mem W) {c : Int} (hc : 0 ≤ c ∧ c ≤ 8) (H : ∀ m', FrWc W mem m' → WtOK m' W → RtL (ringsAll (cwq mem W) (mem W 0).toNat c.toNat) m' W → K m') : CWV (Ex S (n + 12)) 26 [.inr W, .inl c] mem K := by
  have key : ∀ (N : Nat) (o : Nat) (m : MM), 8 - o < N → (o : Int) ≤ c → FrWc W mem m → WtOK m W → wst m W = (ringsAll (cwq mem W) (mem W 0).toNat o).foldl wRg (0, 1, 0) → Wx (Ex S (n + 11)) S M_26 (fun r m => r = none ∧ K m) 17 [some (.inr W), some (.inl c), some (.inl (o : Int))] [] m := by
    intro N
    induction N with
    | zero => intros; omega
    | succ N ih =>
      intro o m hN hoc hF hT hE
      refine w_26_17 (Ex.mono S (n + 11)) hW ⟨fun q v1 e1 _ v2 e2 _ => ?_, fun q b7 e7 _ => ?_⟩
      · have eo : o = c.toNat := by omega
        subst eo
        obtain ⟨h5, h6⟩ := hT
        generalize hL : ringsAll (cwq mem W) (mem W 0).toNat c.toNat = L at H hE
        unfold RtL at H
        generalize hs : L.foldl wRg (0, 1, 0) = s at H hE
        subst hE
        have hv1 : v1 = (wst m W).1 := e1
        have hv2 : v2 = (wst m W).2.1 := e2
        refine f_30e ⟨by omega, by omega⟩ ⟨by omega, by omega⟩ (fun r hr _ => ?_)
        rw [hv1, hv2] at hr
        refine ⟨fun q1 => ⟨rfl, H m hF ⟨h5, h6⟩ ⟨r, hr, ?_, ?_, rfl⟩⟩, fun _ v5 e5 _ => ⟨hr.1, fun v6 e6 _ => ⟨hr.1, rfl, H _ (fun A i e => ?_) ⟨?_, ?_⟩ ⟨r, hr, ?_, ?_, ?_⟩⟩⟩⟩
        · have r1 : r = 1 := by have := hr.1; omega
          rw [r1, Int.tdiv_one]; rfl
        · have r1 : r = 1 := by have := hr.1; omega
          rw [r1, Int.tdiv_one]; rfl
        · rw [upm_ne (by omega), upm_ne (by omega)]; exact hF A i e
        · rw [upm_ne (by omega), upm_eq]
          have := tdiv_r (show 0 ≤ v5 by omega) hr.1
          omega
        · rw [upm_ne (by omega)] at e6
          have g := hr.red (show 0 ≤ (wst m W).1 from h5.1) (show 0 < (wst m W).2.1 from by show 0 < m W 6; omega)
          have g1 : 1 ≤ (m W 6).tdiv r := g.2.2.2.1
          have := tdiv_r (show 0 ≤ m W 6 by omega) hr.1
          rw [upm_eq, e6]; omega
        · rw [upm_ne (by omega), upm_eq, e5]; rfl
        · rw [upm_ne (by omega)] at e6
          rw [upm_eq, e6]; rfl
        · rw [upm_ne (by omega), upm_ne (by omega)]; rfl
      · have e0 : m W 0 = mem W 0 := hF W 0 (by omega)
        have ec : cwq m W = cwq mem W := funext fun i => by
          unfold cwq
          rw [hF (W + 1) i (by omega), hF (W + 2) i (by omega), hF (W + 3) i (by omega), hF (W + 4) i (by omega)]
        have eb : b7 = beenI (o : Int) [] := by
          have e7 : b7 = (X1 (o : Int)).toInt := e7
          rw [e7]
          show (X1 (o : Int)).toInt = (X1 (o : Int) ||| 0).toInt
          rw [Int32.or_zero]
        rw [eb]
        refine f_27e hW (s := (o : Int)) ⟨by omega, by omega⟩ 8 m _ (o : Int) 0 0 [] (fun _ h => absurd h List.not_mem_nil) (hF.wb hO) hT (cnt_le _) (by omega) (by omega) (by omega) (by omega) (by omega) (fun m' k1 k2 k3 => ⟨by unfold InI; omega, ih (o + 1) m' (by omega) (by omega) (hF.tr k1) k2 ?_⟩)
        rw [k3, hE, ec, e0, ← List.foldl_append]
        rfl
  refine CW.of (k := 1) mt_26 rfl rfl (w_26_0 (Ex.mono S (n + 11)) hW (key 9 0 _ (by omega) (by omega) (fun A i e => ?_) ⟨?_, ?_⟩ ?_))
  · rw [upm_ne (by omega), upm_ne (by omega), upm_ne (by omega)]
  · rw [upm_ne (by omega), upm_ne (by omega), upm_eq]; omega
  · rw [upm_ne (by omega), upm_eq]; omega
  · unfold wst
    rw [upm_ne (by omega), upm_ne (by omega), upm_eq, upm_ne (by omega), upm_eq, upm_eq]
    rfl
end RTW
def RtX (m : MM) : Prop := WtOK m 9 ∧ RtL (ringsAll (cwq m 9) (m 9 0).toNat (m 1 0).toNat) m 9
theorem RtX.fr {m m' : MM} (h : RtX m) (e : ∀ A i, (A = 9 ∧ (i = 0 ∨ i = 5 ∨ i = 6 ∨ i = 7)) ∨ (10 ≤ A ∧ A ≤ 13) ∨ (A = 1 ∧ i = 0) → m' A i = m A i) : RtX m' := by
  have ec : cwq m' 9 = cwq m 9 := funext fun i => by
    unfold cwq
    rw [e (9 + 1) i (by omega), e (9 + 2) i (by omega), e (9 + 3) i (by omega), e (9 + 4) i (by omega)]
  unfold RtX RtL WtOK
  rw [ec, e 9 0 (by omega), e 1 0 (by omega), e 9 5 (by omega), e 9 6 (by omega), e 9 7 (by omega)]
  exact h
def WbX (m : MM) : Prop := WbS m ∧ Enum (cwq m 9) (m 9 0).toNat (NdC m (-1)) ∧ RtX m
theorem WbX.fr {m m' : MM} (h : WbX m) (e : ∀ A i, (A = 9 ∧ (i = 0 ∨ i = 5 ∨ i = 6 ∨ i = 7)) ∨ (10 ≤ A ∧ A ≤ 13) ∨ (0 < A ∧ A < 9 ∧ ¬ A = 4) → m' A i = m A i) : WbX m' := by
  have y := WbY.fr ⟨h.1, h.2.1⟩ (fun A i q => e A i (by omega))
  exact ⟨y.1, y.2, h.2.2.fr (fun A i q => e A i (by omega))⟩
end
section
/-! the rate is the greatest of the rings -/
theorem fr_tr {a b c d e f : Int} (hd : 0 < d) (hb : 0 ≤ b) (hf : 0 ≤ f) (h1 : a * d ≤ c * b) (h2 : c * f ≤ e * d) : a * f ≤ e * b := by
  have x1 : a * d * f ≤ c * b * f := Int.mul_le_mul_of_nonneg_right h1 hf
  have x2 : c * f * b ≤ e * d * b := Int.mul_le_mul_of_nonneg_right h2 hb
  have e1 : a * d * f = d * (a * f) := by rw [Int.mul_comm a d, Int.mul_assoc]
  have e2 : c * b * f = c * f * b := by rw [Int.mul_assoc, Int.mul_comm b f, ← Int.mul_assoc]
  have e3 : e * d * b = d * (e * b) := by rw [Int.mul_comm e d, Int.mul_assoc]
  exact Int.le_of_mul_le_mul_left (a := d) (by omega) hd
theorem wRg_1 {s : Int × Int × Int} {r : Rg3} (h1 : 0 ≤ s.1) (h2 : 1 ≤ s.2.1) (hr : 1 ≤ r.2.1) : 0 ≤ (wRg s r).1 ∧ 1 ≤ (wRg s r).2.1 ∧ s.1 * (wRg s r).2.1 ≤ (wRg s r).1 * s.2.1 ∧ (r.1 ≤ 0 ∨ r.1 * (wRg s r).2.1 ≤ (wRg s r).1 * r.2.1) ∧ (((wRg s r).1 = s.1 ∧ (wRg s r).2.1 = s.2.1) ∨ ((wRg s r).1 = r.1 ∧ (wRg s r).2.1 = r.2.1 ∧ 0 < r.1)) := by
  by_cases q1 : r.1 ≤ 0
  · have e : wRg s r = s := if_pos (Or.inl q1)
    rw [e]
    exact ⟨h1, h2, Int.le_refl _, Or.inl q1, Or.inl ⟨rfl, rfl⟩⟩
  · have e0 : wRg s r = if 0 < r.1 * s.2.1 - s.1 * r.2.1 then (r.1, r.2.1, r.2.2.toInt) else if r.1 * s.2.1 - s.1 * r.2.1 = 0 then (s.1, s.2.1, min s.2.2 r.2.2.toInt) else s := if_neg (by omega)
    by_cases q2 : 0 < r.1 * s.2.1 - s.1 * r.2.1
    · have e : wRg s r = (r.1, r.2.1, r.2.2.toInt) := by rw [e0, if_pos q2]
      rw [e]
      exact ⟨by show 0 ≤ r.1; omega, hr, by show s.1 * r.2.1 ≤ r.1 * s.2.1; omega, Or.inr (Int.le_refl _), Or.inr ⟨rfl, rfl, by omega⟩⟩
    · have e : (wRg s r).1 = s.1 ∧ (wRg s r).2.1 = s.2.1 := by
        rw [e0, if_neg q2]
        split
        · exact ⟨rfl, rfl⟩
        · exact ⟨rfl, rfl⟩
      rw [e.1, e.2]
      exact ⟨h1, h2, Int.le_refl _, Or.inr (by omega), Or.inl ⟨rfl, rfl⟩⟩
theorem wRg_mx : ∀ (L : List Rg3) (s : Int × Int × Int), 0 ≤ s.1 → 1 ≤ s.2.1 → (∀ r ∈ L, 1 ≤ r.2.1) → 0 ≤ (L.foldl wRg s).1 ∧ 1 ≤ (L.foldl wRg s).2.1 ∧ s.1 * (L.foldl wRg s).2.1 ≤ (L.foldl wRg s).1 * s.2.1 ∧ (∀ r ∈ L, r.1 ≤ 0 ∨ r.1 * (L.foldl wRg s).2.1 ≤ (L.foldl wRg s).1 * r.2.1) ∧ (((L.foldl wRg s).1 = s.1 ∧ (L.foldl wRg s).2.1 = s.2.1) ∨ ∃ r ∈ L, (L.foldl wRg s).1 = r.1 ∧ (L.foldl wRg s).2.1 = r.2.1 ∧ 0 < r.1)
  | [], s, h1, h2, _ => ⟨h1, h2, Int.le_refl _, fun _ h => absurd h List.not_mem_nil, Or.inl ⟨rfl, rfl⟩⟩
  | x :: l, s, h1, h2, h => by
    have hx := h x List.mem_cons_self
    obtain ⟨a1, a2, a3, a4, a5⟩ := wRg_1 h1 h2 hx
    obtain ⟨b1, b2, b3, b4, b5⟩ := wRg_mx l (wRg s x) a1 a2 (fun r hr => h r (List.mem_cons_of_mem _ hr))
    show 0 ≤ (l.foldl wRg (wRg s x)).1 ∧ 1 ≤ (l.foldl wRg (wRg s x)).2.1 ∧ s.1 * (l.foldl wRg (wRg s x)).2.1 ≤ (l.foldl wRg (wRg s x)).1 * s.2.1 ∧ (∀ r ∈ x :: l, r.1 ≤ 0 ∨ r.1 * (l.foldl wRg (wRg s x)).2.1 ≤ (l.foldl wRg (wRg s x)).1 * r.2.1) ∧ (((l.foldl wRg (wRg s x)).1 = s.1 ∧ (l.foldl wRg (wRg s x)).2.1 = s.2.1) ∨ ∃ r ∈ x :: l, (l.foldl wRg (wRg s x)).1 = r.1 ∧ (l.foldl wRg (wRg s x)).2.1 = r.2.1 ∧ 0 < r.1)
    generalize l.foldl wRg (wRg s x) = t at b1 b2 b3 b4 b5 ⊢
    refine ⟨b1, b2, fr_tr (by omega) (by omega) (by omega) a3 b3, fun r hr => ?_, ?_⟩
    · rcases List.mem_cons.mp hr with e | e
      · subst e
        exact a4.imp id (fun q => fr_tr (by omega) (by omega) (by omega) q b3)
      · exact b4 r e
    · rcases b5 with ⟨e1, e2⟩ | ⟨r, hr, e⟩
      · rcases a5 with ⟨f1, f2⟩ | ⟨f1, f2, f3⟩
        · exact Or.inl ⟨e1.trans f1, e2.trans f2⟩
        · exact Or.inr ⟨x, List.mem_cons_self, e1.trans f1, e2.trans f2, f3⟩
      · exact Or.inr ⟨r, List.mem_cons_of_mem _ hr, e⟩
end
section
/-! quotients, upwards -/
def upV (a b : Int) : Int := (a + b - 1) / b
theorem upV_of {a b r : Int} (hb : 0 < b) (h1 : b * (r - 1) < a) (h2 : a ≤ b * r) : r = upV a b := by
  unfold upV
  have d1 := Int.mul_ediv_add_emod (a + b - 1) b
  have d2 := Int.emod_nonneg (a + b - 1) (show b ≠ 0 by omega)
  have d3 := Int.emod_lt_of_pos (a + b - 1) hb
  generalize (a + b - 1) / b = q at d1 ⊢
  have e1 : b * (r - 1) = b * r - b := by rw [Int.mul_sub, Int.mul_one]
  have e2 : b * (r + 1) = b * r + b := by rw [Int.mul_add, Int.mul_one]
  have e3 : b * (q + 1) = b * q + b := by rw [Int.mul_add, Int.mul_one]
  have l1 : q < r + 1 := Int.lt_of_mul_lt_mul_left (a := b) (by omega) (by omega)
  have l2 : r < q + 1 := Int.lt_of_mul_lt_mul_left (a := b) (by omega) (by omega)
  omega
theorem ru_fin0 {a b z r w : Int} (h1 : 0 < b) (h2 : 0 ≤ a) (e : z = -a) (hz : -2147483647 ≤ z) (ra : b * r ≤ z) (rb : z < b * r + b) (r1 : -2147483648 ≤ r) (r2 : r ≤ 2147483647) (we : -2147483648 ≤ -r ∧ -r ≤ 2147483647 → w = -r) : w = upV a b := by
  rcases (show a = 0 ∨ 0 < a by omega) with q | q
  · have r0 : r = 0 := by
      rcases Int.lt_trichotomy r 0 with x | x | x
      · have := Int.mul_le_mul_of_nonneg_left (show r ≤ -1 by omega) (Int.le_of_lt h1)
        omega
      · exact x
      · have := Int.mul_le_mul_of_nonneg_left (show 1 ≤ r by omega) (Int.le_of_lt h1)
        omega
    subst r0
    have w0 := we (by omega)
    subst w0
    exact upV_of h1 (by omega) (by omega)
  · obtain ⟨x, y, -⟩ := ru_fin h1 q e hz ra rb r1 r2 we
    exact upV_of h1 x y
theorem upV_rg {a b : Int} (hb : 0 < b) (ha : 0 ≤ a) : 0 ≤ upV a b ∧ upV a b ≤ a := by
  have d1 := Int.mul_ediv_add_emod (a + b - 1) b
  have d2 := Int.emod_nonneg (a + b - 1) (show b ≠ 0 by omega)
  have d3 := Int.emod_lt_of_pos (a + b - 1) hb
  have e : upV a b = (a + b - 1) / b := rfl
  rw [← e] at d1
  exact up_rng hb ha (by rw [Int.mul_sub, Int.mul_one]; omega) (by omega)
end
section
/-! rings that are gone round, edge by edge, are the closed walks: no ring is above d times its distances just if no closed walk is above 0 -/
def EdQ (c : Nat → Q4) (n : Nat) (d : Int) (a b : Nat) (x : Int) : Prop := ∃ j : Nat, j < n ∧ (c j).1 = a ∧ (c j).2.1 = b ∧ x = (c j).2.2.2 - d * (c j).2.2.1
def EdV (c : Nat → Q4) (n o : Nat) : Prop := ∀ j, j < n → (∃ a b : Nat, (c j).1 = a ∧ (c j).2.1 = b ∧ a < o ∧ b < o) ∧ 0 ≤ (c j).2.2.1 ∧ ((c j).2.2.1 = 0 → (c j).1 < (c j).2.1)
def NoUp (E : Nat → Nat → Int → Prop) : Prop := ∀ a p v, p.Nodup → Wk E a p a v → v ≤ 0
theorem fmN_mem {f : Nat → List Rg3} {r : Rg3} : ∀ n, r ∈ fmN f n ↔ ∃ i, i < n ∧ r ∈ f i
  | 0 => ⟨fun h => absurd h List.not_mem_nil, fun ⟨i, h, _⟩ => by omega⟩
  | n + 1 => by
    show r ∈ fmN f n ++ f n ↔ _
    rw [List.mem_append, fmN_mem n]
    constructor
    · rintro (⟨i, h1, h2⟩ | h)
      · exact ⟨i, by omega, h2⟩
      · exact ⟨n, by omega, h⟩
    · rintro ⟨i, h1, h2⟩
      by_cases e : i = n
      · subst e; exact Or.inr h2
      · exact Or.inl ⟨i, by omega, h2⟩
theorem ringsAll_mem {c : Nat → Q4} {n : Nat} {r : Rg3} : ∀ o, r ∈ ringsAll c n o ↔ ∃ s : Nat, s < o ∧ r ∈ dfs c n (s : Int) 9 (s : Int) [] 0 0
  | 0 => ⟨fun h => absurd h List.not_mem_nil, fun ⟨i, h, _⟩ => by omega⟩
  | o + 1 => by
    show r ∈ ringsAll c n o ++ dfs c n (o : Int) 9 (o : Int) [] 0 0 ↔ _
    rw [List.mem_append, ringsAll_mem o]
    constructor
    · rintro (⟨i, h1, h2⟩ | h)
      · exact ⟨i, by omega, h2⟩
      · exact ⟨o, by omega, h⟩
    · rintro ⟨i, h1, h2⟩
      by_cases e : i = o
      · subst e; exact Or.inr h2
      · exact Or.inl ⟨i, by omega, h2⟩
section RNG
variable {c : Nat → Q4} {n o : Nat} {d : Int}
theorem dfE_mem {st a : Nat} {vis : List Int} {D W : Int} {rec : Int → List Int → Int → Int → List Rg3} {i : Nat} {b : Nat} (hb : (c i).2.1 = b) {r : Rg3} (h : r ∈ dfE (st : Int) (a : Int) vis D W rec (c i)) : (c i).1 = a ∧ st ≤ b ∧ ((b = st ∧ r = (D + (c i).2.2.2, W + (c i).2.2.1, X1 (st : Int) ||| pmK vis)) ∨ (¬ b = st ∧ ¬ (b : Int) ∈ vis ∧ r ∈ rec (b : Int) ((b : Int) :: vis) (D + (c i).2.2.2) (W + (c i).2.2.1))) := by
  unfold dfE at h
  by_cases q1 : ¬ (c i).1 = a ∨ (c i).2.1 < (st : Int)
  · rw [if_pos q1] at h
    exact absurd h List.not_mem_nil
  · rw [if_neg q1] at h
    refine ⟨by omega, by omega, ?_⟩
    by_cases q2 : (c i).2.1 = (st : Int)
    · rw [if_pos q2] at h
      exact Or.inl ⟨by omega, List.mem_singleton.mp h⟩
    · rw [if_neg q2] at h
      by_cases q3 : (c i).2.1 ∈ vis
      · rw [if_pos q3] at h
        exact absurd h List.not_mem_nil
      · rw [if_neg q3] at h
        rw [hb] at q3 h
        exact Or.inr ⟨by omega, q3, h⟩
theorem dfs_wk (hV : EdV c n o) {st : Nat} : ∀ (f : Nat) (a : Nat) (vis : List Int) (D W : Int) (r : Rg3), r ∈ dfs c n (st : Int) f (a : Int) vis D W → ∃ p v, p.Nodup ∧ (∀ x ∈ p, st < x ∧ ¬ (x : Int) ∈ vis) ∧ Wk (EdQ c n d) a p st v ∧ r.1 - d * r.2.1 = D - d * W + v
  | 0, a, vis, D, W, r, h => absurd h List.not_mem_nil
  | f + 1, a, vis, D, W, r, h => by
    obtain ⟨i, hi, hr⟩ := (fmN_mem n).mp h
    obtain ⟨⟨u, b, hu, hb, -, -⟩, -, -⟩ := hV i hi
    obtain ⟨e1, e2, h⟩ := dfE_mem hb hr
    have ed : EdQ c n d a b ((c i).2.2.2 - d * (c i).2.2.1) := ⟨i, hi, e1, hb, rfl⟩
    rcases h with ⟨e3, e4⟩ | ⟨e3, e4, e5⟩
    · subst e3
      subst e4
      refine ⟨[], _, List.nodup_nil, fun x hx => absurd hx List.not_mem_nil, ed, ?_⟩
      show D + (c i).2.2.2 - d * (W + (c i).2.2.1) = _
      rw [Int.mul_add]; omega
    · obtain ⟨p, v, g1, g2, g3, g4⟩ := dfs_wk hV f b _ _ _ r e5
      refine ⟨b :: p, _, List.nodup_cons.mpr ⟨fun w => (g2 b w).2 List.mem_cons_self, g1⟩, fun x hx => ?_, ⟨_, _, ed, g3, rfl⟩, ?_⟩
      · rcases List.mem_cons.mp hx with rfl | hx
        · exact ⟨by omega, e4⟩
        · exact ⟨(g2 x hx).1, fun w => (g2 x hx).2 (List.mem_cons_of_mem _ w)⟩
      · rw [g4, Int.mul_add]; omega
theorem wk_dfs {st : Nat} : ∀ (p : List Nat) (f a : Nat) (vis : List Int) (D W v : Int), p.length < f → p.Nodup → (∀ x ∈ p, st < x ∧ ¬ (x : Int) ∈ vis) → Wk (EdQ c n d) a p st v → ∃ r, r ∈ dfs c n (st : Int) f (a : Int) vis D W ∧ r.1 - d * r.2.1 = D - d * W + v
  | [], f, a, vis, D, W, v, hf, _, _, ⟨j, h1, h2, h3, h4⟩ => by
    obtain ⟨f, rfl⟩ : ∃ k, f = k + 1 := ⟨f - 1, by simp at hf; omega⟩
    refine ⟨(D + (c j).2.2.2, W + (c j).2.2.1, X1 (st : Int) ||| pmK vis), (fmN_mem n).mpr ⟨j, h1, ?_⟩, ?_⟩
    · unfold dfE
      rw [if_neg (by omega), if_pos h3]
      exact List.mem_singleton.mpr rfl
    · show D + (c j).2.2.2 - d * (W + (c j).2.2.1) = _
      rw [Int.mul_add]; omega
  | b :: p, f, a, vis, D, W, v, hf, hn, hp, ⟨x, y, ⟨j, h1, h2, h3, h4⟩, h5, h6⟩ => by
    rw [List.length_cons] at hf
    obtain ⟨f, rfl⟩ : ∃ k, f = k + 1 := ⟨f - 1, by omega⟩
    have hb := hp b List.mem_cons_self
    rw [List.nodup_cons] at hn
    obtain ⟨r, r1, r2⟩ := wk_dfs p f b ((b : Int) :: vis) (D + (c j).2.2.2) (W + (c j).2.2.1) y (by omega) hn.2 (fun z hz => ⟨(hp z (List.mem_cons_of_mem _ hz)).1, fun w => by
      rcases List.mem_cons.mp w with w | w
      · have : z = b := by omega
        subst this
        exact hn.1 hz
      · exact (hp z (List.mem_cons_of_mem _ hz)).2 w⟩) h5
    refine ⟨r, (fmN_mem n).mpr ⟨j, h1, ?_⟩, ?_⟩
    · unfold dfE
      rw [if_neg (by omega), if_neg (by omega), if_neg (by rw [h3]; exact hb.2), h3]
      exact r1
    · rw [r2, h6, h4, Int.mul_add]; omega
theorem least_in : ∀ (l : List Nat) (a : Nat), ∃ l1 m l2, a :: l = l1 ++ m :: l2 ∧ ∀ x ∈ a :: l, m ≤ x
  | [], a => ⟨[], a, [], rfl, fun x hx => by rw [List.mem_singleton.mp hx]; omega⟩
  | b :: l, a => by
    obtain ⟨l1, m, l2, e, h⟩ := least_in l b
    by_cases q : a ≤ m
    · refine ⟨[], a, b :: l, rfl, fun x hx => ?_⟩
      rcases List.mem_cons.mp hx with rfl | hx
      · omega
      · have := h x hx; omega
    · refine ⟨a :: l1, m, l2, by rw [e]; rfl, fun x hx => ?_⟩
      rcases List.mem_cons.mp hx with rfl | hx
      · omega
      · exact h x hx
theorem Wk.ends {E : Nat → Nat → Int → Prop} (hV : ∀ a b x, E a b x → a < o ∧ b < o) : ∀ {p : List Nat} {a b : Nat} {v : Int}, Wk E a p b v → a < o ∧ b < o ∧ ∀ x ∈ p, x < o
  | [], a, b, v, h => ⟨(hV a b v h).1, (hV a b v h).2, fun x hx => absurd hx List.not_mem_nil⟩
  | e :: p, a, b, v, ⟨x, y, h4, h5, h6⟩ => by
    obtain ⟨k1, k2, k3⟩ := Wk.ends hV h5
    refine ⟨(hV _ _ _ h4).1, k2, fun z hz => ?_⟩
    rcases List.mem_cons.mp hz with rfl | hz
    · exact k1
    · exact k3 z hz
theorem EdQ.v (hV : EdV c n o) (a b : Nat) (x : Int) (h : EdQ c n d a b x) : a < o ∧ b < o := by
  obtain ⟨j, h1, h2, h3, h4⟩ := h
  obtain ⟨⟨u, w, hu, hw, h5, h6⟩, -, -⟩ := hV j h1
  omega
theorem noup_of (ho : o ≤ 8) (hV : EdV c n o) (hR : ∀ r ∈ ringsAll c n o, r.1 ≤ d * r.2.1) : ∀ (N : Nat) (p : List Nat) (a : Nat) (v : Int), p.length < N → p.Nodup → Wk (EdQ c n d) a p a v → v ≤ 0 := by
  intro N
  induction N with
  | zero => intros; omega
  | succ N ih =>
    intro p a v hN hn hw
    by_cases ha : a ∈ p
    · obtain ⟨p1, p2, rfl⟩ := List.append_of_mem ha
      obtain ⟨x, y, h1, h2, h3⟩ := Wk.split hw
      rw [List.nodup_append, List.nodup_cons] at hn
      rw [List.length_append, List.length_cons] at hN
      have := ih p1 a x (by omega) hn.1 h1
      have := ih p2 a y (by omega) hn.2.1.2 h2
      omega
    · have hna : (a :: p).Nodup := List.nodup_cons.mpr ⟨ha, hn⟩
      obtain ⟨-, -, he⟩ := Wk.ends (EdQ.v hV) hw
      have hao := (Wk.ends (EdQ.v hV) hw).1
      obtain ⟨l1, m, l2, e, hm⟩ := least_in p a
      have done : ∀ q v', q.Nodup → (∀ x ∈ q, m < x) → Wk (EdQ c n d) m q m v' → v' ≤ 0 := by
        intro q v' q1 q2 q3
        have hmo := (Wk.ends (EdQ.v hV) q3).1
        have hl := nd_len (k := 8) q1 (fun x hx => by have := (Wk.ends (EdQ.v hV) q3).2.2 x hx; omega)
        obtain ⟨r, r1, r2⟩ := wk_dfs (st := m) q 9 m [] 0 0 v' (by omega) q1 (fun x hx => ⟨q2 x hx, List.not_mem_nil⟩) q3
        have := hR r ((ringsAll_mem o).mpr ⟨m, hmo, r1⟩)
        rw [Int.mul_zero] at r2
        omega
      rw [e] at hna hm
      rw [List.nodup_append, List.nodup_cons] at hna
      obtain ⟨n1, ⟨n2, n3⟩, n4⟩ := hna
      cases l1 with
      | nil =>
        obtain ⟨e1, e2⟩ := List.cons.inj (show a :: p = m :: l2 from e)
        subst e1
        subst e2
        exact done p v hn (fun x hx => by
          have := hm x (List.mem_cons_of_mem _ hx)
          have : ¬ x = a := fun w => ha (by rw [← w]; exact hx)
          omega) hw
      | cons b l1 =>
        obtain ⟨e1, e2⟩ := List.cons.inj (show a :: p = b :: (l1 ++ m :: l2) from e)
        subst e1
        subst e2
        obtain ⟨x, y, h1, h2, h3⟩ := Wk.split hw
        have w := Wk.app h2 h1
        have := done (l2 ++ a :: l1) (y + x) (by
          rw [List.nodup_append]
          exact ⟨n3, n1, fun u hu w hw => fun z => n4 w hw u (List.mem_cons_of_mem _ hu) z.symm⟩) (fun u hu => by
          have h1 := hm u (by
            rw [List.mem_append] at hu ⊢
            exact hu.elim (fun h => Or.inr (List.mem_cons_of_mem _ h)) Or.inl)
          have : ¬ u = m := fun w => by
            subst w
            rcases List.mem_append.mp hu with h | h
            · exact n2 h
            · exact n4 u h u List.mem_cons_self rfl
          omega) w
        omega
theorem rings_noup (ho : o ≤ 8) (hV : EdV c n o) : (∀ r ∈ ringsAll c n o, r.1 ≤ d * r.2.1) ↔ NoUp (EdQ c n d) := by
  refine ⟨fun h a p v hn hw => noup_of ho hV h _ p a v (Nat.lt_succ_self _) hn hw, fun h r hr => ?_⟩
  obtain ⟨s, hs, hr⟩ := (ringsAll_mem o).mp hr
  obtain ⟨p, v, g1, -, g3, g4⟩ := dfs_wk (d := d) hV 9 s [] 0 0 r hr
  have := h s p v g1 g3
  rw [Int.mul_zero] at g4
  omega
theorem dfs_dist (hV : EdV c n o) {st : Nat} : ∀ (f : Nat) (a : Nat) (vis : List Int) (D W : Int) (r : Rg3), r ∈ dfs c n (st : Int) f (a : Int) vis D W → W < r.2.1 ∨ (W = r.2.1 ∧ a < st)
  | 0, a, vis, D, W, r, h => absurd h List.not_mem_nil
  | f + 1, a, vis, D, W, r, h => by
    obtain ⟨i, hi, hr⟩ := (fmN_mem n).mp h
    obtain ⟨⟨u, b, hu, hb, -, -⟩, k1, k2⟩ := hV i hi
    obtain ⟨e1, e2, h⟩ := dfE_mem hb hr
    rcases h with ⟨e3, e4⟩ | ⟨e3, e4, e5⟩
    · subst e4
      show W < W + (c i).2.2.1 ∨ (W = W + (c i).2.2.1 ∧ a < st)
      by_cases z : (c i).2.2.1 = 0
      · have := k2 z; omega
      · omega
    · have := dfs_dist hV f b _ _ _ r e5
      by_cases z : (c i).2.2.1 = 0
      · have := k2 z; omega
      · omega
theorem ring_dist (hV : EdV c n o) {r : Rg3} (h : r ∈ ringsAll c n o) : 1 ≤ r.2.1 := by
  obtain ⟨s, hs, hr⟩ := (ringsAll_mem o).mp h
  have := dfs_dist hV 9 s [] 0 0 r hr
  omega
end RNG
theorem fold_all {L : List Rg3} (hL : ∀ r ∈ L, 1 ≤ r.2.1) {d : Int} (hd : 0 ≤ d) : (∀ r ∈ L, r.1 ≤ d * r.2.1) ↔ (L.foldl wRg (0, 1, 0)).1 ≤ d * (L.foldl wRg (0, 1, 0)).2.1 := by
  obtain ⟨h1, h2, -, h4, h5⟩ := wRg_mx L (0, 1, 0) (Int.le_refl _) (Int.le_refl _) hL
  generalize L.foldl wRg (0, 1, 0) = s at h1 h2 h4 h5 ⊢
  constructor
  · intro h
    rcases h5 with ⟨e1, e2⟩ | ⟨r, hr, e1, e2, -⟩
    · have e1 : s.1 = 0 := e1
      have e2 : s.2.1 = 1 := e2
      rw [e1, e2]; omega
    · rw [e1, e2]; exact h r hr
  · intro h r hr
    have w := hL r hr
    rcases h4 r hr with q | q
    · have := Int.mul_nonneg hd (show 0 ≤ r.2.1 by omega)
      omega
    · have q2 : s.1 * r.2.1 ≤ d * s.2.1 * r.2.1 := Int.mul_le_mul_of_nonneg_right h (by omega)
      have e : d * s.2.1 * r.2.1 = d * r.2.1 * s.2.1 := by rw [Int.mul_assoc, Int.mul_comm s.2.1, ← Int.mul_assoc]
      exact Int.le_of_mul_le_mul_right (a := s.2.1) (by omega) (by omega)
theorem RtL.rnd {L : List Rg3} {m : MM} {W : Nat} (h : RtL L m W) (hL : ∀ r ∈ L, 1 ≤ r.2.1) {d : Int} (hd : 0 ≤ d) : (∀ r ∈ L, r.1 ≤ d * r.2.1) ↔ m W 5 ≤ d * m W 6 := by
  obtain ⟨h1, h2, -, -, -⟩ := wRg_mx L (0, 1, 0) (Int.le_refl _) (Int.le_refl _) hL
  obtain ⟨g, hg, e5, e6, -⟩ := h
  rw [fold_all hL hd]
  obtain ⟨a1, a2, -⟩ := hg.red h1 (by omega)
  rw [← e5] at a1
  rw [← e6] at a2
  have g0 := hg.1
  rw [a1, a2, Int.mul_left_comm]
  exact ⟨fun q => Int.le_of_mul_le_mul_left q g0, fun q => Int.mul_le_mul_of_nonneg_left q (Int.le_of_lt g0)⟩
end
section
/-! rounds of the reference, exactly: the least d by which no closed walk is above 0 -/
def RdsM (E : Int → Nat → Nat → Int → Prop) (r : Int) : Prop := NoUp (E r) ∧ ∀ d, 0 ≤ d → d < r → ¬ NoUp (E d)
theorem upV_le {U L d : Int} (hU : 0 ≤ U) (hL : 0 < L) (hd : 0 ≤ d) : upV U L ≤ d ↔ U ≤ d * L := by
  have d1 := Int.mul_ediv_add_emod (U + L - 1) L
  have d2 := Int.emod_nonneg (U + L - 1) (show L ≠ 0 by omega)
  have d3 := Int.emod_lt_of_pos (U + L - 1) hL
  have e : upV U L = (U + L - 1) / L := rfl
  rw [← e] at d1
  rw [Int.mul_comm] at d1
  constructor
  · intro h
    have := Int.mul_le_mul_of_nonneg_right h (Int.le_of_lt hL)
    omega
  · intro h
    have e2 : (d + 1) * L = d * L + L := by rw [Int.add_mul, Int.one_mul]
    have := Int.lt_of_mul_lt_mul_right (show upV U L * L < (d + 1) * L by omega) (Int.le_of_lt hL)
    omega
theorem RdsM.eq {E : Int → Nat → Nat → Int → Prop} {r U L : Int} (h : RdsM E r) (hr : 0 ≤ r) (hU : 0 ≤ U) (hL : 0 < L) (hE : ∀ d, 0 ≤ d → (NoUp (E d) ↔ U ≤ d * L)) : r = upV U L := by
  have g0 := (upV_rg hL hU).1
  have a1 := (upV_le hU hL hr).mpr ((hE r hr).mp h.1)
  by_cases q : upV U L < r
  · exact absurd ((hE _ g0).mpr ((upV_le hU hL g0).mp (Int.le_refl _))) (h.2 _ g0 q)
  · omega
theorem WayOK.noup {m : MM} {d : Int} (hN : NdsOK m) (hd : 0 ≤ d ∧ d ≤ 48) (hW : WayOK m d) : (∀ o : Nat, (o : Int) < m 143 1 → WM m 158 o o ≤ 0) ↔ NoUp (NdE m d) := by
  have hV : ∀ a b x, NdE m d a b x → a < (m 143 1).toNat ∧ b < (m 143 1).toNat := fun a b x h => by
    have := NdE.rng hN hd h; omega
  have h8 := hN.1
  have aup := NdE.aup hN hd
  constructor
  · intro h a p v hn hw
    obtain ⟨k1, -, k3⟩ := Wk.ends hV hw
    have hl := nd_len (k := 8) hn (fun x hx => by have := k3 x hx; omega)
    by_cases q : -999 + 99 * (p.length : Int) ≤ v
    · have := hW.2.1 aup a a k1 k1 p v hn k3 hw q
      have := h a (by omega)
      omega
    · omega
  · intro h o ho
    obtain ⟨φ, -, h2⟩ := pot (E := NdE m d) (k := (m 143 1).toNat) (B := 99) hV (fun a p v _ hn _ hw => h a p v hn hw) (fun a p b v hb hn hp hw => aup a p b v (List.nodup_cons.mp (List.nodup_cons.mp hn).2).2 (fun c hc => by have := hp c (List.mem_cons_of_mem _ hc); omega) hw)
    by_cases q : -1000 < WM m 158 o o
    · have := hW.2.2.2.1 φ h2 o o (by omega) (by omega) q
      omega
    · omega
theorem NdE.q {m : MM} (h18 : m 143 18 = -1) (h12 : 0 ≤ m 143 12) {d : Int} : NdE m d = EdQ (rq m) (m 143 12).toNat d := by
  funext a b x
  refine propext ⟨?_, ?_⟩
  · rintro ⟨j, h1, -, h2, h3, h4⟩
    exact ⟨j, by omega, h2, h3, h4⟩
  · rintro ⟨j, h1, h2, h3, h4⟩
    exact ⟨j, by omega, by omega, h2, h3, h4⟩
theorem NdsOK.v {m : MM} (h : NdsOK m) : EdV (rq m) (m 143 12).toNat (m 143 1).toNat := by
  intro j hj
  obtain ⟨p1, p2, p3, p4, p5, p6, p7, p8, p9⟩ := h.2.2 j (by omega)
  refine ⟨⟨(m 154 j).toNat, (m 155 j).toNat, ?_, ?_, by omega, by omega⟩, p5, fun z => ?_⟩
  · show m 154 j = _; omega
  · show m 155 j = _; omega
  · have z : m 156 j = 0 := z
    show m 154 j < m 155 j
    omega
theorem EdQ_cg {c c' : Nat → Q4} {n : Nat} {d : Int} (h : ∀ i, i < n → c i = c' i) : EdQ c n d = EdQ c' n d := by
  funext a b x
  refine propext ⟨?_, ?_⟩
  · rintro ⟨j, h1, h2, h3, h4⟩
    exact ⟨j, h1, by rw [← h j h1]; exact h2, by rw [← h j h1]; exact h3, by rw [← h j h1]; exact h4⟩
  · rintro ⟨j, h1, h2, h3, h4⟩
    exact ⟨j, h1, by rw [h j h1]; exact h2, by rw [h j h1]; exact h3, by rw [h j h1]; exact h4⟩
theorem RtL.noup {c : Nat → Q4} {n o : Nat} {m : MM} {W : Nat} (ho : o ≤ 8) (hV : EdV c n o) (h : RtL (ringsAll c n o) m W) {d : Int} (hd : 0 ≤ d) : NoUp (EdQ c n d) ↔ m W 5 ≤ d * m W 6 := (rings_noup ho hV).symm.trans (h.rnd (fun _ hr => ring_dist hV hr) hd)
section RND2
variable {S : Nat × (Nat → Int32)} {n : Nat} {mem : MM} {K : Int → MM → Prop}
theorem f_255e (hN : NdsOK mem) (H : ∀ r m', 0 ≤ r → r ≤ 48 → Fr1 158 mem m' → RdsM (NdE mem) r → K r m') : CWI (Ex S (n + 3)) 255 [.inr 143] mem K := by
  have key : ∀ (N : Nat) (d : Int) (m : MM), 0 ≤ d → d ≤ 48 → 48 - d < N → Fr1 158 mem m → WayOK m d → (∀ d', 0 ≤ d' → d' < d → ¬ NoUp (NdE mem d')) → Wx (Ex S (n + 2)) S M_255 (fun r m => ∃ y, r = some y ∧ K y m) 7 [some (.inr 143), some (.inl d)] [] m := by
    intro N
    induction N with
    | zero => intros; omega
    | succ N ih =>
      intro d m hd1 hd2 hNN hF hW hL
      have hN2 := hN.fr hF
      have hup := WayOK.noup hN2 ⟨hd1, hd2⟩ hW
      rw [NdE.fr hF] at hup
      refine w_255_7 (Ex.mono S (n + 2)) (f_259 hN2.1 (fun hyes _ => ⟨fun _ _ => ⟨_, rfl, H d m hd1 hd2 hF ⟨hup.mp hyes, hL⟩⟩, fun q => absurd (by decide) q⟩) (fun hno _ => ⟨fun q => absurd rfl q, fun _ => ?_⟩))
      have hd3 : d < 48 := by
        by_cases e : d = 48
        · subst e
          exact absurd (fun o ho => diag48 hN2 hW o ho) hno
        · omega
      refine ⟨by unfold InI; omega, f_256 hN2 ⟨by omega, by omega⟩ (fun m' h1 h2 => ?_)⟩
      refine ih (d + 1) m' (by omega) (by omega) (by omega) (hF.tr h1) h2 (fun d' g1 g2 => ?_)
      by_cases e : d' = d
      · subst e; exact fun z => hno (hup.mpr z)
      · exact hL d' g1 (by omega)
  exact CW.of (k := 1) mt_255 rfl rfl (w_255_0 (Ex.mono S (n + 2)) (f_256 hN ⟨by omega, by omega⟩ (fun m' h1 h2 => key 49 0 m' (by omega) (by omega) (by omega) h1 h2 (fun d' g1 g2 => by omega))))
theorem f_254e {d : Int} (hO : OpsOK mem) (H1 : ∀ m', FrW mem m' → RN mem m' → (SoundM mem → NdsOK m' ∧ m' 143 12 ≤ 44 ∧ Enum (rq m') (m' 143 12).toNat (NdF mem) ∧ ∃ r, 0 ≤ r ∧ RdsM (NdE m') r ∧ d < r) → K 1 m') (H0 : ∀ m', FrW mem m' → RN mem m' → SoundM mem → NdsOK m' → m' 143 12 ≤ 44 → Enum (rq m') (m' 143 12).toNat (NdF mem) → (∃ r, 0 ≤ r ∧ RdsM (NdE m') r ∧ r ≤ d) → K 0 m') : CWI (Ex S (n + 4)) 254 [.inr 143, .inl d] mem K := by
  refine CW.of (k := 0) mt_254 rfl rfl (w_254_0 (Ex.mono S (n + 3)) (f_240 hO (fun hS _ => ⟨fun _ => ?_, fun q => absurd (by decide) q⟩) (fun hS _ => ⟨fun q => absurd rfl q, fun _ => ⟨_, rfl, H1 mem FrW.rf RN.rf (fun z => absurd z hS)⟩⟩)))
  refine f_245e hO hS (fun m1 g1 g5 g2 g3 g4 gE => ?_)
  have hRN : RN mem m1 := ⟨g5, fun _ => ⟨g2, g3⟩⟩
  have hN := NdsOK.of hO g1 g2 g3 g4
  refine f_255e hN (fun r m2 r1 r2 k1 kR => ?_)
  have e12 : m2 143 12 = m1 143 12 := k1 143 12 (by omega)
  have eq : rq m2 = rq m1 := funext fun i => by
    unfold rq
    rw [k1 154 i (by omega), k1 155 i (by omega), k1 156 i (by omega), k1 157 i (by omega)]
  have eE : Enum (rq m2) (m2 143 12).toNat (NdF mem) := by rw [eq, e12]; exact gE
  have eR : RdsM (NdE m2) r := by
    have : NdE m2 = NdE m1 := funext fun d => NdE.fr k1 d
    rw [this]; exact kR
  exact fun _ => ⟨fun q => ⟨_, rfl, H0 m2 (g1.w.tr k1.w) (hRN.tr (k1.rn (by omega))) hS (hN.fr k1) (by omega) eE ⟨r, r1, eR, by omega⟩⟩, fun q => ⟨_, rfl, H1 m2 (g1.w.tr k1.w) (hRN.tr (k1.rn (by omega))) (fun _ => ⟨hN.fr k1, by omega, eE, r, r1, eR, by omega⟩)⟩⟩
end RND2
end
