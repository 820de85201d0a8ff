/-! laid by wip/hand/wxg.py: lives: what the paths of methods ask for -/
set_option maxRecDepth 100000 in
theorem mt_295 : MT[295]? = some M_295 := rfl
set_option maxRecDepth 100000 in
theorem mt_296 : MT[296]? = some M_296 := rfl
set_option maxRecDepth 100000 in
theorem mt_297 : MT[297]? = some M_297 := rfl
set_option maxRecDepth 100000 in
theorem mt_298 : MT[298]? = some M_298 := rfl
theorem te_295_0 : (pT M_295).find? (fun e => e.1 == 0) = some (0, .aload_n 0, 0, 0) := rfl
theorem te_295_1 : (pT M_295).find? (fun e => e.1 == 1) = some (1, .getfield 7, 10, 2) := rfl
theorem te_295_4 : (pT M_295).find? (fun e => e.1 == 4) = some (4, .iload_n 1, 0, 0) := rfl
theorem te_295_5 : (pT M_295).find? (fun e => e.1 == 5) = some (5, .iaload, 0, 0) := rfl
theorem te_295_6 : (pT M_295).find? (fun e => e.1 == 6) = some (6, .iconst 5, 0, 0) := rfl
theorem te_295_7 : (pT M_295).find? (fun e => e.1 == 7) = some (7, .if_icmp .ne 5, 0, 0) := rfl
theorem te_295_10 : (pT M_295).find? (fun e => e.1 == 10) = some (10, .iconst 0, 0, 0) := rfl
theorem te_295_11 : (pT M_295).find? (fun e => e.1 == 11) = some (11, .ireturn, 0, 0) := rfl
theorem te_295_12 : (pT M_295).find? (fun e => e.1 == 12) = some (12, .aload_n 0, 0, 0) := rfl
theorem te_295_13 : (pT M_295).find? (fun e => e.1 == 13) = some (13, .iload_n 2, 0, 0) := rfl
theorem te_295_14 : (pT M_295).find? (fun e => e.1 == 14) = some (14, .invokevirtual 281, 296, 0) := rfl
theorem te_295_17 : (pT M_295).find? (fun e => e.1 == 17) = some (17, .istore_n 3, 0, 0) := rfl
theorem te_295_18 : (pT M_295).find? (fun e => e.1 == 18) = some (18, .aload_n 0, 0, 0) := rfl
theorem te_295_19 : (pT M_295).find? (fun e => e.1 == 19) = some (19, .iload_n 1, 0, 0) := rfl
theorem te_295_20 : (pT M_295).find? (fun e => e.1 == 20) = some (20, .iload_n 2, 0, 0) := rfl
theorem te_295_21 : (pT M_295).find? (fun e => e.1 == 21) = some (21, .invokevirtual 278, 297, 0) := rfl
theorem te_295_24 : (pT M_295).find? (fun e => e.1 == 24) = some (24, .istore 4, 0, 0) := rfl
theorem te_295_26 : (pT M_295).find? (fun e => e.1 == 26) = some (26, .iload_n 3, 0, 0) := rfl
theorem te_295_27 : (pT M_295).find? (fun e => e.1 == 27) = some (27, .iload 4, 0, 0) := rfl
theorem te_295_29 : (pT M_295).find? (fun e => e.1 == 29) = some (29, .irem, 0, 0) := rfl
theorem te_295_30 : (pT M_295).find? (fun e => e.1 == 30) = some (30, .ifCond .eq 9, 0, 0) := rfl
theorem te_295_33 : (pT M_295).find? (fun e => e.1 == 33) = some (33, .iinc 4 1, 0, 0) := rfl
theorem te_295_36 : (pT M_295).find? (fun e => e.1 == 36) = some (36, .goto (-10), 0, 0) := rfl
theorem te_295_39 : (pT M_295).find? (fun e => e.1 == 39) = some (39, .iload 4, 0, 0) := rfl
theorem te_295_41 : (pT M_295).find? (fun e => e.1 == 41) = some (41, .ireturn, 0, 0) := rfl
theorem te_296_0 : (pT M_296).find? (fun e => e.1 == 0) = some (0, .iconst 1, 0, 0) := rfl
theorem te_296_1 : (pT M_296).find? (fun e => e.1 == 1) = some (1, .istore_n 2, 0, 0) := rfl
theorem te_296_2 : (pT M_296).find? (fun e => e.1 == 2) = some (2, .iconst 0, 0, 0) := rfl
theorem te_296_3 : (pT M_296).find? (fun e => e.1 == 3) = some (3, .istore_n 3, 0, 0) := rfl
theorem te_296_4 : (pT M_296).find? (fun e => e.1 == 4) = some (4, .iload_n 3, 0, 0) := rfl
theorem te_296_5 : (pT M_296).find? (fun e => e.1 == 5) = some (5, .aload_n 0, 0, 0) := rfl
theorem te_296_6 : (pT M_296).find? (fun e => e.1 == 6) = some (6, .getfield 108, 10, 1) := rfl
theorem te_296_9 : (pT M_296).find? (fun e => e.1 == 9) = some (9, .if_icmp .ge 20, 0, 0) := rfl
theorem te_296_12 : (pT M_296).find? (fun e => e.1 == 12) = some (12, .iload_n 2, 0, 0) := rfl
theorem te_296_13 : (pT M_296).find? (fun e => e.1 == 13) = some (13, .aload_n 0, 0, 0) := rfl
theorem te_296_14 : (pT M_296).find? (fun e => e.1 == 14) = some (14, .iload_n 3, 0, 0) := rfl
theorem te_296_15 : (pT M_296).find? (fun e => e.1 == 15) = some (15, .iload_n 1, 0, 0) := rfl
theorem te_296_16 : (pT M_296).find? (fun e => e.1 == 16) = some (16, .invokevirtual 278, 297, 0) := rfl
theorem te_296_19 : (pT M_296).find? (fun e => e.1 == 19) = some (19, .invokestatic 167, 257, 2) := rfl
theorem te_296_22 : (pT M_296).find? (fun e => e.1 == 22) = some (22, .istore_n 2, 0, 0) := rfl
theorem te_296_23 : (pT M_296).find? (fun e => e.1 == 23) = some (23, .iinc 3 1, 0, 0) := rfl
theorem te_296_26 : (pT M_296).find? (fun e => e.1 == 26) = some (26, .goto (-22), 0, 0) := rfl
theorem te_296_29 : (pT M_296).find? (fun e => e.1 == 29) = some (29, .iload_n 2, 0, 0) := rfl
theorem te_296_30 : (pT M_296).find? (fun e => e.1 == 30) = some (30, .ireturn, 0, 0) := rfl
theorem te_297_0 : (pT M_297).find? (fun e => e.1 == 0) = some (0, .aload_n 0, 0, 0) := rfl
theorem te_297_1 : (pT M_297).find? (fun e => e.1 == 1) = some (1, .getfield 7, 10, 2) := rfl
theorem te_297_4 : (pT M_297).find? (fun e => e.1 == 4) = some (4, .iload_n 1, 0, 0) := rfl
theorem te_297_5 : (pT M_297).find? (fun e => e.1 == 5) = some (5, .iaload, 0, 0) := rfl
theorem te_297_6 : (pT M_297).find? (fun e => e.1 == 6) = some (6, .iconst 5, 0, 0) := rfl
theorem te_297_7 : (pT M_297).find? (fun e => e.1 == 7) = some (7, .if_icmp .ne 7, 0, 0) := rfl
theorem te_297_10 : (pT M_297).find? (fun e => e.1 == 10) = some (10, .iconst 0, 0, 0) := rfl
theorem te_297_11 : (pT M_297).find? (fun e => e.1 == 11) = some (11, .goto 17, 0, 0) := rfl
theorem te_297_14 : (pT M_297).find? (fun e => e.1 == 14) = some (14, .iconst 1, 0, 0) := rfl
theorem te_297_15 : (pT M_297).find? (fun e => e.1 == 15) = some (15, .aload_n 0, 0, 0) := rfl
theorem te_297_16 : (pT M_297).find? (fun e => e.1 == 16) = some (16, .iload_n 1, 0, 0) := rfl
theorem te_297_17 : (pT M_297).find? (fun e => e.1 == 17) = some (17, .iload_n 2, 0, 0) := rfl
theorem te_297_18 : (pT M_297).find? (fun e => e.1 == 18) = some (18, .invokevirtual 275, 298, 0) := rfl
theorem te_297_21 : (pT M_297).find? (fun e => e.1 == 21) = some (21, .iload_n 2, 0, 0) := rfl
theorem te_297_22 : (pT M_297).find? (fun e => e.1 == 22) = some (22, .invokestatic 192, 275, 2) := rfl
theorem te_297_25 : (pT M_297).find? (fun e => e.1 == 25) = some (25, .invokestatic 167, 257, 2) := rfl
theorem te_297_28 : (pT M_297).find? (fun e => e.1 == 28) = some (28, .ireturn, 0, 0) := rfl
theorem te_298_0 : (pT M_298).find? (fun e => e.1 == 0) = some (0, .aload_n 0, 0, 0) := rfl
theorem te_298_1 : (pT M_298).find? (fun e => e.1 == 1) = some (1, .getfield 7, 10, 2) := rfl
theorem te_298_4 : (pT M_298).find? (fun e => e.1 == 4) = some (4, .iload_n 1, 0, 0) := rfl
theorem te_298_5 : (pT M_298).find? (fun e => e.1 == 5) = some (5, .iaload, 0, 0) := rfl
theorem te_298_6 : (pT M_298).find? (fun e => e.1 == 6) = some (6, .iconst 5, 0, 0) := rfl
theorem te_298_7 : (pT M_298).find? (fun e => e.1 == 7) = some (7, .if_icmp .ne 5, 0, 0) := rfl
theorem te_298_10 : (pT M_298).find? (fun e => e.1 == 10) = some (10, .iconst 0, 0, 0) := rfl
theorem te_298_11 : (pT M_298).find? (fun e => e.1 == 11) = some (11, .ireturn, 0, 0) := rfl
theorem te_298_12 : (pT M_298).find? (fun e => e.1 == 12) = some (12, .iconst (-1), 0, 0) := rfl
theorem te_298_13 : (pT M_298).find? (fun e => e.1 == 13) = some (13, .istore_n 3, 0, 0) := rfl
theorem te_298_14 : (pT M_298).find? (fun e => e.1 == 14) = some (14, .iconst 0, 0, 0) := rfl
theorem te_298_15 : (pT M_298).find? (fun e => e.1 == 15) = some (15, .istore 4, 0, 0) := rfl
theorem te_298_17 : (pT M_298).find? (fun e => e.1 == 17) = some (17, .iload 4, 0, 0) := rfl
theorem te_298_19 : (pT M_298).find? (fun e => e.1 == 19) = some (19, .aload_n 0, 0, 0) := rfl
theorem te_298_20 : (pT M_298).find? (fun e => e.1 == 20) = some (20, .getfield 108, 10, 1) := rfl
theorem te_298_23 : (pT M_298).find? (fun e => e.1 == 23) = some (23, .if_icmp .ge 64, 0, 0) := rfl
theorem te_298_26 : (pT M_298).find? (fun e => e.1 == 26) = some (26, .iconst 0, 0, 0) := rfl
theorem te_298_27 : (pT M_298).find? (fun e => e.1 == 27) = some (27, .istore 5, 0, 0) := rfl
theorem te_298_29 : (pT M_298).find? (fun e => e.1 == 29) = some (29, .iload 5, 0, 0) := rfl
theorem te_298_31 : (pT M_298).find? (fun e => e.1 == 31) = some (31, .aload_n 0, 0, 0) := rfl
theorem te_298_32 : (pT M_298).find? (fun e => e.1 == 32) = some (32, .iload 4, 0, 0) := rfl
theorem te_298_34 : (pT M_298).find? (fun e => e.1 == 34) = some (34, .invokevirtual 126, 241, 0) := rfl
theorem te_298_37 : (pT M_298).find? (fun e => e.1 == 37) = some (37, .if_icmp .ge 44, 0, 0) := rfl
theorem te_298_40 : (pT M_298).find? (fun e => e.1 == 40) = some (40, .aload_n 0, 0, 0) := rfl
theorem te_298_41 : (pT M_298).find? (fun e => e.1 == 41) = some (41, .iload 4, 0, 0) := rfl
theorem te_298_43 : (pT M_298).find? (fun e => e.1 == 43) = some (43, .iload 5, 0, 0) := rfl
theorem te_298_45 : (pT M_298).find? (fun e => e.1 == 45) = some (45, .invokevirtual 130, 242, 0) := rfl
theorem te_298_48 : (pT M_298).find? (fun e => e.1 == 48) = some (48, .iload_n 1, 0, 0) := rfl
theorem te_298_49 : (pT M_298).find? (fun e => e.1 == 49) = some (49, .if_icmp .ne 26, 0, 0) := rfl
theorem te_298_52 : (pT M_298).find? (fun e => e.1 == 52) = some (52, .iload_n 3, 0, 0) := rfl
theorem te_298_53 : (pT M_298).find? (fun e => e.1 == 53) = some (53, .aload_n 0, 0, 0) := rfl
theorem te_298_54 : (pT M_298).find? (fun e => e.1 == 54) = some (54, .getfield 65, 10, 21) := rfl
theorem te_298_57 : (pT M_298).find? (fun e => e.1 == 57) = some (57, .iload 4, 0, 0) := rfl
theorem te_298_59 : (pT M_298).find? (fun e => e.1 == 59) = some (59, .iaload, 0, 0) := rfl
theorem te_298_60 : (pT M_298).find? (fun e => e.1 == 60) = some (60, .iload_n 2, 0, 0) := rfl
theorem te_298_61 : (pT M_298).find? (fun e => e.1 == 61) = some (61, .aload_n 0, 0, 0) := rfl
theorem te_298_62 : (pT M_298).find? (fun e => e.1 == 62) = some (62, .iload 4, 0, 0) := rfl
theorem te_298_64 : (pT M_298).find? (fun e => e.1 == 64) = some (64, .iload 5, 0, 0) := rfl
theorem te_298_66 : (pT M_298).find? (fun e => e.1 == 66) = some (66, .invokevirtual 134, 243, 0) := rfl
theorem te_298_69 : (pT M_298).find? (fun e => e.1 == 69) = some (69, .imul, 0, 0) := rfl
theorem te_298_70 : (pT M_298).find? (fun e => e.1 == 70) = some (70, .iadd, 0, 0) := rfl
theorem te_298_71 : (pT M_298).find? (fun e => e.1 == 71) = some (71, .invokestatic 167, 257, 2) := rfl
theorem te_298_74 : (pT M_298).find? (fun e => e.1 == 74) = some (74, .istore_n 3, 0, 0) := rfl
theorem te_298_75 : (pT M_298).find? (fun e => e.1 == 75) = some (75, .iinc 5 1, 0, 0) := rfl
theorem te_298_78 : (pT M_298).find? (fun e => e.1 == 78) = some (78, .goto (-49), 0, 0) := rfl
theorem te_298_81 : (pT M_298).find? (fun e => e.1 == 81) = some (81, .iinc 4 1, 0, 0) := rfl
theorem te_298_84 : (pT M_298).find? (fun e => e.1 == 84) = some (84, .goto (-67), 0, 0) := rfl
theorem te_298_87 : (pT M_298).find? (fun e => e.1 == 87) = some (87, .iload_n 3, 0, 0) := rfl
theorem te_298_88 : (pT M_298).find? (fun e => e.1 == 88) = some (88, .iconst (-1), 0, 0) := rfl
theorem te_298_89 : (pT M_298).find? (fun e => e.1 == 89) = some (89, .if_icmp .ne 7, 0, 0) := rfl
theorem te_298_92 : (pT M_298).find? (fun e => e.1 == 92) = some (92, .iconst 0, 0, 0) := rfl
theorem te_298_93 : (pT M_298).find? (fun e => e.1 == 93) = some (93, .goto 12, 0, 0) := rfl
theorem te_298_96 : (pT M_298).find? (fun e => e.1 == 96) = some (96, .iload_n 3, 0, 0) := rfl
theorem te_298_97 : (pT M_298).find? (fun e => e.1 == 97) = some (97, .aload_n 0, 0, 0) := rfl
theorem te_298_98 : (pT M_298).find? (fun e => e.1 == 98) = some (98, .iload_n 1, 0, 0) := rfl
theorem te_298_99 : (pT M_298).find? (fun e => e.1 == 99) = some (99, .invokevirtual 272, 299, 0) := rfl
theorem te_298_102 : (pT M_298).find? (fun e => e.1 == 102) = some (102, .isub, 0, 0) := rfl
theorem te_298_103 : (pT M_298).find? (fun e => e.1 == 103) = some (103, .iconst 1, 0, 0) := rfl
theorem te_298_104 : (pT M_298).find? (fun e => e.1 == 104) = some (104, .iadd, 0, 0) := rfl
theorem te_298_105 : (pT M_298).find? (fun e => e.1 == 105) = some (105, .ireturn, 0, 0) := rfl
theorem w_298_0 {C : CXW} (hC : Cmono C) {S : Nat × (Nat → Int32)} {K : WK} {mem : MM} {x1 x2 : Int} (H : ((0 : Int) ≤ x1 ∧ (x1 : Int) < 8) ∧ ∀ v1 : Int, v1 = mem 144 (Int.toNat x1) → InI v1 → ((¬ v1 = 5 → (Wx C S M_298 K 17 [some (.inr 143), some (.inl x1), some (.inl x2), some (.inl (-1)), some (.inl 0), none] [] mem)) ∧ (¬ (¬ v1 = 5) → (InI 0 → K (some 0) mem)))) : Wx C S M_298 K 0 [some (.inr 143), some (.inl x1), some (.inl x2), none, none, none] [] mem := by
  refine Wx.aload_n hC te_298_0 rfl ?_
  refine Wx.getR hC te_298_1 rfl rfl rfl ?_
  refine Wx.iload_n hC te_298_4 rfl ?_
  refine Wx.iald hC te_298_5 rfl H.1 (fun v1 e1 e2 => ?_)
  replace H := H.2 v1 e1 e2
  refine Wx.iconst hC te_298_6 rfl ?_
  refine Wx.icmp hC (t := 12) te_298_7 (by decide) (fun q => ?_) (fun q => ?_)
  · replace H := H.1 q
    refine Wx.iconst hC te_298_12 rfl ?_
    refine Wx.istore_n hC te_298_13 rfl ?_
    refine Wx.iconst hC te_298_14 rfl ?_
    refine Wx.istore hC te_298_15 rfl ?_
    exact H
  · replace H := H.2 q
    refine Wx.iconst hC te_298_10 rfl ?_
    exact Wx.ireturn hC te_298_11 rfl H
theorem w_298_17 {C : CXW} (hC : Cmono C) {S : Nat × (Nat → Int32)} {K : WK} {mem : MM} {x1 x2 x3 x4 : Int} (H : ∀ v1 : Int, v1 = mem 143 1 → InI v1 → ((v1 ≤ x4 → ((¬ x3 = (-1) → (CWI C 299 [.inr 143, .inl x1] mem fun r3 m2 => InI r3 → (InI (x3 - r3)) ∧ (InI ((x3 - r3) + 1)) ∧ (InI ((x3 - r3) + 1) → K (some ((x3 - r3) + 1)) m2))) ∧ (¬ (¬ x3 = (-1)) → (InI 0 → K (some 0) mem)))) ∧ (¬ (v1 ≤ x4) → (Wx C S M_298 K 29 [some (.inr 143), some (.inl x1), some (.inl x2), some (.inl x3), some (.inl x4), some (.inl 0)] [] mem)))) : Wx C S M_298 K 17 [some (.inr 143), some (.inl x1), some (.inl x2), some (.inl x3), some (.inl x4), none] [] mem := by
  refine Wx.iload hC te_298_17 rfl ?_
  refine Wx.aload_n hC te_298_19 rfl ?_
  refine Wx.getI hC te_298_20 rfl rfl rfl (fun v1 e1 e2 => ?_)
  replace H := H v1 e1 e2
  refine Wx.icmp hC (t := 87) te_298_23 (by decide) (fun q => ?_) (fun q => ?_)
  · replace H := H.1 q
    refine Wx.iload_n hC te_298_87 rfl ?_
    refine Wx.iconst hC te_298_88 rfl ?_
    refine Wx.icmp hC (t := 96) te_298_89 (by decide) (fun q => ?_) (fun q => ?_)
    · replace H := H.1 q
      refine Wx.iload_n hC te_298_96 rfl ?_
      refine Wx.aload_n hC te_298_97 rfl ?_
      refine Wx.iload_n hC te_298_98 rfl ?_
      refine Wx.virtI hC te_298_99 mt_299 (args := [.inr 143, .inl x1]) (rest := [.inl x3]) rfl rfl rfl rfl rfl rfl rfl rfl ?_
      refine CWI.mono hC (fun r3 m2 H hy => ?_) H
      replace H := H hy
      refine Wx.isub hC te_298_102 H.1 ?_
      replace H := H.2
      refine Wx.iconst hC te_298_103 rfl ?_
      refine Wx.iadd hC te_298_104 H.1 ?_
      replace H := H.2
      exact Wx.ireturn hC te_298_105 rfl H
    · replace H := H.2 q
      refine Wx.iconst hC te_298_92 rfl ?_
      refine Wx.goto hC (t := 105) te_298_93 (by decide) ?_
      exact Wx.ireturn hC te_298_105 rfl H
  · replace H := H.2 q
    refine Wx.iconst hC te_298_26 rfl ?_
    refine Wx.istore hC te_298_27 rfl ?_
    exact H
theorem w_298_29 {C : CXW} (hC : Cmono C) {S : Nat × (Nat → Int32)} {K : WK} {mem : MM} {x1 x2 x3 x4 x5 : Int} (H : (CWI C 241 [.inr 143, .inl x4] mem fun r2 m1 => InI r2 → ((r2 ≤ x5 → (InI (x4 + 1)) ∧ (Wx C S M_298 K 17 [some (.inr 143), some (.inl x1), some (.inl x2), some (.inl x3), some (.inl (x4 + 1)), none] [] m1)) ∧ (¬ (r2 ≤ x5) → (CWI C 242 [.inr 143, .inl x4, .inl x5] m1 fun r4 m3 => InI r4 → ((¬ r4 = x1 → (InI (x5 + 1)) ∧ (Wx C S M_298 K 29 [some (.inr 143), some (.inl x1), some (.inl x2), some (.inl x3), some (.inl x4), some (.inl (x5 + 1))] [] m3)) ∧ (¬ (¬ r4 = x1) → ((0 : Int) ≤ x4 ∧ (x4 : Int) < 8) ∧ ∀ v5 : Int, v5 = m3 161 (Int.toNat x4) → InI v5 → (CWI C 243 [.inr 143, .inl x4, .inl x5] m3 fun r7 m6 => InI r7 → (InI (x2 * r7)) ∧ (InI (v5 + (x2 * r7))) ∧ (CWI C 257 [.inl x3, .inl (v5 + (x2 * r7))] m6 fun r9 m8 => InI r9 → (InI (x5 + 1)) ∧ (Wx C S M_298 K 29 [some (.inr 143), some (.inl x1), some (.inl x2), some (.inl r9), some (.inl x4), some (.inl (x5 + 1))] [] m8)))))))))) : Wx C S M_298 K 29 [some (.inr 143), some (.inl x1), some (.inl x2), some (.inl x3), some (.inl x4), some (.inl x5)] [] mem := by
  refine Wx.iload hC te_298_29 rfl ?_
  refine Wx.aload_n hC te_298_31 rfl ?_
  refine Wx.iload hC te_298_32 rfl ?_
  refine Wx.virtI hC te_298_34 mt_241 (args := [.inr 143, .inl x4]) (rest := [.inl x5]) rfl rfl rfl rfl rfl rfl rfl rfl ?_
  refine CWI.mono hC (fun r2 m1 H hy => ?_) H
  replace H := H hy
  refine Wx.icmp hC (t := 81) te_298_37 (by decide) (fun q => ?_) (fun q => ?_)
  · replace H := H.1 q
    refine Wx.iinc hC te_298_81 rfl rfl H.1 ?_
    replace H := H.2
    refine Wx.goto hC (t := 17) te_298_84 (by decide) ?_
    exact Wx.weak (by repeat' (first | exact trivial | exact rfl | constructor)) H
  · replace H := H.2 q
    refine Wx.aload_n hC te_298_40 rfl ?_
    refine Wx.iload hC te_298_41 rfl ?_
    refine Wx.iload hC te_298_43 rfl ?_
    refine Wx.virtI hC te_298_45 mt_242 (args := [.inr 143, .inl x4, .inl x5]) (rest := []) rfl rfl rfl rfl rfl rfl rfl rfl ?_
    refine CWI.mono hC (fun r4 m3 H hy => ?_) H
    replace H := H hy
    refine Wx.iload_n hC te_298_48 rfl ?_
    refine Wx.icmp hC (t := 75) te_298_49 (by decide) (fun q => ?_) (fun q => ?_)
    · replace H := H.1 q
      refine Wx.iinc hC te_298_75 rfl rfl H.1 ?_
      replace H := H.2
      refine Wx.goto hC (t := 29) te_298_78 (by decide) ?_
      exact H
    · replace H := H.2 q
      refine Wx.iload_n hC te_298_52 rfl ?_
      refine Wx.aload_n hC te_298_53 rfl ?_
      refine Wx.getR hC te_298_54 rfl rfl rfl ?_
      refine Wx.iload hC te_298_57 rfl ?_
      refine Wx.iald hC te_298_59 rfl H.1 (fun v5 e1 e2 => ?_)
      replace H := H.2 v5 e1 e2
      refine Wx.iload_n hC te_298_60 rfl ?_
      refine Wx.aload_n hC te_298_61 rfl ?_
      refine Wx.iload hC te_298_62 rfl ?_
      refine Wx.iload hC te_298_64 rfl ?_
      refine Wx.virtI hC te_298_66 mt_243 (args := [.inr 143, .inl x4, .inl x5]) (rest := [.inl x2, .inl v5, .inl x3]) rfl rfl rfl rfl rfl rfl rfl rfl ?_
      refine CWI.mono hC (fun r7 m6 H hy => ?_) H
      replace H := H hy
      refine Wx.imul hC te_298_69 H.1 ?_
      replace H := H.2
      refine Wx.iadd hC te_298_70 H.1 ?_
      replace H := H.2
      refine Wx.statI hC te_298_71 (by decide) mt_257 (args := [.inl x3, .inl (v5 + (x2 * r7))]) (rest := []) rfl rfl rfl rfl rfl ?_
      refine CWI.mono hC (fun r9 m8 H hy => ?_) H
      replace H := H hy
      refine Wx.istore_n hC te_298_74 rfl ?_
      refine Wx.iinc hC te_298_75 rfl rfl H.1 ?_
      replace H := H.2
      refine Wx.goto hC (t := 29) te_298_78 (by decide) ?_
      exact H
theorem w_297_0 {C : CXW} (hC : Cmono C) {S : Nat × (Nat → Int32)} {K : WK} {mem : MM} {x1 x2 : Int} (H : ((0 : Int) ≤ x1 ∧ (x1 : Int) < 8) ∧ ∀ v1 : Int, v1 = mem 144 (Int.toNat x1) → InI v1 → ((¬ v1 = 5 → (CWI C 298 [.inr 143, .inl x1, .inl x2] mem fun r3 m2 => InI r3 → (CWI C 275 [.inl r3, .inl x2] m2 fun r5 m4 => InI r5 → (CWI C 257 [.inl 1, .inl r5] m4 fun r7 m6 => InI r7 → (InI r7 → K (some r7) m6))))) ∧ (¬ (¬ v1 = 5) → (InI 0 → K (some 0) mem)))) : Wx C S M_297 K 0 [some (.inr 143), some (.inl x1), some (.inl x2)] [] mem := by
  refine Wx.aload_n hC te_297_0 rfl ?_
  refine Wx.getR hC te_297_1 rfl rfl rfl ?_
  refine Wx.iload_n hC te_297_4 rfl ?_
  refine Wx.iald hC te_297_5 rfl H.1 (fun v1 e1 e2 => ?_)
  replace H := H.2 v1 e1 e2
  refine Wx.iconst hC te_297_6 rfl ?_
  refine Wx.icmp hC (t := 14) te_297_7 (by decide) (fun q => ?_) (fun q => ?_)
  · replace H := H.1 q
    refine Wx.iconst hC te_297_14 rfl ?_
    refine Wx.aload_n hC te_297_15 rfl ?_
    refine Wx.iload_n hC te_297_16 rfl ?_
    refine Wx.iload_n hC te_297_17 rfl ?_
    refine Wx.virtI hC te_297_18 mt_298 (args := [.inr 143, .inl x1, .inl x2]) (rest := [.inl 1]) rfl rfl rfl rfl rfl rfl rfl rfl ?_
    refine CWI.mono hC (fun r3 m2 H hy => ?_) H
    replace H := H hy
    refine Wx.iload_n hC te_297_21 rfl ?_
    refine Wx.statI hC te_297_22 (by decide) mt_275 (args := [.inl r3, .inl x2]) (rest := [.inl 1]) rfl rfl rfl rfl rfl ?_
    refine CWI.mono hC (fun r5 m4 H hy => ?_) H
    replace H := H hy
    refine Wx.statI hC te_297_25 (by decide) mt_257 (args := [.inl 1, .inl r5]) (rest := []) rfl rfl rfl rfl rfl ?_
    refine CWI.mono hC (fun r7 m6 H hy => ?_) H
    replace H := H hy
    exact Wx.ireturn hC te_297_28 rfl H
  · replace H := H.2 q
    refine Wx.iconst hC te_297_10 rfl ?_
    refine Wx.goto hC (t := 28) te_297_11 (by decide) ?_
    exact Wx.ireturn hC te_297_28 rfl H
theorem w_296_0 {C : CXW} (hC : Cmono C) {S : Nat × (Nat → Int32)} {K : WK} {mem : MM} {x1 : Int} (H : (Wx C S M_296 K 4 [some (.inr 143), some (.inl x1), some (.inl 1), some (.inl 0)] [] mem)) : Wx C S M_296 K 0 [some (.inr 143), some (.inl x1), none, none] [] mem := by
  refine Wx.iconst hC te_296_0 rfl ?_
  refine Wx.istore_n hC te_296_1 rfl ?_
  refine Wx.iconst hC te_296_2 rfl ?_
  refine Wx.istore_n hC te_296_3 rfl ?_
  exact H
theorem w_296_4 {C : CXW} (hC : Cmono C) {S : Nat × (Nat → Int32)} {K : WK} {mem : MM} {x1 x2 x3 : Int} (H : ∀ v1 : Int, v1 = mem 143 1 → InI v1 → ((v1 ≤ x3 → (InI x2 → K (some x2) mem)) ∧ (¬ (v1 ≤ x3) → (CWI C 297 [.inr 143, .inl x3, .inl x1] mem fun r3 m2 => InI r3 → (CWI C 257 [.inl x2, .inl r3] m2 fun r5 m4 => InI r5 → (InI (x3 + 1)) ∧ (Wx C S M_296 K 4 [some (.inr 143), some (.inl x1), some (.inl r5), some (.inl (x3 + 1))] [] m4)))))) : Wx C S M_296 K 4 [some (.inr 143), some (.inl x1), some (.inl x2), some (.inl x3)] [] mem := by
  refine Wx.iload_n hC te_296_4 rfl ?_
  refine Wx.aload_n hC te_296_5 rfl ?_
  refine Wx.getI hC te_296_6 rfl rfl rfl (fun v1 e1 e2 => ?_)
  replace H := H v1 e1 e2
  refine Wx.icmp hC (t := 29) te_296_9 (by decide) (fun q => ?_) (fun q => ?_)
  · replace H := H.1 q
    refine Wx.iload_n hC te_296_29 rfl ?_
    exact Wx.ireturn hC te_296_30 rfl H
  · replace H := H.2 q
    refine Wx.iload_n hC te_296_12 rfl ?_
    refine Wx.aload_n hC te_296_13 rfl ?_
    refine Wx.iload_n hC te_296_14 rfl ?_
    refine Wx.iload_n hC te_296_15 rfl ?_
    refine Wx.virtI hC te_296_16 mt_297 (args := [.inr 143, .inl x3, .inl x1]) (rest := [.inl x2]) rfl rfl rfl rfl rfl rfl rfl rfl ?_
    refine CWI.mono hC (fun r3 m2 H hy => ?_) H
    replace H := H hy
    refine Wx.statI hC te_296_19 (by decide) mt_257 (args := [.inl x2, .inl r3]) (rest := []) rfl rfl rfl rfl rfl ?_
    refine CWI.mono hC (fun r5 m4 H hy => ?_) H
    replace H := H hy
    refine Wx.istore_n hC te_296_22 rfl ?_
    refine Wx.iinc hC te_296_23 rfl rfl H.1 ?_
    replace H := H.2
    refine Wx.goto hC (t := 4) te_296_26 (by decide) ?_
    exact H
theorem w_295_0 {C : CXW} (hC : Cmono C) {S : Nat × (Nat → Int32)} {K : WK} {mem : MM} {x1 x2 : Int} (H : ((0 : Int) ≤ x1 ∧ (x1 : Int) < 8) ∧ ∀ v1 : Int, v1 = mem 144 (Int.toNat x1) → InI v1 → ((¬ v1 = 5 → (CWI C 296 [.inr 143, .inl x2] mem fun r3 m2 => InI r3 → (CWI C 297 [.inr 143, .inl x1, .inl x2] m2 fun r5 m4 => InI r5 → (Wx C S M_295 K 26 [some (.inr 143), some (.inl x1), some (.inl x2), some (.inl r3), some (.inl r5)] [] m4)))) ∧ (¬ (¬ v1 = 5) → (InI 0 → K (some 0) mem)))) : Wx C S M_295 K 0 [some (.inr 143), some (.inl x1), some (.inl x2), none, none] [] mem := by
  refine Wx.aload_n hC te_295_0 rfl ?_
  refine Wx.getR hC te_295_1 rfl rfl rfl ?_
  refine Wx.iload_n hC te_295_4 rfl ?_
  refine Wx.iald hC te_295_5 rfl H.1 (fun v1 e1 e2 => ?_)
  replace H := H.2 v1 e1 e2
  refine Wx.iconst hC te_295_6 rfl ?_
  refine Wx.icmp hC (t := 12) te_295_7 (by decide) (fun q => ?_) (fun q => ?_)
  · replace H := H.1 q
    refine Wx.aload_n hC te_295_12 rfl ?_
    refine Wx.iload_n hC te_295_13 rfl ?_
    refine Wx.virtI hC te_295_14 mt_296 (args := [.inr 143, .inl x2]) (rest := []) rfl rfl rfl rfl rfl rfl rfl rfl ?_
    refine CWI.mono hC (fun r3 m2 H hy => ?_) H
    replace H := H hy
    refine Wx.istore_n hC te_295_17 rfl ?_
    refine Wx.aload_n hC te_295_18 rfl ?_
    refine Wx.iload_n hC te_295_19 rfl ?_
    refine Wx.iload_n hC te_295_20 rfl ?_
    refine Wx.virtI hC te_295_21 mt_297 (args := [.inr 143, .inl x1, .inl x2]) (rest := []) rfl rfl rfl rfl rfl rfl rfl rfl ?_
    refine CWI.mono hC (fun r5 m4 H hy => ?_) H
    replace H := H hy
    refine Wx.istore hC te_295_24 rfl ?_
    exact H
  · replace H := H.2 q
    refine Wx.iconst hC te_295_10 rfl ?_
    exact Wx.ireturn hC te_295_11 rfl H
theorem w_295_26 {C : CXW} (hC : Cmono C) {S : Nat × (Nat → Int32)} {K : WK} {mem : MM} {x1 x2 x3 x4 : Int} (H : (0 < x4) ∧ ((((x3 : Int).tmod x4) = 0 → (InI x4 → K (some x4) mem)) ∧ (¬ (((x3 : Int).tmod x4) = 0) → (InI (x4 + 1)) ∧ (Wx C S M_295 K 26 [some (.inr 143), some (.inl x1), some (.inl x2), some (.inl x3), some (.inl (x4 + 1))] [] mem)))) : Wx C S M_295 K 26 [some (.inr 143), some (.inl x1), some (.inl x2), some (.inl x3), some (.inl x4)] [] mem := by
  refine Wx.iload_n hC te_295_26 rfl ?_
  refine Wx.iload hC te_295_27 rfl ?_
  refine Wx.irem hC te_295_29 H.1 ?_
  replace H := H.2
  refine Wx.ifc hC (t := 39) te_295_30 (by decide) (fun q => ?_) (fun q => ?_)
  · replace H := H.1 q
    refine Wx.iload hC te_295_39 rfl ?_
    exact Wx.ireturn hC te_295_41 rfl H
  · replace H := H.2 q
    refine Wx.iinc hC te_295_33 rfl rfl H.1 ?_
    replace H := H.2
    refine Wx.goto hC (t := 26) te_295_36 (by decide) ?_
    exact H
