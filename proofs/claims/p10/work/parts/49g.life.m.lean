section
/-! laid by wip/hand/wxg.py: lives: what the paths of methods ask for -/
set_option maxRecDepth 100000 in
theorem mt_295 : MT[295]? = some M_295 := rfl
set_option maxRecDepth 100000 in
theorem mt_296 : MT[296]? = some M_296 := rfl
set_option maxRecDepth 100000 in
theorem mt_297 : MT[297]? = some M_297 := rfl
set_option maxRecDepth 100000 in
theorem mt_298 : MT[298]? = some M_298 := rfl
theorem te_295_0 : (pT M_295).find? (fun e => e.1 == 0) = some (0, .aload_n 0, 0, 0) := rfl
theorem te_295_1 : (pT M_295).find? (fun e => e.1 == 1) = some (1, .getfield 7, 10, 2) := rfl
theorem te_295_4 : (pT M_295).find? (fun e => e.1 == 4) = some (4, .iload_n 1, 0, 0) := rfl
theorem te_295_5 : (pT M_295).find? (fun e => e.1 == 5) = some (5, .iaload, 0, 0) := rfl
theorem te_295_6 : (pT M_295).find? (fun e => e.1 == 6) = some (6, .iconst 5, 0, 0) := rfl
theorem te_295_7 : (pT M_295).find? (fun e => e.1 == 7) = some (7, .if_icmp .ne 5, 0, 0) := rfl
theorem te_295_10 : (pT M_295).find? (fun e => e.1 == 10) = some (10, .iconst 0, 0, 0) := rfl
theorem te_295_11 : (pT M_295).find? (fun e => e.1 == 11) = some (11, .ireturn, 0, 0) := rfl
theorem te_295_12 : (pT M_295).find? (fun e => e.1 == 12) = some (12, .aload_n 0, 0, 0) := rfl
theorem te_295_13 : (pT M_295).find? (fun e => e.1 == 13) = some (13, .iload_n 2, 0, 0) := rfl
theorem te_295_14 : (pT M_295).find? (fun e => e.1 == 14) = some (14, .invokevirtual 281, 296, 0) := rfl
theorem te_295_17 : (pT M_295).find? (fun e => e.1 == 17) = some (17, .istore_n 3, 0, 0) := rfl
theorem te_295_18 : (pT M_295).find? (fun e => e.1 == 18) = some (18, .aload_n 0, 0, 0) := rfl
theorem te_295_19 : (pT M_295).find? (fun e => e.1 == 19) = some (19, .iload_n 1, 0, 0) := rfl
theorem te_295_20 : (pT M_295).find? (fun e => e.1 == 20) = some (20, .iload_n 2, 0, 0) := rfl
theorem te_295_21 : (pT M_295).find? (fun e => e.1 == 21) = some (21, .invokevirtual 278, 297, 0) := rfl
theorem te_295_24 : (pT M_295).find? (fun e => e.1 == 24) = some (24, .istore 4, 0, 0) := rfl
theorem te_295_26 : (pT M_295).find? (fun e => e.1 == 26) = some (26, .iload_n 3, 0, 0) := rfl
theorem te_295_27 : (pT M_295).find? (fun e => e.1 == 27) = some (27, .iload 4, 0, 0) := rfl
theorem te_295_29 : (pT M_295).find? (fun e => e.1 == 29) = some (29, .irem, 0, 0) := rfl
theorem te_295_30 : (pT M_295).find? (fun e => e.1 == 30) = some (30, .ifCond .eq 9, 0, 0) := rfl
theorem te_295_33 : (pT M_295).find? (fun e => e.1 == 33) = some (33, .iinc 4 1, 0, 0) := rfl
theorem te_295_36 : (pT M_295).find? (fun e => e.1 == 36) = some (36, .goto (-10), 0, 0) := rfl
theorem te_295_39 : (pT M_295).find? (fun e => e.1 == 39) = some (39, .iload 4, 0, 0) := rfl
theorem te_295_41 : (pT M_295).find? (fun e => e.1 == 41) = some (41, .ireturn, 0, 0) := rfl
theorem te_296_0 : (pT M_296).find? (fun e => e.1 == 0) = some (0, .iconst 1, 0, 0) := rfl
theorem te_296_1 : (pT M_296).find? (fun e => e.1 == 1) = some (1, .istore_n 2, 0, 0) := rfl
theorem te_296_2 : (pT M_296).find? (fun e => e.1 == 2) = some (2, .iconst 0, 0, 0) := rfl
theorem te_296_3 : (pT M_296).find? (fun e => e.1 == 3) = some (3, .istore_n 3, 0, 0) := rfl
theorem te_296_4 : (pT M_296).find? (fun e => e.1 == 4) = some (4, .iload_n 3, 0, 0) := rfl
theorem te_296_5 : (pT M_296).find? (fun e => e.1 == 5) = some (5, .aload_n 0, 0, 0) := rfl
theorem te_296_6 : (pT M_296).find? (fun e => e.1 == 6) = some (6, .getfield 108, 10, 1) := rfl
theorem te_296_9 : (pT M_296).find? (fun e => e.1 == 9) = some (9, .if_icmp .ge 20, 0, 0) := rfl
theorem te_296_12 : (pT M_296).find? (fun e => e.1 == 12) = some (12, .iload_n 2, 0, 0) := rfl
theorem te_296_13 : (pT M_296).find? (fun e => e.1 == 13) = some (13, .aload_n 0, 0, 0) := rfl
theorem te_296_14 : (pT M_296).find? (fun e => e.1 == 14) = some (14, .iload_n 3, 0, 0) := rfl
theorem te_296_15 : (pT M_296).find? (fun e => e.1 == 15) = some (15, .iload_n 1, 0, 0) := rfl
theorem te_296_16 : (pT M_296).find? (fun e => e.1 == 16) = some (16, .invokevirtual 278, 297, 0) := rfl
theorem te_296_19 : (pT M_296).find? (fun e => e.1 == 19) = some (19, .invokestatic 167, 257, 2) := rfl
theorem te_296_22 : (pT M_296).find? (fun e => e.1 == 22) = some (22, .istore_n 2, 0, 0) := rfl
theorem te_296_23 : (pT M_296).find? (fun e => e.1 == 23) = some (23, .iinc 3 1, 0, 0) := rfl
theorem te_296_26 : (pT M_296).find? (fun e => e.1 == 26) = some (26, .goto (-22), 0, 0) := rfl
theorem te_296_29 : (pT M_296).find? (fun e => e.1 == 29) = some (29, .iload_n 2, 0, 0) := rfl
theorem te_296_30 : (pT M_296).find? (fun e => e.1 == 30) = some (30, .ireturn, 0, 0) := rfl
theorem te_297_0 : (pT M_297).find? (fun e => e.1 == 0) = some (0, .aload_n 0, 0, 0) := rfl
theorem te_297_1 : (pT M_297).find? (fun e => e.1 == 1) = some (1, .getfield 7, 10, 2) := rfl
theorem te_297_4 : (pT M_297).find? (fun e => e.1 == 4) = some (4, .iload_n 1, 0, 0) := rfl
theorem te_297_5 : (pT M_297).find? (fun e => e.1 == 5) = some (5, .iaload, 0, 0) := rfl
theorem te_297_6 : (pT M_297).find? (fun e => e.1 == 6) = some (6, .iconst 5, 0, 0) := rfl
theorem te_297_7 : (pT M_297).find? (fun e => e.1 == 7) = some (7, .if_icmp .ne 7, 0, 0) := rfl
theorem te_297_10 : (pT M_297).find? (fun e => e.1 == 10) = some (10, .iconst 0, 0, 0) := rfl
theorem te_297_11 : (pT M_297).find? (fun e => e.1 == 11) = some (11, .goto 17, 0, 0) := rfl
theorem te_297_14 : (pT M_297).find? (fun e => e.1 == 14) = some (14, .iconst 1, 0, 0) := rfl
theorem te_297_15 : (pT M_297).find? (fun e => e.1 == 15) = some (15, .aload_n 0, 0, 0) := rfl
theorem te_297_16 : (pT M_297).find? (fun e => e.1 == 16) = some (16, .iload_n 1, 0, 0) := rfl
theorem te_297_17 : (pT M_297).find? (fun e => e.1 == 17) = some (17, .iload_n 2, 0, 0) := rfl
theorem te_297_18 : (pT M_297).find? (fun e => e.1 == 18) = some (18, .invokevirtual 275, 298, 0) := rfl
theorem te_297_21 : (pT M_297).find? (fun e => e.1 == 21) = some (21, .iload_n 2, 0, 0) := rfl
theorem te_297_22 : (pT M_297).find? (fun e => e.1 == 22) = some (22, .invokestatic 192, 275, 2) := rfl
theorem te_297_25 : (pT M_297).find? (fun e => e.1 == 25) = some (25, .invokestatic 167, 257, 2) := rfl
theorem te_297_28 : (pT M_297).find? (fun e => e.1 == 28) = some (28, .ireturn, 0, 0) := rfl
theorem te_298_0 : (pT M_298).find? (fun e => e.1 == 0) = some (0, .aload_n 0, 0, 0) := rfl
theorem te_298_1 : (pT M_298).find? (fun e => e.1 == 1) = some (1, .getfield 7, 10, 2) := rfl
theorem te_298_4 : (pT M_298).find? (fun e => e.1 == 4) = some (4, .iload_n 1, 0, 0) := rfl
theorem te_298_5 : (pT M_298).find? (fun e => e.1 == 5) = some (5, .iaload, 0, 0) := rfl
theorem te_298_6 : (pT M_298).find? (fun e => e.1 == 6) = some (6, .iconst 5, 0, 0) := rfl
theorem te_298_7 : (pT M_298).find? (fun e => e.1 == 7) = some (7, .if_icmp .ne 5, 0, 0) := rfl
theorem te_298_10 : (pT M_298).find? (fun e => e.1 == 10) = some (10, .iconst 0, 0, 0) := rfl
theorem te_298_11 : (pT M_298).find? (fun e => e.1 == 11) = some (11, .ireturn, 0, 0) := rfl
theorem te_298_12 : (pT M_298).find? (fun e => e.1 == 12) = some (12, .iconst (-1), 0, 0) := rfl
theorem te_298_13 : (pT M_298).find? (fun e => e.1 == 13) = some (13, .istore_n 3, 0, 0) := rfl
theorem te_298_14 : (pT M_298).find? (fun e => e.1 == 14) = some (14, .iconst 0, 0, 0) := rfl
theorem te_298_15 : (pT M_298).find? (fun e => e.1 == 15) = some (15, .istore 4, 0, 0) := rfl
theorem te_298_17 : (pT M_298).find? (fun e => e.1 == 17) = some (17, .iload 4, 0, 0) := rfl
theorem te_298_19 : (pT M_298).find? (fun e => e.1 == 19) = some (19, .aload_n 0, 0, 0) := rfl
theorem te_298_20 : (pT M_298).find? (fun e => e.1 == 20) = some (20, .getfield 108, 10, 1) := rfl
theorem te_298_23 : (pT M_298).find? (fun e => e.1 == 23) = some (23, .if_icmp .ge 64, 0, 0) := rfl
theorem te_298_26 : (pT M_298).find? (fun e => e.1 == 26) = some (26, .iconst 0, 0, 0) := rfl
theorem te_298_27 : (pT M_298).find? (fun e => e.1 == 27) = some (27, .istore 5, 0, 0) := rfl
theorem te_298_29 : (pT M_298).find? (fun e => e.1 == 29) = some (29, .iload 5, 0, 0) := rfl
theorem te_298_31 : (pT M_298).find? (fun e => e.1 == 31) = some (31, .aload_n 0, 0, 0) := rfl
theorem te_298_32 : (pT M_298).find? (fun e => e.1 == 32) = some (32, .iload 4, 0, 0) := rfl
theorem te_298_34 : (pT M_298).find? (fun e => e.1 == 34) = some (34, .invokevirtual 126, 241, 0) := rfl
theorem te_298_37 : (pT M_298).find? (fun e => e.1 == 37) = some (37, .if_icmp .ge 44, 0, 0) := rfl
theorem te_298_40 : (pT M_298).find? (fun e => e.1 == 40) = some (40, .aload_n 0, 0, 0) := rfl
theorem te_298_41 : (pT M_298).find? (fun e => e.1 == 41) = some (41, .iload 4, 0, 0) := rfl
theorem te_298_43 : (pT M_298).find? (fun e => e.1 == 43) = some (43, .iload 5, 0, 0) := rfl
theorem te_298_45 : (pT M_298).find? (fun e => e.1 == 45) = some (45, .invokevirtual 130, 242, 0) := rfl
theorem te_298_48 : (pT M_298).find? (fun e => e.1 == 48) = some (48, .iload_n 1, 0, 0) := rfl
theorem te_298_49 : (pT M_298).find? (fun e => e.1 == 49) = some (49, .if_icmp .ne 26, 0, 0) := rfl
theorem te_298_52 : (pT M_298).find? (fun e => e.1 == 52) = some (52, .iload_n 3, 0, 0) := rfl
theorem te_298_53 : (pT M_298).find? (fun e => e.1 == 53) = some (53, .aload_n 0, 0, 0) := rfl
theorem te_298_54 : (pT M_298).find? (fun e => e.1 == 54) = some (54, .getfield 65, 10, 21) := rfl
theorem te_298_57 : (pT M_298).find? (fun e => e.1 == 57) = some (57, .iload 4, 0, 0) := rfl
theorem te_298_59 : (pT M_298).find? (fun e => e.1 == 59) = some (59, .iaload, 0, 0) := rfl
theorem te_298_60 : (pT M_298).find? (fun e => e.1 == 60) = some (60, .iload_n 2, 0, 0) := rfl
theorem te_298_61 : (pT M_298).find? (fun e => e.1 == 61) = some (61, .aload_n 0, 0, 0) := rfl
theorem te_298_62 : (pT M_298).find? (fun e => e.1 == 62) = some (62, .iload 4, 0, 0) := rfl
theorem te_298_64 : (pT M_298).find? (fun e => e.1 == 64) = some (64, .iload 5, 0, 0) := rfl
theorem te_298_66 : (pT M_298).find? (fun e => e.1 == 66) = some (66, .invokevirtual 134, 243, 0) := rfl
theorem te_298_69 : (pT M_298).find? (fun e => e.1 == 69) = some (69, .imul, 0, 0) := rfl
theorem te_298_70 : (pT M_298).find? (fun e => e.1 == 70) = some (70, .iadd, 0, 0) := rfl
theorem te_298_71 : (pT M_298).find? (fun e => e.1 == 71) = some (71, .invokestatic 167, 257, 2) := rfl
theorem te_298_74 : (pT M_298).find? (fun e => e.1 == 74) = some (74, .istore_n 3, 0, 0) := rfl
theorem te_298_75 : (pT M_298).find? (fun e => e.1 == 75) = some (75, .iinc 5 1, 0, 0) := rfl
theorem te_298_78 : (pT M_298).find? (fun e => e.1 == 78) = some (78, .goto (-49), 0, 0) := rfl
theorem te_298_81 : (pT M_298).find? (fun e => e.1 == 81) = some (81, .iinc 4 1, 0, 0) := rfl
theorem te_298_84 : (pT M_298).find? (fun e => e.1 == 84) = some (84, .goto (-67), 0, 0) := rfl
theorem te_298_87 : (pT M_298).find? (fun e => e.1 == 87) = some (87, .iload_n 3, 0, 0) := rfl
theorem te_298_88 : (pT M_298).find? (fun e => e.1 == 88) = some (88, .iconst (-1), 0, 0) := rfl
theorem te_298_89 : (pT M_298).find? (fun e => e.1 == 89) = some (89, .if_icmp .ne 7, 0, 0) := rfl
theorem te_298_92 : (pT M_298).find? (fun e => e.1 == 92) = some (92, .iconst 0, 0, 0) := rfl
theorem te_298_93 : (pT M_298).find? (fun e => e.1 == 93) = some (93, .goto 12, 0, 0) := rfl
theorem te_298_96 : (pT M_298).find? (fun e => e.1 == 96) = some (96, .iload_n 3, 0, 0) := rfl
theorem te_298_97 : (pT M_298).find? (fun e => e.1 == 97) = some (97, .aload_n 0, 0, 0) := rfl
theorem te_298_98 : (pT M_298).find? (fun e => e.1 == 98) = some (98, .iload_n 1, 0, 0) := rfl
theorem te_298_99 : (pT M_298).find? (fun e => e.1 == 99) = some (99, .invokevirtual 272, 299, 0) := rfl
theorem te_298_102 : (pT M_298).find? (fun e => e.1 == 102) = some (102, .isub, 0, 0) := rfl
theorem te_298_103 : (pT M_298).find? (fun e => e.1 == 103) = some (103, .iconst 1, 0, 0) := rfl
theorem te_298_104 : (pT M_298).find? (fun e => e.1 == 104) = some (104, .iadd, 0, 0) := rfl
theorem te_298_105 : (pT M_298).find? (fun e => e.1 == 105) = some (105, .ireturn, 0, 0) := rfl
theorem w_298_0 {C : CXW} (hC : Cmono C) {S : Nat × (Nat → Int32)} {K : WK} {mem : MM} {x1 x2 : Int} (H : ((0 : Int) ≤ x1 ∧ (x1 : Int) < 8) ∧ ∀ v1 : Int, v1 = mem 144 (Int.toNat x1) → InI v1 → ((¬ v1 = 5 → (Wx C S M_298 K 17 [some (.inr 143), some (.inl x1), some (.inl x2), some (.inl (-1)), some (.inl 0), none] [] mem)) ∧ (¬ (¬ v1 = 5) → (InI 0 → K (some 0) mem)))) : Wx C S M_298 K 0 [some (.inr 143), some (.inl x1), some (.inl x2), none, none, none] [] mem := by
  refine Wx.aload_n hC te_298_0 rfl ?_
  refine Wx.getR hC te_298_1 rfl rfl rfl ?_
  refine Wx.iload_n hC te_298_4 rfl ?_
  refine Wx.iald hC te_298_5 rfl H.1 (fun v1 e1 e2 => ?_)
  replace H := H.2 v1 e1 e2
  refine Wx.iconst hC te_298_6 rfl ?_
  refine Wx.icmp hC (t := 12) te_298_7 (by decide) (fun q => ?_) (fun q => ?_)
  · replace H := H.1 q
    refine Wx.iconst hC te_298_12 rfl ?_
    refine Wx.istore_n hC te_298_13 rfl ?_
    refine Wx.iconst hC te_298_14 rfl ?_
    refine Wx.istore hC te_298_15 rfl ?_
    exact H
  · replace H := H.2 q
    refine Wx.iconst hC te_298_10 rfl ?_
    exact Wx.ireturn hC te_298_11 rfl H
theorem w_298_17 {C : CXW} (hC : Cmono C) {S : Nat × (Nat → Int32)} {K : WK} {mem : MM} {x1 x2 x3 x4 : Int} (H : ∀ v1 : Int, v1 = mem 143 1 → InI v1 → ((v1 ≤ x4 → ((¬ x3 = (-1) → (CWI C 299 [.inr 143, .inl x1] mem fun r3 m2 => InI r3 → (InI (x3 - r3)) ∧ (InI ((x3 - r3) + 1)) ∧ (InI ((x3 - r3) + 1) → K (some ((x3 - r3) + 1)) m2))) ∧ (¬ (¬ x3 = (-1)) → (InI 0 → K (some 0) mem)))) ∧ (¬ (v1 ≤ x4) → (Wx C S M_298 K 29 [some (.inr 143), some (.inl x1), some (.inl x2), some (.inl x3), some (.inl x4), some (.inl 0)] [] mem)))) : Wx C S M_298 K 17 [some (.inr 143), some (.inl x1), some (.inl x2), some (.inl x3), some (.inl x4), none] [] mem := by
  refine Wx.iload hC te_298_17 rfl ?_
  refine Wx.aload_n hC te_298_19 rfl ?_
  refine Wx.getI hC te_298_20 rfl rfl rfl (fun v1 e1 e2 => ?_)
  replace H := H v1 e1 e2
  refine Wx.icmp hC (t := 87) te_298_23 (by decide) (fun q => ?_) (fun q => ?_)
  · replace H := H.1 q
    refine Wx.iload_n hC te_298_87 rfl ?_
    refine Wx.iconst hC te_298_88 rfl ?_
    refine Wx.icmp hC (t := 96) te_298_89 (by decide) (fun q => ?_) (fun q => ?_)
    · replace H := H.1 q
      refine Wx.iload_n hC te_298_96 rfl ?_
      refine Wx.aload_n hC te_298_97 rfl ?_
      refine Wx.iload_n hC te_298_98 rfl ?_
      refine Wx.virtI hC te_298_99 mt_299 (args := [.inr 143, .inl x1]) (rest := [.inl x3]) rfl rfl rfl rfl rfl rfl rfl rfl ?_
      refine CWI.mono hC (fun r3 m2 H hy => ?_) H
      replace H := H hy
      refine Wx.isub hC te_298_102 H.1 ?_
      replace H := H.2
      refine Wx.iconst hC te_298_103 rfl ?_
      refine Wx.iadd hC te_298_104 H.1 ?_
      replace H := H.2
      exact Wx.ireturn hC te_298_105 rfl H
    · replace H := H.2 q
      refine Wx.iconst hC te_298_92 rfl ?_
      refine Wx.goto hC (t := 105) te_298_93 (by decide) ?_
      exact Wx.ireturn hC te_298_105 rfl H
  · replace H := H.2 q
    refine Wx.iconst hC te_298_26 rfl ?_
    refine Wx.istore hC te_298_27 rfl ?_
    exact H
theorem w_298_29 {C : CXW} (hC : Cmono C) {S : Nat × (Nat → Int32)} {K : WK} {mem : MM} {x1 x2 x3 x4 x5 : Int} (H : (CWI C 241 [.inr 143, .inl x4] mem fun r2 m1 => InI r2 → ((r2 ≤ x5 → (InI (x4 + 1)) ∧ (Wx C S M_298 K 17 [some (.inr 143), some (.inl x1), some (.inl x2), some (.inl x3), some (.inl (x4 + 1)), none] [] m1)) ∧ (¬ (r2 ≤ x5) → (CWI C 242 [.inr 143, .inl x4, .inl x5] m1 fun r4 m3 => InI r4 → ((¬ r4 = x1 → (InI (x5 + 1)) ∧ (Wx C S M_298 K 29 [some (.inr 143), some (.inl x1), some (.inl x2), some (.inl x3), some (.inl x4), some (.inl (x5 + 1))] [] m3)) ∧ (¬ (¬ r4 = x1) → ((0 : Int) ≤ x4 ∧ (x4 : Int) < 8) ∧ ∀ v5 : Int, v5 = m3 161 (Int.toNat x4) → InI v5 → (CWI C 243 [.inr 143, .inl x4, .inl x5] m3 fun r7 m6 => InI r7 → (InI (x2 * r7)) ∧ (InI (v5 + (x2 * r7))) ∧ (CWI C 257 [.inl x3, .inl (v5 + (x2 * r7))] m6 fun r9 m8 => InI r9 → (InI (x5 + 1)) ∧ (Wx C S M_298 K 29 [some (.inr 143), some (.inl x1), some (.inl x2), some (.inl r9), some (.inl x4), some (.inl (x5 + 1))] [] m8)))))))))) : Wx C S M_298 K 29 [some (.inr 143), some (.inl x1), some (.inl x2), some (.inl x3), some (.inl x4), some (.inl x5)] [] mem := by
  refine Wx.iload hC te_298_29 rfl ?_
  refine Wx.aload_n hC te_298_31 rfl ?_
  refine Wx.iload hC te_298_32 rfl ?_
  refine Wx.virtI hC te_298_34 mt_241 (args := [.inr 143, .inl x4]) (rest := [.inl x5]) rfl rfl rfl rfl rfl rfl rfl rfl ?_
  refine CWI.mono hC (fun r2 m1 H hy => ?_) H
  replace H := H hy
  refine Wx.icmp hC (t := 81) te_298_37 (by decide) (fun q => ?_) (fun q => ?_)
  · replace H := H.1 q
    refine Wx.iinc hC te_298_81 rfl rfl H.1 ?_
    replace H := H.2
    refine Wx.goto hC (t := 17) te_298_84 (by decide) ?_
    exact Wx.weak (by repeat' (first | exact trivial | exact rfl | constructor)) H
  · replace H := H.2 q
    refine Wx.aload_n hC te_298_40 rfl ?_
    refine Wx.iload hC te_298_41 rfl ?_
    refine Wx.iload hC te_298_43 rfl ?_
    refine Wx.virtI hC te_298_45 mt_242 (args := [.inr 143, .inl x4, .inl x5]) (rest := []) rfl rfl rfl rfl rfl rfl rfl rfl ?_
    refine CWI.mono hC (fun r4 m3 H hy => ?_) H
    replace H := H hy
    refine Wx.iload_n hC te_298_48 rfl ?_
    refine Wx.icmp hC (t := 75) te_298_49 (by decide) (fun q => ?_) (fun q => ?_)
    · replace H := H.1 q
      refine Wx.iinc hC te_298_75 rfl rfl H.1 ?_
      replace H := H.2
      refine Wx.goto hC (t := 29) te_298_78 (by decide) ?_
      exact H
    · replace H := H.2 q
      refine Wx.iload_n hC te_298_52 rfl ?_
      refine Wx.aload_n hC te_298_53 rfl ?_
      refine Wx.getR hC te_298_54 rfl rfl rfl ?_
      refine Wx.iload hC te_298_57 rfl ?_
      refine Wx.iald hC te_298_59 rfl H.1 (fun v5 e1 e2 => ?_)
      replace H := H.2 v5 e1 e2
      refine Wx.iload_n hC te_298_60 rfl ?_
      refine Wx.aload_n hC te_298_61 rfl ?_
      refine Wx.iload hC te_298_62 rfl ?_
      refine Wx.iload hC te_298_64 rfl ?_
      refine Wx.virtI hC te_298_66 mt_243 (args := [.inr 143, .inl x4, .inl x5]) (rest := [.inl x2, .inl v5, .inl x3]) rfl rfl rfl rfl rfl rfl rfl rfl ?_
      refine CWI.mono hC (fun r7 m6 H hy => ?_) H
      replace H := H hy
      refine Wx.imul hC te_298_69 H.1 ?_
      replace H := H.2
      refine Wx.iadd hC te_298_70 H.1 ?_
      replace H := H.2
      refine Wx.statI hC te_298_71 (by decide) mt_257 (args := [.inl x3, .inl (v5 + (x2 * r7))]) (rest := []) rfl rfl rfl rfl rfl ?_
      refine CWI.mono hC (fun r9 m8 H hy => ?_) H
      replace H := H hy
      refine Wx.istore_n hC te_298_74 rfl ?_
      refine Wx.iinc hC te_298_75 rfl rfl H.1 ?_
      replace H := H.2
      refine Wx.goto hC (t := 29) te_298_78 (by decide) ?_
      exact H
theorem w_297_0 {C : CXW} (hC : Cmono C) {S : Nat × (Nat → Int32)} {K : WK} {mem : MM} {x1 x2 : Int} (H : ((0 : Int) ≤ x1 ∧ (x1 : Int) < 8) ∧ ∀ v1 : Int, v1 = mem 144 (Int.toNat x1) → InI v1 → ((¬ v1 = 5 → (CWI C 298 [.inr 143, .inl x1, .inl x2] mem fun r3 m2 => InI r3 → (CWI C 275 [.inl r3, .inl x2] m2 fun r5 m4 => InI r5 → (CWI C 257 [.inl 1, .inl r5] m4 fun r7 m6 => InI r7 → (InI r7 → K (some r7) m6))))) ∧ (¬ (¬ v1 = 5) → (InI 0 → K (some 0) mem)))) : Wx C S M_297 K 0 [some (.inr 143), some (.inl x1), some (.inl x2)] [] mem := by
  refine Wx.aload_n hC te_297_0 rfl ?_
  refine Wx.getR hC te_297_1 rfl rfl rfl ?_
  refine Wx.iload_n hC te_297_4 rfl ?_
  refine Wx.iald hC te_297_5 rfl H.1 (fun v1 e1 e2 => ?_)
  replace H := H.2 v1 e1 e2
  refine Wx.iconst hC te_297_6 rfl ?_
  refine Wx.icmp hC (t := 14) te_297_7 (by decide) (fun q => ?_) (fun q => ?_)
  · replace H := H.1 q
    refine Wx.iconst hC te_297_14 rfl ?_
    refine Wx.aload_n hC te_297_15 rfl ?_
    refine Wx.iload_n hC te_297_16 rfl ?_
    refine Wx.iload_n hC te_297_17 rfl ?_
    refine Wx.virtI hC te_297_18 mt_298 (args := [.inr 143, .inl x1, .inl x2]) (rest := [.inl 1]) rfl rfl rfl rfl rfl rfl rfl rfl ?_
    refine CWI.mono hC (fun r3 m2 H hy => ?_) H
    replace H := H hy
    refine Wx.iload_n hC te_297_21 rfl ?_
    refine Wx.statI hC te_297_22 (by decide) mt_275 (args := [.inl r3, .inl x2]) (rest := [.inl 1]) rfl rfl rfl rfl rfl ?_
    refine CWI.mono hC (fun r5 m4 H hy => ?_) H
    replace H := H hy
    refine Wx.statI hC te_297_25 (by decide) mt_257 (args := [.inl 1, .inl r5]) (rest := []) rfl rfl rfl rfl rfl ?_
    refine CWI.mono hC (fun r7 m6 H hy => ?_) H
    replace H := H hy
    exact Wx.ireturn hC te_297_28 rfl H
  · replace H := H.2 q
    refine Wx.iconst hC te_297_10 rfl ?_
    refine Wx.goto hC (t := 28) te_297_11 (by decide) ?_
    exact Wx.ireturn hC te_297_28 rfl H
theorem w_296_0 {C : CXW} (hC : Cmono C) {S : Nat × (Nat → Int32)} {K : WK} {mem : MM} {x1 : Int} (H : (Wx C S M_296 K 4 [some (.inr 143), some (.inl x1), some (.inl 1), some (.inl 0)] [] mem)) : Wx C S M_296 K 0 [some (.inr 143), some (.inl x1), none, none] [] mem := by
  refine Wx.iconst hC te_296_0 rfl ?_
  refine Wx.istore_n hC te_296_1 rfl ?_
  refine Wx.iconst hC te_296_2 rfl ?_
  refine Wx.istore_n hC te_296_3 rfl ?_
  exact H
theorem w_296_4 {C : CXW} (hC : Cmono C) {S : Nat × (Nat → Int32)} {K : WK} {mem : MM} {x1 x2 x3 : Int} (H : ∀ v1 : Int, v1 = mem 143 1 → InI v1 → ((v1 ≤ x3 → (InI x2 → K (some x2) mem)) ∧ (¬ (v1 ≤ x3) → (CWI C 297 [.inr 143, .inl x3, .inl x1] mem fun r3 m2 => InI r3 → (CWI C 257 [.inl x2, .inl r3] m2 fun r5 m4 => InI r5 → (InI (x3 + 1)) ∧ (Wx C S M_296 K 4 [some (.inr 143), some (.inl x1), some (.inl r5), some (.inl (x3 + 1))] [] m4)))))) : Wx C S M_296 K 4 [some (.inr 143), some (.inl x1), some (.inl x2), some (.inl x3)] [] mem := by
  refine Wx.iload_n hC te_296_4 rfl ?_
  refine Wx.aload_n hC te_296_5 rfl ?_
  refine Wx.getI hC te_296_6 rfl rfl rfl (fun v1 e1 e2 => ?_)
  replace H := H v1 e1 e2
  refine Wx.icmp hC (t := 29) te_296_9 (by decide) (fun q => ?_) (fun q => ?_)
  · replace H := H.1 q
    refine Wx.iload_n hC te_296_29 rfl ?_
    exact Wx.ireturn hC te_296_30 rfl H
  · replace H := H.2 q
    refine Wx.iload_n hC te_296_12 rfl ?_
    refine Wx.aload_n hC te_296_13 rfl ?_
    refine Wx.iload_n hC te_296_14 rfl ?_
    refine Wx.iload_n hC te_296_15 rfl ?_
    refine Wx.virtI hC te_296_16 mt_297 (args := [.inr 143, .inl x3, .inl x1]) (rest := [.inl x2]) rfl rfl rfl rfl rfl rfl rfl rfl ?_
    refine CWI.mono hC (fun r3 m2 H hy => ?_) H
    replace H := H hy
    refine Wx.statI hC te_296_19 (by decide) mt_257 (args := [.inl x2, .inl r3]) (rest := []) rfl rfl rfl rfl rfl ?_
    refine CWI.mono hC (fun r5 m4 H hy => ?_) H
    replace H := H hy
    refine Wx.istore_n hC te_296_22 rfl ?_
    refine Wx.iinc hC te_296_23 rfl rfl H.1 ?_
    replace H := H.2
    refine Wx.goto hC (t := 4) te_296_26 (by decide) ?_
    exact H
theorem w_295_0 {C : CXW} (hC : Cmono C) {S : Nat × (Nat → Int32)} {K : WK} {mem : MM} {x1 x2 : Int} (H : ((0 : Int) ≤ x1 ∧ (x1 : Int) < 8) ∧ ∀ v1 : Int, v1 = mem 144 (Int.toNat x1) → InI v1 → ((¬ v1 = 5 → (CWI C 296 [.inr 143, .inl x2] mem fun r3 m2 => InI r3 → (CWI C 297 [.inr 143, .inl x1, .inl x2] m2 fun r5 m4 => InI r5 → (Wx C S M_295 K 26 [some (.inr 143), some (.inl x1), some (.inl x2), some (.inl r3), some (.inl r5)] [] m4)))) ∧ (¬ (¬ v1 = 5) → (InI 0 → K (some 0) mem)))) : Wx C S M_295 K 0 [some (.inr 143), some (.inl x1), some (.inl x2), none, none] [] mem := by
  refine Wx.aload_n hC te_295_0 rfl ?_
  refine Wx.getR hC te_295_1 rfl rfl rfl ?_
  refine Wx.iload_n hC te_295_4 rfl ?_
  refine Wx.iald hC te_295_5 rfl H.1 (fun v1 e1 e2 => ?_)
  replace H := H.2 v1 e1 e2
  refine Wx.iconst hC te_295_6 rfl ?_
  refine Wx.icmp hC (t := 12) te_295_7 (by decide) (fun q => ?_) (fun q => ?_)
  · replace H := H.1 q
    refine Wx.aload_n hC te_295_12 rfl ?_
    refine Wx.iload_n hC te_295_13 rfl ?_
    refine Wx.virtI hC te_295_14 mt_296 (args := [.inr 143, .inl x2]) (rest := []) rfl rfl rfl rfl rfl rfl rfl rfl ?_
    refine CWI.mono hC (fun r3 m2 H hy => ?_) H
    replace H := H hy
    refine Wx.istore_n hC te_295_17 rfl ?_
    refine Wx.aload_n hC te_295_18 rfl ?_
    refine Wx.iload_n hC te_295_19 rfl ?_
    refine Wx.iload_n hC te_295_20 rfl ?_
    refine Wx.virtI hC te_295_21 mt_297 (args := [.inr 143, .inl x1, .inl x2]) (rest := []) rfl rfl rfl rfl rfl rfl rfl rfl ?_
    refine CWI.mono hC (fun r5 m4 H hy => ?_) H
    replace H := H hy
    refine Wx.istore hC te_295_24 rfl ?_
    exact H
  · replace H := H.2 q
    refine Wx.iconst hC te_295_10 rfl ?_
    exact Wx.ireturn hC te_295_11 rfl H
theorem w_295_26 {C : CXW} (hC : Cmono C) {S : Nat × (Nat → Int32)} {K : WK} {mem : MM} {x1 x2 x3 x4 : Int} (H : (0 < x4) ∧ ((((x3 : Int).tmod x4) = 0 → (InI x4 → K (some x4) mem)) ∧ (¬ (((x3 : Int).tmod x4) = 0) → (InI (x4 + 1)) ∧ (Wx C S M_295 K 26 [some (.inr 143), some (.inl x1), some (.inl x2), some (.inl x3), some (.inl (x4 + 1))] [] mem)))) : Wx C S M_295 K 26 [some (.inr 143), some (.inl x1), some (.inl x2), some (.inl x3), some (.inl x4)] [] mem := by
  refine Wx.iload_n hC te_295_26 rfl ?_
  refine Wx.iload hC te_295_27 rfl ?_
  refine Wx.irem hC te_295_29 H.1 ?_
  replace H := H.2
  refine Wx.ifc hC (t := 39) te_295_30 (by decide) (fun q => ?_) (fun q => ?_)
  · replace H := H.1 q
    refine Wx.iload hC te_295_39 rfl ?_
    exact Wx.ireturn hC te_295_41 rfl H
  · replace H := H.2 q
    refine Wx.iinc hC te_295_33 rfl rfl H.1 ?_
    replace H := H.2
    refine Wx.goto hC (t := 26) te_295_36 (by decide) ?_
    exact H
end
section
/-! lives, copies, names paired: what they come to, and their bounds -/
def ceilF (t d : Int) : Int := -((-t) / d)
theorem ceilF_sp (t : Int) {d : Int} (hd : 0 < d) : d * (ceilF t d - 1) < t ∧ t ≤ d * ceilF t d := by
  unfold ceilF
  have e := Int.mul_ediv_add_emod (-t) d
  have h1 := Int.emod_lt_of_pos (-t) hd
  have h2 := Int.emod_nonneg (-t) (show d ≠ 0 by omega)
  have e2 : d * (-((-t) / d) - 1) = -(d * ((-t) / d)) - d := by rw [Int.mul_sub, Int.mul_neg, Int.mul_one]
  have e3 : d * (-((-t) / d)) = -(d * ((-t) / d)) := Int.mul_neg _ _
  omega
theorem ceilF_eq {t d u : Int} (hd : 0 < d) (h1 : d * (u - 1) < t) (h2 : t ≤ d * u) : u = ceilF t d := by
  obtain ⟨g1, g2⟩ := ceilF_sp t hd
  have := ceil1 hd h1 g2
  have := ceil1 hd g1 h2
  omega
def lst1 (m : MM) (o : Nat) (d : Int) (u : Nat) (k : Int) (l : Int) : Int := if srcA m u k = o then max l (m 161 u + d * srcB m u k) else l
def lstK (m : MM) (o : Nat) (d : Int) (u : Nat) (l : Int) : Nat → Int
  | 0 => l
  | k + 1 => lst1 m o d u k (lstK m o d u l k)
def lstN (m : MM) (o : Nat) (d : Int) : Nat → Int
  | 0 => -1
  | u + 1 => lstK m o d u (lstN m o d u) (srcN m u).toNat
def lifeF (m : MM) (o : Nat) (d : Int) : Int := if m 144 o = 5 then 0 else if lstN m o d (m 143 1).toNat = -1 then 0 else lstN m o d (m 143 1).toNat - (m 161 o + latF m o) + 1
def copF (m : MM) (o : Nat) (d : Int) : Int := if m 144 o = 5 then 0 else max 1 (ceilF (lifeF m o d) d)
theorem d3 {d x : Int} (hd : 1 ≤ d ∧ d ≤ 12) (hx : 0 ≤ x ∧ x ≤ 3) : 0 ≤ d * x ∧ d * x ≤ 3 * d := by
  have h1 := Int.mul_nonneg (show 0 ≤ d by omega) hx.1
  have h2 := Int.mul_le_mul_of_nonneg_left hx.2 (show 0 ≤ d by omega)
  omega
theorem srcN_le (m : MM) (u : Nat) : 0 ≤ srcN m u ∧ srcN m u ≤ 2 := by unfold srcN; split <;> (try split) <;> omega
section LIFE
variable {S : Nat × (Nat → Int32)} {n : Nat} {mem : MM} {d : Int}
theorem lst1_rng (hO : OpsOK mem) (hT : TmOK mem d) (hd : 1 ≤ d ∧ d ≤ 12) {o u : Nat} {k l : Int} (hu : (u : Int) < mem 143 1) (hk : 0 ≤ k ∧ k < srcN mem u) (hl : -1 ≤ l ∧ l ≤ 33 + 12 * d) : -1 ≤ lst1 mem o d u k l ∧ lst1 mem o d u k l ≤ 33 + 12 * d := by
  unfold lst1
  split
  · have hs := hO.src (o := u) (by have := hO.1; omega) hk.1 hk.2
    have ht := hT u hu
    have hb : 0 ≤ srcB mem u k ∧ srcB mem u k ≤ 3 := by unfold srcOK at hs; omega
    have := d3 hd hb
    omega
  · exact hl
theorem lstK_rng (hO : OpsOK mem) (hT : TmOK mem d) (hd : 1 ≤ d ∧ d ≤ 12) {o u : Nat} {l : Int} (hu : (u : Int) < mem 143 1) (hl : -1 ≤ l ∧ l ≤ 33 + 12 * d) : ∀ k : Nat, (k : Int) ≤ srcN mem u → -1 ≤ lstK mem o d u l k ∧ lstK mem o d u l k ≤ 33 + 12 * d
  | 0, _ => hl
  | k + 1, h => lst1_rng hO hT hd hu (by omega) (lstK_rng hO hT hd hu hl k (by omega))
theorem lstN_rng (hO : OpsOK mem) (hT : TmOK mem d) (hd : 1 ≤ d ∧ d ≤ 12) {o : Nat} : ∀ u : Nat, (u : Int) ≤ mem 143 1 → -1 ≤ lstN mem o d u ∧ lstN mem o d u ≤ 33 + 12 * d
  | 0, _ => by simp only [lstN]; omega
  | u + 1, h => lstK_rng hO hT hd (by omega) (lstN_rng hO hT hd u (by omega)) _ (by have := srcN_le mem u; omega)
theorem lifeF_rng (hO : OpsOK mem) (hT : TmOK mem d) (hd : 1 ≤ d ∧ d ≤ 12) {o : Nat} (ho : (o : Int) < mem 143 1) : -1000 ≤ lifeF mem o d ∧ lifeF mem o d ≤ 33 + 12 * d := by
  unfold lifeF
  have h8 := hO.1
  have h1 := lstN_rng hO hT hd (o := o) (mem 143 1).toNat (by omega)
  have h2 := hT o ho
  have h3 := hO.lat (o := o) (by omega)
  split
  · omega
  · split <;> omega
theorem copF_rng (hO : OpsOK mem) (hT : TmOK mem d) (hd : 1 ≤ d ∧ d ≤ 12) {o : Nat} (ho : (o : Int) < mem 143 1) : 0 ≤ copF mem o d ∧ copF mem o d ≤ 45 ∧ (¬ mem 144 o = 5 → 1 ≤ copF mem o d) := by
  unfold copF
  split
  · omega
  · obtain ⟨h1, h2⟩ := lifeF_rng hO hT hd ho
    obtain ⟨g1, g2⟩ := ceilF_sp (lifeF mem o d) (show 0 < d by omega)
    have : ceilF (lifeF mem o d) d ≤ 45 := by
      by_cases h : ceilF (lifeF mem o d) d ≤ 45
      · exact h
      · have := Int.mul_le_mul_of_nonneg_left (show (45 : Int) ≤ ceilF (lifeF mem o d) d - 1 by omega) (show 0 ≤ d by omega)
        omega
    omega
theorem f_299 {K : Int → MM → Prop} (hO : OpsOK mem) {o : Int} (ho : 0 ≤ o ∧ o < mem 143 1) (hT : -1000000 ≤ mem 161 o.toNat ∧ mem 161 o.toNat ≤ 1000000) (H : K (mem 161 o.toNat + latF mem o.toNat) mem) : CWI (Ex S (n + 2)) 299 [.inr 143, .inl o] mem K := by
  have h8 := hO.1
  have hl := hO.lat (o := o.toNat) (by omega)
  refine CW.of (k := 0) mt_299 rfl rfl (w_299_0 (Ex.mono S (n + 1)) ⟨by omega, fun v e _ => f_246 hO (by omega) (fun _ => ⟨by unfold InI; omega, fun _ => ⟨_, rfl, ?_⟩⟩)⟩)
  rw [e]; exact H
theorem lf_29 (hO : OpsOK mem) (hT : TmOK mem d) (hd : 1 ≤ d ∧ d ≤ 12) {o : Nat} (ho : (o : Int) < mem 143 1) (hk5 : ¬ mem 144 o = 5) {Kk : WK} (H : Kk (some (lifeF mem o d)) mem) : ∀ (N : Nat) (u k : Nat), (u : Int) < mem 143 1 → (k : Int) ≤ srcN mem u → 3 * (mem 143 1 - u) + (2 - k) < N → Wx (Ex S (n + 2)) S M_298 Kk 29 [some (.inr 143), some (.inl (o : Int)), some (.inl d), some (.inl (lstK mem o d u (lstN mem o d u) k)), some (.inl (u : Int)), some (.inl (k : Int))] [] mem := by
  intro N
  induction N with
  | zero => intro u k hu hk hN; have := srcN_le mem u; omega
  | succ N ih =>
    intro u k hu hk hN
    have h8 := hO.1
    have hu8 : 0 ≤ (u : Int) ∧ (u : Int) < 8 := by omega
    have hsn := srcN_le mem u
    refine w_298_29 (Ex.mono S (n + 2)) (f_241 hu8 (fun _ => ⟨fun q => ⟨by unfold InI; omega, ?_⟩, fun q => ?_⟩))
    · rw [Int.toNat_natCast] at q
      have ek : k = (srcN mem u).toNat := by omega
      subst ek
      have eN : lstK mem o d u (lstN mem o d u) (srcN mem u).toNat = lstN mem o d (u + 1) := rfl
      rw [eN]
      refine w_298_17 (Ex.mono S (n + 2)) (fun v e _ => ⟨fun q2 => ?_, fun q2 => ?_⟩)
      · have eu : u + 1 = (mem 143 1).toNat := by omega
        have hl := lstN_rng hO hT hd (o := o) (mem 143 1).toNat (by omega)
        have ht := hT o ho
        have hla := hO.lat (o := o) (by omega)
        unfold lifeF at H
        rw [if_neg hk5] at H
        rw [eu]
        refine ⟨fun q3 => f_299 hO (by omega) (by rw [Int.toNat_natCast]; omega) (fun _ => ?_), fun q3 _ => ?_⟩
        · rw [Int.toNat_natCast]
          rw [if_neg q3] at H
          exact ⟨by unfold InI; omega, by unfold InI; omega, fun _ => H⟩
        · rw [if_pos (by omega)] at H; exact H
      · exact ih (u + 1) 0 (by omega) (by have := srcN_le mem (u + 1); omega) (by omega)
    · rw [Int.toNat_natCast] at q
      have ek : lstK mem o d u (lstN mem o d u) (k + 1) = lst1 mem o d u k (lstK mem o d u (lstN mem o d u) k) := rfl
      have nx := ih u (k + 1) hu (by omega) (by omega)
      rw [ek] at nx
      have hs := hO.src (o := u) (by omega) (k := k) (by omega) (by omega)
      refine f_242 hu8 (fun _ => ⟨fun q2 => ⟨by unfold InI; omega, ?_⟩, fun q2 => ⟨hu8, fun v5 e5 _ => f_243 hu8 (fun _ => ?_)⟩⟩)
      · rw [Int.toNat_natCast] at q2
        unfold lst1 at nx
        rw [if_neg q2] at nx
        exact nx
      · rw [Int.toNat_natCast] at q2 e5
        rw [Int.toNat_natCast]
        have hb : 0 ≤ srcB mem u k ∧ srcB mem u k ≤ 3 := by unfold srcOK at hs; omega
        have hd3 := d3 hd hb
        have ht := hT u hu
        refine ⟨by unfold InI; omega, by unfold InI; omega, f_257 (fun _ _ => ⟨by unfold InI; omega, ?_⟩)⟩
        unfold lst1 at nx
        rw [if_pos (by omega)] at nx
        rw [e5]; exact nx
theorem f_298 {K : Int → MM → Prop} (hO : OpsOK mem) (hT : TmOK mem d) (hd : 1 ≤ d ∧ d ≤ 12) {o : Nat} (ho : (o : Int) < mem 143 1) (H : K (lifeF mem o d) mem) : CWI (Ex S (n + 3)) 298 [.inr 143, .inl (o : Int), .inl d] mem K := by
  have h8 := hO.1
  refine CW.of (k := 3) mt_298 rfl rfl (w_298_0 (Ex.mono S (n + 2)) ⟨by omega, fun v e _ => ⟨fun q => ?_, fun q _ => ⟨_, rfl, ?_⟩⟩⟩)
  · rw [Int.toNat_natCast] at e
    refine w_298_17 (Ex.mono S (n + 2)) (fun v e _ => ⟨fun q2 => by omega, fun q2 => ?_⟩)
    exact lf_29 hO hT hd ho (by omega) ⟨_, rfl, H⟩ 27 0 0 (by omega) (by have := srcN_le mem 0; omega) (by omega)
  · rw [Int.toNat_natCast] at e
    unfold lifeF at H
    rw [if_pos (by omega)] at H; exact H
theorem f_297 {K : Int → MM → Prop} (hO : OpsOK mem) (hT : TmOK mem d) (hd : 1 ≤ d ∧ d ≤ 12) {o : Nat} (ho : (o : Int) < mem 143 1) (H : K (copF mem o d) mem) : CWI (Ex S (n + 4)) 297 [.inr 143, .inl (o : Int), .inl d] mem K := by
  have h8 := hO.1
  have hl := lifeF_rng hO hT hd ho
  refine CW.of (k := 0) mt_297 rfl rfl (w_297_0 (Ex.mono S (n + 3)) ⟨by omega, fun v e _ => ⟨fun q => f_298 hO hT hd ho (fun _ => f_275 ⟨by omega, by omega⟩ ⟨by omega, by omega⟩ (fun u h1 h2 _ => f_257 (fun _ _ _ => ⟨_, rfl, ?_⟩))), fun q _ => ⟨_, rfl, ?_⟩⟩⟩)
  · rw [Int.toNat_natCast] at e
    unfold copF at H
    rw [if_neg (by omega)] at H
    rw [ceilF_eq (by omega) h1 h2]; exact H
  · rw [Int.toNat_natCast] at e
    unfold copF at H
    rw [if_pos (by omega)] at H; exact H
theorem f_296 {K : Int → MM → Prop} (hO : OpsOK mem) (hT : TmOK mem d) (hd : 1 ≤ d ∧ d ≤ 12) (H : ∀ r, 1 ≤ r → r ≤ 45 → (∀ o : Nat, (o : Int) < mem 143 1 → copF mem o d ≤ r) → K r mem) : CWI (Ex S (n + 5)) 296 [.inr 143, .inl d] mem K := by
  have h8 := hO.1
  refine CW.of (k := 2) mt_296 rfl rfl (w_296_0 (Ex.mono S (n + 4)) ?_)
  have key : ∀ (N : Nat) (o : Nat) (r : Int), (o : Int) ≤ mem 143 1 → mem 143 1 - o < N → 1 ≤ r → r ≤ 45 → (∀ o2 : Nat, o2 < o → copF mem o2 d ≤ r) → Wx (Ex S (n + 4)) S M_296 (fun r m => ∃ y, r = some y ∧ K y m) 4 [some (.inr 143), some (.inl d), some (.inl r), some (.inl (o : Int))] [] mem := by
    intro N
    induction N with
    | zero => intros; omega
    | succ N ih =>
      intro o r ho hN r1 r2 hA
      refine w_296_4 (Ex.mono S (n + 4)) (fun v e _ => ⟨fun q _ => ⟨_, rfl, H r r1 r2 (fun o2 h2 => hA o2 (by omega))⟩, fun q => ?_⟩)
      have ho2 : (o : Int) < mem 143 1 := by omega
      have hc := copF_rng hO hT hd ho2
      refine f_297 hO hT hd ho2 (fun _ => f_257 (fun _ _ => ⟨by unfold InI; omega, ih (o + 1) _ (by omega) (by omega) (by omega) (by omega) (fun o2 h2 => ?_)⟩))
      by_cases e3 : o2 = o
      · subst e3; omega
      · have := hA o2 (by omega); omega
  exact key 9 0 1 (by omega) (by omega) (by omega) (by omega) (fun o2 h => by omega)
theorem f_295 {K : Int → MM → Prop} (hO : OpsOK mem) (hT : TmOK mem d) (hd : 1 ≤ d ∧ d ≤ 12) {o : Nat} (ho : (o : Int) < mem 143 1) (H : ∀ r, 0 ≤ r → r ≤ 45 → (¬ mem 144 o = 5 → 1 ≤ r) → K r mem) : CWI (Ex S (n + 6)) 295 [.inr 143, .inl (o : Int), .inl d] mem K := by
  have h8 := hO.1
  have hc := copF_rng hO hT hd ho
  refine CW.of (k := 2) mt_295 rfl rfl (w_295_0 (Ex.mono S (n + 5)) ⟨by omega, fun v e _ => ⟨fun q => f_296 hO hT hd (fun r r1 r2 r3 _ => f_297 hO hT hd ho (fun _ => ?_)), fun q _ => ⟨_, rfl, H 0 (by omega) (by omega) (fun z => ?_)⟩⟩⟩)
  · rw [Int.toNat_natCast] at e
    have key : ∀ (N : Nat) (k : Int), 1 ≤ k → k ≤ r → r - k < N → Wx (Ex S (n + 5)) S M_295 (fun r m => ∃ y, r = some y ∧ K y m) 26 [some (.inr 143), some (.inl (o : Int)), some (.inl d), some (.inl r), some (.inl k)] [] mem := by
      intro N
      induction N with
      | zero => intros; omega
      | succ N ih =>
        intro k k1 k2 hN
        refine w_295_26 (Ex.mono S (n + 5)) ⟨by omega, fun q2 _ => ⟨_, rfl, H k (by omega) (by omega) (fun _ => k1)⟩, fun q2 => ⟨by unfold InI; omega, ih (k + 1) (by omega) ?_ (by omega)⟩⟩
        by_cases e2 : k = r
        · subst e2
          rw [Int.tmod_self] at q2
          exact absurd rfl q2
        · omega
    have h1 := hc.2.2 (by omega)
    exact key 46 _ h1 (r3 o ho) (by omega)
  · rw [Int.toNat_natCast] at e
    omega
end LIFE
end
section
/-! laid by wip/hand/wxg.py: rings: what the paths of methods ask for -/
set_option maxRecDepth 100000 in
theorem mt_344 : MT[344]? = some M_344 := rfl
set_option maxRecDepth 100000 in
theorem mt_345 : MT[345]? = some M_345 := rfl
set_option maxRecDepth 100000 in
theorem mt_346 : MT[346]? = some M_346 := rfl
set_option maxRecDepth 100000 in
theorem mt_347 : MT[347]? = some M_347 := rfl
theorem te_344_0 : (pT M_344).find? (fun e => e.1 == 0) = some (0, .aload_n 0, 0, 0) := rfl
theorem te_344_1 : (pT M_344).find? (fun e => e.1 == 1) = some (1, .invokevirtual 164, 245, 0) := rfl
theorem te_344_4 : (pT M_344).find? (fun e => e.1 == 4) = some (4, .aload_n 0, 0, 0) := rfl
theorem te_344_5 : (pT M_344).find? (fun e => e.1 == 5) = some (5, .iconst 0, 0, 0) := rfl
theorem te_344_6 : (pT M_344).find? (fun e => e.1 == 6) = some (6, .putfield 381, 10, 31) := rfl
theorem te_344_9 : (pT M_344).find? (fun e => e.1 == 9) = some (9, .aload_n 0, 0, 0) := rfl
theorem te_344_10 : (pT M_344).find? (fun e => e.1 == 10) = some (10, .iconst 1, 0, 0) := rfl
theorem te_344_11 : (pT M_344).find? (fun e => e.1 == 11) = some (11, .putfield 378, 10, 32) := rfl
theorem te_344_14 : (pT M_344).find? (fun e => e.1 == 14) = some (14, .aload_n 0, 0, 0) := rfl
theorem te_344_15 : (pT M_344).find? (fun e => e.1 == 15) = some (15, .iconst 0, 0, 0) := rfl
theorem te_344_16 : (pT M_344).find? (fun e => e.1 == 16) = some (16, .putfield 384, 10, 33) := rfl
theorem te_344_19 : (pT M_344).find? (fun e => e.1 == 19) = some (19, .iconst 0, 0, 0) := rfl
theorem te_344_20 : (pT M_344).find? (fun e => e.1 == 20) = some (20, .istore_n 1, 0, 0) := rfl
theorem te_344_21 : (pT M_344).find? (fun e => e.1 == 21) = some (21, .iload_n 1, 0, 0) := rfl
theorem te_344_22 : (pT M_344).find? (fun e => e.1 == 22) = some (22, .aload_n 0, 0, 0) := rfl
theorem te_344_23 : (pT M_344).find? (fun e => e.1 == 23) = some (23, .getfield 108, 10, 1) := rfl
theorem te_344_26 : (pT M_344).find? (fun e => e.1 == 26) = some (26, .if_icmp .ge 21, 0, 0) := rfl
theorem te_344_29 : (pT M_344).find? (fun e => e.1 == 29) = some (29, .aload_n 0, 0, 0) := rfl
theorem te_344_30 : (pT M_344).find? (fun e => e.1 == 30) = some (30, .getfield 141, 10, 12) := rfl
theorem te_344_33 : (pT M_344).find? (fun e => e.1 == 33) = some (33, .ifCond .le 14, 0, 0) := rfl
theorem te_344_36 : (pT M_344).find? (fun e => e.1 == 36) = some (36, .aload_n 0, 0, 0) := rfl
theorem te_344_37 : (pT M_344).find? (fun e => e.1 == 37) = some (37, .iload_n 1, 0, 0) := rfl
theorem te_344_38 : (pT M_344).find? (fun e => e.1 == 38) = some (38, .invokevirtual 393, 345, 0) := rfl
theorem te_344_41 : (pT M_344).find? (fun e => e.1 == 41) = some (41, .iinc 1 1, 0, 0) := rfl
theorem te_344_44 : (pT M_344).find? (fun e => e.1 == 44) = some (44, .goto (-23), 0, 0) := rfl
theorem te_344_47 : (pT M_344).find? (fun e => e.1 == 47) = some (47, .return_, 0, 0) := rfl
theorem te_345_0 : (pT M_345).find? (fun e => e.1 == 0) = some (0, .iconst 0, 0, 0) := rfl
theorem te_345_1 : (pT M_345).find? (fun e => e.1 == 1) = some (1, .istore_n 2, 0, 0) := rfl
theorem te_345_2 : (pT M_345).find? (fun e => e.1 == 2) = some (2, .aload_n 0, 0, 0) := rfl
theorem te_345_3 : (pT M_345).find? (fun e => e.1 == 3) = some (3, .getfield 92, 10, 34) := rfl
theorem te_345_6 : (pT M_345).find? (fun e => e.1 == 6) = some (6, .iconst 0, 0, 0) := rfl
theorem te_345_7 : (pT M_345).find? (fun e => e.1 == 7) = some (7, .iconst (-1), 0, 0) := rfl
theorem te_345_8 : (pT M_345).find? (fun e => e.1 == 8) = some (8, .iastore, 0, 0) := rfl
theorem te_345_9 : (pT M_345).find? (fun e => e.1 == 9) = some (9, .iload_n 2, 0, 0) := rfl
theorem te_345_10 : (pT M_345).find? (fun e => e.1 == 10) = some (10, .ifCond .lt 193, 0, 0) := rfl
theorem te_345_13 : (pT M_345).find? (fun e => e.1 == 13) = some (13, .aload_n 0, 0, 0) := rfl
theorem te_345_14 : (pT M_345).find? (fun e => e.1 == 14) = some (14, .getfield 92, 10, 34) := rfl
theorem te_345_17 : (pT M_345).find? (fun e => e.1 == 17) = some (17, .iload_n 2, 0, 0) := rfl
theorem te_345_18 : (pT M_345).find? (fun e => e.1 == 18) = some (18, .dup2, 0, 0) := rfl
theorem te_345_19 : (pT M_345).find? (fun e => e.1 == 19) = some (19, .iaload, 0, 0) := rfl
theorem te_345_20 : (pT M_345).find? (fun e => e.1 == 20) = some (20, .iconst 1, 0, 0) := rfl
theorem te_345_21 : (pT M_345).find? (fun e => e.1 == 21) = some (21, .iadd, 0, 0) := rfl
theorem te_345_22 : (pT M_345).find? (fun e => e.1 == 22) = some (22, .iastore, 0, 0) := rfl
theorem te_345_23 : (pT M_345).find? (fun e => e.1 == 23) = some (23, .iload_n 2, 0, 0) := rfl
theorem te_345_24 : (pT M_345).find? (fun e => e.1 == 24) = some (24, .ifCond .ne 7, 0, 0) := rfl
theorem te_345_27 : (pT M_345).find? (fun e => e.1 == 27) = some (27, .iload_n 1, 0, 0) := rfl
theorem te_345_28 : (pT M_345).find? (fun e => e.1 == 28) = some (28, .goto 29, 0, 0) := rfl
theorem te_345_31 : (pT M_345).find? (fun e => e.1 == 31) = some (31, .aload_n 0, 0, 0) := rfl
theorem te_345_32 : (pT M_345).find? (fun e => e.1 == 32) = some (32, .getfield 43, 10, 14) := rfl
theorem te_345_35 : (pT M_345).find? (fun e => e.1 == 35) = some (35, .aload_n 0, 0, 0) := rfl
theorem te_345_36 : (pT M_345).find? (fun e => e.1 == 36) = some (36, .getfield 141, 10, 12) := rfl
theorem te_345_39 : (pT M_345).find? (fun e => e.1 == 39) = some (39, .iconst 1, 0, 0) := rfl
theorem te_345_40 : (pT M_345).find? (fun e => e.1 == 40) = some (40, .isub, 0, 0) := rfl
theorem te_345_41 : (pT M_345).find? (fun e => e.1 == 41) = some (41, .iconst 0, 0, 0) := rfl
theorem te_345_42 : (pT M_345).find? (fun e => e.1 == 42) = some (42, .aload_n 0, 0, 0) := rfl
theorem te_345_43 : (pT M_345).find? (fun e => e.1 == 43) = some (43, .getfield 92, 10, 34) := rfl
theorem te_345_46 : (pT M_345).find? (fun e => e.1 == 46) = some (46, .iload_n 2, 0, 0) := rfl
theorem te_345_47 : (pT M_345).find? (fun e => e.1 == 47) = some (47, .iconst 1, 0, 0) := rfl
theorem te_345_48 : (pT M_345).find? (fun e => e.1 == 48) = some (48, .isub, 0, 0) := rfl
theorem te_345_49 : (pT M_345).find? (fun e => e.1 == 49) = some (49, .iaload, 0, 0) := rfl
theorem te_345_50 : (pT M_345).find? (fun e => e.1 == 50) = some (50, .invokestatic 167, 257, 2) := rfl
theorem te_345_53 : (pT M_345).find? (fun e => e.1 == 53) = some (53, .invokestatic 170, 258, 2) := rfl
theorem te_345_56 : (pT M_345).find? (fun e => e.1 == 56) = some (56, .iaload, 0, 0) := rfl
theorem te_345_57 : (pT M_345).find? (fun e => e.1 == 57) = some (57, .istore_n 3, 0, 0) := rfl
theorem te_345_58 : (pT M_345).find? (fun e => e.1 == 58) = some (58, .aload_n 0, 0, 0) := rfl
theorem te_345_59 : (pT M_345).find? (fun e => e.1 == 59) = some (59, .getfield 92, 10, 34) := rfl
theorem te_345_62 : (pT M_345).find? (fun e => e.1 == 62) = some (62, .iload_n 2, 0, 0) := rfl
theorem te_345_63 : (pT M_345).find? (fun e => e.1 == 63) = some (63, .iaload, 0, 0) := rfl
theorem te_345_64 : (pT M_345).find? (fun e => e.1 == 64) = some (64, .aload_n 0, 0, 0) := rfl
theorem te_345_65 : (pT M_345).find? (fun e => e.1 == 65) = some (65, .getfield 141, 10, 12) := rfl
theorem te_345_68 : (pT M_345).find? (fun e => e.1 == 68) = some (68, .if_icmp .lt 9, 0, 0) := rfl
theorem te_345_71 : (pT M_345).find? (fun e => e.1 == 71) = some (71, .iinc 2 (-1), 0, 0) := rfl
theorem te_345_74 : (pT M_345).find? (fun e => e.1 == 74) = some (74, .goto (-65), 0, 0) := rfl
theorem te_345_77 : (pT M_345).find? (fun e => e.1 == 77) = some (77, .aload_n 0, 0, 0) := rfl
theorem te_345_78 : (pT M_345).find? (fun e => e.1 == 78) = some (78, .getfield 92, 10, 34) := rfl
theorem te_345_81 : (pT M_345).find? (fun e => e.1 == 81) = some (81, .iload_n 2, 0, 0) := rfl
theorem te_345_82 : (pT M_345).find? (fun e => e.1 == 82) = some (82, .iaload, 0, 0) := rfl
theorem te_345_83 : (pT M_345).find? (fun e => e.1 == 83) = some (83, .istore 4, 0, 0) := rfl
theorem te_345_85 : (pT M_345).find? (fun e => e.1 == 85) = some (85, .aload_n 0, 0, 0) := rfl
theorem te_345_86 : (pT M_345).find? (fun e => e.1 == 86) = some (86, .getfield 40, 10, 13) := rfl
theorem te_345_89 : (pT M_345).find? (fun e => e.1 == 89) = some (89, .iload 4, 0, 0) := rfl
theorem te_345_91 : (pT M_345).find? (fun e => e.1 == 91) = some (91, .iaload, 0, 0) := rfl
theorem te_345_92 : (pT M_345).find? (fun e => e.1 == 92) = some (92, .iload_n 3, 0, 0) := rfl
theorem te_345_93 : (pT M_345).find? (fun e => e.1 == 93) = some (93, .if_icmp .ne (-84), 0, 0) := rfl
theorem te_345_96 : (pT M_345).find? (fun e => e.1 == 96) = some (96, .aload_n 0, 0, 0) := rfl
theorem te_345_97 : (pT M_345).find? (fun e => e.1 == 97) = some (97, .getfield 43, 10, 14) := rfl
theorem te_345_100 : (pT M_345).find? (fun e => e.1 == 100) = some (100, .iload 4, 0, 0) := rfl
theorem te_345_102 : (pT M_345).find? (fun e => e.1 == 102) = some (102, .iaload, 0, 0) := rfl
theorem te_345_103 : (pT M_345).find? (fun e => e.1 == 103) = some (103, .iload_n 1, 0, 0) := rfl
theorem te_345_104 : (pT M_345).find? (fun e => e.1 == 104) = some (104, .if_icmp .ge 6, 0, 0) := rfl
theorem te_345_107 : (pT M_345).find? (fun e => e.1 == 107) = some (107, .goto (-98), 0, 0) := rfl
theorem te_345_110 : (pT M_345).find? (fun e => e.1 == 110) = some (110, .aload_n 0, 0, 0) := rfl
theorem te_345_111 : (pT M_345).find? (fun e => e.1 == 111) = some (111, .getfield 43, 10, 14) := rfl
theorem te_345_114 : (pT M_345).find? (fun e => e.1 == 114) = some (114, .iload 4, 0, 0) := rfl
theorem te_345_116 : (pT M_345).find? (fun e => e.1 == 116) = some (116, .iaload, 0, 0) := rfl
theorem te_345_117 : (pT M_345).find? (fun e => e.1 == 117) = some (117, .iload_n 1, 0, 0) := rfl
theorem te_345_118 : (pT M_345).find? (fun e => e.1 == 118) = some (118, .if_icmp .ne 12, 0, 0) := rfl
theorem te_345_121 : (pT M_345).find? (fun e => e.1 == 121) = some (121, .aload_n 0, 0, 0) := rfl
theorem te_345_122 : (pT M_345).find? (fun e => e.1 == 122) = some (122, .iload_n 2, 0, 0) := rfl
theorem te_345_123 : (pT M_345).find? (fun e => e.1 == 123) = some (123, .iload_n 1, 0, 0) := rfl
theorem te_345_124 : (pT M_345).find? (fun e => e.1 == 124) = some (124, .invokevirtual 387, 346, 0) := rfl
theorem te_345_127 : (pT M_345).find? (fun e => e.1 == 127) = some (127, .goto (-118), 0, 0) := rfl
theorem te_345_130 : (pT M_345).find? (fun e => e.1 == 130) = some (130, .iconst 0, 0, 0) := rfl
theorem te_345_131 : (pT M_345).find? (fun e => e.1 == 131) = some (131, .istore 5, 0, 0) := rfl
theorem te_345_133 : (pT M_345).find? (fun e => e.1 == 133) = some (133, .iconst 0, 0, 0) := rfl
theorem te_345_134 : (pT M_345).find? (fun e => e.1 == 134) = some (134, .istore 6, 0, 0) := rfl
theorem te_345_136 : (pT M_345).find? (fun e => e.1 == 136) = some (136, .iload 6, 0, 0) := rfl
theorem te_345_138 : (pT M_345).find? (fun e => e.1 == 138) = some (138, .iload_n 2, 0, 0) := rfl
theorem te_345_139 : (pT M_345).find? (fun e => e.1 == 139) = some (139, .if_icmp .ge 43, 0, 0) := rfl
theorem te_345_142 : (pT M_345).find? (fun e => e.1 == 142) = some (142, .iload 5, 0, 0) := rfl
theorem te_345_144 : (pT M_345).find? (fun e => e.1 == 144) = some (144, .ifCond .ne 25, 0, 0) := rfl
theorem te_345_147 : (pT M_345).find? (fun e => e.1 == 147) = some (147, .aload_n 0, 0, 0) := rfl
theorem te_345_148 : (pT M_345).find? (fun e => e.1 == 148) = some (148, .getfield 43, 10, 14) := rfl
theorem te_345_151 : (pT M_345).find? (fun e => e.1 == 151) = some (151, .aload_n 0, 0, 0) := rfl
theorem te_345_152 : (pT M_345).find? (fun e => e.1 == 152) = some (152, .getfield 92, 10, 34) := rfl
theorem te_345_155 : (pT M_345).find? (fun e => e.1 == 155) = some (155, .iload 6, 0, 0) := rfl
theorem te_345_157 : (pT M_345).find? (fun e => e.1 == 157) = some (157, .iaload, 0, 0) := rfl
theorem te_345_158 : (pT M_345).find? (fun e => e.1 == 158) = some (158, .iaload, 0, 0) := rfl
theorem te_345_159 : (pT M_345).find? (fun e => e.1 == 159) = some (159, .aload_n 0, 0, 0) := rfl
theorem te_345_160 : (pT M_345).find? (fun e => e.1 == 160) = some (160, .getfield 43, 10, 14) := rfl
theorem te_345_163 : (pT M_345).find? (fun e => e.1 == 163) = some (163, .iload 4, 0, 0) := rfl
theorem te_345_165 : (pT M_345).find? (fun e => e.1 == 165) = some (165, .iaload, 0, 0) := rfl
theorem te_345_166 : (pT M_345).find? (fun e => e.1 == 166) = some (166, .if_icmp .ne 7, 0, 0) := rfl
theorem te_345_169 : (pT M_345).find? (fun e => e.1 == 169) = some (169, .iconst 1, 0, 0) := rfl
theorem te_345_170 : (pT M_345).find? (fun e => e.1 == 170) = some (170, .goto 4, 0, 0) := rfl
theorem te_345_173 : (pT M_345).find? (fun e => e.1 == 173) = some (173, .iconst 0, 0, 0) := rfl
theorem te_345_174 : (pT M_345).find? (fun e => e.1 == 174) = some (174, .istore 5, 0, 0) := rfl
theorem te_345_176 : (pT M_345).find? (fun e => e.1 == 176) = some (176, .iinc 6 1, 0, 0) := rfl
theorem te_345_179 : (pT M_345).find? (fun e => e.1 == 179) = some (179, .goto (-43), 0, 0) := rfl
theorem te_345_182 : (pT M_345).find? (fun e => e.1 == 182) = some (182, .iload 5, 0, 0) := rfl
theorem te_345_184 : (pT M_345).find? (fun e => e.1 == 184) = some (184, .ifCond .eq 6, 0, 0) := rfl
theorem te_345_187 : (pT M_345).find? (fun e => e.1 == 187) = some (187, .goto (-178), 0, 0) := rfl
theorem te_345_190 : (pT M_345).find? (fun e => e.1 == 190) = some (190, .iinc 2 1, 0, 0) := rfl
theorem te_345_193 : (pT M_345).find? (fun e => e.1 == 193) = some (193, .aload_n 0, 0, 0) := rfl
theorem te_345_194 : (pT M_345).find? (fun e => e.1 == 194) = some (194, .getfield 92, 10, 34) := rfl
theorem te_345_197 : (pT M_345).find? (fun e => e.1 == 197) = some (197, .iload_n 2, 0, 0) := rfl
theorem te_345_198 : (pT M_345).find? (fun e => e.1 == 198) = some (198, .iconst (-1), 0, 0) := rfl
theorem te_345_199 : (pT M_345).find? (fun e => e.1 == 199) = some (199, .iastore, 0, 0) := rfl
theorem te_345_200 : (pT M_345).find? (fun e => e.1 == 200) = some (200, .goto (-191), 0, 0) := rfl
theorem te_345_203 : (pT M_345).find? (fun e => e.1 == 203) = some (203, .return_, 0, 0) := rfl
theorem te_346_0 : (pT M_346).find? (fun e => e.1 == 0) = some (0, .iconst 0, 0, 0) := rfl
theorem te_346_1 : (pT M_346).find? (fun e => e.1 == 1) = some (1, .istore_n 3, 0, 0) := rfl
theorem te_346_2 : (pT M_346).find? (fun e => e.1 == 2) = some (2, .iconst 0, 0, 0) := rfl
theorem te_346_3 : (pT M_346).find? (fun e => e.1 == 3) = some (3, .istore 4, 0, 0) := rfl
theorem te_346_5 : (pT M_346).find? (fun e => e.1 == 5) = some (5, .iconst 0, 0, 0) := rfl
theorem te_346_6 : (pT M_346).find? (fun e => e.1 == 6) = some (6, .istore 5, 0, 0) := rfl
theorem te_346_8 : (pT M_346).find? (fun e => e.1 == 8) = some (8, .iconst 0, 0, 0) := rfl
theorem te_346_9 : (pT M_346).find? (fun e => e.1 == 9) = some (9, .istore 6, 0, 0) := rfl
theorem te_346_11 : (pT M_346).find? (fun e => e.1 == 11) = some (11, .iload 6, 0, 0) := rfl
theorem te_346_13 : (pT M_346).find? (fun e => e.1 == 13) = some (13, .iload_n 1, 0, 0) := rfl
theorem te_346_14 : (pT M_346).find? (fun e => e.1 == 14) = some (14, .if_icmp .gt 60, 0, 0) := rfl
theorem te_346_17 : (pT M_346).find? (fun e => e.1 == 17) = some (17, .iload_n 3, 0, 0) := rfl
theorem te_346_18 : (pT M_346).find? (fun e => e.1 == 18) = some (18, .aload_n 0, 0, 0) := rfl
theorem te_346_19 : (pT M_346).find? (fun e => e.1 == 19) = some (19, .getfield 49, 10, 16) := rfl
theorem te_346_22 : (pT M_346).find? (fun e => e.1 == 22) = some (22, .aload_n 0, 0, 0) := rfl
theorem te_346_23 : (pT M_346).find? (fun e => e.1 == 23) = some (23, .getfield 92, 10, 34) := rfl
theorem te_346_26 : (pT M_346).find? (fun e => e.1 == 26) = some (26, .iload 6, 0, 0) := rfl
theorem te_346_28 : (pT M_346).find? (fun e => e.1 == 28) = some (28, .iaload, 0, 0) := rfl
theorem te_346_29 : (pT M_346).find? (fun e => e.1 == 29) = some (29, .iaload, 0, 0) := rfl
theorem te_346_30 : (pT M_346).find? (fun e => e.1 == 30) = some (30, .iadd, 0, 0) := rfl
theorem te_346_31 : (pT M_346).find? (fun e => e.1 == 31) = some (31, .istore_n 3, 0, 0) := rfl
theorem te_346_32 : (pT M_346).find? (fun e => e.1 == 32) = some (32, .iload 4, 0, 0) := rfl
theorem te_346_34 : (pT M_346).find? (fun e => e.1 == 34) = some (34, .aload_n 0, 0, 0) := rfl
theorem te_346_35 : (pT M_346).find? (fun e => e.1 == 35) = some (35, .getfield 46, 10, 15) := rfl
theorem te_346_38 : (pT M_346).find? (fun e => e.1 == 38) = some (38, .aload_n 0, 0, 0) := rfl
theorem te_346_39 : (pT M_346).find? (fun e => e.1 == 39) = some (39, .getfield 92, 10, 34) := rfl
theorem te_346_42 : (pT M_346).find? (fun e => e.1 == 42) = some (42, .iload 6, 0, 0) := rfl
theorem te_346_44 : (pT M_346).find? (fun e => e.1 == 44) = some (44, .iaload, 0, 0) := rfl
theorem te_346_45 : (pT M_346).find? (fun e => e.1 == 45) = some (45, .iaload, 0, 0) := rfl
theorem te_346_46 : (pT M_346).find? (fun e => e.1 == 46) = some (46, .iadd, 0, 0) := rfl
theorem te_346_47 : (pT M_346).find? (fun e => e.1 == 47) = some (47, .istore 4, 0, 0) := rfl
theorem te_346_49 : (pT M_346).find? (fun e => e.1 == 49) = some (49, .iload 5, 0, 0) := rfl
theorem te_346_51 : (pT M_346).find? (fun e => e.1 == 51) = some (51, .iconst 1, 0, 0) := rfl
theorem te_346_52 : (pT M_346).find? (fun e => e.1 == 52) = some (52, .aload_n 0, 0, 0) := rfl
theorem te_346_53 : (pT M_346).find? (fun e => e.1 == 53) = some (53, .getfield 43, 10, 14) := rfl
theorem te_346_56 : (pT M_346).find? (fun e => e.1 == 56) = some (56, .aload_n 0, 0, 0) := rfl
theorem te_346_57 : (pT M_346).find? (fun e => e.1 == 57) = some (57, .getfield 92, 10, 34) := rfl
theorem te_346_60 : (pT M_346).find? (fun e => e.1 == 60) = some (60, .iload 6, 0, 0) := rfl
theorem te_346_62 : (pT M_346).find? (fun e => e.1 == 62) = some (62, .iaload, 0, 0) := rfl
theorem te_346_63 : (pT M_346).find? (fun e => e.1 == 63) = some (63, .iaload, 0, 0) := rfl
theorem te_346_64 : (pT M_346).find? (fun e => e.1 == 64) = some (64, .ishl, 0, 0) := rfl
theorem te_346_65 : (pT M_346).find? (fun e => e.1 == 65) = some (65, .ior, 0, 0) := rfl
theorem te_346_66 : (pT M_346).find? (fun e => e.1 == 66) = some (66, .istore 5, 0, 0) := rfl
theorem te_346_68 : (pT M_346).find? (fun e => e.1 == 68) = some (68, .iinc 6 1, 0, 0) := rfl
theorem te_346_71 : (pT M_346).find? (fun e => e.1 == 71) = some (71, .goto (-60), 0, 0) := rfl
theorem te_346_74 : (pT M_346).find? (fun e => e.1 == 74) = some (74, .aload_n 0, 0, 0) := rfl
theorem te_346_75 : (pT M_346).find? (fun e => e.1 == 75) = some (75, .iload_n 3, 0, 0) := rfl
theorem te_346_76 : (pT M_346).find? (fun e => e.1 == 76) = some (76, .iload 4, 0, 0) := rfl
theorem te_346_78 : (pT M_346).find? (fun e => e.1 == 78) = some (78, .iload 5, 0, 0) := rfl
theorem te_346_80 : (pT M_346).find? (fun e => e.1 == 80) = some (80, .invokevirtual 390, 347, 0) := rfl
theorem te_346_83 : (pT M_346).find? (fun e => e.1 == 83) = some (83, .return_, 0, 0) := rfl
theorem te_347_0 : (pT M_347).find? (fun e => e.1 == 0) = some (0, .iload_n 1, 0, 0) := rfl
theorem te_347_1 : (pT M_347).find? (fun e => e.1 == 1) = some (1, .aload_n 0, 0, 0) := rfl
theorem te_347_2 : (pT M_347).find? (fun e => e.1 == 2) = some (2, .getfield 378, 10, 32) := rfl
theorem te_347_5 : (pT M_347).find? (fun e => e.1 == 5) = some (5, .imul, 0, 0) := rfl
theorem te_347_6 : (pT M_347).find? (fun e => e.1 == 6) = some (6, .aload_n 0, 0, 0) := rfl
theorem te_347_7 : (pT M_347).find? (fun e => e.1 == 7) = some (7, .getfield 381, 10, 31) := rfl
theorem te_347_10 : (pT M_347).find? (fun e => e.1 == 10) = some (10, .iload_n 2, 0, 0) := rfl
theorem te_347_11 : (pT M_347).find? (fun e => e.1 == 11) = some (11, .imul, 0, 0) := rfl
theorem te_347_12 : (pT M_347).find? (fun e => e.1 == 12) = some (12, .isub, 0, 0) := rfl
theorem te_347_13 : (pT M_347).find? (fun e => e.1 == 13) = some (13, .istore 4, 0, 0) := rfl
theorem te_347_15 : (pT M_347).find? (fun e => e.1 == 15) = some (15, .iload_n 1, 0, 0) := rfl
theorem te_347_16 : (pT M_347).find? (fun e => e.1 == 16) = some (16, .ifCond .le 8, 0, 0) := rfl
theorem te_347_19 : (pT M_347).find? (fun e => e.1 == 19) = some (19, .iload 4, 0, 0) := rfl
theorem te_347_21 : (pT M_347).find? (fun e => e.1 == 21) = some (21, .ifCond .ge 4, 0, 0) := rfl
theorem te_347_24 : (pT M_347).find? (fun e => e.1 == 24) = some (24, .return_, 0, 0) := rfl
theorem te_347_25 : (pT M_347).find? (fun e => e.1 == 25) = some (25, .iload 4, 0, 0) := rfl
theorem te_347_27 : (pT M_347).find? (fun e => e.1 == 27) = some (27, .ifCond .le 11, 0, 0) := rfl
theorem te_347_30 : (pT M_347).find? (fun e => e.1 == 30) = some (30, .aload_n 0, 0, 0) := rfl
theorem te_347_31 : (pT M_347).find? (fun e => e.1 == 31) = some (31, .iload_n 3, 0, 0) := rfl
theorem te_347_32 : (pT M_347).find? (fun e => e.1 == 32) = some (32, .putfield 384, 10, 33) := rfl
theorem te_347_35 : (pT M_347).find? (fun e => e.1 == 35) = some (35, .goto 26, 0, 0) := rfl
theorem te_347_38 : (pT M_347).find? (fun e => e.1 == 38) = some (38, .aload_n 0, 0, 0) := rfl
theorem te_347_39 : (pT M_347).find? (fun e => e.1 == 39) = some (39, .aload_n 0, 0, 0) := rfl
theorem te_347_40 : (pT M_347).find? (fun e => e.1 == 40) = some (40, .getfield 384, 10, 33) := rfl
theorem te_347_43 : (pT M_347).find? (fun e => e.1 == 43) = some (43, .ifCond .ne 7, 0, 0) := rfl
theorem te_347_46 : (pT M_347).find? (fun e => e.1 == 46) = some (46, .iload_n 3, 0, 0) := rfl
theorem te_347_47 : (pT M_347).find? (fun e => e.1 == 47) = some (47, .goto 11, 0, 0) := rfl
theorem te_347_50 : (pT M_347).find? (fun e => e.1 == 50) = some (50, .aload_n 0, 0, 0) := rfl
theorem te_347_51 : (pT M_347).find? (fun e => e.1 == 51) = some (51, .getfield 384, 10, 33) := rfl
theorem te_347_54 : (pT M_347).find? (fun e => e.1 == 54) = some (54, .iload_n 3, 0, 0) := rfl
theorem te_347_55 : (pT M_347).find? (fun e => e.1 == 55) = some (55, .invokestatic 170, 258, 2) := rfl
theorem te_347_58 : (pT M_347).find? (fun e => e.1 == 58) = some (58, .putfield 384, 10, 33) := rfl
theorem te_347_61 : (pT M_347).find? (fun e => e.1 == 61) = some (61, .iload_n 1, 0, 0) := rfl
theorem te_347_62 : (pT M_347).find? (fun e => e.1 == 62) = some (62, .istore 5, 0, 0) := rfl
theorem te_347_64 : (pT M_347).find? (fun e => e.1 == 64) = some (64, .iload_n 2, 0, 0) := rfl
theorem te_347_65 : (pT M_347).find? (fun e => e.1 == 65) = some (65, .istore 6, 0, 0) := rfl
theorem te_347_67 : (pT M_347).find? (fun e => e.1 == 67) = some (67, .iload 6, 0, 0) := rfl
theorem te_347_69 : (pT M_347).find? (fun e => e.1 == 69) = some (69, .ifCond .eq 21, 0, 0) := rfl
theorem te_347_72 : (pT M_347).find? (fun e => e.1 == 72) = some (72, .iload 5, 0, 0) := rfl
theorem te_347_74 : (pT M_347).find? (fun e => e.1 == 74) = some (74, .iload 6, 0, 0) := rfl
theorem te_347_76 : (pT M_347).find? (fun e => e.1 == 76) = some (76, .irem, 0, 0) := rfl
theorem te_347_77 : (pT M_347).find? (fun e => e.1 == 77) = some (77, .istore 7, 0, 0) := rfl
theorem te_347_79 : (pT M_347).find? (fun e => e.1 == 79) = some (79, .iload 6, 0, 0) := rfl
theorem te_347_81 : (pT M_347).find? (fun e => e.1 == 81) = some (81, .istore 5, 0, 0) := rfl
theorem te_347_83 : (pT M_347).find? (fun e => e.1 == 83) = some (83, .iload 7, 0, 0) := rfl
theorem te_347_85 : (pT M_347).find? (fun e => e.1 == 85) = some (85, .istore 6, 0, 0) := rfl
theorem te_347_87 : (pT M_347).find? (fun e => e.1 == 87) = some (87, .goto (-20), 0, 0) := rfl
theorem te_347_90 : (pT M_347).find? (fun e => e.1 == 90) = some (90, .aload_n 0, 0, 0) := rfl
theorem te_347_91 : (pT M_347).find? (fun e => e.1 == 91) = some (91, .iload_n 1, 0, 0) := rfl
theorem te_347_92 : (pT M_347).find? (fun e => e.1 == 92) = some (92, .iload 5, 0, 0) := rfl
theorem te_347_94 : (pT M_347).find? (fun e => e.1 == 94) = some (94, .idiv, 0, 0) := rfl
theorem te_347_95 : (pT M_347).find? (fun e => e.1 == 95) = some (95, .putfield 381, 10, 31) := rfl
theorem te_347_98 : (pT M_347).find? (fun e => e.1 == 98) = some (98, .aload_n 0, 0, 0) := rfl
theorem te_347_99 : (pT M_347).find? (fun e => e.1 == 99) = some (99, .iload_n 2, 0, 0) := rfl
theorem te_347_100 : (pT M_347).find? (fun e => e.1 == 100) = some (100, .iload 5, 0, 0) := rfl
theorem te_347_102 : (pT M_347).find? (fun e => e.1 == 102) = some (102, .idiv, 0, 0) := rfl
theorem te_347_103 : (pT M_347).find? (fun e => e.1 == 103) = some (103, .putfield 378, 10, 32) := rfl
theorem te_347_106 : (pT M_347).find? (fun e => e.1 == 106) = some (106, .return_, 0, 0) := rfl
theorem w_347_0 {C : CXW} (hC : Cmono C) {S : Nat × (Nat → Int32)} {K : WK} {mem : MM} {x1 x2 x3 : Int} (H : ∀ v1 : Int, v1 = mem 143 32 → InI v1 → (InI (x1 * v1)) ∧ ∀ v2 : Int, v2 = mem 143 31 → InI v2 → (InI (v2 * x2)) ∧ (InI ((x1 * v1) - (v2 * x2))) ∧ ((x1 ≤ 0 → (K none mem)) ∧ (¬ (x1 ≤ 0) → ((0 ≤ ((x1 * v1) - (v2 * x2)) → ((((x1 * v1) - (v2 * x2)) ≤ 0 → ∀ v3 : Int, v3 = mem 143 33 → InI v3 → ((¬ v3 = 0 → ∀ v4 : Int, v4 = mem 143 33 → InI v4 → (CWI C 258 [.inl v4, .inl x3] mem fun r6 m5 => InI r6 → (Wx C S M_347 K 67 [some (.inr 143), some (.inl x1), some (.inl x2), some (.inl x3), some (.inl ((x1 * v1) - (v2 * x2))), some (.inl x1), some (.inl x2), none] [] (upm m5 143 33 r6)))) ∧ (¬ (¬ v3 = 0) → (Wx C S M_347 K 67 [some (.inr 143), some (.inl x1), some (.inl x2), some (.inl x3), some (.inl ((x1 * v1) - (v2 * x2))), some (.inl x1), some (.inl x2), none] [] (upm mem 143 33 x3))))) ∧ (¬ (((x1 * v1) - (v2 * x2)) ≤ 0) → (Wx C S M_347 K 67 [some (.inr 143), some (.inl x1), some (.inl x2), some (.inl x3), some (.inl ((x1 * v1) - (v2 * x2))), some (.inl x1), some (.inl x2), none] [] (upm mem 143 33 x3))))) ∧ (¬ (0 ≤ ((x1 * v1) - (v2 * x2))) → (K none mem)))))) : Wx C S M_347 K 0 [some (.inr 143), some (.inl x1), some (.inl x2), some (.inl x3), none, none, none, none] [] mem := by
  refine Wx.iload_n hC te_347_0 rfl ?_
  refine Wx.aload_n hC te_347_1 rfl ?_
  refine Wx.getI hC te_347_2 rfl rfl rfl (fun v1 e1 e2 => ?_)
  replace H := H v1 e1 e2
  refine Wx.imul hC te_347_5 H.1 ?_
  replace H := H.2
  refine Wx.aload_n hC te_347_6 rfl ?_
  refine Wx.getI hC te_347_7 rfl rfl rfl (fun v2 e1 e2 => ?_)
  replace H := H v2 e1 e2
  refine Wx.iload_n hC te_347_10 rfl ?_
  refine Wx.imul hC te_347_11 H.1 ?_
  replace H := H.2
  refine Wx.isub hC te_347_12 H.1 ?_
  replace H := H.2
  refine Wx.istore hC te_347_13 rfl ?_
  refine Wx.iload_n hC te_347_15 rfl ?_
  refine Wx.ifc hC (t := 24) te_347_16 (by decide) (fun q => ?_) (fun q => ?_)
  · replace H := H.1 q
    exact Wx.vret hC te_347_24 rfl H
  · replace H := H.2 q
    refine Wx.iload hC te_347_19 rfl ?_
    refine Wx.ifc hC (t := 25) te_347_21 (by decide) (fun q => ?_) (fun q => ?_)
    · replace H := H.1 q
      refine Wx.iload hC te_347_25 rfl ?_
      refine Wx.ifc hC (t := 38) te_347_27 (by decide) (fun q => ?_) (fun q => ?_)
      · replace H := H.1 q
        refine Wx.aload_n hC te_347_38 rfl ?_
        refine Wx.aload_n hC te_347_39 rfl ?_
        refine Wx.getI hC te_347_40 rfl rfl rfl (fun v3 e1 e2 => ?_)
        replace H := H v3 e1 e2
        refine Wx.ifc hC (t := 50) te_347_43 (by decide) (fun q => ?_) (fun q => ?_)
        · replace H := H.1 q
          refine Wx.aload_n hC te_347_50 rfl ?_
          refine Wx.getI hC te_347_51 rfl rfl rfl (fun v4 e1 e2 => ?_)
          replace H := H v4 e1 e2
          refine Wx.iload_n hC te_347_54 rfl ?_
          refine Wx.statI hC te_347_55 (by decide) mt_258 (args := [.inl v4, .inl x3]) (rest := [.inr 143]) rfl rfl rfl rfl rfl ?_
          refine CWI.mono hC (fun r6 m5 H hy => ?_) H
          replace H := H hy
          refine Wx.putI hC te_347_58 rfl rfl rfl rfl ?_
          refine Wx.iload_n hC te_347_61 rfl ?_
          refine Wx.istore hC te_347_62 rfl ?_
          refine Wx.iload_n hC te_347_64 rfl ?_
          refine Wx.istore hC te_347_65 rfl ?_
          exact H
        · replace H := H.2 q
          refine Wx.iload_n hC te_347_46 rfl ?_
          refine Wx.goto hC (t := 58) te_347_47 (by decide) ?_
          refine Wx.putI hC te_347_58 rfl rfl rfl rfl ?_
          refine Wx.iload_n hC te_347_61 rfl ?_
          refine Wx.istore hC te_347_62 rfl ?_
          refine Wx.iload_n hC te_347_64 rfl ?_
          refine Wx.istore hC te_347_65 rfl ?_
          exact H
      · replace H := H.2 q
        refine Wx.aload_n hC te_347_30 rfl ?_
        refine Wx.iload_n hC te_347_31 rfl ?_
        refine Wx.putI hC te_347_32 rfl rfl rfl rfl ?_
        refine Wx.goto hC (t := 61) te_347_35 (by decide) ?_
        refine Wx.iload_n hC te_347_61 rfl ?_
        refine Wx.istore hC te_347_62 rfl ?_
        refine Wx.iload_n hC te_347_64 rfl ?_
        refine Wx.istore hC te_347_65 rfl ?_
        exact H
    · replace H := H.2 q
      exact Wx.vret hC te_347_24 rfl H
theorem w_347_67 {C : CXW} (hC : Cmono C) {S : Nat × (Nat → Int32)} {K : WK} {mem : MM} {x1 x2 x3 x4 x5 x6 : Int} (H : ((x6 = 0 → (0 < x5) ∧ (0 < x5) ∧ (K none (upm (upm mem 143 31 ((x1 : Int).tdiv x5)) 143 32 ((x2 : Int).tdiv x5)))) ∧ (¬ (x6 = 0) → (0 < x6) ∧ (Wx C S M_347 K 67 [some (.inr 143), some (.inl x1), some (.inl x2), some (.inl x3), some (.inl x4), some (.inl x6), some (.inl ((x5 : Int).tmod x6)), none] [] mem)))) : Wx C S M_347 K 67 [some (.inr 143), some (.inl x1), some (.inl x2), some (.inl x3), some (.inl x4), some (.inl x5), some (.inl x6), none] [] mem := by
  refine Wx.iload hC te_347_67 rfl ?_
  refine Wx.ifc hC (t := 90) te_347_69 (by decide) (fun q => ?_) (fun q => ?_)
  · replace H := H.1 q
    refine Wx.aload_n hC te_347_90 rfl ?_
    refine Wx.iload_n hC te_347_91 rfl ?_
    refine Wx.iload hC te_347_92 rfl ?_
    refine Wx.idiv hC te_347_94 H.1 ?_
    replace H := H.2
    refine Wx.putI hC te_347_95 rfl rfl rfl rfl ?_
    refine Wx.aload_n hC te_347_98 rfl ?_
    refine Wx.iload_n hC te_347_99 rfl ?_
    refine Wx.iload hC te_347_100 rfl ?_
    refine Wx.idiv hC te_347_102 H.1 ?_
    replace H := H.2
    refine Wx.putI hC te_347_103 rfl rfl rfl rfl ?_
    exact Wx.vret hC te_347_106 rfl H
  · replace H := H.2 q
    refine Wx.iload hC te_347_72 rfl ?_
    refine Wx.iload hC te_347_74 rfl ?_
    refine Wx.irem hC te_347_76 H.1 ?_
    replace H := H.2
    refine Wx.istore hC te_347_77 rfl ?_
    refine Wx.iload hC te_347_79 rfl ?_
    refine Wx.istore hC te_347_81 rfl ?_
    refine Wx.iload hC te_347_83 rfl ?_
    refine Wx.istore hC te_347_85 rfl ?_
    refine Wx.goto hC (t := 67) te_347_87 (by decide) ?_
    exact Wx.weak (by repeat' (first | exact trivial | exact rfl | constructor)) H
theorem w_346_0 {C : CXW} (hC : Cmono C) {S : Nat × (Nat → Int32)} {K : WK} {mem : MM} {x1 x2 : Int} (H : (Wx C S M_346 K 11 [some (.inr 143), some (.inl x1), some (.inl x2), some (.inl 0), some (.inl 0), some (.inl 0), some (.inl 0)] [] mem)) : Wx C S M_346 K 0 [some (.inr 143), some (.inl x1), some (.inl x2), none, none, none, none] [] mem := by
  refine Wx.iconst hC te_346_0 rfl ?_
  refine Wx.istore_n hC te_346_1 rfl ?_
  refine Wx.iconst hC te_346_2 rfl ?_
  refine Wx.istore hC te_346_3 rfl ?_
  refine Wx.iconst hC te_346_5 rfl ?_
  refine Wx.istore hC te_346_6 rfl ?_
  refine Wx.iconst hC te_346_8 rfl ?_
  refine Wx.istore hC te_346_9 rfl ?_
  exact H
theorem w_346_11 {C : CXW} (hC : Cmono C) {S : Nat × (Nat → Int32)} {K : WK} {mem : MM} {x1 x2 x3 x4 x5 x6 : Int} (H : ((x1 < x6 → (CWV C 347 [.inr 143, .inl x3, .inl x4, .inl x5] mem fun m1 => (K none m1))) ∧ (¬ (x1 < x6) → ((0 : Int) ≤ x6 ∧ (x6 : Int) < 9) ∧ ∀ v2 : Int, v2 = mem 170 (Int.toNat x6) → InI v2 → ((0 : Int) ≤ v2 ∧ (v2 : Int) < 48) ∧ ∀ v3 : Int, v3 = mem 157 (Int.toNat v2) → InI v3 → (InI (x3 + v3)) ∧ ((0 : Int) ≤ x6 ∧ (x6 : Int) < 9) ∧ ∀ v4 : Int, v4 = mem 170 (Int.toNat x6) → InI v4 → ((0 : Int) ≤ v4 ∧ (v4 : Int) < 48) ∧ ∀ v5 : Int, v5 = mem 156 (Int.toNat v4) → InI v5 → (InI (x4 + v5)) ∧ ((0 : Int) ≤ x6 ∧ (x6 : Int) < 9) ∧ ∀ v6 : Int, v6 = mem 170 (Int.toNat x6) → InI v6 → ((0 : Int) ≤ v6 ∧ (v6 : Int) < 48) ∧ ∀ v7 : Int, v7 = mem 155 (Int.toNat v6) → InI v7 → ∀ b8 : Int, b8 = ((fun (x y : Int32) => x <<< (y &&& 31)) (Int32.ofInt 1) (Int32.ofInt v7)).toInt → InI b8 → ∀ b9 : Int, b9 = ((fun (x y : Int32) => x ||| y) (Int32.ofInt x5) (Int32.ofInt b8)).toInt → InI b9 → (InI (x6 + 1)) ∧ (Wx C S M_346 K 11 [some (.inr 143), some (.inl x1), some (.inl x2), some (.inl (x3 + v3)), some (.inl (x4 + v5)), some (.inl b9), some (.inl (x6 + 1))] [] mem)))) : Wx C S M_346 K 11 [some (.inr 143), some (.inl x1), some (.inl x2), some (.inl x3), some (.inl x4), some (.inl x5), some (.inl x6)] [] mem := by
  refine Wx.iload hC te_346_11 rfl ?_
  refine Wx.iload_n hC te_346_13 rfl ?_
  refine Wx.icmp hC (t := 74) te_346_14 (by decide) (fun q => ?_) (fun q => ?_)
  · replace H := H.1 q
    refine Wx.aload_n hC te_346_74 rfl ?_
    refine Wx.iload_n hC te_346_75 rfl ?_
    refine Wx.iload hC te_346_76 rfl ?_
    refine Wx.iload hC te_346_78 rfl ?_
    refine Wx.virtV hC te_346_80 mt_347 (args := [.inr 143, .inl x3, .inl x4, .inl x5]) (rest := []) rfl rfl rfl rfl rfl rfl rfl rfl ?_
    refine CWV.mono hC (fun m1 H => ?_) H
    exact Wx.vret hC te_346_83 rfl H
  · replace H := H.2 q
    refine Wx.iload_n hC te_346_17 rfl ?_
    refine Wx.aload_n hC te_346_18 rfl ?_
    refine Wx.getR hC te_346_19 rfl rfl rfl ?_
    refine Wx.aload_n hC te_346_22 rfl ?_
    refine Wx.getR hC te_346_23 rfl rfl rfl ?_
    refine Wx.iload hC te_346_26 rfl ?_
    refine Wx.iald hC te_346_28 rfl H.1 (fun v2 e1 e2 => ?_)
    replace H := H.2 v2 e1 e2
    refine Wx.iald hC te_346_29 rfl H.1 (fun v3 e1 e2 => ?_)
    replace H := H.2 v3 e1 e2
    refine Wx.iadd hC te_346_30 H.1 ?_
    replace H := H.2
    refine Wx.istore_n hC te_346_31 rfl ?_
    refine Wx.iload hC te_346_32 rfl ?_
    refine Wx.aload_n hC te_346_34 rfl ?_
    refine Wx.getR hC te_346_35 rfl rfl rfl ?_
    refine Wx.aload_n hC te_346_38 rfl ?_
    refine Wx.getR hC te_346_39 rfl rfl rfl ?_
    refine Wx.iload hC te_346_42 rfl ?_
    refine Wx.iald hC te_346_44 rfl H.1 (fun v4 e1 e2 => ?_)
    replace H := H.2 v4 e1 e2
    refine Wx.iald hC te_346_45 rfl H.1 (fun v5 e1 e2 => ?_)
    replace H := H.2 v5 e1 e2
    refine Wx.iadd hC te_346_46 H.1 ?_
    replace H := H.2
    refine Wx.istore hC te_346_47 rfl ?_
    refine Wx.iload hC te_346_49 rfl ?_
    refine Wx.iconst hC te_346_51 rfl ?_
    refine Wx.aload_n hC te_346_52 rfl ?_
    refine Wx.getR hC te_346_53 rfl rfl rfl ?_
    refine Wx.aload_n hC te_346_56 rfl ?_
    refine Wx.getR hC te_346_57 rfl rfl rfl ?_
    refine Wx.iload hC te_346_60 rfl ?_
    refine Wx.iald hC te_346_62 rfl H.1 (fun v6 e1 e2 => ?_)
    replace H := H.2 v6 e1 e2
    refine Wx.iald hC te_346_63 rfl H.1 (fun v7 e1 e2 => ?_)
    replace H := H.2 v7 e1 e2
    refine Wx.bits hC (f := (fun (x y : Int32) => x <<< (y &&& 31))) te_346_64 (fun _ _ _ _ => Iff.rfl) (fun b8 e1 e2 => ?_)
    replace H := H b8 e1 e2
    refine Wx.bits hC (f := (fun (x y : Int32) => x ||| y)) te_346_65 (fun _ _ _ _ => Iff.rfl) (fun b9 e1 e2 => ?_)
    replace H := H b9 e1 e2
    refine Wx.istore hC te_346_66 rfl ?_
    refine Wx.iinc hC te_346_68 rfl rfl H.1 ?_
    replace H := H.2
    refine Wx.goto hC (t := 11) te_346_71 (by decide) ?_
    exact H
theorem w_345_0 {C : CXW} (hC : Cmono C) {S : Nat × (Nat → Int32)} {K : WK} {mem : MM} {x1 : Int} (H : ((0 : Int) ≤ 0 ∧ (0 : Int) < 9) ∧ (Wx C S M_345 K 9 [some (.inr 143), some (.inl x1), some (.inl 0), none, none, none, none] [] (upm mem 170 (Int.toNat 0) (-1)))) : Wx C S M_345 K 0 [some (.inr 143), some (.inl x1), none, none, none, none, none] [] mem := by
  refine Wx.iconst hC te_345_0 rfl ?_
  refine Wx.istore_n hC te_345_1 rfl ?_
  refine Wx.aload_n hC te_345_2 rfl ?_
  refine Wx.getR hC te_345_3 rfl rfl rfl ?_
  refine Wx.iconst hC te_345_6 rfl ?_
  refine Wx.iconst hC te_345_7 rfl ?_
  refine Wx.iast hC te_345_8 rfl H.1 ?_
  replace H := H.2
  exact H
theorem w_345_9 {C : CXW} (hC : Cmono C) {S : Nat × (Nat → Int32)} {K : WK} {mem : MM} {x1 x2 : Int} (H : ((x2 < 0 → (K none mem)) ∧ (¬ (x2 < 0) → ((0 : Int) ≤ x2 ∧ (x2 : Int) < 9) ∧ ∀ v1 : Int, v1 = mem 170 (Int.toNat x2) → InI v1 → (InI (v1 + 1)) ∧ ((0 : Int) ≤ x2 ∧ (x2 : Int) < 9) ∧ ((¬ x2 = 0 → ∀ v2 : Int, v2 = (upm mem 170 (Int.toNat x2) (v1 + 1)) 143 12 → InI v2 → (InI (v2 - 1)) ∧ (InI (x2 - 1)) ∧ ((0 : Int) ≤ (x2 - 1) ∧ ((x2 - 1) : Int) < 9) ∧ ∀ v3 : Int, v3 = (upm mem 170 (Int.toNat x2) (v1 + 1)) 170 (Int.toNat (x2 - 1)) → InI v3 → (CWI C 257 [.inl 0, .inl v3] (upm mem 170 (Int.toNat x2) (v1 + 1)) fun r5 m4 => InI r5 → (CWI C 258 [.inl (v2 - 1), .inl r5] m4 fun r7 m6 => InI r7 → ((0 : Int) ≤ r7 ∧ (r7 : Int) < 48) ∧ ∀ v8 : Int, v8 = m6 155 (Int.toNat r7) → InI v8 → ((0 : Int) ≤ x2 ∧ (x2 : Int) < 9) ∧ ∀ v9 : Int, v9 = m6 170 (Int.toNat x2) → InI v9 → ∀ v10 : Int, v10 = m6 143 12 → InI v10 → ((v9 < v10 → ((0 : Int) ≤ x2 ∧ (x2 : Int) < 9) ∧ ∀ v11 : Int, v11 = m6 170 (Int.toNat x2) → InI v11 → ((0 : Int) ≤ v11 ∧ (v11 : Int) < 48) ∧ ∀ v12 : Int, v12 = m6 154 (Int.toNat v11) → InI v12 → ((¬ v12 = v8 → (Wx C S M_345 K 9 [some (.inr 143), some (.inl x1), some (.inl x2), none, none, none, none] [] m6)) ∧ (¬ (¬ v12 = v8) → ((0 : Int) ≤ v11 ∧ (v11 : Int) < 48) ∧ ∀ v13 : Int, v13 = m6 155 (Int.toNat v11) → InI v13 → ((x1 ≤ v13 → ((0 : Int) ≤ v11 ∧ (v11 : Int) < 48) ∧ ∀ v14 : Int, v14 = m6 155 (Int.toNat v11) → InI v14 → ((¬ v14 = x1 → (Wx C S M_345 K 136 [some (.inr 143), some (.inl x1), some (.inl x2), some (.inl v8), some (.inl v11), some (.inl 0), some (.inl 0)] [] m6)) ∧ (¬ (¬ v14 = x1) → (CWV C 346 [.inr 143, .inl x2, .inl x1] m6 fun m15 => (Wx C S M_345 K 9 [some (.inr 143), some (.inl x1), some (.inl x2), none, none, none, none] [] m15))))) ∧ (¬ (x1 ≤ v13) → (Wx C S M_345 K 9 [some (.inr 143), some (.inl x1), some (.inl x2), none, none, none, none] [] m6)))))) ∧ (¬ (v9 < v10) → (InI (x2 + (-1))) ∧ (Wx C S M_345 K 9 [some (.inr 143), some (.inl x1), some (.inl (x2 + (-1))), none, none, none, none] [] m6)))))) ∧ (¬ (¬ x2 = 0) → ((0 : Int) ≤ x2 ∧ (x2 : Int) < 9) ∧ ∀ v16 : Int, v16 = (upm mem 170 (Int.toNat x2) (v1 + 1)) 170 (Int.toNat x2) → InI v16 → ∀ v17 : Int, v17 = (upm mem 170 (Int.toNat x2) (v1 + 1)) 143 12 → InI v17 → ((v16 < v17 → ((0 : Int) ≤ x2 ∧ (x2 : Int) < 9) ∧ ∀ v18 : Int, v18 = (upm mem 170 (Int.toNat x2) (v1 + 1)) 170 (Int.toNat x2) → InI v18 → ((0 : Int) ≤ v18 ∧ (v18 : Int) < 48) ∧ ∀ v19 : Int, v19 = (upm mem 170 (Int.toNat x2) (v1 + 1)) 154 (Int.toNat v18) → InI v19 → ((¬ v19 = x1 → (Wx C S M_345 K 9 [some (.inr 143), some (.inl x1), some (.inl x2), none, none, none, none] [] (upm mem 170 (Int.toNat x2) (v1 + 1)))) ∧ (¬ (¬ v19 = x1) → ((0 : Int) ≤ v18 ∧ (v18 : Int) < 48) ∧ ∀ v20 : Int, v20 = (upm mem 170 (Int.toNat x2) (v1 + 1)) 155 (Int.toNat v18) → InI v20 → ((x1 ≤ v20 → ((0 : Int) ≤ v18 ∧ (v18 : Int) < 48) ∧ ∀ v21 : Int, v21 = (upm mem 170 (Int.toNat x2) (v1 + 1)) 155 (Int.toNat v18) → InI v21 → ((¬ v21 = x1 → (Wx C S M_345 K 136 [some (.inr 143), some (.inl x1), some (.inl x2), some (.inl x1), some (.inl v18), some (.inl 0), some (.inl 0)] [] (upm mem 170 (Int.toNat x2) (v1 + 1)))) ∧ (¬ (¬ v21 = x1) → (CWV C 346 [.inr 143, .inl x2, .inl x1] (upm mem 170 (Int.toNat x2) (v1 + 1)) fun m22 => (Wx C S M_345 K 9 [some (.inr 143), some (.inl x1), some (.inl x2), none, none, none, none] [] m22))))) ∧ (¬ (x1 ≤ v20) → (Wx C S M_345 K 9 [some (.inr 143), some (.inl x1), some (.inl x2), none, none, none, none] [] (upm mem 170 (Int.toNat x2) (v1 + 1)))))))) ∧ (¬ (v16 < v17) → (InI (x2 + (-1))) ∧ (Wx C S M_345 K 9 [some (.inr 143), some (.inl x1), some (.inl (x2 + (-1))), none, none, none, none] [] (upm mem 170 (Int.toNat x2) (v1 + 1)))))))))) : Wx C S M_345 K 9 [some (.inr 143), some (.inl x1), some (.inl x2), none, none, none, none] [] mem := by
  refine Wx.iload_n hC te_345_9 rfl ?_
  refine Wx.ifc hC (t := 203) te_345_10 (by decide) (fun q => ?_) (fun q => ?_)
  · replace H := H.1 q
    exact Wx.vret hC te_345_203 rfl H
  · replace H := H.2 q
    refine Wx.aload_n hC te_345_13 rfl ?_
    refine Wx.getR hC te_345_14 rfl rfl rfl ?_
    refine Wx.iload_n hC te_345_17 rfl ?_
    refine Wx.dup2 hC te_345_18 ?_
    refine Wx.iald hC te_345_19 rfl H.1 (fun v1 e1 e2 => ?_)
    replace H := H.2 v1 e1 e2
    refine Wx.iconst hC te_345_20 rfl ?_
    refine Wx.iadd hC te_345_21 H.1 ?_
    replace H := H.2
    refine Wx.iast hC te_345_22 rfl H.1 ?_
    replace H := H.2
    refine Wx.iload_n hC te_345_23 rfl ?_
    refine Wx.ifc hC (t := 31) te_345_24 (by decide) (fun q => ?_) (fun q => ?_)
    · replace H := H.1 q
      refine Wx.aload_n hC te_345_31 rfl ?_
      refine Wx.getR hC te_345_32 rfl rfl rfl ?_
      refine Wx.aload_n hC te_345_35 rfl ?_
      refine Wx.getI hC te_345_36 rfl rfl rfl (fun v2 e1 e2 => ?_)
      replace H := H v2 e1 e2
      refine Wx.iconst hC te_345_39 rfl ?_
      refine Wx.isub hC te_345_40 H.1 ?_
      replace H := H.2
      refine Wx.iconst hC te_345_41 rfl ?_
      refine Wx.aload_n hC te_345_42 rfl ?_
      refine Wx.getR hC te_345_43 rfl rfl rfl ?_
      refine Wx.iload_n hC te_345_46 rfl ?_
      refine Wx.iconst hC te_345_47 rfl ?_
      refine Wx.isub hC te_345_48 H.1 ?_
      replace H := H.2
      refine Wx.iald hC te_345_49 rfl H.1 (fun v3 e1 e2 => ?_)
      replace H := H.2 v3 e1 e2
      refine Wx.statI hC te_345_50 (by decide) mt_257 (args := [.inl 0, .inl v3]) (rest := [.inl (v2 - 1), .inr 155]) rfl rfl rfl rfl rfl ?_
      refine CWI.mono hC (fun r5 m4 H hy => ?_) H
      replace H := H hy
      refine Wx.statI hC te_345_53 (by decide) mt_258 (args := [.inl (v2 - 1), .inl r5]) (rest := [.inr 155]) rfl rfl rfl rfl rfl ?_
      refine CWI.mono hC (fun r7 m6 H hy => ?_) H
      replace H := H hy
      refine Wx.iald hC te_345_56 rfl H.1 (fun v8 e1 e2 => ?_)
      replace H := H.2 v8 e1 e2
      refine Wx.istore_n hC te_345_57 rfl ?_
      refine Wx.aload_n hC te_345_58 rfl ?_
      refine Wx.getR hC te_345_59 rfl rfl rfl ?_
      refine Wx.iload_n hC te_345_62 rfl ?_
      refine Wx.iald hC te_345_63 rfl H.1 (fun v9 e1 e2 => ?_)
      replace H := H.2 v9 e1 e2
      refine Wx.aload_n hC te_345_64 rfl ?_
      refine Wx.getI hC te_345_65 rfl rfl rfl (fun v10 e1 e2 => ?_)
      replace H := H v10 e1 e2
      refine Wx.icmp hC (t := 77) te_345_68 (by decide) (fun q => ?_) (fun q => ?_)
      · replace H := H.1 q
        refine Wx.aload_n hC te_345_77 rfl ?_
        refine Wx.getR hC te_345_78 rfl rfl rfl ?_
        refine Wx.iload_n hC te_345_81 rfl ?_
        refine Wx.iald hC te_345_82 rfl H.1 (fun v11 e1 e2 => ?_)
        replace H := H.2 v11 e1 e2
        refine Wx.istore hC te_345_83 rfl ?_
        refine Wx.aload_n hC te_345_85 rfl ?_
        refine Wx.getR hC te_345_86 rfl rfl rfl ?_
        refine Wx.iload hC te_345_89 rfl ?_
        refine Wx.iald hC te_345_91 rfl H.1 (fun v12 e1 e2 => ?_)
        replace H := H.2 v12 e1 e2
        refine Wx.iload_n hC te_345_92 rfl ?_
        refine Wx.icmp hC (t := 9) te_345_93 (by decide) (fun q => ?_) (fun q => ?_)
        · replace H := H.1 q
          exact Wx.weak (by repeat' (first | exact trivial | exact rfl | constructor)) H
        · replace H := H.2 q
          refine Wx.aload_n hC te_345_96 rfl ?_
          refine Wx.getR hC te_345_97 rfl rfl rfl ?_
          refine Wx.iload hC te_345_100 rfl ?_
          refine Wx.iald hC te_345_102 rfl H.1 (fun v13 e1 e2 => ?_)
          replace H := H.2 v13 e1 e2
          refine Wx.iload_n hC te_345_103 rfl ?_
          refine Wx.icmp hC (t := 110) te_345_104 (by decide) (fun q => ?_) (fun q => ?_)
          · replace H := H.1 q
            refine Wx.aload_n hC te_345_110 rfl ?_
            refine Wx.getR hC te_345_111 rfl rfl rfl ?_
            refine Wx.iload hC te_345_114 rfl ?_
            refine Wx.iald hC te_345_116 rfl H.1 (fun v14 e1 e2 => ?_)
            replace H := H.2 v14 e1 e2
            refine Wx.iload_n hC te_345_117 rfl ?_
            refine Wx.icmp hC (t := 130) te_345_118 (by decide) (fun q => ?_) (fun q => ?_)
            · replace H := H.1 q
              refine Wx.iconst hC te_345_130 rfl ?_
              refine Wx.istore hC te_345_131 rfl ?_
              refine Wx.iconst hC te_345_133 rfl ?_
              refine Wx.istore hC te_345_134 rfl ?_
              exact H
            · replace H := H.2 q
              refine Wx.aload_n hC te_345_121 rfl ?_
              refine Wx.iload_n hC te_345_122 rfl ?_
              refine Wx.iload_n hC te_345_123 rfl ?_
              refine Wx.virtV hC te_345_124 mt_346 (args := [.inr 143, .inl x2, .inl x1]) (rest := []) rfl rfl rfl rfl rfl rfl rfl rfl ?_
              refine CWV.mono hC (fun m15 H => ?_) H
              refine Wx.goto hC (t := 9) te_345_127 (by decide) ?_
              exact Wx.weak (by repeat' (first | exact trivial | exact rfl | constructor)) H
          · replace H := H.2 q
            refine Wx.goto hC (t := 9) te_345_107 (by decide) ?_
            exact Wx.weak (by repeat' (first | exact trivial | exact rfl | constructor)) H
      · replace H := H.2 q
        refine Wx.iinc hC te_345_71 rfl rfl H.1 ?_
        replace H := H.2
        refine Wx.goto hC (t := 9) te_345_74 (by decide) ?_
        exact Wx.weak (by repeat' (first | exact trivial | exact rfl | constructor)) H
    · replace H := H.2 q
      refine Wx.iload_n hC te_345_27 rfl ?_
      refine Wx.goto hC (t := 57) te_345_28 (by decide) ?_
      refine Wx.istore_n hC te_345_57 rfl ?_
      refine Wx.aload_n hC te_345_58 rfl ?_
      refine Wx.getR hC te_345_59 rfl rfl rfl ?_
      refine Wx.iload_n hC te_345_62 rfl ?_
      refine Wx.iald hC te_345_63 rfl H.1 (fun v16 e1 e2 => ?_)
      replace H := H.2 v16 e1 e2
      refine Wx.aload_n hC te_345_64 rfl ?_
      refine Wx.getI hC te_345_65 rfl rfl rfl (fun v17 e1 e2 => ?_)
      replace H := H v17 e1 e2
      refine Wx.icmp hC (t := 77) te_345_68 (by decide) (fun q => ?_) (fun q => ?_)
      · replace H := H.1 q
        refine Wx.aload_n hC te_345_77 rfl ?_
        refine Wx.getR hC te_345_78 rfl rfl rfl ?_
        refine Wx.iload_n hC te_345_81 rfl ?_
        refine Wx.iald hC te_345_82 rfl H.1 (fun v18 e1 e2 => ?_)
        replace H := H.2 v18 e1 e2
        refine Wx.istore hC te_345_83 rfl ?_
        refine Wx.aload_n hC te_345_85 rfl ?_
        refine Wx.getR hC te_345_86 rfl rfl rfl ?_
        refine Wx.iload hC te_345_89 rfl ?_
        refine Wx.iald hC te_345_91 rfl H.1 (fun v19 e1 e2 => ?_)
        replace H := H.2 v19 e1 e2
        refine Wx.iload_n hC te_345_92 rfl ?_
        refine Wx.icmp hC (t := 9) te_345_93 (by decide) (fun q => ?_) (fun q => ?_)
        · replace H := H.1 q
          exact Wx.weak (by repeat' (first | exact trivial | exact rfl | constructor)) H
        · replace H := H.2 q
          refine Wx.aload_n hC te_345_96 rfl ?_
          refine Wx.getR hC te_345_97 rfl rfl rfl ?_
          refine Wx.iload hC te_345_100 rfl ?_
          refine Wx.iald hC te_345_102 rfl H.1 (fun v20 e1 e2 => ?_)
          replace H := H.2 v20 e1 e2
          refine Wx.iload_n hC te_345_103 rfl ?_
          refine Wx.icmp hC (t := 110) te_345_104 (by decide) (fun q => ?_) (fun q => ?_)
          · replace H := H.1 q
            refine Wx.aload_n hC te_345_110 rfl ?_
            refine Wx.getR hC te_345_111 rfl rfl rfl ?_
            refine Wx.iload hC te_345_114 rfl ?_
            refine Wx.iald hC te_345_116 rfl H.1 (fun v21 e1 e2 => ?_)
            replace H := H.2 v21 e1 e2
            refine Wx.iload_n hC te_345_117 rfl ?_
            refine Wx.icmp hC (t := 130) te_345_118 (by decide) (fun q => ?_) (fun q => ?_)
            · replace H := H.1 q
              refine Wx.iconst hC te_345_130 rfl ?_
              refine Wx.istore hC te_345_131 rfl ?_
              refine Wx.iconst hC te_345_133 rfl ?_
              refine Wx.istore hC te_345_134 rfl ?_
              exact H
            · replace H := H.2 q
              refine Wx.aload_n hC te_345_121 rfl ?_
              refine Wx.iload_n hC te_345_122 rfl ?_
              refine Wx.iload_n hC te_345_123 rfl ?_
              refine Wx.virtV hC te_345_124 mt_346 (args := [.inr 143, .inl x2, .inl x1]) (rest := []) rfl rfl rfl rfl rfl rfl rfl rfl ?_
              refine CWV.mono hC (fun m22 H => ?_) H
              refine Wx.goto hC (t := 9) te_345_127 (by decide) ?_
              exact Wx.weak (by repeat' (first | exact trivial | exact rfl | constructor)) H
          · replace H := H.2 q
            refine Wx.goto hC (t := 9) te_345_107 (by decide) ?_
            exact Wx.weak (by repeat' (first | exact trivial | exact rfl | constructor)) H
      · replace H := H.2 q
        refine Wx.iinc hC te_345_71 rfl rfl H.1 ?_
        replace H := H.2
        refine Wx.goto hC (t := 9) te_345_74 (by decide) ?_
        exact Wx.weak (by repeat' (first | exact trivial | exact rfl | constructor)) H
theorem w_345_136 {C : CXW} (hC : Cmono C) {S : Nat × (Nat → Int32)} {K : WK} {mem : MM} {x1 x2 x3 x4 x5 x6 : Int} (H : ((x2 ≤ x6 → ((x5 = 0 → (InI (x2 + 1)) ∧ ((0 : Int) ≤ (x2 + 1) ∧ ((x2 + 1) : Int) < 9) ∧ (Wx C S M_345 K 9 [some (.inr 143), some (.inl x1), some (.inl (x2 + 1)), none, none, none, none] [] (upm mem 170 (Int.toNat (x2 + 1)) (-1)))) ∧ (¬ (x5 = 0) → (Wx C S M_345 K 9 [some (.inr 143), some (.inl x1), some (.inl x2), none, none, none, none] [] mem)))) ∧ (¬ (x2 ≤ x6) → ((¬ x5 = 0 → (InI (x6 + 1)) ∧ (Wx C S M_345 K 136 [some (.inr 143), some (.inl x1), some (.inl x2), some (.inl x3), some (.inl x4), some (.inl 1), some (.inl (x6 + 1))] [] mem)) ∧ (¬ (¬ x5 = 0) → ((0 : Int) ≤ x6 ∧ (x6 : Int) < 9) ∧ ∀ v1 : Int, v1 = mem 170 (Int.toNat x6) → InI v1 → ((0 : Int) ≤ v1 ∧ (v1 : Int) < 48) ∧ ∀ v2 : Int, v2 = mem 155 (Int.toNat v1) → InI v2 → ((0 : Int) ≤ x4 ∧ (x4 : Int) < 48) ∧ ∀ v3 : Int, v3 = mem 155 (Int.toNat x4) → InI v3 → ((¬ v2 = v3 → (InI (x6 + 1)) ∧ (Wx C S M_345 K 136 [some (.inr 143), some (.inl x1), some (.inl x2), some (.inl x3), some (.inl x4), some (.inl 0), some (.inl (x6 + 1))] [] mem)) ∧ (¬ (¬ v2 = v3) → (InI (x6 + 1)) ∧ (Wx C S M_345 K 136 [some (.inr 143), some (.inl x1), some (.inl x2), some (.inl x3), some (.inl x4), some (.inl 1), some (.inl (x6 + 1))] [] mem)))))))) : Wx C S M_345 K 136 [some (.inr 143), some (.inl x1), some (.inl x2), some (.inl x3), some (.inl x4), some (.inl x5), some (.inl x6)] [] mem := by
  refine Wx.iload hC te_345_136 rfl ?_
  refine Wx.iload_n hC te_345_138 rfl ?_
  refine Wx.icmp hC (t := 182) te_345_139 (by decide) (fun q => ?_) (fun q => ?_)
  · replace H := H.1 q
    refine Wx.iload hC te_345_182 rfl ?_
    refine Wx.ifc hC (t := 190) te_345_184 (by decide) (fun q => ?_) (fun q => ?_)
    · replace H := H.1 q
      refine Wx.iinc hC te_345_190 rfl rfl H.1 ?_
      replace H := H.2
      refine Wx.aload_n hC te_345_193 rfl ?_
      refine Wx.getR hC te_345_194 rfl rfl rfl ?_
      refine Wx.iload_n hC te_345_197 rfl ?_
      refine Wx.iconst hC te_345_198 rfl ?_
      refine Wx.iast hC te_345_199 rfl H.1 ?_
      replace H := H.2
      refine Wx.goto hC (t := 9) te_345_200 (by decide) ?_
      exact Wx.weak (by repeat' (first | exact trivial | exact rfl | constructor)) H
    · replace H := H.2 q
      refine Wx.goto hC (t := 9) te_345_187 (by decide) ?_
      exact Wx.weak (by repeat' (first | exact trivial | exact rfl | constructor)) H
  · replace H := H.2 q
    refine Wx.iload hC te_345_142 rfl ?_
    refine Wx.ifc hC (t := 169) te_345_144 (by decide) (fun q => ?_) (fun q => ?_)
    · replace H := H.1 q
      refine Wx.iconst hC te_345_169 rfl ?_
      refine Wx.goto hC (t := 174) te_345_170 (by decide) ?_
      refine Wx.istore hC te_345_174 rfl ?_
      refine Wx.iinc hC te_345_176 rfl rfl H.1 ?_
      replace H := H.2
      refine Wx.goto hC (t := 136) te_345_179 (by decide) ?_
      exact H
    · replace H := H.2 q
      refine Wx.aload_n hC te_345_147 rfl ?_
      refine Wx.getR hC te_345_148 rfl rfl rfl ?_
      refine Wx.aload_n hC te_345_151 rfl ?_
      refine Wx.getR hC te_345_152 rfl rfl rfl ?_
      refine Wx.iload hC te_345_155 rfl ?_
      refine Wx.iald hC te_345_157 rfl H.1 (fun v1 e1 e2 => ?_)
      replace H := H.2 v1 e1 e2
      refine Wx.iald hC te_345_158 rfl H.1 (fun v2 e1 e2 => ?_)
      replace H := H.2 v2 e1 e2
      refine Wx.aload_n hC te_345_159 rfl ?_
      refine Wx.getR hC te_345_160 rfl rfl rfl ?_
      refine Wx.iload hC te_345_163 rfl ?_
      refine Wx.iald hC te_345_165 rfl H.1 (fun v3 e1 e2 => ?_)
      replace H := H.2 v3 e1 e2
      refine Wx.icmp hC (t := 173) te_345_166 (by decide) (fun q => ?_) (fun q => ?_)
      · replace H := H.1 q
        refine Wx.iconst hC te_345_173 rfl ?_
        refine Wx.istore hC te_345_174 rfl ?_
        refine Wx.iinc hC te_345_176 rfl rfl H.1 ?_
        replace H := H.2
        refine Wx.goto hC (t := 136) te_345_179 (by decide) ?_
        exact H
      · replace H := H.2 q
        refine Wx.iconst hC te_345_169 rfl ?_
        refine Wx.goto hC (t := 174) te_345_170 (by decide) ?_
        refine Wx.istore hC te_345_174 rfl ?_
        refine Wx.iinc hC te_345_176 rfl rfl H.1 ?_
        replace H := H.2
        refine Wx.goto hC (t := 136) te_345_179 (by decide) ?_
        exact H
theorem w_344_0 {C : CXW} (hC : Cmono C) {S : Nat × (Nat → Int32)} {K : WK} {mem : MM} (H : (CWV C 245 [.inr 143] mem fun m1 => (Wx C S M_344 K 21 [some (.inr 143), some (.inl 0)] [] (upm (upm (upm m1 143 31 0) 143 32 1) 143 33 0)))) : Wx C S M_344 K 0 [some (.inr 143), none] [] mem := by
  refine Wx.aload_n hC te_344_0 rfl ?_
  refine Wx.virtV hC te_344_1 mt_245 (args := [.inr 143]) (rest := []) rfl rfl rfl rfl rfl rfl rfl rfl ?_
  refine CWV.mono hC (fun m1 H => ?_) H
  refine Wx.aload_n hC te_344_4 rfl ?_
  refine Wx.iconst hC te_344_5 rfl ?_
  refine Wx.putI hC te_344_6 rfl rfl rfl rfl ?_
  refine Wx.aload_n hC te_344_9 rfl ?_
  refine Wx.iconst hC te_344_10 rfl ?_
  refine Wx.putI hC te_344_11 rfl rfl rfl rfl ?_
  refine Wx.aload_n hC te_344_14 rfl ?_
  refine Wx.iconst hC te_344_15 rfl ?_
  refine Wx.putI hC te_344_16 rfl rfl rfl rfl ?_
  refine Wx.iconst hC te_344_19 rfl ?_
  refine Wx.istore_n hC te_344_20 rfl ?_
  exact H
theorem w_344_21 {C : CXW} (hC : Cmono C) {S : Nat × (Nat → Int32)} {K : WK} {mem : MM} {x1 : Int} (H : ∀ v1 : Int, v1 = mem 143 1 → InI v1 → ((v1 ≤ x1 → (K none mem)) ∧ (¬ (v1 ≤ x1) → ∀ v2 : Int, v2 = mem 143 12 → InI v2 → ((v2 ≤ 0 → (K none mem)) ∧ (¬ (v2 ≤ 0) → (CWV C 345 [.inr 143, .inl x1] mem fun m3 => (InI (x1 + 1)) ∧ (Wx C S M_344 K 21 [some (.inr 143), some (.inl (x1 + 1))] [] m3))))))) : Wx C S M_344 K 21 [some (.inr 143), some (.inl x1)] [] mem := by
  refine Wx.iload_n hC te_344_21 rfl ?_
  refine Wx.aload_n hC te_344_22 rfl ?_
  refine Wx.getI hC te_344_23 rfl rfl rfl (fun v1 e1 e2 => ?_)
  replace H := H v1 e1 e2
  refine Wx.icmp hC (t := 47) te_344_26 (by decide) (fun q => ?_) (fun q => ?_)
  · replace H := H.1 q
    exact Wx.vret hC te_344_47 rfl H
  · replace H := H.2 q
    refine Wx.aload_n hC te_344_29 rfl ?_
    refine Wx.getI hC te_344_30 rfl rfl rfl (fun v2 e1 e2 => ?_)
    replace H := H v2 e1 e2
    refine Wx.ifc hC (t := 47) te_344_33 (by decide) (fun q => ?_) (fun q => ?_)
    · replace H := H.1 q
      exact Wx.vret hC te_344_47 rfl H
    · replace H := H.2 q
      refine Wx.aload_n hC te_344_36 rfl ?_
      refine Wx.iload_n hC te_344_37 rfl ?_
      refine Wx.virtV hC te_344_38 mt_345 (args := [.inr 143, .inl x1]) (rest := []) rfl rfl rfl rfl rfl rfl rfl rfl ?_
      refine CWV.mono hC (fun m3 H => ?_) H
      refine Wx.iinc hC te_344_41 rfl rfl H.1 ?_
      replace H := H.2
      refine Wx.goto hC (t := 21) te_344_44 (by decide) ?_
      exact H
end
section
/-! rings of needs: the rate stays small and its lower number above 0 -/
def FrR (m m' : MM) : Prop := ∀ A i, ¬ (A = 143 ∧ (i = 31 ∨ i = 32 ∨ i = 33)) → m' A i = m A i
theorem FrR.rf {m : MM} : FrR m m := fun _ _ _ => rfl
theorem FrR.tr {a b c : MM} (h1 : FrR a b) (h2 : FrR b c) : FrR a c := fun A i e => (h2 A i e).trans (h1 A i e)
def RtOK (m : MM) : Prop := 0 ≤ m 143 31 ∧ m 143 31 ≤ 100 ∧ 1 ≤ m 143 32 ∧ m 143 32 ≤ 100
theorem tmod_r {x y : Int} (hx : 0 ≤ x) (hy : 0 < y) : 0 ≤ x.tmod y ∧ x.tmod y < y := ⟨Int.tmod_nonneg _ hx, Int.tmod_lt_of_pos _ hy⟩
theorem tdiv_r {x y : Int} (hx : 0 ≤ x) (hy : 0 < y) : 0 ≤ x.tdiv y ∧ x.tdiv y ≤ x := by
  rw [Int.tdiv_eq_ediv_of_nonneg hx]
  exact ⟨Int.ediv_nonneg hx (by omega), Int.ediv_le_self _ hx⟩
section RATE
variable {S : Nat × (Nat → Int32)} {n : Nat}
theorem cr_67 {m0 : MM} {x1 x2 x3 x4 : Int} (h1 : 0 < x1 ∧ x1 ≤ 100) (h2 : 0 < x2 ∧ x2 ≤ 100) {Kk : WK} (H : ∀ m', FrR m0 m' → RtOK m' → Kk none m') : ∀ (N : Nat) (x5 x6 : Int) (mem : MM), 0 < x5 → 0 ≤ x6 → x6.toNat < N → (∀ d : Int, d ∣ x5 → d ∣ x6 → d ∣ x2) → FrR m0 mem → Wx (Ex S n) S M_347 Kk 67 [some (.inr 143), some (.inl x1), some (.inl x2), some (.inl x3), some (.inl x4), some (.inl x5), some (.inl x6), none] [] mem := by
  intro N
  induction N with
  | zero => intros; omega
  | succ N ih =>
    intro x5 x6 mem h5 h6 hN hd hF
    refine w_347_67 (Ex.mono S n) ⟨fun q => ⟨h5, h5, H _ ?_ ?_⟩, fun q => ⟨by omega, ?_⟩⟩
    · intro A i e
      rw [upm_ne (by omega), upm_ne (by omega)]; exact hF A i e
    · have hdv : x5 ∣ x2 := hd x5 (Int.dvd_refl _) (by rw [q]; exact Int.dvd_zero _)
      obtain ⟨c, hc⟩ := hdv
      have hcp : 0 < c := by
        rcases Int.lt_or_le 0 c with z | z
        · exact z
        · have := Int.mul_nonpos_of_nonneg_of_nonpos (Int.le_of_lt h5) z
          omega
      have e2 : x2.tdiv x5 = c := by rw [hc]; exact Int.mul_tdiv_cancel_left _ (by omega)
      have r1 := tdiv_r (Int.le_of_lt h1.1) h5
      have r2 := tdiv_r (Int.le_of_lt h2.1) h5
      unfold RtOK
      rw [upm_ne (by omega), upm_eq, upm_eq]
      omega
    · have r := tmod_r (Int.le_of_lt h5) (show 0 < x6 by omega)
      refine ih x6 _ mem (by omega) r.1 (by omega) (fun d d1 d2 => hd d ?_ d1) hF
      have e := Int.mul_tdiv_add_tmod x5 x6
      rw [← e]
      exact Int.dvd_add (Int.dvd_mul_of_dvd_left d1) d2
theorem f_347 {m0 : MM} {K : MM → Prop} {x1 x2 x3 : Int} (h1 : -100 ≤ x1 ∧ x1 ≤ 100) (h2 : 0 < x2 ∧ x2 ≤ 100) (hR : RtOK m0) (H : ∀ m', FrR m0 m' → RtOK m' → K m') : CWV (Ex S (n + 2)) 347 [.inr 143, .inl x1, .inl x2, .inl x3] m0 K := by
  obtain ⟨r1, r2, r3, r4⟩ := hR
  have hR : RtOK m0 := ⟨r1, r2, r3, r4⟩
  refine CW.of (k := 4) mt_347 rfl rfl (w_347_0 (Ex.mono S (n + 1)) (fun v1 e1 _ => ?_))
  have p1 : -10000 ≤ x1 * v1 ∧ x1 * v1 ≤ 10000 := by
    have a1 : -100 * v1 ≤ x1 * v1 := Int.mul_le_mul_of_nonneg_right h1.1 (by omega)
    have a2 : x1 * v1 ≤ 100 * v1 := Int.mul_le_mul_of_nonneg_right h1.2 (by omega)
    omega
  refine ⟨by unfold InI; omega, fun v2 e2 _ => ?_⟩
  have p2 : 0 ≤ v2 * x2 ∧ v2 * x2 ≤ 10000 := by
    have a1 : 0 ≤ v2 * x2 := Int.mul_nonneg (by omega) (by omega)
    have a2 : v2 * x2 ≤ v2 * 100 := Int.mul_le_mul_of_nonneg_left h2.2 (by omega)
    omega
  have fin : ∀ z, 0 < x1 → Wx (Ex S (n + 1)) S M_347 (fun r m => r = none ∧ K m) 67 [some (.inr 143), some (.inl x1), some (.inl x2), some (.inl x3), some (.inl ((x1 * v1) - (v2 * x2))), some (.inl x1), some (.inl x2), none] [] (upm m0 143 33 z) := fun z q =>
    cr_67 (m0 := m0) ⟨q, h1.2⟩ h2 (fun m' a b => ⟨rfl, H m' a b⟩) _ _ _ _ q (by omega) (Nat.lt_succ_self _) (fun d _ d2 => d2) (fun A i e => upm_ne (by omega))
  refine ⟨by unfold InI; omega, by unfold InI; omega, fun q => ⟨rfl, H m0 FrR.rf hR⟩, fun q => ⟨fun q2 => ⟨fun q3 v3 e3 _ => ⟨fun q4 v4 e4 _ => f_258 (fun _ _ => fin _ (by omega)), fun q4 => fin _ (by omega)⟩, fun q3 => fin _ (by omega)⟩, fun q2 => ⟨rfl, H m0 FrR.rf hR⟩⟩⟩
def chP (m : MM) (b : Int) (i : Nat) : Int := if i = 0 then b else m 155 (m 170 (i - 1)).toNat
def ChOK (m : MM) (b : Int) (k : Nat) : Prop := ∀ i, i < k → 0 ≤ m 170 i ∧ m 170 i < m 143 12 ∧ m 154 (m 170 i).toNat = chP m b i
theorem f_346 {m0 : MM} {K : MM → Prop} {k : Nat} {b : Int} (hk : k ≤ 7) (hN : NdsOK m0) (hc : ChOK m0 b (k + 1)) (hl : m0 155 (m0 170 k).toNat = b) (hR : RtOK m0) (H : ∀ m', FrR m0 m' → RtOK m' → K m') : CWV (Ex S (n + 3)) 346 [.inr 143, .inl (k : Int), .inl b] m0 K := by
  refine CW.of (k := 4) mt_346 rfl rfl (w_346_0 (Ex.mono S (n + 2)) ?_)
  have h48 := hN.2.1
  have key : ∀ (N : Nat) (i : Nat) (x3 x4 x5 : Int), i ≤ k + 1 → k + 1 - i < N → -5 * (i : Int) ≤ x3 → x3 ≤ 6 * i → 0 ≤ x4 → x4 ≤ 7 * i → (1 ≤ x4 ∨ b < chP m0 b i ∨ i = 0) → Wx (Ex S (n + 2)) S M_346 (fun r m => r = none ∧ K m) 11 [some (.inr 143), some (.inl (k : Int)), some (.inl b), some (.inl x3), some (.inl x4), some (.inl x5), some (.inl (i : Int))] [] m0 := by
    intro N
    induction N with
    | zero => intros; omega
    | succ N ih =>
      intro i x3 x4 x5 hi hNN b1 b2 b3 b4 b5
      refine w_346_11 (Ex.mono S (n + 2)) ⟨fun q => ?_, fun q => ?_⟩
      · have e : i = k + 1 := by omega
        subst e
        have : chP m0 b (k + 1) = b := by unfold chP; rw [if_neg (by omega)]; exact hl
        exact f_347 ⟨by omega, by omega⟩ ⟨by omega, by omega⟩ hR (fun m' a c => ⟨rfl, H m' a c⟩)
      · obtain ⟨c1, c2, c3⟩ := hc i (by omega)
        have hi9 : 0 ≤ (i : Int) ∧ (i : Int) < 9 := by omega
        have pn := hN.2.2 (m0 170 i).toNat (by omega)
        obtain ⟨n1, n2, n3, n4, n5, n6, n7, n8, n9⟩ := pn
        simp only [Int.toNat_natCast]
        refine ⟨hi9, fun v2 e2 _ => ?_⟩
        subst e2
        have he : 0 ≤ m0 170 i ∧ m0 170 i < 48 := by omega
        refine ⟨he, fun v3 e3 _ => ⟨by unfold InI; omega, hi9, fun v4 e4 _ => ?_⟩⟩
        subst e4
        refine ⟨he, fun v5 e5 _ => ⟨by unfold InI; omega, hi9, fun v6 e6 _ => ?_⟩⟩
        subst e6
        refine ⟨he, fun v7 e7 _ b8 _ _ b9 _ _ => ⟨by unfold InI; omega, ?_⟩⟩
        have hp : chP m0 b (i + 1) = m0 155 (m0 170 i).toNat := by unfold chP; rw [if_neg (by omega)]; rfl
        have hp0 : i = 0 → chP m0 b i = b := fun z => by unfold chP; rw [if_pos z]
        refine ih (i + 1) _ _ b9 (by omega) (by omega) (by omega) (by omega) (by omega) (by omega) ?_
        rw [hp, e5]
        by_cases z : i = 0
        · have := hp0 z; omega
        · omega
  exact key _ 0 0 0 0 (by omega) (Nat.lt_succ_self _) (by omega) (by omega) (by omega) (by omega) (by omega)
theorem pigeon : ∀ (b n : Nat) (f : Nat → Int), (∀ i, i < n → 0 < f i ∧ f i ≤ b) → (∀ i j, i < j → j < n → ¬ f i = f j) → n ≤ b
  | 0, n, f, h, _ => by
    rcases Nat.eq_zero_or_pos n with z | z
    · omega
    · have := h 0 z; omega
  | b + 1, n, f, h, hd => by
    rcases Nat.eq_zero_or_pos n with z | z
    · omega
    · by_cases hex : ∃ i, i < n ∧ f i = ((b + 1 : Nat) : Int)
      · obtain ⟨i, hi, e⟩ := hex
        have := pigeon b (n - 1) (fun j => if j = i then f (n - 1) else f j) (fun j hj => by
          show 0 < (if j = i then f (n - 1) else f j) ∧ (if j = i then f (n - 1) else f j) ≤ (b : Int)
          have hn1 := h (n - 1) (by omega)
          have hj1 := h j (by omega)
          split
          · have := hd i (n - 1) (by omega) (by omega); omega
          · rename_i z2
            have : ¬ f j = f i := by
              rcases Nat.lt_or_ge j i with z3 | z3
              · exact hd j i z3 hi
              · exact fun z4 => hd i j (by omega) (by omega) z4.symm
            omega) (fun p q hpq hq => by
          show ¬ (if p = i then f (n - 1) else f p) = (if q = i then f (n - 1) else f q)
          have hpn := hd p (n - 1) (by omega) (by omega)
          have hqn := hd q (n - 1) (by omega) (by omega)
          have hpq2 := hd p q hpq (by omega)
          split
          · rw [if_neg (by omega)]; exact fun z => hqn z.symm
          · split
            · exact hpn
            · exact hpq2)
        omega
      · have := pigeon b n f (fun i hi => by
          have := h i hi
          have : ¬ f i = ((b + 1 : Nat) : Int) := fun z => hex ⟨i, hi, z⟩
          omega) hd
        omega
end RATE
end
section
/-! all rings from an op on, and the rate -/
def FrE (m m' : MM) : Prop := ∀ A i, ¬ A = 170 → ¬ (A = 143 ∧ (i = 31 ∨ i = 32 ∨ i = 33)) → m' A i = m A i
theorem FrE.rf {m : MM} : FrE m m := fun _ _ _ _ => rfl
theorem FrE.tr {a b c : MM} (h1 : FrE a b) (h2 : FrE b c) : FrE a c := fun A i e1 e2 => (h2 A i e1 e2).trans (h1 A i e1 e2)
theorem FrR.e {a b : MM} (h : FrR a b) : FrE a b := fun A i _ e => h A i e
theorem FrE.up {m : MM} {i : Nat} {x : Int} : FrE m (upm m 170 i x) := fun A j e _ => upm_ne (fun z => e z.1)
theorem FrE.nds {m m' : MM} (h : FrE m m') (H : NdsOK m) : NdsOK m' := by
  have e1 := h 143 1 (by omega) (by omega)
  have e12 := h 143 12 (by omega) (by omega)
  refine ⟨by rw [e1]; exact H.1, by rw [e12]; exact H.2.1, fun j hj => ?_⟩
  rw [e12] at hj
  rw [e1, h 154 j (by omega) (by omega), h 155 j (by omega) (by omega), h 156 j (by omega) (by omega), h 157 j (by omega) (by omega)]
  exact H.2.2 j hj
def RfI (m : MM) (b : Int) (j : Nat) : Prop := ChOK m b j ∧ (∀ i, i < j → b < m 155 (m 170 i).toNat) ∧ (∀ p q, p < q → q < j → ¬ m 155 (m 170 p).toNat = m 155 (m 170 q).toNat)
theorem RfI.congr {m m' : MM} {b : Int} {j : Nat} (h : FrE m m') (he : ∀ i, i < j → m' 170 i = m 170 i) (H : RfI m b j) : RfI m' b j := by
  have e4 : ∀ i, m' 154 i = m 154 i := fun i => h 154 i (by omega) (by omega)
  have e5 : ∀ i, m' 155 i = m 155 i := fun i => h 155 i (by omega) (by omega)
  have e12 := h 143 12 (by omega) (by omega)
  refine ⟨fun i hi => ?_, fun i hi => ?_, fun p q h1 h2 => ?_⟩
  · have := H.1 i hi
    have hp : chP m' b i = chP m b i := by
      unfold chP
      split
      · rfl
      · rw [he (i - 1) (by omega), e5]
    rw [he i hi, e12, e4, hp]; exact this
  · rw [he i hi, e5]; exact H.2.1 i hi
  · rw [he p (by omega), he q h2, e5, e5]; exact H.2.2 p q h1 h2
theorem RfI.lower {m : MM} {b : Int} {j k : Nat} (hk : k ≤ j) (H : RfI m b j) : RfI m b k := ⟨fun i hi => H.1 i (by omega), fun i hi => H.2.1 i (by omega), fun p q h1 h2 => H.2.2 p q h1 (by omega)⟩
theorem RfI.push {m : MM} {b : Int} {j : Nat} (H : RfI m b j) (h1 : 0 ≤ m 170 j) (h2 : m 170 j < m 143 12) (h3 : m 154 (m 170 j).toNat = chP m b j) (h4 : b < m 155 (m 170 j).toNat) (h5 : ∀ i, i < j → ¬ m 155 (m 170 i).toNat = m 155 (m 170 j).toNat) : RfI m b (j + 1) := by
  refine ⟨fun i hi => ?_, fun i hi => ?_, fun p q hp hq => ?_⟩
  · by_cases e : i = j
    · subst e; exact ⟨h1, h2, h3⟩
    · exact H.1 i (by omega)
  · by_cases e : i = j
    · subst e; exact h4
    · exact H.2.1 i (by omega)
  · by_cases e : q = j
    · subst e; exact h5 p hp
    · exact H.2.2 p q hp (by omega)
theorem RfI.le {m : MM} {b : Int} {j : Nat} (hb : 0 ≤ b) (hN : NdsOK m) (H : RfI m b j) : j ≤ 7 := by
  refine pigeon 7 j (fun i => m 155 (m 170 i).toNat) (fun i hi => ?_) (fun p q h1 h2 => H.2.2 p q h1 h2)
  obtain ⟨c1, c2, -⟩ := H.1 i hi
  obtain ⟨-, -, n3, n4, -⟩ := hN.2.2 (m 170 i).toNat (by omega)
  have := H.2.1 i hi
  have := hN.1
  show 0 < m 155 (m 170 i).toNat ∧ m 155 (m 170 i).toNat ≤ ((7 : Nat) : Int)
  omega
def odE (m : MM) (c : Int) : Nat → Nat := smN (fun i => (c - m 170 i).toNat * 50 ^ (9 - i))
theorem odE_eq {m m' : MM} {c : Int} {k : Nat} (h : ∀ i, i < k → m' 170 i = m 170 i) : odE m' c k = odE m c k := smN_congr k (fun i hi => by rw [h i hi])
section RINGS
variable {S : Nat × (Nat → Int32)} {n : Nat}
theorem rf_9 {m0 : MM} {b c : Int} (hb : 0 ≤ b) (hN : NdsOK m0) (hc : m0 143 12 = c) (hc1 : 0 < c ∧ c ≤ 48) {Kk : WK} (H : ∀ m', FrE m0 m' → RtOK m' → Kk none m') : ∀ (N : Nat) (j : Nat) (mem : MM), odE mem c (j + 1) < N → FrE m0 mem → RtOK mem → RfI mem b j → -1 ≤ mem 170 j → mem 170 j < c → Wx (Ex S (n + 3)) S M_345 Kk 9 [some (.inr 143), some (.inl b), some (.inl (j : Int)), none, none, none, none] [] mem := by
  intro N
  induction N with
  | zero => intros; omega
  | succ N ih =>
    intro j mem hNN hF hR hI hs1 hs2
    have hj7 := hI.le hb (hF.nds hN)
    have hj9 : 0 ≤ (j : Int) ∧ (j : Int) < 9 := by omega
    have pw : 1 ≤ 50 ^ (9 - j) := Nat.one_le_pow _ _ (by omega)
    have hod : odE mem c (j + 1) = odE mem c j + (c - mem 170 j).toNat * 50 ^ (9 - j) := rfl
    generalize hM1 : upm mem 170 j (mem 170 j + 1) = M1
    have hF1 : FrE m0 M1 := by rw [← hM1]; exact hF.tr FrE.up
    have hR1 : RtOK M1 := by
      rw [← hM1]; unfold RtOK
      rw [upm_ne (by omega), upm_ne (by omega)]; exact hR
    have q1 : ∀ i, M1 170 i = if i = j then mem 170 j + 1 else mem 170 i := fun i => by
      rw [← hM1]
      by_cases e : i = j
      · subst e; rw [upm_eq, if_pos rfl]
      · rw [upm_ne (fun z => e z.2), if_neg e]
    have hI1 : RfI M1 b j := hI.congr (by rw [← hM1]; exact FrE.up) (fun i hi => by rw [q1, if_neg (by omega)])
    have hN1 := hF1.nds hN
    have e12 : M1 143 12 = c := by rw [hF1 143 12 (by omega) (by omega)]; exact hc
    -- again at the same place
    have stay : ∀ m, FrE M1 m → RtOK m → (∀ i, m 170 i = M1 170 i) → mem 170 j + 1 < c → Wx (Ex S (n + 3)) S M_345 Kk 9 [some (.inr 143), some (.inl b), some (.inl (j : Int)), none, none, none, none] [] m := by
      intro m k1 k2 k3 k4
      refine ih j m ?_ (hF1.tr k1) k2 (hI1.congr k1 (fun i _ => k3 i)) (by rw [k3, q1, if_pos rfl]; omega) (by rw [k3, q1, if_pos rfl]; omega)
      have e5 : odE m c (j + 1) = odE m c j + (c - m 170 j).toNat * 50 ^ (9 - j) := rfl
      have e6 : odE m c j = odE mem c j := odE_eq (fun i hi => by rw [k3, q1, if_neg (by omega)])
      have e7 : (c - m 170 j).toNat + 1 = (c - mem 170 j).toNat := by rw [k3, q1, if_pos rfl]; omega
      rw [← e7, Nat.add_mul, Nat.one_mul] at hod
      omega
    have rest : ∀ v8 : Int, v8 = chP M1 b j → ((0 : Int) ≤ (j : Int) ∧ ((j : Int) : Int) < 9) ∧ ∀ v9 : Int, v9 = M1 170 (Int.toNat (j : Int)) → InI v9 → ∀ v10 : Int, v10 = M1 143 12 → InI v10 → ((v9 < v10 → ((0 : Int) ≤ (j : Int) ∧ ((j : Int) : Int) < 9) ∧ ∀ v11 : Int, v11 = M1 170 (Int.toNat (j : Int)) → InI v11 → ((0 : Int) ≤ v11 ∧ (v11 : Int) < 48) ∧ ∀ v12 : Int, v12 = M1 154 (Int.toNat v11) → InI v12 → ((¬ v12 = v8 → (Wx (Ex S (n + 3)) S M_345 Kk 9 [some (.inr 143), some (.inl b), some (.inl (j : Int)), none, none, none, none] [] M1)) ∧ (¬ (¬ v12 = v8) → ((0 : Int) ≤ v11 ∧ (v11 : Int) < 48) ∧ ∀ v13 : Int, v13 = M1 155 (Int.toNat v11) → InI v13 → ((b ≤ v13 → ((0 : Int) ≤ v11 ∧ (v11 : Int) < 48) ∧ ∀ v14 : Int, v14 = M1 155 (Int.toNat v11) → InI v14 → ((¬ v14 = b → (Wx (Ex S (n + 3)) S M_345 Kk 136 [some (.inr 143), some (.inl b), some (.inl (j : Int)), some (.inl v8), some (.inl v11), some (.inl 0), some (.inl 0)] [] M1)) ∧ (¬ (¬ v14 = b) → (CWV (Ex S (n + 3)) 346 [.inr 143, .inl (j : Int), .inl b] M1 fun m15 => (Wx (Ex S (n + 3)) S M_345 Kk 9 [some (.inr 143), some (.inl b), some (.inl (j : Int)), none, none, none, none] [] m15))))) ∧ (¬ (b ≤ v13) → (Wx (Ex S (n + 3)) S M_345 Kk 9 [some (.inr 143), some (.inl b), some (.inl (j : Int)), none, none, none, none] [] M1)))))) ∧ (¬ (v9 < v10) → (InI ((j : Int) + (-1))) ∧ (Wx (Ex S (n + 3)) S M_345 Kk 9 [some (.inr 143), some (.inl b), some (.inl ((j : Int) + (-1))), none, none, none, none] [] M1))) := by
      intro v8 e8
      simp only [Int.toNat_natCast]
      have q1j := q1 j
      rw [if_pos rfl] at q1j
      refine ⟨hj9, fun v9 e9 _ v10 e10 _ => ⟨fun q => ⟨hj9, fun v11 e11 _ => ⟨by omega, fun v12 e12' _ => ⟨fun z => stay M1 FrE.rf hR1 (fun _ => rfl) (by omega), fun z => ⟨by omega, fun v13 e13 _ => ⟨fun z2 => ⟨by omega, fun v14 e14 _ => ⟨fun z3 => ?_, fun z3 => ?_⟩⟩, fun z2 => stay M1 FrE.rf hR1 (fun _ => rfl) (by omega)⟩⟩⟩⟩⟩, fun q => ⟨by unfold InI; omega, ?_⟩⟩⟩
      · -- has it been seen
        have psh : (∀ i, i < j → ¬ M1 155 (M1 170 i).toNat = M1 155 (M1 170 j).toNat) → (InI ((j : Int) + 1)) ∧ ((0 : Int) ≤ ((j : Int) + 1) ∧ (((j : Int) + 1) : Int) < 9) ∧ (Wx (Ex S (n + 3)) S M_345 Kk 9 [some (.inr 143), some (.inl b), some (.inl ((j : Int) + 1)), none, none, none, none] [] (upm M1 170 (Int.toNat ((j : Int) + 1)) (-1))) := by
          intro hd
          have hP : RfI M1 b (j + 1) := hI1.push (by omega) (by omega) (by rw [← e11]; omega) (by rw [← e11]; omega) hd
          have := hP.le hb hN1
          refine ⟨by unfold InI; omega, by omega, ?_⟩
          rw [show ((j : Int) + 1) = ((j + 1 : Nat) : Int) by omega, Int.toNat_natCast]
          have q2 : ∀ i, upm M1 170 (j + 1) (-1) 170 i = if i = j + 1 then -1 else M1 170 i := fun i => by
            by_cases e : i = j + 1
            · subst e; rw [upm_eq, if_pos rfl]
            · rw [upm_ne (fun z => e z.2), if_neg e]
          refine ih (j + 1) _ ?_ (hF1.tr FrE.up) (by unfold RtOK; rw [upm_ne (by omega), upm_ne (by omega)]; exact hR1) (hP.congr FrE.up (fun i hi => by rw [q2, if_neg (by omega)])) (by rw [q2, if_pos rfl]; omega) (by rw [q2, if_pos rfl]; omega)
          have e5 : odE (upm M1 170 (j + 1) (-1)) c (j + 1 + 1) = odE (upm M1 170 (j + 1) (-1)) c j + (c - upm M1 170 (j + 1) (-1) 170 j).toNat * 50 ^ (9 - j) + (c - upm M1 170 (j + 1) (-1) 170 (j + 1)).toNat * 50 ^ (9 - (j + 1)) := rfl
          have e6 : odE (upm M1 170 (j + 1) (-1)) c j = odE mem c j := odE_eq (fun i hi => by rw [q2, if_neg (by omega), q1, if_neg (by omega)])
          have e7 : (c - upm M1 170 (j + 1) (-1) 170 j).toNat + 1 = (c - mem 170 j).toNat := by rw [q2, if_neg (by omega), q1, if_pos rfl]; omega
          have e8 : (c - upm M1 170 (j + 1) (-1) 170 (j + 1)).toNat ≤ 49 := by rw [q2, if_pos rfl]; omega
          have e9 : 50 ^ (9 - j) = 50 ^ (9 - (j + 1)) * 50 := by rw [show 9 - j = (9 - (j + 1)) + 1 by omega, Nat.pow_succ]
          have e10 := Nat.mul_le_mul_right (50 ^ (9 - (j + 1))) e8
          have p2 : 1 ≤ 50 ^ (9 - (j + 1)) := Nat.one_le_pow _ _ (by omega)
          rw [← e7, Nat.add_mul, Nat.one_mul] at hod
          omega
        have loop : ∀ (N' i : Nat) (x5 : Int), i ≤ j → j - i < N' → (x5 = 0 → ∀ i', i' < i → ¬ M1 155 (M1 170 i').toNat = M1 155 (M1 170 j).toNat) → Wx (Ex S (n + 3)) S M_345 Kk 136 [some (.inr 143), some (.inl b), some (.inl (j : Int)), some (.inl v8), some (.inl v11), some (.inl x5), some (.inl (i : Int))] [] M1 := by
          intro N'
          induction N' with
          | zero => intros; omega
          | succ N' ih2 =>
            intro i x5 hi hN' h5
            refine w_345_136 (Ex.mono S (n + 3)) ⟨fun z4 => ⟨fun z5 => psh (fun i' hi' => h5 z5 i' (by omega)), fun z5 => stay M1 FrE.rf hR1 (fun _ => rfl) (by omega)⟩, fun z4 => ⟨fun z5 => ⟨by unfold InI; omega, ih2 (i + 1) 1 (by omega) (by omega) (fun z6 => by omega)⟩, fun z5 => ?_⟩⟩
            have hi9 : 0 ≤ (i : Int) ∧ (i : Int) < 9 := by omega
            obtain ⟨c1, c2, -⟩ := hI1.1 i (by omega)
            rw [Int.toNat_natCast]
            refine ⟨hi9, fun w1 f1 _ => ⟨by omega, fun w2 f2 _ => ⟨by omega, fun w3 f3 _ => ⟨fun z6 => ⟨by unfold InI; omega, ih2 (i + 1) 0 (by omega) (by omega) (fun _ i' hi' => ?_)⟩, fun z6 => ⟨by unfold InI; omega, ih2 (i + 1) 1 (by omega) (by omega) (fun z7 => by omega)⟩⟩⟩⟩⟩
            by_cases e : i' = i
            · subst e
              rw [← f1, ← e11, ← f2, ← f3]; exact z6
            · exact h5 (by omega) i' (by omega)
        exact loop _ 0 0 (by omega) (Nat.lt_succ_self _) (fun _ i' hi' => by omega)
      · refine f_346 (by omega) hN1 (fun i hi => ?_) (by rw [← e11]; omega) hR1 (fun m15 k1 k2 => stay m15 k1.e k2 (fun i => k1 170 i (by omega)) (by omega))
        by_cases e : i = j
        · subst e
          exact ⟨by omega, by omega, by rw [← e11]; omega⟩
        · exact hI1.1 i (by omega)
      · by_cases e : j = 0
        · refine w_345_9 (Ex.mono S (n + 3)) ⟨fun _ => H M1 hF1 hR1, fun z => ?_⟩
          omega
        · rw [show (j : Int) + -1 = ((j - 1 : Nat) : Int) by omega]
          have hh := hI1.1 (j - 1) (by omega)
          refine ih (j - 1) M1 ?_ hF1 hR1 (hI1.lower (by omega)) (by omega) (by omega)
          have e6 : odE M1 c j = odE mem c j := odE_eq (fun i hi => by rw [q1, if_neg (by omega)])
          rw [show j - 1 + 1 = j by omega, e6]
          have e7 : (c - mem 170 j).toNat = 1 := by omega
          rw [e7, Nat.one_mul] at hod
          omega
    refine w_345_9 (Ex.mono S (n + 3)) ⟨fun q => by omega, fun q => ⟨hj9, fun v1 e1 _ => ?_⟩⟩
    rw [Int.toNat_natCast] at e1
    subst e1
    refine ⟨by unfold InI; omega, hj9, fun q2 => ?_, fun q2 => ?_⟩
    · simp only [Int.toNat_natCast]
      rw [hM1]
      refine fun v2 e2 _ => ⟨by unfold InI; omega, by unfold InI; omega, by omega, fun v3 e3 _ => f_257 (fun _ _ => f_258 (fun _ _ => ?_))⟩
      obtain ⟨c1, c2, -⟩ := hI1.1 (j - 1) (by omega)
      rw [show ((j : Int) - 1).toNat = j - 1 by omega] at e3
      have e8 : min (v2 - 1) (max 0 v3) = M1 170 (j - 1) := by omega
      rw [e8]
      refine ⟨by omega, fun v8 e8 _ => ?_⟩
      have := rest v8 (by rw [e8]; unfold chP; rw [if_neg (by omega)])
      simp only [Int.toNat_natCast] at this
      exact this
    · have := rest b (by unfold chP; rw [if_pos (by omega)])
      simp only [Int.toNat_natCast] at this ⊢
      rw [hM1]
      exact this
theorem f_345 {m0 : MM} {K : MM → Prop} {b : Int} (hb : 0 ≤ b) (hN : NdsOK m0) (hc : 0 < m0 143 12) (hR : RtOK m0) (H : ∀ m', FrE m0 m' → RtOK m' → K m') : CWV (Ex S (n + 4)) 345 [.inr 143, .inl b] m0 K := by
  refine CW.of (k := 5) mt_345 rfl rfl (w_345_0 (Ex.mono S (n + 3)) ⟨by omega, ?_⟩)
  rw [show (0 : Int).toNat = 0 from rfl]
  refine rf_9 hb hN rfl ⟨hc, hN.2.1.2⟩ (fun m' a c => ⟨rfl, H m' a c⟩) _ 0 _ (Nat.lt_succ_self _) FrE.up (by unfold RtOK; rw [upm_ne (by omega), upm_ne (by omega)]; exact hR) ⟨fun i hi => by omega, fun i hi => by omega, fun p q h1 h2 => by omega⟩ (by rw [upm_eq]; omega) (by rw [upm_eq]; omega)
def FrL (m m' : MM) : Prop := ∀ A i, ¬ A = 154 → ¬ A = 155 → ¬ A = 156 → ¬ A = 157 → ¬ A = 170 → ¬ (A = 143 ∧ (i = 12 ∨ i = 31 ∨ i = 32 ∨ i = 33)) → m' A i = m A i
theorem FrE.l {a b : MM} (h : FrE a b) : FrL a b := fun A i _ _ _ _ e5 e6 => h A i e5 (by omega)
theorem FrN.l {a b : MM} (h : FrN a b) : FrL a b := fun A i e1 e2 e3 e4 _ e6 => h A i e1 e2 e3 e4 (by omega)
theorem FrL.tr {a b c : MM} (h1 : FrL a b) (h2 : FrL b c) : FrL a c := fun A i e1 e2 e3 e4 e5 e6 => (h2 A i e1 e2 e3 e4 e5 e6).trans (h1 A i e1 e2 e3 e4 e5 e6)
theorem FrE.rn {m m' : MM} (h : FrE m m') : RN m m' := RN.same (fun B i e => h B i (by omega) (by omega)) (h _ _ (by omega) (by omega))
theorem f_344 {m0 : MM} {K : MM → Prop} (hO : OpsOK m0) (hS : SoundM m0) (H : ∀ m', FrL m0 m' → RN m0 m' → NdsOK m' → RtOK m' → K m') : CWV (Ex S (n + 5)) 344 [.inr 143] m0 K := by
  refine CW.of (k := 1) mt_344 rfl rfl (w_344_0 (Ex.mono S (n + 4)) (f_245 hO hS (fun m1 g1 g5 g2 g3 g4 => ?_)))
  have hN1 := NdsOK.of hO g1 g2 g3 g4
  generalize hm2 : upm (upm (upm m1 143 31 0) 143 32 1) 143 33 0 = m2
  have hE : FrE m1 m2 := by
    rw [← hm2]
    intro A i e1 e2
    rw [upm_ne (by omega), upm_ne (by omega), upm_ne (by omega)]
  have hR2 : RtOK m2 := by
    rw [← hm2]
    unfold RtOK
    rw [upm_ne (by omega), upm_ne (by omega), upm_eq, upm_ne (by omega), upm_eq]
    omega
  have key : ∀ (N : Nat) (o : Int) (mem : MM), 0 ≤ o → (8 - o).toNat < N → FrE m1 mem → RtOK mem → Wx (Ex S (n + 4)) S M_344 (fun r m => r = none ∧ K m) 21 [some (.inr 143), some (.inl o)] [] mem := by
    intro N
    induction N with
    | zero => intros; omega
    | succ N ih =>
      intro o mem ho hNN hF hR
      have fin : K mem := H mem (g1.l.tr hF.l) ((show RN m0 m1 from ⟨g5, fun _ => ⟨g2, g3⟩⟩).tr hF.rn) (hF.nds hN1) hR
      have h8 := (hF.nds hN1).1
      refine w_344_21 (Ex.mono S (n + 4)) (fun v1 e1 _ => ⟨fun q => ⟨rfl, fin⟩, fun q v2 e2 _ => ⟨fun q2 => ⟨rfl, fin⟩, fun q2 => ?_⟩⟩)
      refine f_345 ho (hF.nds hN1) (by omega) hR (fun m3 k1 k2 => ⟨by unfold InI; omega, ih (o + 1) m3 (by omega) ?_ (hF.tr k1) k2⟩)
      omega
  exact key 9 0 m2 (by omega) (by omega) hE hR2
end RINGS
end
section
/-! laid by wip/hand/wxg.py: ops come: what the paths of methods ask for -/
set_option maxRecDepth 100000 in
theorem mt_226 : MT[226]? = some M_226 := rfl
set_option maxRecDepth 100000 in
theorem mt_228 : MT[228]? = some M_228 := rfl
set_option maxRecDepth 100000 in
theorem mt_229 : MT[229]? = some M_229 := rfl
set_option maxRecDepth 100000 in
theorem mt_230 : MT[230]? = some M_230 := rfl
set_option maxRecDepth 100000 in
theorem mt_231 : MT[231]? = some M_231 := rfl
set_option maxRecDepth 100000 in
theorem mt_232 : MT[232]? = some M_232 := rfl
set_option maxRecDepth 100000 in
theorem mt_244 : MT[244]? = some M_244 := rfl
theorem te_226_0 : (pT M_226).find? (fun e => e.1 == 0) = some (0, .aload_n 0, 0, 0) := rfl
theorem te_226_1 : (pT M_226).find? (fun e => e.1 == 1) = some (1, .iload_n 1, 0, 0) := rfl
theorem te_226_2 : (pT M_226).find? (fun e => e.1 == 2) = some (2, .iconst 0, 0, 0) := rfl
theorem te_226_3 : (pT M_226).find? (fun e => e.1 == 3) = some (3, .iconst 3, 0, 0) := rfl
theorem te_226_4 : (pT M_226).find? (fun e => e.1 == 4) = some (4, .invokestatic 104, 227, 2) := rfl
theorem te_226_7 : (pT M_226).find? (fun e => e.1 == 7) = some (7, .ifCond .eq 21, 0, 0) := rfl
theorem te_226_10 : (pT M_226).find? (fun e => e.1 == 10) = some (10, .iload_n 2, 0, 0) := rfl
theorem te_226_11 : (pT M_226).find? (fun e => e.1 == 11) = some (11, .iload_n 3, 0, 0) := rfl
theorem te_226_12 : (pT M_226).find? (fun e => e.1 == 12) = some (12, .invokestatic 111, 228, 2) := rfl
theorem te_226_15 : (pT M_226).find? (fun e => e.1 == 15) = some (15, .ifCond .eq 13, 0, 0) := rfl
theorem te_226_18 : (pT M_226).find? (fun e => e.1 == 18) = some (18, .iload 4, 0, 0) := rfl
theorem te_226_20 : (pT M_226).find? (fun e => e.1 == 20) = some (20, .iload 5, 0, 0) := rfl
theorem te_226_22 : (pT M_226).find? (fun e => e.1 == 22) = some (22, .invokestatic 111, 228, 2) := rfl
theorem te_226_25 : (pT M_226).find? (fun e => e.1 == 25) = some (25, .ifCond .ne 7, 0, 0) := rfl
theorem te_226_28 : (pT M_226).find? (fun e => e.1 == 28) = some (28, .iconst 1, 0, 0) := rfl
theorem te_226_29 : (pT M_226).find? (fun e => e.1 == 29) = some (29, .goto 17, 0, 0) := rfl
theorem te_226_32 : (pT M_226).find? (fun e => e.1 == 32) = some (32, .aload_n 0, 0, 0) := rfl
theorem te_226_33 : (pT M_226).find? (fun e => e.1 == 33) = some (33, .getfield 108, 10, 1) := rfl
theorem te_226_36 : (pT M_226).find? (fun e => e.1 == 36) = some (36, .bipush 8, 0, 0) := rfl
theorem te_226_38 : (pT M_226).find? (fun e => e.1 == 38) = some (38, .if_icmp .ne 7, 0, 0) := rfl
theorem te_226_41 : (pT M_226).find? (fun e => e.1 == 41) = some (41, .iconst 2, 0, 0) := rfl
theorem te_226_42 : (pT M_226).find? (fun e => e.1 == 42) = some (42, .goto 4, 0, 0) := rfl
theorem te_226_45 : (pT M_226).find? (fun e => e.1 == 45) = some (45, .iconst 0, 0, 0) := rfl
theorem te_226_46 : (pT M_226).find? (fun e => e.1 == 46) = some (46, .putfield 101, 10, 0) := rfl
theorem te_226_49 : (pT M_226).find? (fun e => e.1 == 49) = some (49, .aload_n 0, 0, 0) := rfl
theorem te_226_50 : (pT M_226).find? (fun e => e.1 == 50) = some (50, .getfield 101, 10, 0) := rfl
theorem te_226_53 : (pT M_226).find? (fun e => e.1 == 53) = some (53, .ifCond .le 7, 0, 0) := rfl
theorem te_226_56 : (pT M_226).find? (fun e => e.1 == 56) = some (56, .iconst 0, 0, 0) := rfl
theorem te_226_57 : (pT M_226).find? (fun e => e.1 == 57) = some (57, .goto 14, 0, 0) := rfl
theorem te_226_60 : (pT M_226).find? (fun e => e.1 == 60) = some (60, .aload_n 0, 0, 0) := rfl
theorem te_226_61 : (pT M_226).find? (fun e => e.1 == 61) = some (61, .iload_n 1, 0, 0) := rfl
theorem te_226_62 : (pT M_226).find? (fun e => e.1 == 62) = some (62, .iload_n 2, 0, 0) := rfl
theorem te_226_63 : (pT M_226).find? (fun e => e.1 == 63) = some (63, .iload_n 3, 0, 0) := rfl
theorem te_226_64 : (pT M_226).find? (fun e => e.1 == 64) = some (64, .iload 4, 0, 0) := rfl
theorem te_226_66 : (pT M_226).find? (fun e => e.1 == 66) = some (66, .iload 5, 0, 0) := rfl
theorem te_226_68 : (pT M_226).find? (fun e => e.1 == 68) = some (68, .invokevirtual 115, 229, 0) := rfl
theorem te_226_71 : (pT M_226).find? (fun e => e.1 == 71) = some (71, .ireturn, 0, 0) := rfl
theorem te_228_0 : (pT M_228).find? (fun e => e.1 == 0) = some (0, .iload_n 0, 0, 0) := rfl
theorem te_228_1 : (pT M_228).find? (fun e => e.1 == 1) = some (1, .bipush (-2), 0, 0) := rfl
theorem te_228_3 : (pT M_228).find? (fun e => e.1 == 3) = some (3, .if_icmp .ne 14, 0, 0) := rfl
theorem te_228_6 : (pT M_228).find? (fun e => e.1 == 6) = some (6, .iload_n 1, 0, 0) := rfl
theorem te_228_7 : (pT M_228).find? (fun e => e.1 == 7) = some (7, .bipush (-99), 0, 0) := rfl
theorem te_228_9 : (pT M_228).find? (fun e => e.1 == 9) = some (9, .bipush 99, 0, 0) := rfl
theorem te_228_11 : (pT M_228).find? (fun e => e.1 == 11) = some (11, .invokestatic 104, 227, 2) := rfl
theorem te_228_14 : (pT M_228).find? (fun e => e.1 == 14) = some (14, .goto 32, 0, 0) := rfl
theorem te_228_17 : (pT M_228).find? (fun e => e.1 == 17) = some (17, .iload_n 0, 0, 0) := rfl
theorem te_228_18 : (pT M_228).find? (fun e => e.1 == 18) = some (18, .iconst (-1), 0, 0) := rfl
theorem te_228_19 : (pT M_228).find? (fun e => e.1 == 19) = some (19, .if_icmp .eq 22, 0, 0) := rfl
theorem te_228_22 : (pT M_228).find? (fun e => e.1 == 22) = some (22, .iload_n 0, 0, 0) := rfl
theorem te_228_23 : (pT M_228).find? (fun e => e.1 == 23) = some (23, .iconst 0, 0, 0) := rfl
theorem te_228_24 : (pT M_228).find? (fun e => e.1 == 24) = some (24, .bipush 7, 0, 0) := rfl
theorem te_228_26 : (pT M_228).find? (fun e => e.1 == 26) = some (26, .invokestatic 104, 227, 2) := rfl
theorem te_228_29 : (pT M_228).find? (fun e => e.1 == 29) = some (29, .ifCond .eq 16, 0, 0) := rfl
theorem te_228_32 : (pT M_228).find? (fun e => e.1 == 32) = some (32, .iload_n 1, 0, 0) := rfl
theorem te_228_33 : (pT M_228).find? (fun e => e.1 == 33) = some (33, .iconst 0, 0, 0) := rfl
theorem te_228_34 : (pT M_228).find? (fun e => e.1 == 34) = some (34, .iconst 3, 0, 0) := rfl
theorem te_228_35 : (pT M_228).find? (fun e => e.1 == 35) = some (35, .invokestatic 104, 227, 2) := rfl
theorem te_228_38 : (pT M_228).find? (fun e => e.1 == 38) = some (38, .ifCond .eq 7, 0, 0) := rfl
theorem te_228_41 : (pT M_228).find? (fun e => e.1 == 41) = some (41, .iconst 1, 0, 0) := rfl
theorem te_228_42 : (pT M_228).find? (fun e => e.1 == 42) = some (42, .goto 4, 0, 0) := rfl
theorem te_228_45 : (pT M_228).find? (fun e => e.1 == 45) = some (45, .iconst 0, 0, 0) := rfl
theorem te_228_46 : (pT M_228).find? (fun e => e.1 == 46) = some (46, .ireturn, 0, 0) := rfl
theorem te_229_0 : (pT M_229).find? (fun e => e.1 == 0) = some (0, .aload_n 0, 0, 0) := rfl
theorem te_229_1 : (pT M_229).find? (fun e => e.1 == 1) = some (1, .getfield 7, 10, 2) := rfl
theorem te_229_4 : (pT M_229).find? (fun e => e.1 == 4) = some (4, .aload_n 0, 0, 0) := rfl
theorem te_229_5 : (pT M_229).find? (fun e => e.1 == 5) = some (5, .getfield 108, 10, 1) := rfl
theorem te_229_8 : (pT M_229).find? (fun e => e.1 == 8) = some (8, .iload_n 1, 0, 0) := rfl
theorem te_229_9 : (pT M_229).find? (fun e => e.1 == 9) = some (9, .iastore, 0, 0) := rfl
theorem te_229_10 : (pT M_229).find? (fun e => e.1 == 10) = some (10, .aload_n 0, 0, 0) := rfl
theorem te_229_11 : (pT M_229).find? (fun e => e.1 == 11) = some (11, .getfield 13, 10, 3) := rfl
theorem te_229_14 : (pT M_229).find? (fun e => e.1 == 14) = some (14, .aload_n 0, 0, 0) := rfl
theorem te_229_15 : (pT M_229).find? (fun e => e.1 == 15) = some (15, .getfield 108, 10, 1) := rfl
theorem te_229_18 : (pT M_229).find? (fun e => e.1 == 18) = some (18, .iload_n 2, 0, 0) := rfl
theorem te_229_19 : (pT M_229).find? (fun e => e.1 == 19) = some (19, .iastore, 0, 0) := rfl
theorem te_229_20 : (pT M_229).find? (fun e => e.1 == 20) = some (20, .aload_n 0, 0, 0) := rfl
theorem te_229_21 : (pT M_229).find? (fun e => e.1 == 21) = some (21, .getfield 16, 10, 4) := rfl
theorem te_229_24 : (pT M_229).find? (fun e => e.1 == 24) = some (24, .aload_n 0, 0, 0) := rfl
theorem te_229_25 : (pT M_229).find? (fun e => e.1 == 25) = some (25, .getfield 108, 10, 1) := rfl
theorem te_229_28 : (pT M_229).find? (fun e => e.1 == 28) = some (28, .iload_n 3, 0, 0) := rfl
theorem te_229_29 : (pT M_229).find? (fun e => e.1 == 29) = some (29, .iastore, 0, 0) := rfl
theorem te_229_30 : (pT M_229).find? (fun e => e.1 == 30) = some (30, .aload_n 0, 0, 0) := rfl
theorem te_229_31 : (pT M_229).find? (fun e => e.1 == 31) = some (31, .getfield 19, 10, 5) := rfl
theorem te_229_34 : (pT M_229).find? (fun e => e.1 == 34) = some (34, .aload_n 0, 0, 0) := rfl
theorem te_229_35 : (pT M_229).find? (fun e => e.1 == 35) = some (35, .getfield 108, 10, 1) := rfl
theorem te_229_38 : (pT M_229).find? (fun e => e.1 == 38) = some (38, .iload 4, 0, 0) := rfl
theorem te_229_40 : (pT M_229).find? (fun e => e.1 == 40) = some (40, .iastore, 0, 0) := rfl
theorem te_229_41 : (pT M_229).find? (fun e => e.1 == 41) = some (41, .aload_n 0, 0, 0) := rfl
theorem te_229_42 : (pT M_229).find? (fun e => e.1 == 42) = some (42, .getfield 22, 10, 6) := rfl
theorem te_229_45 : (pT M_229).find? (fun e => e.1 == 45) = some (45, .aload_n 0, 0, 0) := rfl
theorem te_229_46 : (pT M_229).find? (fun e => e.1 == 46) = some (46, .getfield 108, 10, 1) := rfl
theorem te_229_49 : (pT M_229).find? (fun e => e.1 == 49) = some (49, .iload 5, 0, 0) := rfl
theorem te_229_51 : (pT M_229).find? (fun e => e.1 == 51) = some (51, .iastore, 0, 0) := rfl
theorem te_229_52 : (pT M_229).find? (fun e => e.1 == 52) = some (52, .aload_n 0, 0, 0) := rfl
theorem te_229_53 : (pT M_229).find? (fun e => e.1 == 53) = some (53, .getfield 25, 10, 7) := rfl
theorem te_229_56 : (pT M_229).find? (fun e => e.1 == 56) = some (56, .aload_n 0, 0, 0) := rfl
theorem te_229_57 : (pT M_229).find? (fun e => e.1 == 57) = some (57, .getfield 108, 10, 1) := rfl
theorem te_229_60 : (pT M_229).find? (fun e => e.1 == 60) = some (60, .iconst 0, 0, 0) := rfl
theorem te_229_61 : (pT M_229).find? (fun e => e.1 == 61) = some (61, .iastore, 0, 0) := rfl
theorem te_229_62 : (pT M_229).find? (fun e => e.1 == 62) = some (62, .aload_n 0, 0, 0) := rfl
theorem te_229_63 : (pT M_229).find? (fun e => e.1 == 63) = some (63, .dup, 0, 0) := rfl
theorem te_229_64 : (pT M_229).find? (fun e => e.1 == 64) = some (64, .getfield 108, 10, 1) := rfl
theorem te_229_67 : (pT M_229).find? (fun e => e.1 == 67) = some (67, .iconst 1, 0, 0) := rfl
theorem te_229_68 : (pT M_229).find? (fun e => e.1 == 68) = some (68, .iadd, 0, 0) := rfl
theorem te_229_69 : (pT M_229).find? (fun e => e.1 == 69) = some (69, .putfield 108, 10, 1) := rfl
theorem te_229_72 : (pT M_229).find? (fun e => e.1 == 72) = some (72, .aload_n 0, 0, 0) := rfl
theorem te_229_73 : (pT M_229).find? (fun e => e.1 == 73) = some (73, .getfield 108, 10, 1) := rfl
theorem te_229_76 : (pT M_229).find? (fun e => e.1 == 76) = some (76, .iconst 1, 0, 0) := rfl
theorem te_229_77 : (pT M_229).find? (fun e => e.1 == 77) = some (77, .isub, 0, 0) := rfl
theorem te_229_78 : (pT M_229).find? (fun e => e.1 == 78) = some (78, .ireturn, 0, 0) := rfl
theorem te_230_0 : (pT M_230).find? (fun e => e.1 == 0) = some (0, .aload_n 0, 0, 0) := rfl
theorem te_230_1 : (pT M_230).find? (fun e => e.1 == 1) = some (1, .iload_n 1, 0, 0) := rfl
theorem te_230_2 : (pT M_230).find? (fun e => e.1 == 2) = some (2, .iload_n 2, 0, 0) := rfl
theorem te_230_3 : (pT M_230).find? (fun e => e.1 == 3) = some (3, .invokestatic 119, 231, 2) := rfl
theorem te_230_6 : (pT M_230).find? (fun e => e.1 == 6) = some (6, .ifCond .ne 7, 0, 0) := rfl
theorem te_230_9 : (pT M_230).find? (fun e => e.1 == 9) = some (9, .iconst 1, 0, 0) := rfl
theorem te_230_10 : (pT M_230).find? (fun e => e.1 == 10) = some (10, .goto 17, 0, 0) := rfl
theorem te_230_13 : (pT M_230).find? (fun e => e.1 == 13) = some (13, .aload_n 0, 0, 0) := rfl
theorem te_230_14 : (pT M_230).find? (fun e => e.1 == 14) = some (14, .getfield 108, 10, 1) := rfl
theorem te_230_17 : (pT M_230).find? (fun e => e.1 == 17) = some (17, .bipush 8, 0, 0) := rfl
theorem te_230_19 : (pT M_230).find? (fun e => e.1 == 19) = some (19, .if_icmp .ne 7, 0, 0) := rfl
theorem te_230_22 : (pT M_230).find? (fun e => e.1 == 22) = some (22, .iconst 2, 0, 0) := rfl
theorem te_230_23 : (pT M_230).find? (fun e => e.1 == 23) = some (23, .goto 4, 0, 0) := rfl
theorem te_230_26 : (pT M_230).find? (fun e => e.1 == 26) = some (26, .iconst 0, 0, 0) := rfl
theorem te_230_27 : (pT M_230).find? (fun e => e.1 == 27) = some (27, .putfield 101, 10, 0) := rfl
theorem te_230_30 : (pT M_230).find? (fun e => e.1 == 30) = some (30, .aload_n 0, 0, 0) := rfl
theorem te_230_31 : (pT M_230).find? (fun e => e.1 == 31) = some (31, .getfield 101, 10, 0) := rfl
theorem te_230_34 : (pT M_230).find? (fun e => e.1 == 34) = some (34, .ifCond .le 7, 0, 0) := rfl
theorem te_230_37 : (pT M_230).find? (fun e => e.1 == 37) = some (37, .iconst 0, 0, 0) := rfl
theorem te_230_38 : (pT M_230).find? (fun e => e.1 == 38) = some (38, .goto 12, 0, 0) := rfl
theorem te_230_41 : (pT M_230).find? (fun e => e.1 == 41) = some (41, .aload_n 0, 0, 0) := rfl
theorem te_230_42 : (pT M_230).find? (fun e => e.1 == 42) = some (42, .iconst 4, 0, 0) := rfl
theorem te_230_43 : (pT M_230).find? (fun e => e.1 == 43) = some (43, .iload_n 1, 0, 0) := rfl
theorem te_230_44 : (pT M_230).find? (fun e => e.1 == 44) = some (44, .iload_n 2, 0, 0) := rfl
theorem te_230_45 : (pT M_230).find? (fun e => e.1 == 45) = some (45, .iconst 0, 0, 0) := rfl
theorem te_230_46 : (pT M_230).find? (fun e => e.1 == 46) = some (46, .iconst 0, 0, 0) := rfl
theorem te_230_47 : (pT M_230).find? (fun e => e.1 == 47) = some (47, .invokevirtual 115, 229, 0) := rfl
theorem te_230_50 : (pT M_230).find? (fun e => e.1 == 50) = some (50, .ireturn, 0, 0) := rfl
theorem te_231_0 : (pT M_231).find? (fun e => e.1 == 0) = some (0, .iload_n 0, 0, 0) := rfl
theorem te_231_1 : (pT M_231).find? (fun e => e.1 == 1) = some (1, .iconst 0, 0, 0) := rfl
theorem te_231_2 : (pT M_231).find? (fun e => e.1 == 2) = some (2, .iconst 1, 0, 0) := rfl
theorem te_231_3 : (pT M_231).find? (fun e => e.1 == 3) = some (3, .invokestatic 104, 227, 2) := rfl
theorem te_231_6 : (pT M_231).find? (fun e => e.1 == 6) = some (6, .ifCond .eq 17, 0, 0) := rfl
theorem te_231_9 : (pT M_231).find? (fun e => e.1 == 9) = some (9, .iload_n 1, 0, 0) := rfl
theorem te_231_10 : (pT M_231).find? (fun e => e.1 == 10) = some (10, .iconst 0, 0, 0) := rfl
theorem te_231_11 : (pT M_231).find? (fun e => e.1 == 11) = some (11, .bipush 7, 0, 0) := rfl
theorem te_231_13 : (pT M_231).find? (fun e => e.1 == 13) = some (13, .invokestatic 104, 227, 2) := rfl
theorem te_231_16 : (pT M_231).find? (fun e => e.1 == 16) = some (16, .ifCond .eq 7, 0, 0) := rfl
theorem te_231_19 : (pT M_231).find? (fun e => e.1 == 19) = some (19, .iconst 1, 0, 0) := rfl
theorem te_231_20 : (pT M_231).find? (fun e => e.1 == 20) = some (20, .goto 4, 0, 0) := rfl
theorem te_231_23 : (pT M_231).find? (fun e => e.1 == 23) = some (23, .iconst 0, 0, 0) := rfl
theorem te_231_24 : (pT M_231).find? (fun e => e.1 == 24) = some (24, .ireturn, 0, 0) := rfl
theorem te_232_0 : (pT M_232).find? (fun e => e.1 == 0) = some (0, .aload_n 0, 0, 0) := rfl
theorem te_232_1 : (pT M_232).find? (fun e => e.1 == 1) = some (1, .iload_n 1, 0, 0) := rfl
theorem te_232_2 : (pT M_232).find? (fun e => e.1 == 2) = some (2, .iload_n 2, 0, 0) := rfl
theorem te_232_3 : (pT M_232).find? (fun e => e.1 == 3) = some (3, .invokestatic 111, 228, 2) := rfl
theorem te_232_6 : (pT M_232).find? (fun e => e.1 == 6) = some (6, .ifCond .eq 12, 0, 0) := rfl
theorem te_232_9 : (pT M_232).find? (fun e => e.1 == 9) = some (9, .iload_n 3, 0, 0) := rfl
theorem te_232_10 : (pT M_232).find? (fun e => e.1 == 10) = some (10, .iload 4, 0, 0) := rfl
theorem te_232_12 : (pT M_232).find? (fun e => e.1 == 12) = some (12, .invokestatic 119, 231, 2) := rfl
theorem te_232_15 : (pT M_232).find? (fun e => e.1 == 15) = some (15, .ifCond .ne 7, 0, 0) := rfl
theorem te_232_18 : (pT M_232).find? (fun e => e.1 == 18) = some (18, .iconst 1, 0, 0) := rfl
theorem te_232_19 : (pT M_232).find? (fun e => e.1 == 19) = some (19, .goto 17, 0, 0) := rfl
theorem te_232_22 : (pT M_232).find? (fun e => e.1 == 22) = some (22, .aload_n 0, 0, 0) := rfl
theorem te_232_23 : (pT M_232).find? (fun e => e.1 == 23) = some (23, .getfield 108, 10, 1) := rfl
theorem te_232_26 : (pT M_232).find? (fun e => e.1 == 26) = some (26, .bipush 8, 0, 0) := rfl
theorem te_232_28 : (pT M_232).find? (fun e => e.1 == 28) = some (28, .if_icmp .ne 7, 0, 0) := rfl
theorem te_232_31 : (pT M_232).find? (fun e => e.1 == 31) = some (31, .iconst 2, 0, 0) := rfl
theorem te_232_32 : (pT M_232).find? (fun e => e.1 == 32) = some (32, .goto 4, 0, 0) := rfl
theorem te_232_35 : (pT M_232).find? (fun e => e.1 == 35) = some (35, .iconst 0, 0, 0) := rfl
theorem te_232_36 : (pT M_232).find? (fun e => e.1 == 36) = some (36, .putfield 101, 10, 0) := rfl
theorem te_232_39 : (pT M_232).find? (fun e => e.1 == 39) = some (39, .aload_n 0, 0, 0) := rfl
theorem te_232_40 : (pT M_232).find? (fun e => e.1 == 40) = some (40, .getfield 101, 10, 0) := rfl
theorem te_232_43 : (pT M_232).find? (fun e => e.1 == 43) = some (43, .ifCond .le 7, 0, 0) := rfl
theorem te_232_46 : (pT M_232).find? (fun e => e.1 == 46) = some (46, .iconst 0, 0, 0) := rfl
theorem te_232_47 : (pT M_232).find? (fun e => e.1 == 47) = some (47, .goto 13, 0, 0) := rfl
theorem te_232_50 : (pT M_232).find? (fun e => e.1 == 50) = some (50, .aload_n 0, 0, 0) := rfl
theorem te_232_51 : (pT M_232).find? (fun e => e.1 == 51) = some (51, .iconst 5, 0, 0) := rfl
theorem te_232_52 : (pT M_232).find? (fun e => e.1 == 52) = some (52, .iload_n 1, 0, 0) := rfl
theorem te_232_53 : (pT M_232).find? (fun e => e.1 == 53) = some (53, .iload_n 2, 0, 0) := rfl
theorem te_232_54 : (pT M_232).find? (fun e => e.1 == 54) = some (54, .iload_n 3, 0, 0) := rfl
theorem te_232_55 : (pT M_232).find? (fun e => e.1 == 55) = some (55, .iload 4, 0, 0) := rfl
theorem te_232_57 : (pT M_232).find? (fun e => e.1 == 57) = some (57, .invokevirtual 115, 229, 0) := rfl
theorem te_232_60 : (pT M_232).find? (fun e => e.1 == 60) = some (60, .ireturn, 0, 0) := rfl
theorem te_244_0 : (pT M_244).find? (fun e => e.1 == 0) = some (0, .aload_n 0, 0, 0) := rfl
theorem te_244_1 : (pT M_244).find? (fun e => e.1 == 1) = some (1, .aload_n 0, 0, 0) := rfl
theorem te_244_2 : (pT M_244).find? (fun e => e.1 == 2) = some (2, .invokevirtual 137, 240, 0) := rfl
theorem te_244_5 : (pT M_244).find? (fun e => e.1 == 5) = some (5, .ifCond .ne 7, 0, 0) := rfl
theorem te_244_8 : (pT M_244).find? (fun e => e.1 == 8) = some (8, .iconst 1, 0, 0) := rfl
theorem te_244_9 : (pT M_244).find? (fun e => e.1 == 9) = some (9, .goto 4, 0, 0) := rfl
theorem te_244_12 : (pT M_244).find? (fun e => e.1 == 12) = some (12, .iconst 0, 0, 0) := rfl
theorem te_244_13 : (pT M_244).find? (fun e => e.1 == 13) = some (13, .putfield 101, 10, 0) := rfl
theorem te_244_16 : (pT M_244).find? (fun e => e.1 == 16) = some (16, .aload_n 0, 0, 0) := rfl
theorem te_244_17 : (pT M_244).find? (fun e => e.1 == 17) = some (17, .getfield 101, 10, 0) := rfl
theorem te_244_20 : (pT M_244).find? (fun e => e.1 == 20) = some (20, .ifCond .le 5, 0, 0) := rfl
theorem te_244_23 : (pT M_244).find? (fun e => e.1 == 23) = some (23, .iconst 0, 0, 0) := rfl
theorem te_244_24 : (pT M_244).find? (fun e => e.1 == 24) = some (24, .ireturn, 0, 0) := rfl
theorem te_244_25 : (pT M_244).find? (fun e => e.1 == 25) = some (25, .aload_n 0, 0, 0) := rfl
theorem te_244_26 : (pT M_244).find? (fun e => e.1 == 26) = some (26, .invokevirtual 164, 245, 0) := rfl
theorem te_244_29 : (pT M_244).find? (fun e => e.1 == 29) = some (29, .aload_n 0, 0, 0) := rfl
theorem te_244_30 : (pT M_244).find? (fun e => e.1 == 30) = some (30, .iload_n 1, 0, 0) := rfl
theorem te_244_31 : (pT M_244).find? (fun e => e.1 == 31) = some (31, .iconst 0, 0, 0) := rfl
theorem te_244_32 : (pT M_244).find? (fun e => e.1 == 32) = some (32, .aload_n 0, 0, 0) := rfl
theorem te_244_33 : (pT M_244).find? (fun e => e.1 == 33) = some (33, .getfield 141, 10, 12) := rfl
theorem te_244_36 : (pT M_244).find? (fun e => e.1 == 36) = some (36, .iconst 1, 0, 0) := rfl
theorem te_244_37 : (pT M_244).find? (fun e => e.1 == 37) = some (37, .isub, 0, 0) := rfl
theorem te_244_38 : (pT M_244).find? (fun e => e.1 == 38) = some (38, .invokestatic 104, 227, 2) := rfl
theorem te_244_41 : (pT M_244).find? (fun e => e.1 == 41) = some (41, .ifCond .ne 7, 0, 0) := rfl
theorem te_244_44 : (pT M_244).find? (fun e => e.1 == 44) = some (44, .iconst 2, 0, 0) := rfl
theorem te_244_45 : (pT M_244).find? (fun e => e.1 == 45) = some (45, .goto 17, 0, 0) := rfl
theorem te_244_48 : (pT M_244).find? (fun e => e.1 == 48) = some (48, .iload_n 2, 0, 0) := rfl
theorem te_244_49 : (pT M_244).find? (fun e => e.1 == 49) = some (49, .iconst 0, 0, 0) := rfl
theorem te_244_50 : (pT M_244).find? (fun e => e.1 == 50) = some (50, .iconst 3, 0, 0) := rfl
theorem te_244_51 : (pT M_244).find? (fun e => e.1 == 51) = some (51, .invokestatic 104, 227, 2) := rfl
theorem te_244_54 : (pT M_244).find? (fun e => e.1 == 54) = some (54, .ifCond .ne 7, 0, 0) := rfl
theorem te_244_57 : (pT M_244).find? (fun e => e.1 == 57) = some (57, .iconst 3, 0, 0) := rfl
theorem te_244_58 : (pT M_244).find? (fun e => e.1 == 58) = some (58, .goto 4, 0, 0) := rfl
theorem te_244_61 : (pT M_244).find? (fun e => e.1 == 61) = some (61, .iconst 0, 0, 0) := rfl
theorem te_244_62 : (pT M_244).find? (fun e => e.1 == 62) = some (62, .putfield 101, 10, 0) := rfl
theorem te_244_65 : (pT M_244).find? (fun e => e.1 == 65) = some (65, .aload_n 0, 0, 0) := rfl
theorem te_244_66 : (pT M_244).find? (fun e => e.1 == 66) = some (66, .getfield 101, 10, 0) := rfl
theorem te_244_69 : (pT M_244).find? (fun e => e.1 == 69) = some (69, .ifCond .le 5, 0, 0) := rfl
theorem te_244_72 : (pT M_244).find? (fun e => e.1 == 72) = some (72, .iconst 0, 0, 0) := rfl
theorem te_244_73 : (pT M_244).find? (fun e => e.1 == 73) = some (73, .ireturn, 0, 0) := rfl
theorem te_244_74 : (pT M_244).find? (fun e => e.1 == 74) = some (74, .iload_n 2, 0, 0) := rfl
theorem te_244_75 : (pT M_244).find? (fun e => e.1 == 75) = some (75, .ifCond .ne 12, 0, 0) := rfl
theorem te_244_78 : (pT M_244).find? (fun e => e.1 == 78) = some (78, .aload_n 0, 0, 0) := rfl
theorem te_244_79 : (pT M_244).find? (fun e => e.1 == 79) = some (79, .getfield 40, 10, 13) := rfl
theorem te_244_82 : (pT M_244).find? (fun e => e.1 == 82) = some (82, .iload_n 1, 0, 0) := rfl
theorem te_244_83 : (pT M_244).find? (fun e => e.1 == 83) = some (83, .iaload, 0, 0) := rfl
theorem te_244_84 : (pT M_244).find? (fun e => e.1 == 84) = some (84, .goto 37, 0, 0) := rfl
theorem te_244_87 : (pT M_244).find? (fun e => e.1 == 87) = some (87, .iload_n 2, 0, 0) := rfl
theorem te_244_88 : (pT M_244).find? (fun e => e.1 == 88) = some (88, .iconst 1, 0, 0) := rfl
theorem te_244_89 : (pT M_244).find? (fun e => e.1 == 89) = some (89, .if_icmp .ne 12, 0, 0) := rfl
theorem te_244_92 : (pT M_244).find? (fun e => e.1 == 92) = some (92, .aload_n 0, 0, 0) := rfl
theorem te_244_93 : (pT M_244).find? (fun e => e.1 == 93) = some (93, .getfield 43, 10, 14) := rfl
theorem te_244_96 : (pT M_244).find? (fun e => e.1 == 96) = some (96, .iload_n 1, 0, 0) := rfl
theorem te_244_97 : (pT M_244).find? (fun e => e.1 == 97) = some (97, .iaload, 0, 0) := rfl
theorem te_244_98 : (pT M_244).find? (fun e => e.1 == 98) = some (98, .goto 23, 0, 0) := rfl
theorem te_244_101 : (pT M_244).find? (fun e => e.1 == 101) = some (101, .iload_n 2, 0, 0) := rfl
theorem te_244_102 : (pT M_244).find? (fun e => e.1 == 102) = some (102, .iconst 2, 0, 0) := rfl
theorem te_244_103 : (pT M_244).find? (fun e => e.1 == 103) = some (103, .if_icmp .ne 12, 0, 0) := rfl
theorem te_244_106 : (pT M_244).find? (fun e => e.1 == 106) = some (106, .aload_n 0, 0, 0) := rfl
theorem te_244_107 : (pT M_244).find? (fun e => e.1 == 107) = some (107, .getfield 46, 10, 15) := rfl
theorem te_244_110 : (pT M_244).find? (fun e => e.1 == 110) = some (110, .iload_n 1, 0, 0) := rfl
theorem te_244_111 : (pT M_244).find? (fun e => e.1 == 111) = some (111, .iaload, 0, 0) := rfl
theorem te_244_112 : (pT M_244).find? (fun e => e.1 == 112) = some (112, .goto 9, 0, 0) := rfl
theorem te_244_115 : (pT M_244).find? (fun e => e.1 == 115) = some (115, .aload_n 0, 0, 0) := rfl
theorem te_244_116 : (pT M_244).find? (fun e => e.1 == 116) = some (116, .getfield 49, 10, 16) := rfl
theorem te_244_119 : (pT M_244).find? (fun e => e.1 == 119) = some (119, .iload_n 1, 0, 0) := rfl
theorem te_244_120 : (pT M_244).find? (fun e => e.1 == 120) = some (120, .iaload, 0, 0) := rfl
theorem te_244_121 : (pT M_244).find? (fun e => e.1 == 121) = some (121, .ireturn, 0, 0) := rfl
theorem w_244_0 {C : CXW} (hC : Cmono C) {S : Nat × (Nat → Int32)} {K : WK} {mem : MM} {x1 x2 : Int} (H : (CWI C 240 [.inr 143] mem fun r2 m1 => InI r2 → ((¬ r2 = 0 → (CWV C 245 [.inr 143] (upm m1 143 0 0) fun m4 => ∀ v5 : Int, v5 = m4 143 12 → InI v5 → (InI (v5 - 1)) ∧ (CWI C 227 [.inl x1, .inl 0, .inl (v5 - 1)] m4 fun r7 m6 => InI r7 → ((¬ r7 = 0 → (CWI C 227 [.inl x2, .inl 0, .inl 3] m6 fun r9 m8 => InI r9 → ((¬ r9 = 0 → ((¬ x2 = 0 → ((¬ x2 = 1 → ((¬ x2 = 2 → ((0 : Int) ≤ x1 ∧ (x1 : Int) < 48) ∧ ∀ v11 : Int, v11 = (upm m8 143 0 0) 157 (Int.toNat x1) → InI v11 → (InI v11 → K (some v11) (upm m8 143 0 0))) ∧ (¬ (¬ x2 = 2) → ((0 : Int) ≤ x1 ∧ (x1 : Int) < 48) ∧ ∀ v12 : Int, v12 = (upm m8 143 0 0) 156 (Int.toNat x1) → InI v12 → (InI v12 → K (some v12) (upm m8 143 0 0))))) ∧ (¬ (¬ x2 = 1) → ((0 : Int) ≤ x1 ∧ (x1 : Int) < 48) ∧ ∀ v13 : Int, v13 = (upm m8 143 0 0) 155 (Int.toNat x1) → InI v13 → (InI v13 → K (some v13) (upm m8 143 0 0))))) ∧ (¬ (¬ x2 = 0) → ((0 : Int) ≤ x1 ∧ (x1 : Int) < 48) ∧ ∀ v14 : Int, v14 = (upm m8 143 0 0) 154 (Int.toNat x1) → InI v14 → (InI v14 → K (some v14) (upm m8 143 0 0))))) ∧ (¬ (¬ r9 = 0) → (InI 0 → K (some 0) (upm m8 143 0 3)))))) ∧ (¬ (¬ r7 = 0) → (InI 0 → K (some 0) (upm m6 143 0 2))))))) ∧ (¬ (¬ r2 = 0) → (InI 0 → K (some 0) (upm m1 143 0 1)))))) : Wx C S M_244 K 0 [some (.inr 143), some (.inl x1), some (.inl x2)] [] mem := by
  refine Wx.aload_n hC te_244_0 rfl ?_
  refine Wx.aload_n hC te_244_1 rfl ?_
  refine Wx.virtI hC te_244_2 mt_240 (args := [.inr 143]) (rest := [.inr 143]) rfl rfl rfl rfl rfl rfl rfl rfl ?_
  refine CWI.mono hC (fun r2 m1 H hy => ?_) H
  replace H := H hy
  refine Wx.ifc hC (t := 12) te_244_5 (by decide) (fun q => ?_) (fun q => ?_)
  · replace H := H.1 q
    refine Wx.iconst hC te_244_12 rfl ?_
    refine Wx.putI hC te_244_13 rfl rfl rfl rfl ?_
    refine Wx.aload_n hC te_244_16 rfl ?_
    refine Wx.getI hC te_244_17 rfl rfl rfl (fun c3 e1 e2 => ?_)
    rw [upm_eq] at e1
    subst e1
    refine Wx.ifc hC (t := 25) te_244_20 (by decide) (fun q => ?_) (fun q => absurd (show (0 : Int) ≤ 0 by decide) q)
    refine Wx.aload_n hC te_244_25 rfl ?_
    refine Wx.virtV hC te_244_26 mt_245 (args := [.inr 143]) (rest := []) rfl rfl rfl rfl rfl rfl rfl rfl ?_
    refine CWV.mono hC (fun m4 H => ?_) H
    refine Wx.aload_n hC te_244_29 rfl ?_
    refine Wx.iload_n hC te_244_30 rfl ?_
    refine Wx.iconst hC te_244_31 rfl ?_
    refine Wx.aload_n hC te_244_32 rfl ?_
    refine Wx.getI hC te_244_33 rfl rfl rfl (fun v5 e1 e2 => ?_)
    replace H := H v5 e1 e2
    refine Wx.iconst hC te_244_36 rfl ?_
    refine Wx.isub hC te_244_37 H.1 ?_
    replace H := H.2
    refine Wx.statI hC te_244_38 (by decide) mt_227 (args := [.inl x1, .inl 0, .inl (v5 - 1)]) (rest := [.inr 143]) rfl rfl rfl rfl rfl ?_
    refine CWI.mono hC (fun r7 m6 H hy => ?_) H
    replace H := H hy
    refine Wx.ifc hC (t := 48) te_244_41 (by decide) (fun q => ?_) (fun q => ?_)
    · replace H := H.1 q
      refine Wx.iload_n hC te_244_48 rfl ?_
      refine Wx.iconst hC te_244_49 rfl ?_
      refine Wx.iconst hC te_244_50 rfl ?_
      refine Wx.statI hC te_244_51 (by decide) mt_227 (args := [.inl x2, .inl 0, .inl 3]) (rest := [.inr 143]) rfl rfl rfl rfl rfl ?_
      refine CWI.mono hC (fun r9 m8 H hy => ?_) H
      replace H := H hy
      refine Wx.ifc hC (t := 61) te_244_54 (by decide) (fun q => ?_) (fun q => ?_)
      · replace H := H.1 q
        refine Wx.iconst hC te_244_61 rfl ?_
        refine Wx.putI hC te_244_62 rfl rfl rfl rfl ?_
        refine Wx.aload_n hC te_244_65 rfl ?_
        refine Wx.getI hC te_244_66 rfl rfl rfl (fun c10 e1 e2 => ?_)
        rw [upm_eq] at e1
        subst e1
        refine Wx.ifc hC (t := 74) te_244_69 (by decide) (fun q => ?_) (fun q => absurd (show (0 : Int) ≤ 0 by decide) q)
        refine Wx.iload_n hC te_244_74 rfl ?_
        refine Wx.ifc hC (t := 87) te_244_75 (by decide) (fun q => ?_) (fun q => ?_)
        · replace H := H.1 q
          refine Wx.iload_n hC te_244_87 rfl ?_
          refine Wx.iconst hC te_244_88 rfl ?_
          refine Wx.icmp hC (t := 101) te_244_89 (by decide) (fun q => ?_) (fun q => ?_)
          · replace H := H.1 q
            refine Wx.iload_n hC te_244_101 rfl ?_
            refine Wx.iconst hC te_244_102 rfl ?_
            refine Wx.icmp hC (t := 115) te_244_103 (by decide) (fun q => ?_) (fun q => ?_)
            · replace H := H.1 q
              refine Wx.aload_n hC te_244_115 rfl ?_
              refine Wx.getR hC te_244_116 rfl rfl rfl ?_
              refine Wx.iload_n hC te_244_119 rfl ?_
              refine Wx.iald hC te_244_120 rfl H.1 (fun v11 e1 e2 => ?_)
              replace H := H.2 v11 e1 e2
              exact Wx.ireturn hC te_244_121 rfl H
            · replace H := H.2 q
              refine Wx.aload_n hC te_244_106 rfl ?_
              refine Wx.getR hC te_244_107 rfl rfl rfl ?_
              refine Wx.iload_n hC te_244_110 rfl ?_
              refine Wx.iald hC te_244_111 rfl H.1 (fun v12 e1 e2 => ?_)
              replace H := H.2 v12 e1 e2
              refine Wx.goto hC (t := 121) te_244_112 (by decide) ?_
              exact Wx.ireturn hC te_244_121 rfl H
          · replace H := H.2 q
            refine Wx.aload_n hC te_244_92 rfl ?_
            refine Wx.getR hC te_244_93 rfl rfl rfl ?_
            refine Wx.iload_n hC te_244_96 rfl ?_
            refine Wx.iald hC te_244_97 rfl H.1 (fun v13 e1 e2 => ?_)
            replace H := H.2 v13 e1 e2
            refine Wx.goto hC (t := 121) te_244_98 (by decide) ?_
            exact Wx.ireturn hC te_244_121 rfl H
        · replace H := H.2 q
          refine Wx.aload_n hC te_244_78 rfl ?_
          refine Wx.getR hC te_244_79 rfl rfl rfl ?_
          refine Wx.iload_n hC te_244_82 rfl ?_
          refine Wx.iald hC te_244_83 rfl H.1 (fun v14 e1 e2 => ?_)
          replace H := H.2 v14 e1 e2
          refine Wx.goto hC (t := 121) te_244_84 (by decide) ?_
          exact Wx.ireturn hC te_244_121 rfl H
      · replace H := H.2 q
        refine Wx.iconst hC te_244_57 rfl ?_
        refine Wx.goto hC (t := 62) te_244_58 (by decide) ?_
        refine Wx.putI hC te_244_62 rfl rfl rfl rfl ?_
        refine Wx.aload_n hC te_244_65 rfl ?_
        refine Wx.getI hC te_244_66 rfl rfl rfl (fun c15 e1 e2 => ?_)
        rw [upm_eq] at e1
        subst e1
        refine Wx.ifc hC (t := 74) te_244_69 (by decide) (fun q => absurd q (show ¬ ((3 : Int) ≤ 0) by decide)) (fun q => ?_)
        refine Wx.iconst hC te_244_72 rfl ?_
        exact Wx.ireturn hC te_244_73 rfl H
    · replace H := H.2 q
      refine Wx.iconst hC te_244_44 rfl ?_
      refine Wx.goto hC (t := 62) te_244_45 (by decide) ?_
      refine Wx.putI hC te_244_62 rfl rfl rfl rfl ?_
      refine Wx.aload_n hC te_244_65 rfl ?_
      refine Wx.getI hC te_244_66 rfl rfl rfl (fun c16 e1 e2 => ?_)
      rw [upm_eq] at e1
      subst e1
      refine Wx.ifc hC (t := 74) te_244_69 (by decide) (fun q => absurd q (show ¬ ((2 : Int) ≤ 0) by decide)) (fun q => ?_)
      refine Wx.iconst hC te_244_72 rfl ?_
      exact Wx.ireturn hC te_244_73 rfl H
  · replace H := H.2 q
    refine Wx.iconst hC te_244_8 rfl ?_
    refine Wx.goto hC (t := 13) te_244_9 (by decide) ?_
    refine Wx.putI hC te_244_13 rfl rfl rfl rfl ?_
    refine Wx.aload_n hC te_244_16 rfl ?_
    refine Wx.getI hC te_244_17 rfl rfl rfl (fun c17 e1 e2 => ?_)
    rw [upm_eq] at e1
    subst e1
    refine Wx.ifc hC (t := 25) te_244_20 (by decide) (fun q => absurd q (show ¬ ((1 : Int) ≤ 0) by decide)) (fun q => ?_)
    refine Wx.iconst hC te_244_23 rfl ?_
    exact Wx.ireturn hC te_244_24 rfl H
end
