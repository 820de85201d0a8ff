/-! laid by wip/hand/tg.py: the seeker: settle -/
set_option maxRecDepth 100000 in
theorem mt_96 : MT[96]? = some M_96 := rfl
theorem te_96_0 : (pT M_96).find? (fun e => e.1 == 0) = some (0, .iconst (-1), 0, 0) := rfl
theorem te_96_1 : (pT M_96).find? (fun e => e.1 == 1) = some (1, .istore_n 2, 0, 0) := rfl
theorem te_96_2 : (pT M_96).find? (fun e => e.1 == 2) = some (2, .aload_n 0, 0, 0) := rfl
theorem te_96_3 : (pT M_96).find? (fun e => e.1 == 3) = some (3, .getfield 109, 6, 2) := rfl
theorem te_96_6 : (pT M_96).find? (fun e => e.1 == 6) = some (6, .istore_n 3, 0, 0) := rfl
theorem te_96_7 : (pT M_96).find? (fun e => e.1 == 7) = some (7, .iconst 0, 0, 0) := rfl
theorem te_96_8 : (pT M_96).find? (fun e => e.1 == 8) = some (8, .istore 4, 0, 0) := rfl
theorem te_96_10 : (pT M_96).find? (fun e => e.1 == 10) = some (10, .iload 4, 0, 0) := rfl
theorem te_96_12 : (pT M_96).find? (fun e => e.1 == 12) = some (12, .aload_n 0, 0, 0) := rfl
theorem te_96_13 : (pT M_96).find? (fun e => e.1 == 13) = some (13, .getfield 70, 6, 0) := rfl
theorem te_96_16 : (pT M_96).find? (fun e => e.1 == 16) = some (16, .if_icmp .ge 69, 0, 0) := rfl
theorem te_96_19 : (pT M_96).find? (fun e => e.1 == 19) = some (19, .iload_n 3, 0, 0) := rfl
theorem te_96_20 : (pT M_96).find? (fun e => e.1 == 20) = some (20, .ifCond .eq 65, 0, 0) := rfl
theorem te_96_23 : (pT M_96).find? (fun e => e.1 == 23) = some (23, .aload_n 0, 0, 0) := rfl
theorem te_96_24 : (pT M_96).find? (fun e => e.1 == 24) = some (24, .getfield 74, 6, 3) := rfl
theorem te_96_27 : (pT M_96).find? (fun e => e.1 == 27) = some (27, .aload_n 0, 0, 0) := rfl
theorem te_96_28 : (pT M_96).find? (fun e => e.1 == 28) = some (28, .getfield 97, 6, 4) := rfl
theorem te_96_31 : (pT M_96).find? (fun e => e.1 == 31) = some (31, .iconst (-1), 0, 0) := rfl
theorem te_96_32 : (pT M_96).find? (fun e => e.1 == 32) = some (32, .ixor, 0, 0) := rfl
theorem te_96_33 : (pT M_96).find? (fun e => e.1 == 33) = some (33, .iand, 0, 0) := rfl
theorem te_96_34 : (pT M_96).find? (fun e => e.1 == 34) = some (34, .iconst 1, 0, 0) := rfl
theorem te_96_35 : (pT M_96).find? (fun e => e.1 == 35) = some (35, .iload 4, 0, 0) := rfl
theorem te_96_37 : (pT M_96).find? (fun e => e.1 == 37) = some (37, .ishl, 0, 0) := rfl
theorem te_96_38 : (pT M_96).find? (fun e => e.1 == 38) = some (38, .iand, 0, 0) := rfl
theorem te_96_39 : (pT M_96).find? (fun e => e.1 == 39) = some (39, .ifCond .eq 40, 0, 0) := rfl
theorem te_96_42 : (pT M_96).find? (fun e => e.1 == 42) = some (42, .aload_n 0, 0, 0) := rfl
theorem te_96_43 : (pT M_96).find? (fun e => e.1 == 43) = some (43, .iload 4, 0, 0) := rfl
theorem te_96_45 : (pT M_96).find? (fun e => e.1 == 45) = some (45, .invokevirtual 100, 97, 0) := rfl
theorem te_96_48 : (pT M_96).find? (fun e => e.1 == 48) = some (48, .istore 5, 0, 0) := rfl
theorem te_96_50 : (pT M_96).find? (fun e => e.1 == 50) = some (50, .iload_n 2, 0, 0) := rfl
theorem te_96_51 : (pT M_96).find? (fun e => e.1 == 51) = some (51, .iconst (-1), 0, 0) := rfl
theorem te_96_52 : (pT M_96).find? (fun e => e.1 == 52) = some (52, .if_icmp .eq 21, 0, 0) := rfl
theorem te_96_55 : (pT M_96).find? (fun e => e.1 == 55) = some (55, .iload 5, 0, 0) := rfl
theorem te_96_57 : (pT M_96).find? (fun e => e.1 == 57) = some (57, .ifCond .eq 16, 0, 0) := rfl
theorem te_96_60 : (pT M_96).find? (fun e => e.1 == 60) = some (60, .aload_n 0, 0, 0) := rfl
theorem te_96_61 : (pT M_96).find? (fun e => e.1 == 61) = some (61, .iload 4, 0, 0) := rfl
theorem te_96_63 : (pT M_96).find? (fun e => e.1 == 63) = some (63, .iload 5, 0, 0) := rfl
theorem te_96_65 : (pT M_96).find? (fun e => e.1 == 65) = some (65, .iload_n 2, 0, 0) := rfl
theorem te_96_66 : (pT M_96).find? (fun e => e.1 == 66) = some (66, .iload_n 3, 0, 0) := rfl
theorem te_96_67 : (pT M_96).find? (fun e => e.1 == 67) = some (67, .invokevirtual 135, 100, 0) := rfl
theorem te_96_70 : (pT M_96).find? (fun e => e.1 == 70) = some (70, .ifCond .eq 9, 0, 0) := rfl
theorem te_96_73 : (pT M_96).find? (fun e => e.1 == 73) = some (73, .iload 4, 0, 0) := rfl
theorem te_96_75 : (pT M_96).find? (fun e => e.1 == 75) = some (75, .istore_n 2, 0, 0) := rfl
theorem te_96_76 : (pT M_96).find? (fun e => e.1 == 76) = some (76, .iload 5, 0, 0) := rfl
theorem te_96_78 : (pT M_96).find? (fun e => e.1 == 78) = some (78, .istore_n 3, 0, 0) := rfl
theorem te_96_79 : (pT M_96).find? (fun e => e.1 == 79) = some (79, .iinc 4 1, 0, 0) := rfl
theorem te_96_82 : (pT M_96).find? (fun e => e.1 == 82) = some (82, .goto (-72), 0, 0) := rfl
theorem te_96_85 : (pT M_96).find? (fun e => e.1 == 85) = some (85, .iload_n 2, 0, 0) := rfl
theorem te_96_86 : (pT M_96).find? (fun e => e.1 == 86) = some (86, .iconst (-1), 0, 0) := rfl
theorem te_96_87 : (pT M_96).find? (fun e => e.1 == 87) = some (87, .if_icmp .ne 9, 0, 0) := rfl
theorem te_96_90 : (pT M_96).find? (fun e => e.1 == 90) = some (90, .aload_n 0, 0, 0) := rfl
theorem te_96_91 : (pT M_96).find? (fun e => e.1 == 91) = some (91, .invokevirtual 139, 101, 0) := rfl
theorem te_96_94 : (pT M_96).find? (fun e => e.1 == 94) = some (94, .iconst 1, 0, 0) := rfl
theorem te_96_95 : (pT M_96).find? (fun e => e.1 == 95) = some (95, .ireturn, 0, 0) := rfl
theorem te_96_96 : (pT M_96).find? (fun e => e.1 == 96) = some (96, .iload_n 3, 0, 0) := rfl
theorem te_96_97 : (pT M_96).find? (fun e => e.1 == 97) = some (97, .ifCond .ne 13, 0, 0) := rfl
theorem te_96_100 : (pT M_96).find? (fun e => e.1 == 100) = some (100, .aload_n 0, 0, 0) := rfl
theorem te_96_101 : (pT M_96).find? (fun e => e.1 == 101) = some (101, .getfield 54, 6, 19) := rfl
theorem te_96_104 : (pT M_96).find? (fun e => e.1 == 104) = some (104, .iload_n 2, 0, 0) := rfl
theorem te_96_105 : (pT M_96).find? (fun e => e.1 == 105) = some (105, .dup2, 0, 0) := rfl
theorem te_96_106 : (pT M_96).find? (fun e => e.1 == 106) = some (106, .iaload, 0, 0) := rfl
theorem te_96_107 : (pT M_96).find? (fun e => e.1 == 107) = some (107, .iconst 1, 0, 0) := rfl
theorem te_96_108 : (pT M_96).find? (fun e => e.1 == 108) = some (108, .iadd, 0, 0) := rfl
theorem te_96_109 : (pT M_96).find? (fun e => e.1 == 109) = some (109, .iastore, 0, 0) := rfl
theorem te_96_110 : (pT M_96).find? (fun e => e.1 == 110) = some (110, .iload_n 1, 0, 0) := rfl
theorem te_96_111 : (pT M_96).find? (fun e => e.1 == 111) = some (111, .bipush 8, 0, 0) := rfl
theorem te_96_113 : (pT M_96).find? (fun e => e.1 == 113) = some (113, .if_icmp .le 5, 0, 0) := rfl
theorem te_96_116 : (pT M_96).find? (fun e => e.1 == 116) = some (116, .iconst 0, 0, 0) := rfl
theorem te_96_117 : (pT M_96).find? (fun e => e.1 == 117) = some (117, .ireturn, 0, 0) := rfl
theorem te_96_118 : (pT M_96).find? (fun e => e.1 == 118) = some (118, .iconst 0, 0, 0) := rfl
theorem te_96_119 : (pT M_96).find? (fun e => e.1 == 119) = some (119, .istore 4, 0, 0) := rfl
theorem te_96_121 : (pT M_96).find? (fun e => e.1 == 121) = some (121, .iconst 0, 0, 0) := rfl
theorem te_96_122 : (pT M_96).find? (fun e => e.1 == 122) = some (122, .istore 5, 0, 0) := rfl
theorem te_96_124 : (pT M_96).find? (fun e => e.1 == 124) = some (124, .iload 5, 0, 0) := rfl
theorem te_96_126 : (pT M_96).find? (fun e => e.1 == 126) = some (126, .aload_n 0, 0, 0) := rfl
theorem te_96_127 : (pT M_96).find? (fun e => e.1 == 127) = some (127, .getfield 103, 6, 1) := rfl
theorem te_96_130 : (pT M_96).find? (fun e => e.1 == 130) = some (130, .if_icmp .ge 55, 0, 0) := rfl
theorem te_96_133 : (pT M_96).find? (fun e => e.1 == 133) = some (133, .iload 4, 0, 0) := rfl
theorem te_96_135 : (pT M_96).find? (fun e => e.1 == 135) = some (135, .ifCond .ne 50, 0, 0) := rfl
theorem te_96_138 : (pT M_96).find? (fun e => e.1 == 138) = some (138, .iload_n 3, 0, 0) := rfl
theorem te_96_139 : (pT M_96).find? (fun e => e.1 == 139) = some (139, .iconst 1, 0, 0) := rfl
theorem te_96_140 : (pT M_96).find? (fun e => e.1 == 140) = some (140, .iload 5, 0, 0) := rfl
theorem te_96_142 : (pT M_96).find? (fun e => e.1 == 142) = some (142, .ishl, 0, 0) := rfl
theorem te_96_143 : (pT M_96).find? (fun e => e.1 == 143) = some (143, .iand, 0, 0) := rfl
theorem te_96_144 : (pT M_96).find? (fun e => e.1 == 144) = some (144, .ifCond .eq 35, 0, 0) := rfl
theorem te_96_147 : (pT M_96).find? (fun e => e.1 == 147) = some (147, .aload_n 0, 0, 0) := rfl
theorem te_96_148 : (pT M_96).find? (fun e => e.1 == 148) = some (148, .iload_n 2, 0, 0) := rfl
theorem te_96_149 : (pT M_96).find? (fun e => e.1 == 149) = some (149, .iload 5, 0, 0) := rfl
theorem te_96_151 : (pT M_96).find? (fun e => e.1 == 151) = some (151, .invokevirtual 77, 91, 0) := rfl
theorem te_96_154 : (pT M_96).find? (fun e => e.1 == 154) = some (154, .ifCond .eq 17, 0, 0) := rfl
theorem te_96_157 : (pT M_96).find? (fun e => e.1 == 157) = some (157, .aload_n 0, 0, 0) := rfl
theorem te_96_158 : (pT M_96).find? (fun e => e.1 == 158) = some (158, .iload_n 1, 0, 0) := rfl
theorem te_96_159 : (pT M_96).find? (fun e => e.1 == 159) = some (159, .iconst 1, 0, 0) := rfl
theorem te_96_160 : (pT M_96).find? (fun e => e.1 == 160) = some (160, .iadd, 0, 0) := rfl
theorem te_96_161 : (pT M_96).find? (fun e => e.1 == 161) = some (161, .invokevirtual 81, 96, 0) := rfl
theorem te_96_164 : (pT M_96).find? (fun e => e.1 == 164) = some (164, .ifCond .eq 7, 0, 0) := rfl
theorem te_96_167 : (pT M_96).find? (fun e => e.1 == 167) = some (167, .iconst 1, 0, 0) := rfl
theorem te_96_168 : (pT M_96).find? (fun e => e.1 == 168) = some (168, .goto 4, 0, 0) := rfl
theorem te_96_171 : (pT M_96).find? (fun e => e.1 == 171) = some (171, .iconst 0, 0, 0) := rfl
theorem te_96_172 : (pT M_96).find? (fun e => e.1 == 172) = some (172, .istore 4, 0, 0) := rfl
theorem te_96_174 : (pT M_96).find? (fun e => e.1 == 174) = some (174, .aload_n 0, 0, 0) := rfl
theorem te_96_175 : (pT M_96).find? (fun e => e.1 == 175) = some (175, .iload_n 2, 0, 0) := rfl
theorem te_96_176 : (pT M_96).find? (fun e => e.1 == 176) = some (176, .invokevirtual 85, 102, 0) := rfl
theorem te_96_179 : (pT M_96).find? (fun e => e.1 == 179) = some (179, .iinc 5 1, 0, 0) := rfl
theorem te_96_182 : (pT M_96).find? (fun e => e.1 == 182) = some (182, .goto (-58), 0, 0) := rfl
theorem te_96_185 : (pT M_96).find? (fun e => e.1 == 185) = some (185, .iload 4, 0, 0) := rfl
theorem te_96_187 : (pT M_96).find? (fun e => e.1 == 187) = some (187, .ireturn, 0, 0) := rfl
theorem g_96 {S : Nat × (Nat → Int32)} {n : Nat} {mem : MM} {K : Int → MM → Prop} {E : Nat → MM → Prop} {d : Int} (hS : SkO mem d) {y : Int} (rec : ∀ z, z = y + 1 → y ≤ 8 → ∀ (m : MM) (K' : Int → MM → Prop) (E' : Nat → MM → Prop), SkO m d → (∀ r m', r = 0 ∨ r = 1 → FrS m m' → K' r m') → CQI (Ex S (n + 3)) 96 [.inr 21, .inl z] m K' E') (H : ∀ r m', r = 0 ∨ r = 1 → FrS mem m' → K r m') : CQI (Ex S (n + 4)) 96 [.inr 21, .inl y] mem K E := by
  refine CY.of (k := 4) mt_96 rfl rfl (fun hv => ?_)
  have hC := Ex.mono S (n + 3)
  have ii_y : InI y := hv (.inl y) (by simp)
  unfold InI at ii_y
  clear hv
  have hs0 := hS.1
  have hs1 := hS.2.1
  show Tx (Ex S (n + 3)) S M_96 (kI K E) 0 0 0 [some (.inr 21), some (.inl y), none, none, none, none] [] mem
  have l_124 : ∀ (N : Nat) (x2 x3 x4 x5 : Int) (m_124 : MM), (0 ≤ x5) → (0 ≤ x2 ∧ x2 < mem 21 0) → (x4 = 0 ∨ x4 = 1) → (y ≤ 8) → ((12 - x5).toNat) < N → FrS mem m_124 → Tx (Ex S (n + 3)) S M_96 (kI K E) 0 0 124 [some (.inr 21), some (.inl y), some (.inl x2), some (.inl x3), some (.inl x4), some (.inl x5)] [] m_124 := by
    intro N
    induction N with
    | zero => intros; omega
    | succ N ih_124 =>
      intro x2 x3 x4 x5 m_124 i124_0 i124_1 i124_2 i124_3 hN_124 hF_124
      refine Tx.iload hC te_96_124 rfl ?_
      refine Tx.aload_n hC te_96_126 rfl ?_
      refine Tx.getI hC te_96_127 rfl rfl rfl (fun v1 v1e v1i => ?_)
      unfold InI at v1i
      rw [FrS.at hF_124 21 _ (by unfold pSk; omega)] at v1e
      refine Tx.icmp hC (t := 185) te_96_130 (by decide) (fun q2 => ?_) (fun q2 => ?_)
      · replace q2 : v1 ≤ (x5 : Int) := q2
        refine Tx.iload hC te_96_185 rfl ?_
        exact Tx.bret hC te_96_187 rfl (by omega) (show K x4 m_124 from H _ _ (by omega) hF_124)
      · replace q2 : ¬ (v1 ≤ (x5 : Int)) := q2
        refine Tx.iload hC te_96_133 rfl ?_
        refine Tx.ifc hC (t := 185) te_96_135 (by decide) (fun q3 => ?_) (fun q3 => ?_)
        · replace q3 : ¬ (x4 : Int) = 0 := q3
          refine Tx.iload hC te_96_185 rfl ?_
          exact Tx.bret hC te_96_187 rfl (by omega) (show K x4 m_124 from H _ _ (by omega) hF_124)
        · replace q3 : ¬ (¬ (x4 : Int) = 0) := q3
          refine Tx.iload_n hC te_96_138 rfl ?_
          refine Tx.iconst hC te_96_139 rfl ?_
          refine Tx.iload hC te_96_140 rfl ?_
          refine Tx.bits hC (f := (fun (x y : Int32) => x <<< (y &&& 31))) te_96_142 (fun _ _ _ _ => Iff.rfl) (fun b4 b4e b4i => ?_)
          unfold InI at b4i
          refine Tx.bits hC (f := (fun (x y : Int32) => x &&& y)) te_96_143 (fun _ _ _ _ => Iff.rfl) (fun b5 b5e b5i => ?_)
          unfold InI at b5i
          refine Tx.ifc hC (t := 179) te_96_144 (by decide) (fun q6 => ?_) (fun q6 => ?_)
          · replace q6 : (b5 : Int) = 0 := q6
            refine Tx.iincW hC te_96_179 rfl rfl (fun z7 z7i z7e => ?_)
            unfold InI at z7i z7e
            first | replace z7e := z7e (by omega) | clear z7e
            refine Tx.goto hC (t := 124) te_96_182 (by decide) ?_
            exact ih_124 x2 x3 x4 z7 m_124 (by omega) (by omega) (by omega) (by omega) (by omega) hF_124
          · replace q6 : ¬ ((b5 : Int) = 0) := q6
            refine Tx.aload_n hC te_96_147 rfl ?_
            refine Tx.iload_n hC te_96_148 rfl ?_
            refine Tx.iload hC te_96_149 rfl ?_
            refine Tx.virtI hC te_96_151 mt_91 (args := [.inr 21, .inl x2, .inl x5]) (rest := []) (c' := 0) (s' := 0) rfl rfl rfl rfl rfl rfl rfl rfl rfl rfl ?_
            refine f_91 (FrS.sk hF_124 hS) (by omega) (by omega) (fun r8 m9 r8b hF10 r8i => ?_)
            have hF10n : FrS mem m9 := FrS.tr hF_124 hF10
            unfold InI at r8i
            refine Tx.ifc hC (t := 171) te_96_154 (by decide) (fun q11 => ?_) (fun q11 => ?_)
            · replace q11 : (r8 : Int) = 0 := q11
              refine Tx.iconst hC te_96_171 rfl ?_
              refine Tx.istore hC te_96_172 rfl ?_
              refine Tx.aload_n hC te_96_174 rfl ?_
              refine Tx.iload_n hC te_96_175 rfl ?_
              refine Tx.virtV hC te_96_176 mt_102 (args := [.inr 21, .inl x2]) (rest := []) (c' := 0) (s' := 0) rfl rfl rfl rfl rfl rfl rfl rfl rfl rfl ?_
              refine f_102 (FrS.sk hF10n hS) (by omega) (fun m13 hF14 => ?_)
              have hF14n : FrS mem m13 := FrS.tr hF10n hF14
              refine Tx.iincW hC te_96_179 rfl rfl (fun z15 z15i z15e => ?_)
              unfold InI at z15i z15e
              first | replace z15e := z15e (by omega) | clear z15e
              refine Tx.goto hC (t := 124) te_96_182 (by decide) ?_
              exact ih_124 x2 x3 0 z15 m13 (by omega) (by omega) (by omega) (by omega) (by omega) hF14n
            · replace q11 : ¬ ((r8 : Int) = 0) := q11
              refine Tx.aload_n hC te_96_157 rfl ?_
              refine Tx.iload_n hC te_96_158 rfl ?_
              refine Tx.iconst hC te_96_159 rfl ?_
              refine Tx.iaddW hC te_96_160 (fun z16 z16i z16e => ?_)
              unfold InI at z16i z16e
              first | replace z16e := z16e (by omega) | clear z16e
              refine Tx.virtI hC te_96_161 mt_96 (args := [.inr 21, .inl z16]) (rest := []) (c' := 0) (s' := 0) rfl rfl rfl rfl rfl rfl rfl rfl rfl rfl ?_
              refine rec z16 (by omega) (by omega) _ _ _ (FrS.sk hF10n hS) (fun r17 m18 r17b hF19 r17i => ?_)
              have hF19n : FrS mem m18 := FrS.tr hF10n hF19
              unfold InI at r17i
              refine Tx.ifc hC (t := 171) te_96_164 (by decide) (fun q20 => ?_) (fun q20 => ?_)
              · replace q20 : (r17 : Int) = 0 := q20
                refine Tx.iconst hC te_96_171 rfl ?_
                refine Tx.istore hC te_96_172 rfl ?_
                refine Tx.aload_n hC te_96_174 rfl ?_
                refine Tx.iload_n hC te_96_175 rfl ?_
                refine Tx.virtV hC te_96_176 mt_102 (args := [.inr 21, .inl x2]) (rest := []) (c' := 0) (s' := 0) rfl rfl rfl rfl rfl rfl rfl rfl rfl rfl ?_
                refine f_102 (FrS.sk hF19n hS) (by omega) (fun m22 hF23 => ?_)
                have hF23n : FrS mem m22 := FrS.tr hF19n hF23
                refine Tx.iincW hC te_96_179 rfl rfl (fun z24 z24i z24e => ?_)
                unfold InI at z24i z24e
                first | replace z24e := z24e (by omega) | clear z24e
                refine Tx.goto hC (t := 124) te_96_182 (by decide) ?_
                exact ih_124 x2 x3 0 z24 m22 (by omega) (by omega) (by omega) (by omega) (by omega) hF23n
              · replace q20 : ¬ ((r17 : Int) = 0) := q20
                refine Tx.iconst hC te_96_167 rfl ?_
                refine Tx.goto hC (t := 172) te_96_168 (by decide) ?_
                refine Tx.istore hC te_96_172 rfl ?_
                refine Tx.aload_n hC te_96_174 rfl ?_
                refine Tx.iload_n hC te_96_175 rfl ?_
                refine Tx.virtV hC te_96_176 mt_102 (args := [.inr 21, .inl x2]) (rest := []) (c' := 0) (s' := 0) rfl rfl rfl rfl rfl rfl rfl rfl rfl rfl ?_
                refine f_102 (FrS.sk hF19n hS) (by omega) (fun m26 hF27 => ?_)
                have hF27n : FrS mem m26 := FrS.tr hF19n hF27
                refine Tx.iincW hC te_96_179 rfl rfl (fun z28 z28i z28e => ?_)
                unfold InI at z28i z28e
                first | replace z28e := z28e (by omega) | clear z28e
                refine Tx.goto hC (t := 124) te_96_182 (by decide) ?_
                exact ih_124 x2 x3 1 z28 m26 (by omega) (by omega) (by omega) (by omega) (by omega) hF27n
  have l_10 : ∀ (N : Nat) (x2 x3 x4 : Int) (m_10 : MM), (0 ≤ x4) → (-1 ≤ x2 ∧ x2 < mem 21 0) → ((8 - x4).toNat) < N → FrS mem m_10 → Tx (Ex S (n + 3)) S M_96 (kI K E) 0 0 10 [some (.inr 21), some (.inl y), some (.inl x2), some (.inl x3), some (.inl x4), none] [] m_10 := by
    intro N
    induction N with
    | zero => intros; omega
    | succ N ih_10 =>
      intro x2 x3 x4 m_10 i10_0 i10_1 hN_10 hF_10
      refine Tx.iload hC te_96_10 rfl ?_
      refine Tx.aload_n hC te_96_12 rfl ?_
      refine Tx.getI hC te_96_13 rfl rfl rfl (fun v29 v29e v29i => ?_)
      unfold InI at v29i
      rw [FrS.at hF_10 21 _ (by unfold pSk; omega)] at v29e
      refine Tx.icmp hC (t := 85) te_96_16 (by decide) (fun q30 => ?_) (fun q30 => ?_)
      · replace q30 : v29 ≤ (x4 : Int) := q30
        refine Tx.iload_n hC te_96_85 rfl ?_
        refine Tx.iconst hC te_96_86 rfl ?_
        refine Tx.icmp hC (t := 96) te_96_87 (by decide) (fun q31 => ?_) (fun q31 => ?_)
        · replace q31 : ¬ (x2 : Int) = (-1) := q31
          refine Tx.iload_n hC te_96_96 rfl ?_
          refine Tx.ifc hC (t := 110) te_96_97 (by decide) (fun q32 => ?_) (fun q32 => ?_)
          · replace q32 : ¬ (x3 : Int) = 0 := q32
            refine Tx.iload_n hC te_96_110 rfl ?_
            refine Tx.bipush hC te_96_111 rfl rfl ?_
            refine Tx.icmp hC (t := 118) te_96_113 (by decide) (fun q33 => ?_) (fun q33 => ?_)
            · replace q33 : (y : Int) ≤ 8 := q33
              refine Tx.iconst hC te_96_118 rfl ?_
              refine Tx.istore hC te_96_119 rfl ?_
              refine Tx.iconst hC te_96_121 rfl ?_
              refine Tx.istore hC te_96_122 rfl ?_
              exact l_124 _ x2 x3 0 0 m_10 (by omega) (by omega) (by omega) (by omega) (Nat.lt_succ_self _) hF_10
            · replace q33 : ¬ ((y : Int) ≤ 8) := q33
              refine Tx.iconst hC te_96_116 rfl ?_
              exact Tx.bret hC te_96_117 rfl (by omega) (show K 0 m_10 from H _ _ (by omega) hF_10)
          · replace q32 : ¬ (¬ (x3 : Int) = 0) := q32
            refine Tx.aload_n hC te_96_100 rfl ?_
            refine Tx.getR hC te_96_101 rfl rfl rfl ?_
            refine Tx.iload_n hC te_96_104 rfl ?_
            refine Tx.dup2 hC te_96_105 ?_
            refine Tx.iald hC te_96_106 rfl (by omega) (fun v34 v34e v34i => ?_)
            unfold InI at v34i
            refine Tx.iconst hC te_96_107 rfl ?_
            refine Tx.iaddW hC te_96_108 (fun z35 z35i z35e => ?_)
            unfold InI at z35i z35e
            first | replace z35e := z35e (by omega) | clear z35e
            refine Tx.iast hC te_96_109 rfl (by omega) ?_
            have hF37 : FrS mem (upm m_10 36 (Int.toNat x2) z35) := FrS.up hF_10 (by unfold pSk; omega) (by omega)
            generalize upm m_10 36 (Int.toNat x2) z35 = m36 at hF37 ⊢
            refine Tx.iload_n hC te_96_110 rfl ?_
            refine Tx.bipush hC te_96_111 rfl rfl ?_
            refine Tx.icmp hC (t := 118) te_96_113 (by decide) (fun q38 => ?_) (fun q38 => ?_)
            · replace q38 : (y : Int) ≤ 8 := q38
              refine Tx.iconst hC te_96_118 rfl ?_
              refine Tx.istore hC te_96_119 rfl ?_
              refine Tx.iconst hC te_96_121 rfl ?_
              refine Tx.istore hC te_96_122 rfl ?_
              exact l_124 _ x2 x3 0 0 m36 (by omega) (by omega) (by omega) (by omega) (Nat.lt_succ_self _) hF37
            · replace q38 : ¬ ((y : Int) ≤ 8) := q38
              refine Tx.iconst hC te_96_116 rfl ?_
              exact Tx.bret hC te_96_117 rfl (by omega) (show K 0 m36 from H _ _ (by omega) hF37)
        · replace q31 : ¬ (¬ (x2 : Int) = (-1)) := q31
          refine Tx.aload_n hC te_96_90 rfl ?_
          refine Tx.virtV hC te_96_91 mt_101 (args := [.inr 21]) (rest := []) (c' := 0) (s' := 0) rfl rfl rfl rfl rfl rfl rfl rfl rfl rfl ?_
          refine f_101 (FrS.sk hF_10 hS) (fun m40 hF41 => ?_)
          have hF41n : FrS mem m40 := FrS.tr hF_10 hF41
          refine Tx.iconst hC te_96_94 rfl ?_
          exact Tx.bret hC te_96_95 rfl (by omega) (show K 1 m40 from H _ _ (by omega) hF41n)
      · replace q30 : ¬ (v29 ≤ (x4 : Int)) := q30
        refine Tx.iload_n hC te_96_19 rfl ?_
        refine Tx.ifc hC (t := 85) te_96_20 (by decide) (fun q42 => ?_) (fun q42 => ?_)
        · replace q42 : (x3 : Int) = 0 := q42
          refine Tx.iload_n hC te_96_85 rfl ?_
          refine Tx.iconst hC te_96_86 rfl ?_
          refine Tx.icmp hC (t := 96) te_96_87 (by decide) (fun q43 => ?_) (fun q43 => ?_)
          · replace q43 : ¬ (x2 : Int) = (-1) := q43
            refine Tx.iload_n hC te_96_96 rfl ?_
            refine Tx.ifc hC (t := 110) te_96_97 (by decide) (fun q44 => ?_) (fun q44 => ?_)
            · replace q44 : ¬ (x3 : Int) = 0 := q44
              refine Tx.iload_n hC te_96_110 rfl ?_
              refine Tx.bipush hC te_96_111 rfl rfl ?_
              refine Tx.icmp hC (t := 118) te_96_113 (by decide) (fun q45 => ?_) (fun q45 => ?_)
              · replace q45 : (y : Int) ≤ 8 := q45
                refine Tx.iconst hC te_96_118 rfl ?_
                refine Tx.istore hC te_96_119 rfl ?_
                refine Tx.iconst hC te_96_121 rfl ?_
                refine Tx.istore hC te_96_122 rfl ?_
                exact l_124 _ x2 x3 0 0 m_10 (by omega) (by omega) (by omega) (by omega) (Nat.lt_succ_self _) hF_10
              · replace q45 : ¬ ((y : Int) ≤ 8) := q45
                refine Tx.iconst hC te_96_116 rfl ?_
                exact Tx.bret hC te_96_117 rfl (by omega) (show K 0 m_10 from H _ _ (by omega) hF_10)
            · replace q44 : ¬ (¬ (x3 : Int) = 0) := q44
              refine Tx.aload_n hC te_96_100 rfl ?_
              refine Tx.getR hC te_96_101 rfl rfl rfl ?_
              refine Tx.iload_n hC te_96_104 rfl ?_
              refine Tx.dup2 hC te_96_105 ?_
              refine Tx.iald hC te_96_106 rfl (by omega) (fun v46 v46e v46i => ?_)
              unfold InI at v46i
              refine Tx.iconst hC te_96_107 rfl ?_
              refine Tx.iaddW hC te_96_108 (fun z47 z47i z47e => ?_)
              unfold InI at z47i z47e
              first | replace z47e := z47e (by omega) | clear z47e
              refine Tx.iast hC te_96_109 rfl (by omega) ?_
              have hF49 : FrS mem (upm m_10 36 (Int.toNat x2) z47) := FrS.up hF_10 (by unfold pSk; omega) (by omega)
              generalize upm m_10 36 (Int.toNat x2) z47 = m48 at hF49 ⊢
              refine Tx.iload_n hC te_96_110 rfl ?_
              refine Tx.bipush hC te_96_111 rfl rfl ?_
              refine Tx.icmp hC (t := 118) te_96_113 (by decide) (fun q50 => ?_) (fun q50 => ?_)
              · replace q50 : (y : Int) ≤ 8 := q50
                refine Tx.iconst hC te_96_118 rfl ?_
                refine Tx.istore hC te_96_119 rfl ?_
                refine Tx.iconst hC te_96_121 rfl ?_
                refine Tx.istore hC te_96_122 rfl ?_
                exact l_124 _ x2 x3 0 0 m48 (by omega) (by omega) (by omega) (by omega) (Nat.lt_succ_self _) hF49
              · replace q50 : ¬ ((y : Int) ≤ 8) := q50
                refine Tx.iconst hC te_96_116 rfl ?_
                exact Tx.bret hC te_96_117 rfl (by omega) (show K 0 m48 from H _ _ (by omega) hF49)
          · replace q43 : ¬ (¬ (x2 : Int) = (-1)) := q43
            refine Tx.aload_n hC te_96_90 rfl ?_
            refine Tx.virtV hC te_96_91 mt_101 (args := [.inr 21]) (rest := []) (c' := 0) (s' := 0) rfl rfl rfl rfl rfl rfl rfl rfl rfl rfl ?_
            refine f_101 (FrS.sk hF_10 hS) (fun m52 hF53 => ?_)
            have hF53n : FrS mem m52 := FrS.tr hF_10 hF53
            refine Tx.iconst hC te_96_94 rfl ?_
            exact Tx.bret hC te_96_95 rfl (by omega) (show K 1 m52 from H _ _ (by omega) hF53n)
        · replace q42 : ¬ ((x3 : Int) = 0) := q42
          refine Tx.aload_n hC te_96_23 rfl ?_
          refine Tx.getI hC te_96_24 rfl rfl rfl (fun v54 v54e v54i => ?_)
          unfold InI at v54i
          refine Tx.aload_n hC te_96_27 rfl ?_
          refine Tx.getI hC te_96_28 rfl rfl rfl (fun v55 v55e v55i => ?_)
          unfold InI at v55i
          refine Tx.iconst hC te_96_31 rfl ?_
          refine Tx.bits hC (f := (fun (x y : Int32) => x ^^^ y)) te_96_32 (fun _ _ _ _ => Iff.rfl) (fun b56 b56e b56i => ?_)
          unfold InI at b56i
          refine Tx.bits hC (f := (fun (x y : Int32) => x &&& y)) te_96_33 (fun _ _ _ _ => Iff.rfl) (fun b57 b57e b57i => ?_)
          unfold InI at b57i
          refine Tx.iconst hC te_96_34 rfl ?_
          refine Tx.iload hC te_96_35 rfl ?_
          refine Tx.bits hC (f := (fun (x y : Int32) => x <<< (y &&& 31))) te_96_37 (fun _ _ _ _ => Iff.rfl) (fun b58 b58e b58i => ?_)
          unfold InI at b58i
          refine Tx.bits hC (f := (fun (x y : Int32) => x &&& y)) te_96_38 (fun _ _ _ _ => Iff.rfl) (fun b59 b59e b59i => ?_)
          unfold InI at b59i
          refine Tx.ifc hC (t := 79) te_96_39 (by decide) (fun q60 => ?_) (fun q60 => ?_)
          · replace q60 : (b59 : Int) = 0 := q60
            refine Tx.iincW hC te_96_79 rfl rfl (fun z61 z61i z61e => ?_)
            unfold InI at z61i z61e
            first | replace z61e := z61e (by omega) | clear z61e
            refine Tx.goto hC (t := 10) te_96_82 (by decide) ?_
            exact ih_10 x2 x3 z61 m_10 (by omega) (by omega) (by omega) hF_10
          · replace q60 : ¬ ((b59 : Int) = 0) := q60
            refine Tx.aload_n hC te_96_42 rfl ?_
            refine Tx.iload hC te_96_43 rfl ?_
            refine Tx.virtI hC te_96_45 mt_97 (args := [.inr 21, .inl x4]) (rest := []) (c' := 0) (s' := 0) rfl rfl rfl rfl rfl rfl rfl rfl rfl rfl ?_
            have r62z := FrS.at hF_10 21 0 (by unfold pSk; omega)
            refine f_97 (FrS.sk hF_10 hS) (by omega) (fun r62 r62i => ?_)
            unfold InI at r62i
            refine Tx.istore hC te_96_48 rfl ?_
            refine Tx.iload_n hC te_96_50 rfl ?_
            refine Tx.iconst hC te_96_51 rfl ?_
            refine Tx.icmp hC (t := 73) te_96_52 (by decide) (fun q65 => ?_) (fun q65 => ?_)
            · replace q65 : (x2 : Int) = (-1) := q65
              refine Tx.iload hC te_96_73 rfl ?_
              refine Tx.istore_n hC te_96_75 rfl ?_
              refine Tx.iload hC te_96_76 rfl ?_
              refine Tx.istore_n hC te_96_78 rfl ?_
              refine Tx.iincW hC te_96_79 rfl rfl (fun z66 z66i z66e => ?_)
              unfold InI at z66i z66e
              first | replace z66e := z66e (by omega) | clear z66e
              refine Tx.goto hC (t := 10) te_96_82 (by decide) ?_
              exact Tx.weak (by repeat' (first | exact trivial | exact rfl | constructor)) (ih_10 x4 r62 z66 m_10 (by omega) (by omega) (by omega) hF_10)
            · replace q65 : ¬ ((x2 : Int) = (-1)) := q65
              refine Tx.iload hC te_96_55 rfl ?_
              refine Tx.ifc hC (t := 73) te_96_57 (by decide) (fun q67 => ?_) (fun q67 => ?_)
              · replace q67 : (r62 : Int) = 0 := q67
                refine Tx.iload hC te_96_73 rfl ?_
                refine Tx.istore_n hC te_96_75 rfl ?_
                refine Tx.iload hC te_96_76 rfl ?_
                refine Tx.istore_n hC te_96_78 rfl ?_
                refine Tx.iincW hC te_96_79 rfl rfl (fun z68 z68i z68e => ?_)
                unfold InI at z68i z68e
                first | replace z68e := z68e (by omega) | clear z68e
                refine Tx.goto hC (t := 10) te_96_82 (by decide) ?_
                exact Tx.weak (by repeat' (first | exact trivial | exact rfl | constructor)) (ih_10 x4 r62 z68 m_10 (by omega) (by omega) (by omega) hF_10)
              · replace q67 : ¬ ((r62 : Int) = 0) := q67
                refine Tx.aload_n hC te_96_60 rfl ?_
                refine Tx.iload hC te_96_61 rfl ?_
                refine Tx.iload hC te_96_63 rfl ?_
                refine Tx.iload_n hC te_96_65 rfl ?_
                refine Tx.iload_n hC te_96_66 rfl ?_
                refine Tx.virtI hC te_96_67 mt_100 (args := [.inr 21, .inl x4, .inl r62, .inl x2, .inl x3]) (rest := []) (c' := 0) (s' := 0) rfl rfl rfl rfl rfl rfl rfl rfl rfl rfl ?_
                refine f_100 (by omega) (by omega) (fun r69 r69b r69i => ?_)
                unfold InI at r69i
                refine Tx.ifc hC (t := 79) te_96_70 (by decide) (fun q72 => ?_) (fun q72 => ?_)
                · replace q72 : (r69 : Int) = 0 := q72
                  refine Tx.iincW hC te_96_79 rfl rfl (fun z73 z73i z73e => ?_)
                  unfold InI at z73i z73e
                  first | replace z73e := z73e (by omega) | clear z73e
                  refine Tx.goto hC (t := 10) te_96_82 (by decide) ?_
                  exact Tx.weak (by repeat' (first | exact trivial | exact rfl | constructor)) (ih_10 x2 x3 z73 m_10 (by omega) (by omega) (by omega) hF_10)
                · replace q72 : ¬ ((r69 : Int) = 0) := q72
                  refine Tx.iload hC te_96_73 rfl ?_
                  refine Tx.istore_n hC te_96_75 rfl ?_
                  refine Tx.iload hC te_96_76 rfl ?_
                  refine Tx.istore_n hC te_96_78 rfl ?_
                  refine Tx.iincW hC te_96_79 rfl rfl (fun z74 z74i z74e => ?_)
                  unfold InI at z74i z74e
                  first | replace z74e := z74e (by omega) | clear z74e
                  refine Tx.goto hC (t := 10) te_96_82 (by decide) ?_
                  exact Tx.weak (by repeat' (first | exact trivial | exact rfl | constructor)) (ih_10 x4 r62 z74 m_10 (by omega) (by omega) (by omega) hF_10)
  refine Tx.iconst hC te_96_0 rfl ?_
  refine Tx.istore_n hC te_96_1 rfl ?_
  refine Tx.aload_n hC te_96_2 rfl ?_
  refine Tx.getI hC te_96_3 rfl rfl rfl (fun v75 v75e v75i => ?_)
  unfold InI at v75i
  refine Tx.istore_n hC te_96_6 rfl ?_
  refine Tx.iconst hC te_96_7 rfl ?_
  refine Tx.istore hC te_96_8 rfl ?_
  exact l_10 _ (-1) v75 0 mem (by omega) (by omega) (Nat.lt_succ_self _) FrS.rf
