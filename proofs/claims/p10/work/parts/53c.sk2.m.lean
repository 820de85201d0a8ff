section
/-! laid by wip/hand/tg.py: the seeker: settle -/
set_option maxRecDepth 100000 in
theorem mt_96 : MT[96]? = some M_96 := rfl
theorem te_96_0 : (pT M_96).find? (fun e => e.1 == 0) = some (0, .iconst (-1), 0, 0) := rfl
theorem te_96_1 : (pT M_96).find? (fun e => e.1 == 1) = some (1, .istore_n 2, 0, 0) := rfl
theorem te_96_2 : (pT M_96).find? (fun e => e.1 == 2) = some (2, .aload_n 0, 0, 0) := rfl
theorem te_96_3 : (pT M_96).find? (fun e => e.1 == 3) = some (3, .getfield 109, 6, 2) := rfl
theorem te_96_6 : (pT M_96).find? (fun e => e.1 == 6) = some (6, .istore_n 3, 0, 0) := rfl
theorem te_96_7 : (pT M_96).find? (fun e => e.1 == 7) = some (7, .iconst 0, 0, 0) := rfl
theorem te_96_8 : (pT M_96).find? (fun e => e.1 == 8) = some (8, .istore 4, 0, 0) := rfl
theorem te_96_10 : (pT M_96).find? (fun e => e.1 == 10) = some (10, .iload 4, 0, 0) := rfl
theorem te_96_12 : (pT M_96).find? (fun e => e.1 == 12) = some (12, .aload_n 0, 0, 0) := rfl
theorem te_96_13 : (pT M_96).find? (fun e => e.1 == 13) = some (13, .getfield 70, 6, 0) := rfl
theorem te_96_16 : (pT M_96).find? (fun e => e.1 == 16) = some (16, .if_icmp .ge 69, 0, 0) := rfl
theorem te_96_19 : (pT M_96).find? (fun e => e.1 == 19) = some (19, .iload_n 3, 0, 0) := rfl
theorem te_96_20 : (pT M_96).find? (fun e => e.1 == 20) = some (20, .ifCond .eq 65, 0, 0) := rfl
theorem te_96_23 : (pT M_96).find? (fun e => e.1 == 23) = some (23, .aload_n 0, 0, 0) := rfl
theorem te_96_24 : (pT M_96).find? (fun e => e.1 == 24) = some (24, .getfield 74, 6, 3) := rfl
theorem te_96_27 : (pT M_96).find? (fun e => e.1 == 27) = some (27, .aload_n 0, 0, 0) := rfl
theorem te_96_28 : (pT M_96).find? (fun e => e.1 == 28) = some (28, .getfield 97, 6, 4) := rfl
theorem te_96_31 : (pT M_96).find? (fun e => e.1 == 31) = some (31, .iconst (-1), 0, 0) := rfl
theorem te_96_32 : (pT M_96).find? (fun e => e.1 == 32) = some (32, .ixor, 0, 0) := rfl
theorem te_96_33 : (pT M_96).find? (fun e => e.1 == 33) = some (33, .iand, 0, 0) := rfl
theorem te_96_34 : (pT M_96).find? (fun e => e.1 == 34) = some (34, .iconst 1, 0, 0) := rfl
theorem te_96_35 : (pT M_96).find? (fun e => e.1 == 35) = some (35, .iload 4, 0, 0) := rfl
theorem te_96_37 : (pT M_96).find? (fun e => e.1 == 37) = some (37, .ishl, 0, 0) := rfl
theorem te_96_38 : (pT M_96).find? (fun e => e.1 == 38) = some (38, .iand, 0, 0) := rfl
theorem te_96_39 : (pT M_96).find? (fun e => e.1 == 39) = some (39, .ifCond .eq 40, 0, 0) := rfl
theorem te_96_42 : (pT M_96).find? (fun e => e.1 == 42) = some (42, .aload_n 0, 0, 0) := rfl
theorem te_96_43 : (pT M_96).find? (fun e => e.1 == 43) = some (43, .iload 4, 0, 0) := rfl
theorem te_96_45 : (pT M_96).find? (fun e => e.1 == 45) = some (45, .invokevirtual 100, 97, 0) := rfl
theorem te_96_48 : (pT M_96).find? (fun e => e.1 == 48) = some (48, .istore 5, 0, 0) := rfl
theorem te_96_50 : (pT M_96).find? (fun e => e.1 == 50) = some (50, .iload_n 2, 0, 0) := rfl
theorem te_96_51 : (pT M_96).find? (fun e => e.1 == 51) = some (51, .iconst (-1), 0, 0) := rfl
theorem te_96_52 : (pT M_96).find? (fun e => e.1 == 52) = some (52, .if_icmp .eq 21, 0, 0) := rfl
theorem te_96_55 : (pT M_96).find? (fun e => e.1 == 55) = some (55, .iload 5, 0, 0) := rfl
theorem te_96_57 : (pT M_96).find? (fun e => e.1 == 57) = some (57, .ifCond .eq 16, 0, 0) := rfl
theorem te_96_60 : (pT M_96).find? (fun e => e.1 == 60) = some (60, .aload_n 0, 0, 0) := rfl
theorem te_96_61 : (pT M_96).find? (fun e => e.1 == 61) = some (61, .iload 4, 0, 0) := rfl
theorem te_96_63 : (pT M_96).find? (fun e => e.1 == 63) = some (63, .iload 5, 0, 0) := rfl
theorem te_96_65 : (pT M_96).find? (fun e => e.1 == 65) = some (65, .iload_n 2, 0, 0) := rfl
theorem te_96_66 : (pT M_96).find? (fun e => e.1 == 66) = some (66, .iload_n 3, 0, 0) := rfl
theorem te_96_67 : (pT M_96).find? (fun e => e.1 == 67) = some (67, .invokevirtual 135, 100, 0) := rfl
theorem te_96_70 : (pT M_96).find? (fun e => e.1 == 70) = some (70, .ifCond .eq 9, 0, 0) := rfl
theorem te_96_73 : (pT M_96).find? (fun e => e.1 == 73) = some (73, .iload 4, 0, 0) := rfl
theorem te_96_75 : (pT M_96).find? (fun e => e.1 == 75) = some (75, .istore_n 2, 0, 0) := rfl
theorem te_96_76 : (pT M_96).find? (fun e => e.1 == 76) = some (76, .iload 5, 0, 0) := rfl
theorem te_96_78 : (pT M_96).find? (fun e => e.1 == 78) = some (78, .istore_n 3, 0, 0) := rfl
theorem te_96_79 : (pT M_96).find? (fun e => e.1 == 79) = some (79, .iinc 4 1, 0, 0) := rfl
theorem te_96_82 : (pT M_96).find? (fun e => e.1 == 82) = some (82, .goto (-72), 0, 0) := rfl
theorem te_96_85 : (pT M_96).find? (fun e => e.1 == 85) = some (85, .iload_n 2, 0, 0) := rfl
theorem te_96_86 : (pT M_96).find? (fun e => e.1 == 86) = some (86, .iconst (-1), 0, 0) := rfl
theorem te_96_87 : (pT M_96).find? (fun e => e.1 == 87) = some (87, .if_icmp .ne 9, 0, 0) := rfl
theorem te_96_90 : (pT M_96).find? (fun e => e.1 == 90) = some (90, .aload_n 0, 0, 0) := rfl
theorem te_96_91 : (pT M_96).find? (fun e => e.1 == 91) = some (91, .invokevirtual 139, 101, 0) := rfl
theorem te_96_94 : (pT M_96).find? (fun e => e.1 == 94) = some (94, .iconst 1, 0, 0) := rfl
theorem te_96_95 : (pT M_96).find? (fun e => e.1 == 95) = some (95, .ireturn, 0, 0) := rfl
theorem te_96_96 : (pT M_96).find? (fun e => e.1 == 96) = some (96, .iload_n 3, 0, 0) := rfl
theorem te_96_97 : (pT M_96).find? (fun e => e.1 == 97) = some (97, .ifCond .ne 13, 0, 0) := rfl
theorem te_96_100 : (pT M_96).find? (fun e => e.1 == 100) = some (100, .aload_n 0, 0, 0) := rfl
theorem te_96_101 : (pT M_96).find? (fun e => e.1 == 101) = some (101, .getfield 54, 6, 19) := rfl
theorem te_96_104 : (pT M_96).find? (fun e => e.1 == 104) = some (104, .iload_n 2, 0, 0) := rfl
theorem te_96_105 : (pT M_96).find? (fun e => e.1 == 105) = some (105, .dup2, 0, 0) := rfl
theorem te_96_106 : (pT M_96).find? (fun e => e.1 == 106) = some (106, .iaload, 0, 0) := rfl
theorem te_96_107 : (pT M_96).find? (fun e => e.1 == 107) = some (107, .iconst 1, 0, 0) := rfl
theorem te_96_108 : (pT M_96).find? (fun e => e.1 == 108) = some (108, .iadd, 0, 0) := rfl
theorem te_96_109 : (pT M_96).find? (fun e => e.1 == 109) = some (109, .iastore, 0, 0) := rfl
theorem te_96_110 : (pT M_96).find? (fun e => e.1 == 110) = some (110, .iload_n 1, 0, 0) := rfl
theorem te_96_111 : (pT M_96).find? (fun e => e.1 == 111) = some (111, .bipush 8, 0, 0) := rfl
theorem te_96_113 : (pT M_96).find? (fun e => e.1 == 113) = some (113, .if_icmp .le 5, 0, 0) := rfl
theorem te_96_116 : (pT M_96).find? (fun e => e.1 == 116) = some (116, .iconst 0, 0, 0) := rfl
theorem te_96_117 : (pT M_96).find? (fun e => e.1 == 117) = some (117, .ireturn, 0, 0) := rfl
theorem te_96_118 : (pT M_96).find? (fun e => e.1 == 118) = some (118, .iconst 0, 0, 0) := rfl
theorem te_96_119 : (pT M_96).find? (fun e => e.1 == 119) = some (119, .istore 4, 0, 0) := rfl
theorem te_96_121 : (pT M_96).find? (fun e => e.1 == 121) = some (121, .iconst 0, 0, 0) := rfl
theorem te_96_122 : (pT M_96).find? (fun e => e.1 == 122) = some (122, .istore 5, 0, 0) := rfl
theorem te_96_124 : (pT M_96).find? (fun e => e.1 == 124) = some (124, .iload 5, 0, 0) := rfl
theorem te_96_126 : (pT M_96).find? (fun e => e.1 == 126) = some (126, .aload_n 0, 0, 0) := rfl
theorem te_96_127 : (pT M_96).find? (fun e => e.1 == 127) = some (127, .getfield 103, 6, 1) := rfl
theorem te_96_130 : (pT M_96).find? (fun e => e.1 == 130) = some (130, .if_icmp .ge 55, 0, 0) := rfl
theorem te_96_133 : (pT M_96).find? (fun e => e.1 == 133) = some (133, .iload 4, 0, 0) := rfl
theorem te_96_135 : (pT M_96).find? (fun e => e.1 == 135) = some (135, .ifCond .ne 50, 0, 0) := rfl
theorem te_96_138 : (pT M_96).find? (fun e => e.1 == 138) = some (138, .iload_n 3, 0, 0) := rfl
theorem te_96_139 : (pT M_96).find? (fun e => e.1 == 139) = some (139, .iconst 1, 0, 0) := rfl
theorem te_96_140 : (pT M_96).find? (fun e => e.1 == 140) = some (140, .iload 5, 0, 0) := rfl
theorem te_96_142 : (pT M_96).find? (fun e => e.1 == 142) = some (142, .ishl, 0, 0) := rfl
theorem te_96_143 : (pT M_96).find? (fun e => e.1 == 143) = some (143, .iand, 0, 0) := rfl
theorem te_96_144 : (pT M_96).find? (fun e => e.1 == 144) = some (144, .ifCond .eq 35, 0, 0) := rfl
theorem te_96_147 : (pT M_96).find? (fun e => e.1 == 147) = some (147, .aload_n 0, 0, 0) := rfl
theorem te_96_148 : (pT M_96).find? (fun e => e.1 == 148) = some (148, .iload_n 2, 0, 0) := rfl
theorem te_96_149 : (pT M_96).find? (fun e => e.1 == 149) = some (149, .iload 5, 0, 0) := rfl
theorem te_96_151 : (pT M_96).find? (fun e => e.1 == 151) = some (151, .invokevirtual 77, 91, 0) := rfl
theorem te_96_154 : (pT M_96).find? (fun e => e.1 == 154) = some (154, .ifCond .eq 17, 0, 0) := rfl
theorem te_96_157 : (pT M_96).find? (fun e => e.1 == 157) = some (157, .aload_n 0, 0, 0) := rfl
theorem te_96_158 : (pT M_96).find? (fun e => e.1 == 158) = some (158, .iload_n 1, 0, 0) := rfl
theorem te_96_159 : (pT M_96).find? (fun e => e.1 == 159) = some (159, .iconst 1, 0, 0) := rfl
theorem te_96_160 : (pT M_96).find? (fun e => e.1 == 160) = some (160, .iadd, 0, 0) := rfl
theorem te_96_161 : (pT M_96).find? (fun e => e.1 == 161) = some (161, .invokevirtual 81, 96, 0) := rfl
theorem te_96_164 : (pT M_96).find? (fun e => e.1 == 164) = some (164, .ifCond .eq 7, 0, 0) := rfl
theorem te_96_167 : (pT M_96).find? (fun e => e.1 == 167) = some (167, .iconst 1, 0, 0) := rfl
theorem te_96_168 : (pT M_96).find? (fun e => e.1 == 168) = some (168, .goto 4, 0, 0) := rfl
theorem te_96_171 : (pT M_96).find? (fun e => e.1 == 171) = some (171, .iconst 0, 0, 0) := rfl
theorem te_96_172 : (pT M_96).find? (fun e => e.1 == 172) = some (172, .istore 4, 0, 0) := rfl
theorem te_96_174 : (pT M_96).find? (fun e => e.1 == 174) = some (174, .aload_n 0, 0, 0) := rfl
theorem te_96_175 : (pT M_96).find? (fun e => e.1 == 175) = some (175, .iload_n 2, 0, 0) := rfl
theorem te_96_176 : (pT M_96).find? (fun e => e.1 == 176) = some (176, .invokevirtual 85, 102, 0) := rfl
theorem te_96_179 : (pT M_96).find? (fun e => e.1 == 179) = some (179, .iinc 5 1, 0, 0) := rfl
theorem te_96_182 : (pT M_96).find? (fun e => e.1 == 182) = some (182, .goto (-58), 0, 0) := rfl
theorem te_96_185 : (pT M_96).find? (fun e => e.1 == 185) = some (185, .iload 4, 0, 0) := rfl
theorem te_96_187 : (pT M_96).find? (fun e => e.1 == 187) = some (187, .ireturn, 0, 0) := rfl
theorem g_96 {S : Nat × (Nat → Int32)} {n : Nat} {mem : MM} {K : Int → MM → Prop} {E : Nat → MM → Prop} {d : Int} (hS : SkO mem d) {y : Int} (rec : ∀ z, z = y + 1 → y ≤ 8 → ∀ (m : MM) (K' : Int → MM → Prop) (E' : Nat → MM → Prop), SkO m d → (∀ r m', r = 0 ∨ r = 1 → FrS m m' → K' r m') → CQI (Ex S (n + 3)) 96 [.inr 21, .inl z] m K' E') (H : ∀ r m', r = 0 ∨ r = 1 → FrS mem m' → K r m') : CQI (Ex S (n + 4)) 96 [.inr 21, .inl y] mem K E := by
  refine CY.of (k := 4) mt_96 rfl rfl (fun hv => ?_)
  have hC := Ex.mono S (n + 3)
  have ii_y : InI y := hv (.inl y) (by simp)
  unfold InI at ii_y
  clear hv
  have hs0 := hS.1
  have hs1 := hS.2.1
  show Tx (Ex S (n + 3)) S M_96 (kI K E) 0 0 0 [some (.inr 21), some (.inl y), none, none, none, none] [] mem
  have l_124 : ∀ (N : Nat) (x2 x3 x4 x5 : Int) (m_124 : MM), (0 ≤ x5) → (0 ≤ x2 ∧ x2 < mem 21 0) → (x4 = 0 ∨ x4 = 1) → (y ≤ 8) → ((12 - x5).toNat) < N → FrS mem m_124 → Tx (Ex S (n + 3)) S M_96 (kI K E) 0 0 124 [some (.inr 21), some (.inl y), some (.inl x2), some (.inl x3), some (.inl x4), some (.inl x5)] [] m_124 := by
    intro N
    induction N with
    | zero => intros; omega
    | succ N ih_124 =>
      intro x2 x3 x4 x5 m_124 i124_0 i124_1 i124_2 i124_3 hN_124 hF_124
      refine Tx.iload hC te_96_124 rfl ?_
      refine Tx.aload_n hC te_96_126 rfl ?_
      refine Tx.getI hC te_96_127 rfl rfl rfl (fun v1 v1e v1i => ?_)
      unfold InI at v1i
      rw [FrS.at hF_124 21 _ (by unfold pSk; omega)] at v1e
      refine Tx.icmp hC (t := 185) te_96_130 (by decide) (fun q2 => ?_) (fun q2 => ?_)
      · replace q2 : v1 ≤ (x5 : Int) := q2
        refine Tx.iload hC te_96_185 rfl ?_
        exact Tx.bret hC te_96_187 rfl (by omega) (show K x4 m_124 from H _ _ (by omega) hF_124)
      · replace q2 : ¬ (v1 ≤ (x5 : Int)) := q2
        refine Tx.iload hC te_96_133 rfl ?_
        refine Tx.ifc hC (t := 185) te_96_135 (by decide) (fun q3 => ?_) (fun q3 => ?_)
        · replace q3 : ¬ (x4 : Int) = 0 := q3
          refine Tx.iload hC te_96_185 rfl ?_
          exact Tx.bret hC te_96_187 rfl (by omega) (show K x4 m_124 from H _ _ (by omega) hF_124)
        · replace q3 : ¬ (¬ (x4 : Int) = 0) := q3
          refine Tx.iload_n hC te_96_138 rfl ?_
          refine Tx.iconst hC te_96_139 rfl ?_
          refine Tx.iload hC te_96_140 rfl ?_
          refine Tx.bits hC (f := (fun (x y : Int32) => x <<< (y &&& 31))) te_96_142 (fun _ _ _ _ => Iff.rfl) (fun b4 b4e b4i => ?_)
          unfold InI at b4i
          refine Tx.bits hC (f := (fun (x y : Int32) => x &&& y)) te_96_143 (fun _ _ _ _ => Iff.rfl) (fun b5 b5e b5i => ?_)
          unfold InI at b5i
          refine Tx.ifc hC (t := 179) te_96_144 (by decide) (fun q6 => ?_) (fun q6 => ?_)
          · replace q6 : (b5 : Int) = 0 := q6
            refine Tx.iincW hC te_96_179 rfl rfl (fun z7 z7i z7e => ?_)
            unfold InI at z7i z7e
            first | replace z7e := z7e (by omega) | clear z7e
            refine Tx.goto hC (t := 124) te_96_182 (by decide) ?_
            exact ih_124 x2 x3 x4 z7 m_124 (by omega) (by omega) (by omega) (by omega) (by omega) hF_124
          · replace q6 : ¬ ((b5 : Int) = 0) := q6
            refine Tx.aload_n hC te_96_147 rfl ?_
            refine Tx.iload_n hC te_96_148 rfl ?_
            refine Tx.iload hC te_96_149 rfl ?_
            refine Tx.virtI hC te_96_151 mt_91 (args := [.inr 21, .inl x2, .inl x5]) (rest := []) (c' := 0) (s' := 0) rfl rfl rfl rfl rfl rfl rfl rfl rfl rfl ?_
            refine f_91 (FrS.sk hF_124 hS) (by omega) (by omega) (fun r8 m9 r8b hF10 r8i => ?_)
            have hF10n : FrS mem m9 := FrS.tr hF_124 hF10
            unfold InI at r8i
            refine Tx.ifc hC (t := 171) te_96_154 (by decide) (fun q11 => ?_) (fun q11 => ?_)
            · replace q11 : (r8 : Int) = 0 := q11
              refine Tx.iconst hC te_96_171 rfl ?_
              refine Tx.istore hC te_96_172 rfl ?_
              refine Tx.aload_n hC te_96_174 rfl ?_
              refine Tx.iload_n hC te_96_175 rfl ?_
              refine Tx.virtV hC te_96_176 mt_102 (args := [.inr 21, .inl x2]) (rest := []) (c' := 0) (s' := 0) rfl rfl rfl rfl rfl rfl rfl rfl rfl rfl ?_
              refine f_102 (FrS.sk hF10n hS) (by omega) (fun m13 hF14 => ?_)
              have hF14n : FrS mem m13 := FrS.tr hF10n hF14
              refine Tx.iincW hC te_96_179 rfl rfl (fun z15 z15i z15e => ?_)
              unfold InI at z15i z15e
              first | replace z15e := z15e (by omega) | clear z15e
              refine Tx.goto hC (t := 124) te_96_182 (by decide) ?_
              exact ih_124 x2 x3 0 z15 m13 (by omega) (by omega) (by omega) (by omega) (by omega) hF14n
            · replace q11 : ¬ ((r8 : Int) = 0) := q11
              refine Tx.aload_n hC te_96_157 rfl ?_
              refine Tx.iload_n hC te_96_158 rfl ?_
              refine Tx.iconst hC te_96_159 rfl ?_
              refine Tx.iaddW hC te_96_160 (fun z16 z16i z16e => ?_)
              unfold InI at z16i z16e
              first | replace z16e := z16e (by omega) | clear z16e
              refine Tx.virtI hC te_96_161 mt_96 (args := [.inr 21, .inl z16]) (rest := []) (c' := 0) (s' := 0) rfl rfl rfl rfl rfl rfl rfl rfl rfl rfl ?_
              refine rec z16 (by omega) (by omega) _ _ _ (FrS.sk hF10n hS) (fun r17 m18 r17b hF19 r17i => ?_)
              have hF19n : FrS mem m18 := FrS.tr hF10n hF19
              unfold InI at r17i
              refine Tx.ifc hC (t := 171) te_96_164 (by decide) (fun q20 => ?_) (fun q20 => ?_)
              · replace q20 : (r17 : Int) = 0 := q20
                refine Tx.iconst hC te_96_171 rfl ?_
                refine Tx.istore hC te_96_172 rfl ?_
                refine Tx.aload_n hC te_96_174 rfl ?_
                refine Tx.iload_n hC te_96_175 rfl ?_
                refine Tx.virtV hC te_96_176 mt_102 (args := [.inr 21, .inl x2]) (rest := []) (c' := 0) (s' := 0) rfl rfl rfl rfl rfl rfl rfl rfl rfl rfl ?_
                refine f_102 (FrS.sk hF19n hS) (by omega) (fun m22 hF23 => ?_)
                have hF23n : FrS mem m22 := FrS.tr hF19n hF23
                refine Tx.iincW hC te_96_179 rfl rfl (fun z24 z24i z24e => ?_)
                unfold InI at z24i z24e
                first | replace z24e := z24e (by omega) | clear z24e
                refine Tx.goto hC (t := 124) te_96_182 (by decide) ?_
                exact ih_124 x2 x3 0 z24 m22 (by omega) (by omega) (by omega) (by omega) (by omega) hF23n
              · replace q20 : ¬ ((r17 : Int) = 0) := q20
                refine Tx.iconst hC te_96_167 rfl ?_
                refine Tx.goto hC (t := 172) te_96_168 (by decide) ?_
                refine Tx.istore hC te_96_172 rfl ?_
                refine Tx.aload_n hC te_96_174 rfl ?_
                refine Tx.iload_n hC te_96_175 rfl ?_
                refine Tx.virtV hC te_96_176 mt_102 (args := [.inr 21, .inl x2]) (rest := []) (c' := 0) (s' := 0) rfl rfl rfl rfl rfl rfl rfl rfl rfl rfl ?_
                refine f_102 (FrS.sk hF19n hS) (by omega) (fun m26 hF27 => ?_)
                have hF27n : FrS mem m26 := FrS.tr hF19n hF27
                refine Tx.iincW hC te_96_179 rfl rfl (fun z28 z28i z28e => ?_)
                unfold InI at z28i z28e
                first | replace z28e := z28e (by omega) | clear z28e
                refine Tx.goto hC (t := 124) te_96_182 (by decide) ?_
                exact ih_124 x2 x3 1 z28 m26 (by omega) (by omega) (by omega) (by omega) (by omega) hF27n
  have l_10 : ∀ (N : Nat) (x2 x3 x4 : Int) (m_10 : MM), (0 ≤ x4) → (-1 ≤ x2 ∧ x2 < mem 21 0) → ((8 - x4).toNat) < N → FrS mem m_10 → Tx (Ex S (n + 3)) S M_96 (kI K E) 0 0 10 [some (.inr 21), some (.inl y), some (.inl x2), some (.inl x3), some (.inl x4), none] [] m_10 := by
    intro N
    induction N with
    | zero => intros; omega
    | succ N ih_10 =>
      intro x2 x3 x4 m_10 i10_0 i10_1 hN_10 hF_10
      refine Tx.iload hC te_96_10 rfl ?_
      refine Tx.aload_n hC te_96_12 rfl ?_
      refine Tx.getI hC te_96_13 rfl rfl rfl (fun v29 v29e v29i => ?_)
      unfold InI at v29i
      rw [FrS.at hF_10 21 _ (by unfold pSk; omega)] at v29e
      refine Tx.icmp hC (t := 85) te_96_16 (by decide) (fun q30 => ?_) (fun q30 => ?_)
      · replace q30 : v29 ≤ (x4 : Int) := q30
        refine Tx.iload_n hC te_96_85 rfl ?_
        refine Tx.iconst hC te_96_86 rfl ?_
        refine Tx.icmp hC (t := 96) te_96_87 (by decide) (fun q31 => ?_) (fun q31 => ?_)
        · replace q31 : ¬ (x2 : Int) = (-1) := q31
          refine Tx.iload_n hC te_96_96 rfl ?_
          refine Tx.ifc hC (t := 110) te_96_97 (by decide) (fun q32 => ?_) (fun q32 => ?_)
          · replace q32 : ¬ (x3 : Int) = 0 := q32
            refine Tx.iload_n hC te_96_110 rfl ?_
            refine Tx.bipush hC te_96_111 rfl rfl ?_
            refine Tx.icmp hC (t := 118) te_96_113 (by decide) (fun q33 => ?_) (fun q33 => ?_)
            · replace q33 : (y : Int) ≤ 8 := q33
              refine Tx.iconst hC te_96_118 rfl ?_
              refine Tx.istore hC te_96_119 rfl ?_
              refine Tx.iconst hC te_96_121 rfl ?_
              refine Tx.istore hC te_96_122 rfl ?_
              exact l_124 _ x2 x3 0 0 m_10 (by omega) (by omega) (by omega) (by omega) (Nat.lt_succ_self _) hF_10
            · replace q33 : ¬ ((y : Int) ≤ 8) := q33
              refine Tx.iconst hC te_96_116 rfl ?_
              exact Tx.bret hC te_96_117 rfl (by omega) (show K 0 m_10 from H _ _ (by omega) hF_10)
          · replace q32 : ¬ (¬ (x3 : Int) = 0) := q32
            refine Tx.aload_n hC te_96_100 rfl ?_
            refine Tx.getR hC te_96_101 rfl rfl rfl ?_
            refine Tx.iload_n hC te_96_104 rfl ?_
            refine Tx.dup2 hC te_96_105 ?_
            refine Tx.iald hC te_96_106 rfl (by omega) (fun v34 v34e v34i => ?_)
            unfold InI at v34i
            refine Tx.iconst hC te_96_107 rfl ?_
            refine Tx.iaddW hC te_96_108 (fun z35 z35i z35e => ?_)
            unfold InI at z35i z35e
            first | replace z35e := z35e (by omega) | clear z35e
            refine Tx.iast hC te_96_109 rfl (by omega) ?_
            have hF37 : FrS mem (upm m_10 36 (Int.toNat x2) z35) := FrS.up hF_10 (by unfold pSk; omega) (by omega)
            generalize upm m_10 36 (Int.toNat x2) z35 = m36 at hF37 ⊢
            refine Tx.iload_n hC te_96_110 rfl ?_
            refine Tx.bipush hC te_96_111 rfl rfl ?_
            refine Tx.icmp hC (t := 118) te_96_113 (by decide) (fun q38 => ?_) (fun q38 => ?_)
            · replace q38 : (y : Int) ≤ 8 := q38
              refine Tx.iconst hC te_96_118 rfl ?_
              refine Tx.istore hC te_96_119 rfl ?_
              refine Tx.iconst hC te_96_121 rfl ?_
              refine Tx.istore hC te_96_122 rfl ?_
              exact l_124 _ x2 x3 0 0 m36 (by omega) (by omega) (by omega) (by omega) (Nat.lt_succ_self _) hF37
            · replace q38 : ¬ ((y : Int) ≤ 8) := q38
              refine Tx.iconst hC te_96_116 rfl ?_
              exact Tx.bret hC te_96_117 rfl (by omega) (show K 0 m36 from H _ _ (by omega) hF37)
        · replace q31 : ¬ (¬ (x2 : Int) = (-1)) := q31
          refine Tx.aload_n hC te_96_90 rfl ?_
          refine Tx.virtV hC te_96_91 mt_101 (args := [.inr 21]) (rest := []) (c' := 0) (s' := 0) rfl rfl rfl rfl rfl rfl rfl rfl rfl rfl ?_
          refine f_101 (FrS.sk hF_10 hS) (fun m40 hF41 => ?_)
          have hF41n : FrS mem m40 := FrS.tr hF_10 hF41
          refine Tx.iconst hC te_96_94 rfl ?_
          exact Tx.bret hC te_96_95 rfl (by omega) (show K 1 m40 from H _ _ (by omega) hF41n)
      · replace q30 : ¬ (v29 ≤ (x4 : Int)) := q30
        refine Tx.iload_n hC te_96_19 rfl ?_
        refine Tx.ifc hC (t := 85) te_96_20 (by decide) (fun q42 => ?_) (fun q42 => ?_)
        · replace q42 : (x3 : Int) = 0 := q42
          refine Tx.iload_n hC te_96_85 rfl ?_
          refine Tx.iconst hC te_96_86 rfl ?_
          refine Tx.icmp hC (t := 96) te_96_87 (by decide) (fun q43 => ?_) (fun q43 => ?_)
          · replace q43 : ¬ (x2 : Int) = (-1) := q43
            refine Tx.iload_n hC te_96_96 rfl ?_
            refine Tx.ifc hC (t := 110) te_96_97 (by decide) (fun q44 => ?_) (fun q44 => ?_)
            · replace q44 : ¬ (x3 : Int) = 0 := q44
              refine Tx.iload_n hC te_96_110 rfl ?_
              refine Tx.bipush hC te_96_111 rfl rfl ?_
              refine Tx.icmp hC (t := 118) te_96_113 (by decide) (fun q45 => ?_) (fun q45 => ?_)
              · replace q45 : (y : Int) ≤ 8 := q45
                refine Tx.iconst hC te_96_118 rfl ?_
                refine Tx.istore hC te_96_119 rfl ?_
                refine Tx.iconst hC te_96_121 rfl ?_
                refine Tx.istore hC te_96_122 rfl ?_
                exact l_124 _ x2 x3 0 0 m_10 (by omega) (by omega) (by omega) (by omega) (Nat.lt_succ_self _) hF_10
              · replace q45 : ¬ ((y : Int) ≤ 8) := q45
                refine Tx.iconst hC te_96_116 rfl ?_
                exact Tx.bret hC te_96_117 rfl (by omega) (show K 0 m_10 from H _ _ (by omega) hF_10)
            · replace q44 : ¬ (¬ (x3 : Int) = 0) := q44
              refine Tx.aload_n hC te_96_100 rfl ?_
              refine Tx.getR hC te_96_101 rfl rfl rfl ?_
              refine Tx.iload_n hC te_96_104 rfl ?_
              refine Tx.dup2 hC te_96_105 ?_
              refine Tx.iald hC te_96_106 rfl (by omega) (fun v46 v46e v46i => ?_)
              unfold InI at v46i
              refine Tx.iconst hC te_96_107 rfl ?_
              refine Tx.iaddW hC te_96_108 (fun z47 z47i z47e => ?_)
              unfold InI at z47i z47e
              first | replace z47e := z47e (by omega) | clear z47e
              refine Tx.iast hC te_96_109 rfl (by omega) ?_
              have hF49 : FrS mem (upm m_10 36 (Int.toNat x2) z47) := FrS.up hF_10 (by unfold pSk; omega) (by omega)
              generalize upm m_10 36 (Int.toNat x2) z47 = m48 at hF49 ⊢
              refine Tx.iload_n hC te_96_110 rfl ?_
              refine Tx.bipush hC te_96_111 rfl rfl ?_
              refine Tx.icmp hC (t := 118) te_96_113 (by decide) (fun q50 => ?_) (fun q50 => ?_)
              · replace q50 : (y : Int) ≤ 8 := q50
                refine Tx.iconst hC te_96_118 rfl ?_
                refine Tx.istore hC te_96_119 rfl ?_
                refine Tx.iconst hC te_96_121 rfl ?_
                refine Tx.istore hC te_96_122 rfl ?_
                exact l_124 _ x2 x3 0 0 m48 (by omega) (by omega) (by omega) (by omega) (Nat.lt_succ_self _) hF49
              · replace q50 : ¬ ((y : Int) ≤ 8) := q50
                refine Tx.iconst hC te_96_116 rfl ?_
                exact Tx.bret hC te_96_117 rfl (by omega) (show K 0 m48 from H _ _ (by omega) hF49)
          · replace q43 : ¬ (¬ (x2 : Int) = (-1)) := q43
            refine Tx.aload_n hC te_96_90 rfl ?_
            refine Tx.virtV hC te_96_91 mt_101 (args := [.inr 21]) (rest := []) (c' := 0) (s' := 0) rfl rfl rfl rfl rfl rfl rfl rfl rfl rfl ?_
            refine f_101 (FrS.sk hF_10 hS) (fun m52 hF53 => ?_)
            have hF53n : FrS mem m52 := FrS.tr hF_10 hF53
            refine Tx.iconst hC te_96_94 rfl ?_
            exact Tx.bret hC te_96_95 rfl (by omega) (show K 1 m52 from H _ _ (by omega) hF53n)
        · replace q42 : ¬ ((x3 : Int) = 0) := q42
          refine Tx.aload_n hC te_96_23 rfl ?_
          refine Tx.getI hC te_96_24 rfl rfl rfl (fun v54 v54e v54i => ?_)
          unfold InI at v54i
          refine Tx.aload_n hC te_96_27 rfl ?_
          refine Tx.getI hC te_96_28 rfl rfl rfl (fun v55 v55e v55i => ?_)
          unfold InI at v55i
          refine Tx.iconst hC te_96_31 rfl ?_
          refine Tx.bits hC (f := (fun (x y : Int32) => x ^^^ y)) te_96_32 (fun _ _ _ _ => Iff.rfl) (fun b56 b56e b56i => ?_)
          unfold InI at b56i
          refine Tx.bits hC (f := (fun (x y : Int32) => x &&& y)) te_96_33 (fun _ _ _ _ => Iff.rfl) (fun b57 b57e b57i => ?_)
          unfold InI at b57i
          refine Tx.iconst hC te_96_34 rfl ?_
          refine Tx.iload hC te_96_35 rfl ?_
          refine Tx.bits hC (f := (fun (x y : Int32) => x <<< (y &&& 31))) te_96_37 (fun _ _ _ _ => Iff.rfl) (fun b58 b58e b58i => ?_)
          unfold InI at b58i
          refine Tx.bits hC (f := (fun (x y : Int32) => x &&& y)) te_96_38 (fun _ _ _ _ => Iff.rfl) (fun b59 b59e b59i => ?_)
          unfold InI at b59i
          refine Tx.ifc hC (t := 79) te_96_39 (by decide) (fun q60 => ?_) (fun q60 => ?_)
          · replace q60 : (b59 : Int) = 0 := q60
            refine Tx.iincW hC te_96_79 rfl rfl (fun z61 z61i z61e => ?_)
            unfold InI at z61i z61e
            first | replace z61e := z61e (by omega) | clear z61e
            refine Tx.goto hC (t := 10) te_96_82 (by decide) ?_
            exact ih_10 x2 x3 z61 m_10 (by omega) (by omega) (by omega) hF_10
          · replace q60 : ¬ ((b59 : Int) = 0) := q60
            refine Tx.aload_n hC te_96_42 rfl ?_
            refine Tx.iload hC te_96_43 rfl ?_
            refine Tx.virtI hC te_96_45 mt_97 (args := [.inr 21, .inl x4]) (rest := []) (c' := 0) (s' := 0) rfl rfl rfl rfl rfl rfl rfl rfl rfl rfl ?_
            have r62z := FrS.at hF_10 21 0 (by unfold pSk; omega)
            refine f_97 (FrS.sk hF_10 hS) (by omega) (fun r62 r62i => ?_)
            unfold InI at r62i
            refine Tx.istore hC te_96_48 rfl ?_
            refine Tx.iload_n hC te_96_50 rfl ?_
            refine Tx.iconst hC te_96_51 rfl ?_
            refine Tx.icmp hC (t := 73) te_96_52 (by decide) (fun q65 => ?_) (fun q65 => ?_)
            · replace q65 : (x2 : Int) = (-1) := q65
              refine Tx.iload hC te_96_73 rfl ?_
              refine Tx.istore_n hC te_96_75 rfl ?_
              refine Tx.iload hC te_96_76 rfl ?_
              refine Tx.istore_n hC te_96_78 rfl ?_
              refine Tx.iincW hC te_96_79 rfl rfl (fun z66 z66i z66e => ?_)
              unfold InI at z66i z66e
              first | replace z66e := z66e (by omega) | clear z66e
              refine Tx.goto hC (t := 10) te_96_82 (by decide) ?_
              exact Tx.weak (by repeat' (first | exact trivial | exact rfl | constructor)) (ih_10 x4 r62 z66 m_10 (by omega) (by omega) (by omega) hF_10)
            · replace q65 : ¬ ((x2 : Int) = (-1)) := q65
              refine Tx.iload hC te_96_55 rfl ?_
              refine Tx.ifc hC (t := 73) te_96_57 (by decide) (fun q67 => ?_) (fun q67 => ?_)
              · replace q67 : (r62 : Int) = 0 := q67
                refine Tx.iload hC te_96_73 rfl ?_
                refine Tx.istore_n hC te_96_75 rfl ?_
                refine Tx.iload hC te_96_76 rfl ?_
                refine Tx.istore_n hC te_96_78 rfl ?_
                refine Tx.iincW hC te_96_79 rfl rfl (fun z68 z68i z68e => ?_)
                unfold InI at z68i z68e
                first | replace z68e := z68e (by omega) | clear z68e
                refine Tx.goto hC (t := 10) te_96_82 (by decide) ?_
                exact Tx.weak (by repeat' (first | exact trivial | exact rfl | constructor)) (ih_10 x4 r62 z68 m_10 (by omega) (by omega) (by omega) hF_10)
              · replace q67 : ¬ ((r62 : Int) = 0) := q67
                refine Tx.aload_n hC te_96_60 rfl ?_
                refine Tx.iload hC te_96_61 rfl ?_
                refine Tx.iload hC te_96_63 rfl ?_
                refine Tx.iload_n hC te_96_65 rfl ?_
                refine Tx.iload_n hC te_96_66 rfl ?_
                refine Tx.virtI hC te_96_67 mt_100 (args := [.inr 21, .inl x4, .inl r62, .inl x2, .inl x3]) (rest := []) (c' := 0) (s' := 0) rfl rfl rfl rfl rfl rfl rfl rfl rfl rfl ?_
                refine f_100 (by omega) (by omega) (fun r69 r69b r69i => ?_)
                unfold InI at r69i
                refine Tx.ifc hC (t := 79) te_96_70 (by decide) (fun q72 => ?_) (fun q72 => ?_)
                · replace q72 : (r69 : Int) = 0 := q72
                  refine Tx.iincW hC te_96_79 rfl rfl (fun z73 z73i z73e => ?_)
                  unfold InI at z73i z73e
                  first | replace z73e := z73e (by omega) | clear z73e
                  refine Tx.goto hC (t := 10) te_96_82 (by decide) ?_
                  exact Tx.weak (by repeat' (first | exact trivial | exact rfl | constructor)) (ih_10 x2 x3 z73 m_10 (by omega) (by omega) (by omega) hF_10)
                · replace q72 : ¬ ((r69 : Int) = 0) := q72
                  refine Tx.iload hC te_96_73 rfl ?_
                  refine Tx.istore_n hC te_96_75 rfl ?_
                  refine Tx.iload hC te_96_76 rfl ?_
                  refine Tx.istore_n hC te_96_78 rfl ?_
                  refine Tx.iincW hC te_96_79 rfl rfl (fun z74 z74i z74e => ?_)
                  unfold InI at z74i z74e
                  first | replace z74e := z74e (by omega) | clear z74e
                  refine Tx.goto hC (t := 10) te_96_82 (by decide) ?_
                  exact Tx.weak (by repeat' (first | exact trivial | exact rfl | constructor)) (ih_10 x4 r62 z74 m_10 (by omega) (by omega) (by omega) hF_10)
  refine Tx.iconst hC te_96_0 rfl ?_
  refine Tx.istore_n hC te_96_1 rfl ?_
  refine Tx.aload_n hC te_96_2 rfl ?_
  refine Tx.getI hC te_96_3 rfl rfl rfl (fun v75 v75e v75i => ?_)
  unfold InI at v75i
  refine Tx.istore_n hC te_96_6 rfl ?_
  refine Tx.iconst hC te_96_7 rfl ?_
  refine Tx.istore hC te_96_8 rfl ?_
  exact l_10 _ (-1) v75 0 mem (by omega) (by omega) (Nat.lt_succ_self _) FrS.rf
end
section
/-! settle by its depth; take: what stands at its heads -/
theorem f_96 {S : Nat × (Nat → Int32)} {n : Nat} {d : Int} : ∀ (c : Nat) (y : Int) (mem : MM) (K : Int → MM → Prop) (E : Nat → MM → Prop), y + c = 9 → SkO mem d → (∀ r m', r = 0 ∨ r = 1 → FrS mem m' → K r m') → CQI (Ex S (n + c + 4)) 96 [.inr 21, .inl y] mem K E := by
  intro c
  induction c with
  | zero => intro y mem K E hy hS H; exact g_96 hS (fun z _ h => absurd h (by omega)) H
  | succ c ih => intro y mem K E hy hS H; exact g_96 (n := n + (c + 1)) hS (fun z hz _ m K' E' h1 h2 => ih z m K' E' (by omega) h1 h2) H
theorem f_96z {S : Nat × (Nat → Int32)} {n : Nat} {d : Int} {mem : MM} {K : Int → MM → Prop} {E : Nat → MM → Prop} (hS : SkO mem d) (H : ∀ r m', r = 0 ∨ r = 1 → FrS mem m' → K r m') : CQI (Ex S (n + 13)) 96 [.inr 21, .inl 0] mem K E := f_96 (n := n) 9 0 mem K E (by omega) hS H
theorem upm_rg {m : MM} {A i B j : Nat} {x lo hi : Int} (h1 : B = A ∧ j = i → lo ≤ x ∧ x ≤ hi) (h2 : ¬ (B = A ∧ j = i) → lo ≤ m B j ∧ m B j ≤ hi) : lo ≤ upm m A i x B j ∧ upm m A i x B j ≤ hi := by
  by_cases q : B = A ∧ j = i
  · rw [q.1, q.2, upm_eq]; exact h1 q
  · rw [upm_ne q]; exact h2 q
def pBz (o : Int) (A i : Nat) : Prop := A = 27 ∧ 4 * o.toNat ≤ i ∧ i < 4 * o.toNat + 4
def pK7 (A _i : Nat) : Prop := A = 21 ∨ (24 ≤ A ∧ A ≤ 28)
def TkI (mem m : MM) (d c x : Int) : Prop := (m 21 0 = mem 1 0 ∧ m 21 1 = d) ∧ (∀ o, o < 8 → 0 ≤ m 24 o ∧ m 24 o ≤ 2) ∧ (∀ u : Nat, (u : Int) < c → 1 ≤ m 25 u ∧ m 25 u ≤ 3) ∧ ∀ o r : Nat, (o : Int) < x → r < 4 → 0 ≤ m 27 (4 * o + r) ∧ m 27 (4 * o + r) ≤ m 25 (m 24 o).toNat
theorem TkI.le {mem m : MM} {d c x c' x' : Int} (h : TkI mem m d c x) (h1 : c' ≤ c) (h2 : x' ≤ x) : TkI mem m d c' x' := ⟨h.1, h.2.1, fun u hu => h.2.2.1 u (by omega), fun o r ho hr => h.2.2.2 o r (by omega) hr⟩
theorem TkI.up0 {mem m : MM} {d c x v : Int} {A i : Nat} (h : TkI mem m d c x) (q : ¬ (A = 21 ∧ i < 2) ∧ ¬ A = 24 ∧ ¬ A = 25 ∧ ¬ A = 27) : TkI mem (upm m A i v) d c x := by
  refine ⟨?_, fun o ho => ?_, fun u hu => ?_, fun o r ho hr => ?_⟩
  · rw [upm_ne (by omega), upm_ne (by omega)]; exact h.1
  · rw [upm_ne (by omega)]; exact h.2.1 o ho
  · rw [upm_ne (by omega)]; exact h.2.2.1 u hu
  · rw [upm_ne (by omega), upm_ne (A := A) (B := 24) (by omega), upm_ne (by omega)]; exact h.2.2.2 o r ho hr
theorem TkI.up25 {mem m : MM} {d c v : Int} {i : Nat} (h : TkI mem m d c 0) (hv : 1 ≤ v ∧ v ≤ 3) (hi : c = (i : Int)) : TkI mem (upm m 25 i v) d (c + 1) 0 := by
  refine ⟨?_, fun o ho => ?_, fun u hu => ?_, fun o r ho hr => absurd ho (by omega)⟩
  · rw [upm_ne (by omega), upm_ne (by omega)]; exact h.1
  · rw [upm_ne (by omega)]; exact h.2.1 o ho
  · exact upm_rg (fun _ => hv) (fun q => h.2.2.1 u (by omega))
theorem TkI.up24 {mem m : MM} {d c x v : Int} {i : Nat} (h : TkI mem m d c x) (hv : 0 ≤ v ∧ v ≤ 2) (hi : x = (i : Int)) : TkI mem (upm m 24 i v) d c x := by
  refine ⟨?_, fun o ho => ?_, fun u hu => ?_, fun o r ho hr => ?_⟩
  · rw [upm_ne (by omega), upm_ne (by omega)]; exact h.1
  · exact upm_rg (fun _ => hv) (fun q => h.2.1 o ho)
  · rw [upm_ne (by omega)]; exact h.2.2.1 u hu
  · rw [upm_ne (by omega), upm_ne (A := 24) (B := 24) (by omega), upm_ne (by omega)]; exact h.2.2.2 o r ho hr
theorem TkI.asks {mem m m' : MM} {d x : Int} (h : TkI mem m d 3 x) (hx : 0 ≤ x) (hF : Frm (pBz x) m m') (ha : ∀ k, k < 4 → 0 ≤ m' 27 (4 * x.toNat + k) ∧ m' 27 (4 * x.toNat + k) ≤ m 25 (m 24 x.toNat).toNat) : TkI mem m' d 3 (x + 1) := by
  have e : ∀ A i, ¬ A = 27 → m' A i = m A i := fun A i q => hF A i (by unfold pBz; omega)
  refine ⟨?_, fun o ho => ?_, fun u hu => ?_, fun o r ho hr => ?_⟩
  · rw [e _ _ (by omega), e _ _ (by omega)]; exact h.1
  · rw [e _ _ (by omega)]; exact h.2.1 o ho
  · rw [e _ _ (by omega)]; exact h.2.2.1 u hu
  · rw [e 24 _ (by omega), e 25 _ (by omega)]
    by_cases q : o = x.toNat
    · rw [q]; exact ha r hr
    · rw [hF 27 _ (by unfold pBz; omega)]; exact h.2.2.2 o r (by omega) hr
theorem TkI.start {mem : MM} {d v f g : Int} (hU : ∀ o, o < 8 → 0 ≤ mem 24 o ∧ mem 24 o ≤ 2) (e : v = mem 1 0) : TkI mem (upm (upm (upm (upm mem 21 0 v) 21 1 d) 21 2 f) 21 4 g) d 0 0 := by
  refine ⟨⟨?_, ?_⟩, fun o ho => ?_, fun u hu => absurd hu (by omega), fun o r ho hr => absurd ho (by omega)⟩
  · rw [upm_ne (by omega), upm_ne (by omega), upm_ne (by omega), upm_eq]; exact e
  · rw [upm_ne (by omega), upm_ne (by omega), upm_eq]
  · rw [upm_ne (by omega), upm_ne (by omega), upm_ne (by omega), upm_ne (by omega)]; exact hU o ho
theorem TkI.sko {mem m : MM} {d x : Int} (h : TkI mem m d 3 x) (hx : m 21 0 ≤ x) (h8 : 0 ≤ mem 1 0 ∧ mem 1 0 ≤ 8) (hd : 1 ≤ d ∧ d ≤ 12) : SkO m d := by
  have e := h.1.1
  exact ⟨by omega, ⟨h.1.2, hd⟩, h.2.1, fun u hu => h.2.2.1 u (by omega), fun o r ho hr => h.2.2.2 o r (by omega) hr⟩
end
section
/-! laid by wip/hand/tg.py: the seeker: sk3 -/
def pT6 (A _i : Nat) : Prop := 21 ≤ A ∧ A ≤ 36
set_option maxRecDepth 100000 in
theorem mt_86 : MT[86]? = some M_86 := rfl
set_option maxRecDepth 100000 in
theorem mt_87 : MT[87]? = some M_87 := rfl
set_option maxRecDepth 100000 in
theorem mt_88 : MT[88]? = some M_88 := rfl
set_option maxRecDepth 100000 in
theorem mt_103 : MT[103]? = some M_103 := rfl
theorem te_86_0 : (pT M_86).find? (fun e => e.1 == 0) = some (0, .aload_n 0, 0, 0) := rfl
theorem te_86_1 : (pT M_86).find? (fun e => e.1 == 1) = some (1, .aload_n 1, 0, 0) := rfl
theorem te_86_2 : (pT M_86).find? (fun e => e.1 == 2) = some (2, .iload_n 2, 0, 0) := rfl
theorem te_86_3 : (pT M_86).find? (fun e => e.1 == 3) = some (3, .invokevirtual 57, 87, 0) := rfl
theorem te_86_6 : (pT M_86).find? (fun e => e.1 == 6) = some (6, .ifCond .ne 5, 0, 0) := rfl
theorem te_86_9 : (pT M_86).find? (fun e => e.1 == 9) = some (9, .iconst 0, 0, 0) := rfl
theorem te_86_10 : (pT M_86).find? (fun e => e.1 == 10) = some (10, .ireturn, 0, 0) := rfl
theorem te_86_11 : (pT M_86).find? (fun e => e.1 == 11) = some (11, .aload_n 0, 0, 0) := rfl
theorem te_86_12 : (pT M_86).find? (fun e => e.1 == 12) = some (12, .getfield 48, 6, 17) := rfl
theorem te_86_15 : (pT M_86).find? (fun e => e.1 == 15) = some (15, .iconst 0, 0, 0) := rfl
theorem te_86_16 : (pT M_86).find? (fun e => e.1 == 16) = some (16, .invokestatic 61, 76, 2) := rfl
theorem te_86_19 : (pT M_86).find? (fun e => e.1 == 19) = some (19, .aload_n 0, 0, 0) := rfl
theorem te_86_20 : (pT M_86).find? (fun e => e.1 == 20) = some (20, .getfield 54, 6, 19) := rfl
theorem te_86_23 : (pT M_86).find? (fun e => e.1 == 23) = some (23, .iconst 1, 0, 0) := rfl
theorem te_86_24 : (pT M_86).find? (fun e => e.1 == 24) = some (24, .invokestatic 61, 76, 2) := rfl
theorem te_86_27 : (pT M_86).find? (fun e => e.1 == 27) = some (27, .aload_n 0, 0, 0) := rfl
theorem te_86_28 : (pT M_86).find? (fun e => e.1 == 28) = some (28, .invokevirtual 67, 89, 0) := rfl
theorem te_86_31 : (pT M_86).find? (fun e => e.1 == 31) = some (31, .iconst 0, 0, 0) := rfl
theorem te_86_32 : (pT M_86).find? (fun e => e.1 == 32) = some (32, .istore_n 3, 0, 0) := rfl
theorem te_86_33 : (pT M_86).find? (fun e => e.1 == 33) = some (33, .iconst 0, 0, 0) := rfl
theorem te_86_34 : (pT M_86).find? (fun e => e.1 == 34) = some (34, .istore 4, 0, 0) := rfl
theorem te_86_36 : (pT M_86).find? (fun e => e.1 == 36) = some (36, .iload 4, 0, 0) := rfl
theorem te_86_38 : (pT M_86).find? (fun e => e.1 == 38) = some (38, .aload_n 0, 0, 0) := rfl
theorem te_86_39 : (pT M_86).find? (fun e => e.1 == 39) = some (39, .getfield 70, 6, 0) := rfl
theorem te_86_42 : (pT M_86).find? (fun e => e.1 == 42) = some (42, .if_icmp .ge 79, 0, 0) := rfl
theorem te_86_45 : (pT M_86).find? (fun e => e.1 == 45) = some (45, .iload_n 3, 0, 0) := rfl
theorem te_86_46 : (pT M_86).find? (fun e => e.1 == 46) = some (46, .iconst 1, 0, 0) := rfl
theorem te_86_47 : (pT M_86).find? (fun e => e.1 == 47) = some (47, .iload 4, 0, 0) := rfl
theorem te_86_49 : (pT M_86).find? (fun e => e.1 == 49) = some (49, .ishl, 0, 0) := rfl
theorem te_86_50 : (pT M_86).find? (fun e => e.1 == 50) = some (50, .iand, 0, 0) := rfl
theorem te_86_51 : (pT M_86).find? (fun e => e.1 == 51) = some (51, .ifCond .ne 64, 0, 0) := rfl
theorem te_86_54 : (pT M_86).find? (fun e => e.1 == 54) = some (54, .aload_n 0, 0, 0) := rfl
theorem te_86_55 : (pT M_86).find? (fun e => e.1 == 55) = some (55, .aload_n 0, 0, 0) := rfl
theorem te_86_56 : (pT M_86).find? (fun e => e.1 == 56) = some (56, .getfield 24, 6, 9) := rfl
theorem te_86_59 : (pT M_86).find? (fun e => e.1 == 59) = some (59, .aload_n 0, 0, 0) := rfl
theorem te_86_60 : (pT M_86).find? (fun e => e.1 == 60) = some (60, .getfield 18, 6, 7) := rfl
theorem te_86_63 : (pT M_86).find? (fun e => e.1 == 63) = some (63, .iload 4, 0, 0) := rfl
theorem te_86_65 : (pT M_86).find? (fun e => e.1 == 65) = some (65, .iaload, 0, 0) := rfl
theorem te_86_66 : (pT M_86).find? (fun e => e.1 == 66) = some (66, .iaload, 0, 0) := rfl
theorem te_86_67 : (pT M_86).find? (fun e => e.1 == 67) = some (67, .putfield 74, 6, 3) := rfl
theorem te_86_70 : (pT M_86).find? (fun e => e.1 == 70) = some (70, .iload_n 3, 0, 0) := rfl
theorem te_86_71 : (pT M_86).find? (fun e => e.1 == 71) = some (71, .aload_n 0, 0, 0) := rfl
theorem te_86_72 : (pT M_86).find? (fun e => e.1 == 72) = some (72, .getfield 74, 6, 3) := rfl
theorem te_86_75 : (pT M_86).find? (fun e => e.1 == 75) = some (75, .ior, 0, 0) := rfl
theorem te_86_76 : (pT M_86).find? (fun e => e.1 == 76) = some (76, .istore_n 3, 0, 0) := rfl
theorem te_86_77 : (pT M_86).find? (fun e => e.1 == 77) = some (77, .aload_n 0, 0, 0) := rfl
theorem te_86_78 : (pT M_86).find? (fun e => e.1 == 78) = some (78, .iload 4, 0, 0) := rfl
theorem te_86_80 : (pT M_86).find? (fun e => e.1 == 80) = some (80, .iconst 0, 0, 0) := rfl
theorem te_86_81 : (pT M_86).find? (fun e => e.1 == 81) = some (81, .invokevirtual 77, 91, 0) := rfl
theorem te_86_84 : (pT M_86).find? (fun e => e.1 == 84) = some (84, .ifCond .eq 15, 0, 0) := rfl
theorem te_86_87 : (pT M_86).find? (fun e => e.1 == 87) = some (87, .aload_n 0, 0, 0) := rfl
theorem te_86_88 : (pT M_86).find? (fun e => e.1 == 88) = some (88, .iconst 0, 0, 0) := rfl
theorem te_86_89 : (pT M_86).find? (fun e => e.1 == 89) = some (89, .invokevirtual 81, 96, 0) := rfl
theorem te_86_92 : (pT M_86).find? (fun e => e.1 == 92) = some (92, .ifCond .eq 7, 0, 0) := rfl
theorem te_86_95 : (pT M_86).find? (fun e => e.1 == 95) = some (95, .iconst 1, 0, 0) := rfl
theorem te_86_96 : (pT M_86).find? (fun e => e.1 == 96) = some (96, .goto 4, 0, 0) := rfl
theorem te_86_99 : (pT M_86).find? (fun e => e.1 == 99) = some (99, .iconst 0, 0, 0) := rfl
theorem te_86_100 : (pT M_86).find? (fun e => e.1 == 100) = some (100, .istore 5, 0, 0) := rfl
theorem te_86_102 : (pT M_86).find? (fun e => e.1 == 102) = some (102, .aload_n 0, 0, 0) := rfl
theorem te_86_103 : (pT M_86).find? (fun e => e.1 == 103) = some (103, .iload 4, 0, 0) := rfl
theorem te_86_105 : (pT M_86).find? (fun e => e.1 == 105) = some (105, .invokevirtual 85, 102, 0) := rfl
theorem te_86_108 : (pT M_86).find? (fun e => e.1 == 108) = some (108, .iload 5, 0, 0) := rfl
theorem te_86_110 : (pT M_86).find? (fun e => e.1 == 110) = some (110, .ifCond .ne 5, 0, 0) := rfl
theorem te_86_113 : (pT M_86).find? (fun e => e.1 == 113) = some (113, .iconst 0, 0, 0) := rfl
theorem te_86_114 : (pT M_86).find? (fun e => e.1 == 114) = some (114, .ireturn, 0, 0) := rfl
theorem te_86_115 : (pT M_86).find? (fun e => e.1 == 115) = some (115, .iinc 4 1, 0, 0) := rfl
theorem te_86_118 : (pT M_86).find? (fun e => e.1 == 118) = some (118, .goto (-82), 0, 0) := rfl
theorem te_86_121 : (pT M_86).find? (fun e => e.1 == 121) = some (121, .iconst 1, 0, 0) := rfl
theorem te_86_122 : (pT M_86).find? (fun e => e.1 == 122) = some (122, .ireturn, 0, 0) := rfl
theorem te_87_0 : (pT M_87).find? (fun e => e.1 == 0) = some (0, .aload_n 0, 0, 0) := rfl
theorem te_87_1 : (pT M_87).find? (fun e => e.1 == 1) = some (1, .aload_n 1, 0, 0) := rfl
theorem te_87_2 : (pT M_87).find? (fun e => e.1 == 2) = some (2, .getfield 106, 0, 0) := rfl
theorem te_87_5 : (pT M_87).find? (fun e => e.1 == 5) = some (5, .putfield 70, 6, 0) := rfl
theorem te_87_8 : (pT M_87).find? (fun e => e.1 == 8) = some (8, .aload_n 0, 0, 0) := rfl
theorem te_87_9 : (pT M_87).find? (fun e => e.1 == 9) = some (9, .iload_n 2, 0, 0) := rfl
theorem te_87_10 : (pT M_87).find? (fun e => e.1 == 10) = some (10, .putfield 103, 6, 1) := rfl
theorem te_87_13 : (pT M_87).find? (fun e => e.1 == 13) = some (13, .aload_n 0, 0, 0) := rfl
theorem te_87_14 : (pT M_87).find? (fun e => e.1 == 14) = some (14, .iconst 1, 0, 0) := rfl
theorem te_87_15 : (pT M_87).find? (fun e => e.1 == 15) = some (15, .iload_n 2, 0, 0) := rfl
theorem te_87_16 : (pT M_87).find? (fun e => e.1 == 16) = some (16, .ishl, 0, 0) := rfl
theorem te_87_17 : (pT M_87).find? (fun e => e.1 == 17) = some (17, .iconst 1, 0, 0) := rfl
theorem te_87_18 : (pT M_87).find? (fun e => e.1 == 18) = some (18, .isub, 0, 0) := rfl
theorem te_87_19 : (pT M_87).find? (fun e => e.1 == 19) = some (19, .putfield 109, 6, 2) := rfl
theorem te_87_22 : (pT M_87).find? (fun e => e.1 == 22) = some (22, .aload_n 0, 0, 0) := rfl
theorem te_87_23 : (pT M_87).find? (fun e => e.1 == 23) = some (23, .iconst 0, 0, 0) := rfl
theorem te_87_24 : (pT M_87).find? (fun e => e.1 == 24) = some (24, .putfield 97, 6, 4) := rfl
theorem te_87_27 : (pT M_87).find? (fun e => e.1 == 27) = some (27, .iconst 0, 0, 0) := rfl
theorem te_87_28 : (pT M_87).find? (fun e => e.1 == 28) = some (28, .istore_n 3, 0, 0) := rfl
theorem te_87_29 : (pT M_87).find? (fun e => e.1 == 29) = some (29, .iload_n 3, 0, 0) := rfl
theorem te_87_30 : (pT M_87).find? (fun e => e.1 == 30) = some (30, .iconst 3, 0, 0) := rfl
theorem te_87_31 : (pT M_87).find? (fun e => e.1 == 31) = some (31, .if_icmp .ge 91, 0, 0) := rfl
theorem te_87_34 : (pT M_87).find? (fun e => e.1 == 34) = some (34, .aload_n 0, 0, 0) := rfl
theorem te_87_35 : (pT M_87).find? (fun e => e.1 == 35) = some (35, .getfield 21, 6, 8) := rfl
theorem te_87_38 : (pT M_87).find? (fun e => e.1 == 38) = some (38, .iload_n 3, 0, 0) := rfl
theorem te_87_39 : (pT M_87).find? (fun e => e.1 == 39) = some (39, .aload_n 1, 0, 0) := rfl
theorem te_87_40 : (pT M_87).find? (fun e => e.1 == 40) = some (40, .getfield 112, 0, 7) := rfl
theorem te_87_43 : (pT M_87).find? (fun e => e.1 == 43) = some (43, .iload_n 3, 0, 0) := rfl
theorem te_87_44 : (pT M_87).find? (fun e => e.1 == 44) = some (44, .iaload, 0, 0) := rfl
theorem te_87_45 : (pT M_87).find? (fun e => e.1 == 45) = some (45, .iastore, 0, 0) := rfl
theorem te_87_46 : (pT M_87).find? (fun e => e.1 == 46) = some (46, .aload_n 1, 0, 0) := rfl
theorem te_87_47 : (pT M_87).find? (fun e => e.1 == 47) = some (47, .iload_n 3, 0, 0) := rfl
theorem te_87_48 : (pT M_87).find? (fun e => e.1 == 48) = some (48, .invokevirtual 113, 36, 1) := rfl
theorem te_87_51 : (pT M_87).find? (fun e => e.1 == 51) = some (51, .iload_n 2, 0, 0) := rfl
theorem te_87_52 : (pT M_87).find? (fun e => e.1 == 52) = some (52, .aload_n 0, 0, 0) := rfl
theorem te_87_53 : (pT M_87).find? (fun e => e.1 == 53) = some (53, .getfield 21, 6, 8) := rfl
theorem te_87_56 : (pT M_87).find? (fun e => e.1 == 56) = some (56, .iload_n 3, 0, 0) := rfl
theorem te_87_57 : (pT M_87).find? (fun e => e.1 == 57) = some (57, .iaload, 0, 0) := rfl
theorem te_87_58 : (pT M_87).find? (fun e => e.1 == 58) = some (58, .imul, 0, 0) := rfl
theorem te_87_59 : (pT M_87).find? (fun e => e.1 == 59) = some (59, .if_icmp .le 5, 0, 0) := rfl
theorem te_87_62 : (pT M_87).find? (fun e => e.1 == 62) = some (62, .iconst 0, 0, 0) := rfl
theorem te_87_63 : (pT M_87).find? (fun e => e.1 == 63) = some (63, .ireturn, 0, 0) := rfl
theorem te_87_64 : (pT M_87).find? (fun e => e.1 == 64) = some (64, .aload_n 0, 0, 0) := rfl
theorem te_87_65 : (pT M_87).find? (fun e => e.1 == 65) = some (65, .getfield 24, 6, 9) := rfl
theorem te_87_68 : (pT M_87).find? (fun e => e.1 == 68) = some (68, .iload_n 3, 0, 0) := rfl
theorem te_87_69 : (pT M_87).find? (fun e => e.1 == 69) = some (69, .iconst 0, 0, 0) := rfl
theorem te_87_70 : (pT M_87).find? (fun e => e.1 == 70) = some (70, .iastore, 0, 0) := rfl
theorem te_87_71 : (pT M_87).find? (fun e => e.1 == 71) = some (71, .aload_n 0, 0, 0) := rfl
theorem te_87_72 : (pT M_87).find? (fun e => e.1 == 72) = some (72, .getfield 30, 6, 11) := rfl
theorem te_87_75 : (pT M_87).find? (fun e => e.1 == 75) = some (75, .iload_n 3, 0, 0) := rfl
theorem te_87_76 : (pT M_87).find? (fun e => e.1 == 76) = some (76, .iconst 4, 0, 0) := rfl
theorem te_87_77 : (pT M_87).find? (fun e => e.1 == 77) = some (77, .imul, 0, 0) := rfl
theorem te_87_78 : (pT M_87).find? (fun e => e.1 == 78) = some (78, .aload_n 0, 0, 0) := rfl
theorem te_87_79 : (pT M_87).find? (fun e => e.1 == 79) = some (79, .getfield 109, 6, 2) := rfl
theorem te_87_82 : (pT M_87).find? (fun e => e.1 == 82) = some (82, .iastore, 0, 0) := rfl
theorem te_87_83 : (pT M_87).find? (fun e => e.1 == 83) = some (83, .aload_n 0, 0, 0) := rfl
theorem te_87_84 : (pT M_87).find? (fun e => e.1 == 84) = some (84, .getfield 30, 6, 11) := rfl
theorem te_87_87 : (pT M_87).find? (fun e => e.1 == 87) = some (87, .iload_n 3, 0, 0) := rfl
theorem te_87_88 : (pT M_87).find? (fun e => e.1 == 88) = some (88, .iconst 4, 0, 0) := rfl
theorem te_87_89 : (pT M_87).find? (fun e => e.1 == 89) = some (89, .imul, 0, 0) := rfl
theorem te_87_90 : (pT M_87).find? (fun e => e.1 == 90) = some (90, .iconst 1, 0, 0) := rfl
theorem te_87_91 : (pT M_87).find? (fun e => e.1 == 91) = some (91, .iadd, 0, 0) := rfl
theorem te_87_92 : (pT M_87).find? (fun e => e.1 == 92) = some (92, .iconst 0, 0, 0) := rfl
theorem te_87_93 : (pT M_87).find? (fun e => e.1 == 93) = some (93, .iastore, 0, 0) := rfl
theorem te_87_94 : (pT M_87).find? (fun e => e.1 == 94) = some (94, .aload_n 0, 0, 0) := rfl
theorem te_87_95 : (pT M_87).find? (fun e => e.1 == 95) = some (95, .getfield 30, 6, 11) := rfl
theorem te_87_98 : (pT M_87).find? (fun e => e.1 == 98) = some (98, .iload_n 3, 0, 0) := rfl
theorem te_87_99 : (pT M_87).find? (fun e => e.1 == 99) = some (99, .iconst 4, 0, 0) := rfl
theorem te_87_100 : (pT M_87).find? (fun e => e.1 == 100) = some (100, .imul, 0, 0) := rfl
theorem te_87_101 : (pT M_87).find? (fun e => e.1 == 101) = some (101, .iconst 2, 0, 0) := rfl
theorem te_87_102 : (pT M_87).find? (fun e => e.1 == 102) = some (102, .iadd, 0, 0) := rfl
theorem te_87_103 : (pT M_87).find? (fun e => e.1 == 103) = some (103, .iconst 0, 0, 0) := rfl
theorem te_87_104 : (pT M_87).find? (fun e => e.1 == 104) = some (104, .iastore, 0, 0) := rfl
theorem te_87_105 : (pT M_87).find? (fun e => e.1 == 105) = some (105, .aload_n 0, 0, 0) := rfl
theorem te_87_106 : (pT M_87).find? (fun e => e.1 == 106) = some (106, .getfield 30, 6, 11) := rfl
theorem te_87_109 : (pT M_87).find? (fun e => e.1 == 109) = some (109, .iload_n 3, 0, 0) := rfl
theorem te_87_110 : (pT M_87).find? (fun e => e.1 == 110) = some (110, .iconst 4, 0, 0) := rfl
theorem te_87_111 : (pT M_87).find? (fun e => e.1 == 111) = some (111, .imul, 0, 0) := rfl
theorem te_87_112 : (pT M_87).find? (fun e => e.1 == 112) = some (112, .iconst 3, 0, 0) := rfl
theorem te_87_113 : (pT M_87).find? (fun e => e.1 == 113) = some (113, .iadd, 0, 0) := rfl
theorem te_87_114 : (pT M_87).find? (fun e => e.1 == 114) = some (114, .iconst 0, 0, 0) := rfl
theorem te_87_115 : (pT M_87).find? (fun e => e.1 == 115) = some (115, .iastore, 0, 0) := rfl
theorem te_87_116 : (pT M_87).find? (fun e => e.1 == 116) = some (116, .iinc 3 1, 0, 0) := rfl
theorem te_87_119 : (pT M_87).find? (fun e => e.1 == 119) = some (119, .goto (-90), 0, 0) := rfl
theorem te_87_122 : (pT M_87).find? (fun e => e.1 == 122) = some (122, .iconst 0, 0, 0) := rfl
theorem te_87_123 : (pT M_87).find? (fun e => e.1 == 123) = some (123, .istore_n 3, 0, 0) := rfl
theorem te_87_124 : (pT M_87).find? (fun e => e.1 == 124) = some (124, .iload_n 3, 0, 0) := rfl
theorem te_87_125 : (pT M_87).find? (fun e => e.1 == 125) = some (125, .aload_n 0, 0, 0) := rfl
theorem te_87_126 : (pT M_87).find? (fun e => e.1 == 126) = some (126, .getfield 70, 6, 0) := rfl
theorem te_87_129 : (pT M_87).find? (fun e => e.1 == 129) = some (129, .if_icmp .ge 52, 0, 0) := rfl
theorem te_87_132 : (pT M_87).find? (fun e => e.1 == 132) = some (132, .aload_n 0, 0, 0) := rfl
theorem te_87_133 : (pT M_87).find? (fun e => e.1 == 133) = some (133, .getfield 18, 6, 7) := rfl
theorem te_87_136 : (pT M_87).find? (fun e => e.1 == 136) = some (136, .iload_n 3, 0, 0) := rfl
theorem te_87_137 : (pT M_87).find? (fun e => e.1 == 137) = some (137, .aload_n 1, 0, 0) := rfl
theorem te_87_138 : (pT M_87).find? (fun e => e.1 == 138) = some (138, .iload_n 3, 0, 0) := rfl
theorem te_87_139 : (pT M_87).find? (fun e => e.1 == 139) = some (139, .invokevirtual 116, 37, 1) := rfl
theorem te_87_142 : (pT M_87).find? (fun e => e.1 == 142) = some (142, .iastore, 0, 0) := rfl
theorem te_87_143 : (pT M_87).find? (fun e => e.1 == 143) = some (143, .aload_n 0, 0, 0) := rfl
theorem te_87_144 : (pT M_87).find? (fun e => e.1 == 144) = some (144, .getfield 24, 6, 9) := rfl
theorem te_87_147 : (pT M_87).find? (fun e => e.1 == 147) = some (147, .aload_n 0, 0, 0) := rfl
theorem te_87_148 : (pT M_87).find? (fun e => e.1 == 148) = some (148, .getfield 18, 6, 7) := rfl
theorem te_87_151 : (pT M_87).find? (fun e => e.1 == 151) = some (151, .iload_n 3, 0, 0) := rfl
theorem te_87_152 : (pT M_87).find? (fun e => e.1 == 152) = some (152, .iaload, 0, 0) := rfl
theorem te_87_153 : (pT M_87).find? (fun e => e.1 == 153) = some (153, .dup2, 0, 0) := rfl
theorem te_87_154 : (pT M_87).find? (fun e => e.1 == 154) = some (154, .iaload, 0, 0) := rfl
theorem te_87_155 : (pT M_87).find? (fun e => e.1 == 155) = some (155, .iconst 1, 0, 0) := rfl
theorem te_87_156 : (pT M_87).find? (fun e => e.1 == 156) = some (156, .iload_n 3, 0, 0) := rfl
theorem te_87_157 : (pT M_87).find? (fun e => e.1 == 157) = some (157, .ishl, 0, 0) := rfl
theorem te_87_158 : (pT M_87).find? (fun e => e.1 == 158) = some (158, .ior, 0, 0) := rfl
theorem te_87_159 : (pT M_87).find? (fun e => e.1 == 159) = some (159, .iastore, 0, 0) := rfl
theorem te_87_160 : (pT M_87).find? (fun e => e.1 == 160) = some (160, .aload_n 0, 0, 0) := rfl
theorem te_87_161 : (pT M_87).find? (fun e => e.1 == 161) = some (161, .iload_n 3, 0, 0) := rfl
theorem te_87_162 : (pT M_87).find? (fun e => e.1 == 162) = some (162, .aload_n 1, 0, 0) := rfl
theorem te_87_163 : (pT M_87).find? (fun e => e.1 == 163) = some (163, .iload_n 3, 0, 0) := rfl
theorem te_87_164 : (pT M_87).find? (fun e => e.1 == 164) = some (164, .invokevirtual 119, 38, 1) := rfl
theorem te_87_167 : (pT M_87).find? (fun e => e.1 == 167) = some (167, .invokevirtual 122, 88, 0) := rfl
theorem te_87_170 : (pT M_87).find? (fun e => e.1 == 170) = some (170, .ifCond .ne 5, 0, 0) := rfl
theorem te_87_173 : (pT M_87).find? (fun e => e.1 == 173) = some (173, .iconst 0, 0, 0) := rfl
theorem te_87_174 : (pT M_87).find? (fun e => e.1 == 174) = some (174, .ireturn, 0, 0) := rfl
theorem te_87_175 : (pT M_87).find? (fun e => e.1 == 175) = some (175, .iinc 3 1, 0, 0) := rfl
theorem te_87_178 : (pT M_87).find? (fun e => e.1 == 178) = some (178, .goto (-54), 0, 0) := rfl
theorem te_87_181 : (pT M_87).find? (fun e => e.1 == 181) = some (181, .iconst 1, 0, 0) := rfl
theorem te_87_182 : (pT M_87).find? (fun e => e.1 == 182) = some (182, .ireturn, 0, 0) := rfl
theorem te_88_0 : (pT M_88).find? (fun e => e.1 == 0) = some (0, .iconst 0, 0, 0) := rfl
theorem te_88_1 : (pT M_88).find? (fun e => e.1 == 1) = some (1, .istore_n 3, 0, 0) := rfl
theorem te_88_2 : (pT M_88).find? (fun e => e.1 == 2) = some (2, .iload_n 3, 0, 0) := rfl
theorem te_88_3 : (pT M_88).find? (fun e => e.1 == 3) = some (3, .iconst 4, 0, 0) := rfl
theorem te_88_4 : (pT M_88).find? (fun e => e.1 == 4) = some (4, .if_icmp .ge 20, 0, 0) := rfl
theorem te_88_7 : (pT M_88).find? (fun e => e.1 == 7) = some (7, .aload_n 0, 0, 0) := rfl
theorem te_88_8 : (pT M_88).find? (fun e => e.1 == 8) = some (8, .getfield 27, 6, 10) := rfl
theorem te_88_11 : (pT M_88).find? (fun e => e.1 == 11) = some (11, .iload_n 1, 0, 0) := rfl
theorem te_88_12 : (pT M_88).find? (fun e => e.1 == 12) = some (12, .iconst 4, 0, 0) := rfl
theorem te_88_13 : (pT M_88).find? (fun e => e.1 == 13) = some (13, .imul, 0, 0) := rfl
theorem te_88_14 : (pT M_88).find? (fun e => e.1 == 14) = some (14, .iload_n 3, 0, 0) := rfl
theorem te_88_15 : (pT M_88).find? (fun e => e.1 == 15) = some (15, .iadd, 0, 0) := rfl
theorem te_88_16 : (pT M_88).find? (fun e => e.1 == 16) = some (16, .iconst 0, 0, 0) := rfl
theorem te_88_17 : (pT M_88).find? (fun e => e.1 == 17) = some (17, .iastore, 0, 0) := rfl
theorem te_88_18 : (pT M_88).find? (fun e => e.1 == 18) = some (18, .iinc 3 1, 0, 0) := rfl
theorem te_88_21 : (pT M_88).find? (fun e => e.1 == 21) = some (21, .goto (-19), 0, 0) := rfl
theorem te_88_24 : (pT M_88).find? (fun e => e.1 == 24) = some (24, .iconst 0, 0, 0) := rfl
theorem te_88_25 : (pT M_88).find? (fun e => e.1 == 25) = some (25, .istore_n 3, 0, 0) := rfl
theorem te_88_26 : (pT M_88).find? (fun e => e.1 == 26) = some (26, .iload_n 3, 0, 0) := rfl
theorem te_88_27 : (pT M_88).find? (fun e => e.1 == 27) = some (27, .iconst 4, 0, 0) := rfl
theorem te_88_28 : (pT M_88).find? (fun e => e.1 == 28) = some (28, .if_icmp .ge 63, 0, 0) := rfl
theorem te_88_31 : (pT M_88).find? (fun e => e.1 == 31) = some (31, .iload_n 2, 0, 0) := rfl
theorem te_88_32 : (pT M_88).find? (fun e => e.1 == 32) = some (32, .iconst 1, 0, 0) := rfl
theorem te_88_33 : (pT M_88).find? (fun e => e.1 == 33) = some (33, .iload_n 3, 0, 0) := rfl
theorem te_88_34 : (pT M_88).find? (fun e => e.1 == 34) = some (34, .ishl, 0, 0) := rfl
theorem te_88_35 : (pT M_88).find? (fun e => e.1 == 35) = some (35, .iand, 0, 0) := rfl
theorem te_88_36 : (pT M_88).find? (fun e => e.1 == 36) = some (36, .ifCond .eq 49, 0, 0) := rfl
theorem te_88_39 : (pT M_88).find? (fun e => e.1 == 39) = some (39, .iload_n 1, 0, 0) := rfl
theorem te_88_40 : (pT M_88).find? (fun e => e.1 == 40) = some (40, .iconst 4, 0, 0) := rfl
theorem te_88_41 : (pT M_88).find? (fun e => e.1 == 41) = some (41, .imul, 0, 0) := rfl
theorem te_88_42 : (pT M_88).find? (fun e => e.1 == 42) = some (42, .iload_n 3, 0, 0) := rfl
theorem te_88_43 : (pT M_88).find? (fun e => e.1 == 43) = some (43, .aload_n 0, 0, 0) := rfl
theorem te_88_44 : (pT M_88).find? (fun e => e.1 == 44) = some (44, .getfield 103, 6, 1) := rfl
theorem te_88_47 : (pT M_88).find? (fun e => e.1 == 47) = some (47, .irem, 0, 0) := rfl
theorem te_88_48 : (pT M_88).find? (fun e => e.1 == 48) = some (48, .iadd, 0, 0) := rfl
theorem te_88_49 : (pT M_88).find? (fun e => e.1 == 49) = some (49, .istore 4, 0, 0) := rfl
theorem te_88_51 : (pT M_88).find? (fun e => e.1 == 51) = some (51, .aload_n 0, 0, 0) := rfl
theorem te_88_52 : (pT M_88).find? (fun e => e.1 == 52) = some (52, .getfield 27, 6, 10) := rfl
theorem te_88_55 : (pT M_88).find? (fun e => e.1 == 55) = some (55, .iload 4, 0, 0) := rfl
theorem te_88_57 : (pT M_88).find? (fun e => e.1 == 57) = some (57, .dup2, 0, 0) := rfl
theorem te_88_58 : (pT M_88).find? (fun e => e.1 == 58) = some (58, .iaload, 0, 0) := rfl
theorem te_88_59 : (pT M_88).find? (fun e => e.1 == 59) = some (59, .iconst 1, 0, 0) := rfl
theorem te_88_60 : (pT M_88).find? (fun e => e.1 == 60) = some (60, .iadd, 0, 0) := rfl
theorem te_88_61 : (pT M_88).find? (fun e => e.1 == 61) = some (61, .iastore, 0, 0) := rfl
theorem te_88_62 : (pT M_88).find? (fun e => e.1 == 62) = some (62, .aload_n 0, 0, 0) := rfl
theorem te_88_63 : (pT M_88).find? (fun e => e.1 == 63) = some (63, .getfield 27, 6, 10) := rfl
theorem te_88_66 : (pT M_88).find? (fun e => e.1 == 66) = some (66, .iload 4, 0, 0) := rfl
theorem te_88_68 : (pT M_88).find? (fun e => e.1 == 68) = some (68, .iaload, 0, 0) := rfl
theorem te_88_69 : (pT M_88).find? (fun e => e.1 == 69) = some (69, .aload_n 0, 0, 0) := rfl
theorem te_88_70 : (pT M_88).find? (fun e => e.1 == 70) = some (70, .getfield 21, 6, 8) := rfl
theorem te_88_73 : (pT M_88).find? (fun e => e.1 == 73) = some (73, .aload_n 0, 0, 0) := rfl
theorem te_88_74 : (pT M_88).find? (fun e => e.1 == 74) = some (74, .getfield 18, 6, 7) := rfl
theorem te_88_77 : (pT M_88).find? (fun e => e.1 == 77) = some (77, .iload_n 1, 0, 0) := rfl
theorem te_88_78 : (pT M_88).find? (fun e => e.1 == 78) = some (78, .iaload, 0, 0) := rfl
theorem te_88_79 : (pT M_88).find? (fun e => e.1 == 79) = some (79, .iaload, 0, 0) := rfl
theorem te_88_80 : (pT M_88).find? (fun e => e.1 == 80) = some (80, .if_icmp .le 5, 0, 0) := rfl
theorem te_88_83 : (pT M_88).find? (fun e => e.1 == 83) = some (83, .iconst 0, 0, 0) := rfl
theorem te_88_84 : (pT M_88).find? (fun e => e.1 == 84) = some (84, .ireturn, 0, 0) := rfl
theorem te_88_85 : (pT M_88).find? (fun e => e.1 == 85) = some (85, .iinc 3 1, 0, 0) := rfl
theorem te_88_88 : (pT M_88).find? (fun e => e.1 == 88) = some (88, .goto (-62), 0, 0) := rfl
theorem te_88_91 : (pT M_88).find? (fun e => e.1 == 91) = some (91, .iconst 1, 0, 0) := rfl
theorem te_88_92 : (pT M_88).find? (fun e => e.1 == 92) = some (92, .ireturn, 0, 0) := rfl
theorem te_103_0 : (pT M_103).find? (fun e => e.1 == 0) = some (0, .aload_n 0, 0, 0) := rfl
theorem te_103_1 : (pT M_103).find? (fun e => e.1 == 1) = some (1, .aload_n 1, 0, 0) := rfl
theorem te_103_2 : (pT M_103).find? (fun e => e.1 == 2) = some (2, .invokevirtual 89, 104, 0) := rfl
theorem te_103_5 : (pT M_103).find? (fun e => e.1 == 5) = some (5, .aload_n 0, 0, 0) := rfl
theorem te_103_6 : (pT M_103).find? (fun e => e.1 == 6) = some (6, .invokevirtual 67, 89, 0) := rfl
theorem te_103_9 : (pT M_103).find? (fun e => e.1 == 9) = some (9, .iconst 0, 0, 0) := rfl
theorem te_103_10 : (pT M_103).find? (fun e => e.1 == 10) = some (10, .istore_n 2, 0, 0) := rfl
theorem te_103_11 : (pT M_103).find? (fun e => e.1 == 11) = some (11, .iload_n 2, 0, 0) := rfl
theorem te_103_12 : (pT M_103).find? (fun e => e.1 == 12) = some (12, .aload_n 0, 0, 0) := rfl
theorem te_103_13 : (pT M_103).find? (fun e => e.1 == 13) = some (13, .getfield 70, 6, 0) := rfl
theorem te_103_16 : (pT M_103).find? (fun e => e.1 == 16) = some (16, .if_icmp .ge 156, 0, 0) := rfl
theorem te_103_19 : (pT M_103).find? (fun e => e.1 == 19) = some (19, .aload_n 0, 0, 0) := rfl
theorem te_103_20 : (pT M_103).find? (fun e => e.1 == 20) = some (20, .aload_n 0, 0, 0) := rfl
theorem te_103_21 : (pT M_103).find? (fun e => e.1 == 21) = some (21, .iload_n 2, 0, 0) := rfl
theorem te_103_22 : (pT M_103).find? (fun e => e.1 == 22) = some (22, .invokevirtual 93, 105, 0) := rfl
theorem te_103_25 : (pT M_103).find? (fun e => e.1 == 25) = some (25, .putfield 74, 6, 3) := rfl
theorem te_103_28 : (pT M_103).find? (fun e => e.1 == 28) = some (28, .aload_n 0, 0, 0) := rfl
theorem te_103_29 : (pT M_103).find? (fun e => e.1 == 29) = some (29, .getfield 74, 6, 3) := rfl
theorem te_103_32 : (pT M_103).find? (fun e => e.1 == 32) = some (32, .aload_n 0, 0, 0) := rfl
theorem te_103_33 : (pT M_103).find? (fun e => e.1 == 33) = some (33, .getfield 97, 6, 4) := rfl
theorem te_103_36 : (pT M_103).find? (fun e => e.1 == 36) = some (36, .iand, 0, 0) := rfl
theorem te_103_37 : (pT M_103).find? (fun e => e.1 == 37) = some (37, .ifCond .ne 7, 0, 0) := rfl
theorem te_103_40 : (pT M_103).find? (fun e => e.1 == 40) = some (40, .iconst 1, 0, 0) := rfl
theorem te_103_41 : (pT M_103).find? (fun e => e.1 == 41) = some (41, .goto 4, 0, 0) := rfl
theorem te_103_44 : (pT M_103).find? (fun e => e.1 == 44) = some (44, .iconst 0, 0, 0) := rfl
theorem te_103_45 : (pT M_103).find? (fun e => e.1 == 45) = some (45, .istore_n 3, 0, 0) := rfl
theorem te_103_46 : (pT M_103).find? (fun e => e.1 == 46) = some (46, .iload_n 3, 0, 0) := rfl
theorem te_103_47 : (pT M_103).find? (fun e => e.1 == 47) = some (47, .ifCond .eq 7, 0, 0) := rfl
theorem te_103_50 : (pT M_103).find? (fun e => e.1 == 50) = some (50, .iconst 1, 0, 0) := rfl
theorem te_103_51 : (pT M_103).find? (fun e => e.1 == 51) = some (51, .goto 8, 0, 0) := rfl
theorem te_103_54 : (pT M_103).find? (fun e => e.1 == 54) = some (54, .aload_n 0, 0, 0) := rfl
theorem te_103_55 : (pT M_103).find? (fun e => e.1 == 55) = some (55, .iload_n 2, 0, 0) := rfl
theorem te_103_56 : (pT M_103).find? (fun e => e.1 == 56) = some (56, .invokevirtual 100, 97, 0) := rfl
theorem te_103_59 : (pT M_103).find? (fun e => e.1 == 59) = some (59, .istore 4, 0, 0) := rfl
theorem te_103_61 : (pT M_103).find? (fun e => e.1 == 61) = some (61, .iconst 0, 0, 0) := rfl
theorem te_103_62 : (pT M_103).find? (fun e => e.1 == 62) = some (62, .istore 5, 0, 0) := rfl
theorem te_103_64 : (pT M_103).find? (fun e => e.1 == 64) = some (64, .iconst 0, 0, 0) := rfl
theorem te_103_65 : (pT M_103).find? (fun e => e.1 == 65) = some (65, .istore 6, 0, 0) := rfl
theorem te_103_67 : (pT M_103).find? (fun e => e.1 == 67) = some (67, .iload 6, 0, 0) := rfl
theorem te_103_69 : (pT M_103).find? (fun e => e.1 == 69) = some (69, .aload_n 0, 0, 0) := rfl
theorem te_103_70 : (pT M_103).find? (fun e => e.1 == 70) = some (70, .getfield 103, 6, 1) := rfl
theorem te_103_73 : (pT M_103).find? (fun e => e.1 == 73) = some (73, .if_icmp .ge 86, 0, 0) := rfl
theorem te_103_76 : (pT M_103).find? (fun e => e.1 == 76) = some (76, .iload 5, 0, 0) := rfl
theorem te_103_78 : (pT M_103).find? (fun e => e.1 == 78) = some (78, .ifCond .ne 81, 0, 0) := rfl
theorem te_103_81 : (pT M_103).find? (fun e => e.1 == 81) = some (81, .iload 4, 0, 0) := rfl
theorem te_103_83 : (pT M_103).find? (fun e => e.1 == 83) = some (83, .iconst 1, 0, 0) := rfl
theorem te_103_84 : (pT M_103).find? (fun e => e.1 == 84) = some (84, .iload 6, 0, 0) := rfl
theorem te_103_86 : (pT M_103).find? (fun e => e.1 == 86) = some (86, .ishl, 0, 0) := rfl
theorem te_103_87 : (pT M_103).find? (fun e => e.1 == 87) = some (87, .iand, 0, 0) := rfl
theorem te_103_88 : (pT M_103).find? (fun e => e.1 == 88) = some (88, .ifCond .eq 65, 0, 0) := rfl
theorem te_103_91 : (pT M_103).find? (fun e => e.1 == 91) = some (91, .iload_n 3, 0, 0) := rfl
theorem te_103_92 : (pT M_103).find? (fun e => e.1 == 92) = some (92, .ifCond .ne 18, 0, 0) := rfl
theorem te_103_95 : (pT M_103).find? (fun e => e.1 == 95) = some (95, .iload 6, 0, 0) := rfl
theorem te_103_97 : (pT M_103).find? (fun e => e.1 == 97) = some (97, .aload_n 0, 0, 0) := rfl
theorem te_103_98 : (pT M_103).find? (fun e => e.1 == 98) = some (98, .getfield 15, 6, 6) := rfl
theorem te_103_101 : (pT M_103).find? (fun e => e.1 == 101) = some (101, .iload_n 2, 0, 0) := rfl
theorem te_103_102 : (pT M_103).find? (fun e => e.1 == 102) = some (102, .iaload, 0, 0) := rfl
theorem te_103_103 : (pT M_103).find? (fun e => e.1 == 103) = some (103, .if_icmp .ne 7, 0, 0) := rfl
theorem te_103_106 : (pT M_103).find? (fun e => e.1 == 106) = some (106, .iconst 1, 0, 0) := rfl
theorem te_103_107 : (pT M_103).find? (fun e => e.1 == 107) = some (107, .goto 4, 0, 0) := rfl
theorem te_103_110 : (pT M_103).find? (fun e => e.1 == 110) = some (110, .iconst 0, 0, 0) := rfl
theorem te_103_111 : (pT M_103).find? (fun e => e.1 == 111) = some (111, .istore 7, 0, 0) := rfl
theorem te_103_113 : (pT M_103).find? (fun e => e.1 == 113) = some (113, .aload_n 0, 0, 0) := rfl
theorem te_103_114 : (pT M_103).find? (fun e => e.1 == 114) = some (114, .iload_n 2, 0, 0) := rfl
theorem te_103_115 : (pT M_103).find? (fun e => e.1 == 115) = some (115, .iload 6, 0, 0) := rfl
theorem te_103_117 : (pT M_103).find? (fun e => e.1 == 117) = some (117, .invokevirtual 77, 91, 0) := rfl
theorem te_103_120 : (pT M_103).find? (fun e => e.1 == 120) = some (120, .ifCond .eq 20, 0, 0) := rfl
theorem te_103_123 : (pT M_103).find? (fun e => e.1 == 123) = some (123, .iload 7, 0, 0) := rfl
theorem te_103_125 : (pT M_103).find? (fun e => e.1 == 125) = some (125, .ifCond .ne 11, 0, 0) := rfl
theorem te_103_128 : (pT M_103).find? (fun e => e.1 == 128) = some (128, .aload_n 0, 0, 0) := rfl
theorem te_103_129 : (pT M_103).find? (fun e => e.1 == 129) = some (129, .iconst 0, 0, 0) := rfl
theorem te_103_130 : (pT M_103).find? (fun e => e.1 == 130) = some (130, .invokevirtual 81, 96, 0) := rfl
theorem te_103_133 : (pT M_103).find? (fun e => e.1 == 133) = some (133, .ifCond .eq 7, 0, 0) := rfl
theorem te_103_136 : (pT M_103).find? (fun e => e.1 == 136) = some (136, .iconst 1, 0, 0) := rfl
theorem te_103_137 : (pT M_103).find? (fun e => e.1 == 137) = some (137, .goto 4, 0, 0) := rfl
theorem te_103_140 : (pT M_103).find? (fun e => e.1 == 140) = some (140, .iconst 0, 0, 0) := rfl
theorem te_103_141 : (pT M_103).find? (fun e => e.1 == 141) = some (141, .istore 5, 0, 0) := rfl
theorem te_103_143 : (pT M_103).find? (fun e => e.1 == 143) = some (143, .iload 5, 0, 0) := rfl
theorem te_103_145 : (pT M_103).find? (fun e => e.1 == 145) = some (145, .ifCond .ne 8, 0, 0) := rfl
theorem te_103_148 : (pT M_103).find? (fun e => e.1 == 148) = some (148, .aload_n 0, 0, 0) := rfl
theorem te_103_149 : (pT M_103).find? (fun e => e.1 == 149) = some (149, .iload_n 2, 0, 0) := rfl
theorem te_103_150 : (pT M_103).find? (fun e => e.1 == 150) = some (150, .invokevirtual 85, 102, 0) := rfl
theorem te_103_153 : (pT M_103).find? (fun e => e.1 == 153) = some (153, .iinc 6 1, 0, 0) := rfl
theorem te_103_156 : (pT M_103).find? (fun e => e.1 == 156) = some (156, .goto (-89), 0, 0) := rfl
theorem te_103_159 : (pT M_103).find? (fun e => e.1 == 159) = some (159, .iload 5, 0, 0) := rfl
theorem te_103_161 : (pT M_103).find? (fun e => e.1 == 161) = some (161, .ifCond .ne 5, 0, 0) := rfl
theorem te_103_164 : (pT M_103).find? (fun e => e.1 == 164) = some (164, .iconst 0, 0, 0) := rfl
theorem te_103_165 : (pT M_103).find? (fun e => e.1 == 165) = some (165, .ireturn, 0, 0) := rfl
theorem te_103_166 : (pT M_103).find? (fun e => e.1 == 166) = some (166, .iinc 2 1, 0, 0) := rfl
theorem te_103_169 : (pT M_103).find? (fun e => e.1 == 169) = some (169, .goto (-158), 0, 0) := rfl
theorem te_103_172 : (pT M_103).find? (fun e => e.1 == 172) = some (172, .iconst 1, 0, 0) := rfl
theorem te_103_173 : (pT M_103).find? (fun e => e.1 == 173) = some (173, .ireturn, 0, 0) := rfl
theorem f_103 {S : Nat × (Nat → Int32)} {n : Nat} {mem : MM} {K : Int → MM → Prop} {E : Nat → MM → Prop} {d : Int} (hS : SkO mem d) (H : ∀ r m', r = 0 ∨ r = 1 → FrS mem m' → K r m') : CQI (Ex S (n + 14)) 103 [.inr 21, .inr 20] mem K E := by
  refine CY.of (k := 6) mt_103 rfl rfl (fun hv => ?_)
  have hC := Ex.mono S (n + 13)
  clear hv
  have hs0 := hS.1
  have hs1 := hS.2.1
  show Tx (Ex S (n + 13)) S M_103 (kI K E) 0 0 0 [some (.inr 21), some (.inr 20), none, none, none, none, none, none] [] mem
  have l_11 : ∀ (N : Nat) (x2 : Int) (m_11 : MM), (0 ≤ x2) → ((8 - x2).toNat) < N → FrS mem m_11 → Tx (Ex S (n + 13)) S M_103 (kI K E) 0 0 11 [some (.inr 21), some (.inr 20), some (.inl x2), none, none, none, none, none] [] m_11 := by
    intro N
    induction N with
    | zero => intros; omega
    | succ N ih_11 =>
      intro x2 m_11 i11_0 hN_11 hF_11
      have l_67 : ∀ (N : Nat) (x3 x4 x5 x6 : Int) (m_67 : MM), (0 ≤ x6) → (0 ≤ x2 ∧ x2 < mem 21 0) → (x5 = 0 ∨ x5 = 1) → ((12 - x6).toNat) < N → FrS mem m_67 → Tx (Ex S (n + 13)) S M_103 (kI K E) 0 0 67 [some (.inr 21), some (.inr 20), some (.inl x2), some (.inl x3), some (.inl x4), some (.inl x5), some (.inl x6), none] [] m_67 := by
        intro N
        induction N with
        | zero => intros; omega
        | succ N ih_67 =>
          intro x3 x4 x5 x6 m_67 i67_0 i67_1 i67_2 hN_67 hF_67
          refine Tx.iload hC te_103_67 rfl ?_
          refine Tx.aload_n hC te_103_69 rfl ?_
          refine Tx.getI hC te_103_70 rfl rfl rfl (fun v1 v1e v1i => ?_)
          unfold InI at v1i
          rw [FrS.at hF_67 21 _ (by unfold pSk; omega)] at v1e
          refine Tx.icmp hC (t := 159) te_103_73 (by decide) (fun q2 => ?_) (fun q2 => ?_)
          · replace q2 : v1 ≤ (x6 : Int) := q2
            refine Tx.iload hC te_103_159 rfl ?_
            refine Tx.ifc hC (t := 166) te_103_161 (by decide) (fun q3 => ?_) (fun q3 => ?_)
            · replace q3 : ¬ (x5 : Int) = 0 := q3
              refine Tx.iincW hC te_103_166 rfl rfl (fun z4 z4i z4e => ?_)
              unfold InI at z4i z4e
              first | replace z4e := z4e (by omega) | clear z4e
              refine Tx.goto hC (t := 11) te_103_169 (by decide) ?_
              exact Tx.weak (by repeat' (first | exact trivial | exact rfl | constructor)) (ih_11 z4 m_67 (by omega) (by omega) hF_67)
            · replace q3 : ¬ (¬ (x5 : Int) = 0) := q3
              refine Tx.iconst hC te_103_164 rfl ?_
              exact Tx.bret hC te_103_165 rfl (by omega) (show K 0 m_67 from H _ _ (by omega) hF_67)
          · replace q2 : ¬ (v1 ≤ (x6 : Int)) := q2
            refine Tx.iload hC te_103_76 rfl ?_
            refine Tx.ifc hC (t := 159) te_103_78 (by decide) (fun q5 => ?_) (fun q5 => ?_)
            · replace q5 : ¬ (x5 : Int) = 0 := q5
              refine Tx.iload hC te_103_159 rfl ?_
              refine Tx.ifc hC (t := 166) te_103_161 (by decide) (fun q6 => ?_) (fun q6 => ?_)
              · replace q6 : ¬ (x5 : Int) = 0 := q6
                refine Tx.iincW hC te_103_166 rfl rfl (fun z7 z7i z7e => ?_)
                unfold InI at z7i z7e
                first | replace z7e := z7e (by omega) | clear z7e
                refine Tx.goto hC (t := 11) te_103_169 (by decide) ?_
                exact Tx.weak (by repeat' (first | exact trivial | exact rfl | constructor)) (ih_11 z7 m_67 (by omega) (by omega) hF_67)
              · replace q6 : ¬ (¬ (x5 : Int) = 0) := q6
                refine Tx.iconst hC te_103_164 rfl ?_
                exact Tx.bret hC te_103_165 rfl (by omega) (show K 0 m_67 from H _ _ (by omega) hF_67)
            · replace q5 : ¬ (¬ (x5 : Int) = 0) := q5
              refine Tx.iload hC te_103_81 rfl ?_
              refine Tx.iconst hC te_103_83 rfl ?_
              refine Tx.iload hC te_103_84 rfl ?_
              refine Tx.bits hC (f := (fun (x y : Int32) => x <<< (y &&& 31))) te_103_86 (fun _ _ _ _ => Iff.rfl) (fun b8 b8e b8i => ?_)
              unfold InI at b8i
              refine Tx.bits hC (f := (fun (x y : Int32) => x &&& y)) te_103_87 (fun _ _ _ _ => Iff.rfl) (fun b9 b9e b9i => ?_)
              unfold InI at b9i
              refine Tx.ifc hC (t := 153) te_103_88 (by decide) (fun q10 => ?_) (fun q10 => ?_)
              · replace q10 : (b9 : Int) = 0 := q10
                refine Tx.iincW hC te_103_153 rfl rfl (fun z11 z11i z11e => ?_)
                unfold InI at z11i z11e
                first | replace z11e := z11e (by omega) | clear z11e
                refine Tx.goto hC (t := 67) te_103_156 (by decide) ?_
                exact ih_67 x3 x4 x5 z11 m_67 (by omega) (by omega) (by omega) (by omega) hF_67
              · replace q10 : ¬ ((b9 : Int) = 0) := q10
                refine Tx.iload_n hC te_103_91 rfl ?_
                refine Tx.ifc hC (t := 110) te_103_92 (by decide) (fun q12 => ?_) (fun q12 => ?_)
                · replace q12 : ¬ (x3 : Int) = 0 := q12
                  refine Tx.iconst hC te_103_110 rfl ?_
                  refine Tx.istore hC te_103_111 rfl ?_
                  refine Tx.aload_n hC te_103_113 rfl ?_
                  refine Tx.iload_n hC te_103_114 rfl ?_
                  refine Tx.iload hC te_103_115 rfl ?_
                  refine Tx.virtI hC te_103_117 mt_91 (args := [.inr 21, .inl x2, .inl x6]) (rest := []) (c' := 0) (s' := 0) rfl rfl rfl rfl rfl rfl rfl rfl rfl rfl ?_
                  refine f_91 (FrS.sk hF_67 hS) (by omega) (by omega) (fun r13 m14 r13b hF15 r13i => ?_)
                  have hF15n : FrS mem m14 := FrS.tr hF_67 hF15
                  unfold InI at r13i
                  refine Tx.ifc hC (t := 140) te_103_120 (by decide) (fun q16 => ?_) (fun q16 => ?_)
                  · replace q16 : (r13 : Int) = 0 := q16
                    refine Tx.iconst hC te_103_140 rfl ?_
                    refine Tx.istore hC te_103_141 rfl ?_
                    refine Tx.iload hC te_103_143 rfl ?_
                    refine Tx.ifc hC (t := 153) te_103_145 (by decide) (fun q => absurd q (show ¬ (¬ (0 : Int) = 0) by decide)) (fun q => ?_)
                    refine Tx.aload_n hC te_103_148 rfl ?_
                    refine Tx.iload_n hC te_103_149 rfl ?_
                    refine Tx.virtV hC te_103_150 mt_102 (args := [.inr 21, .inl x2]) (rest := []) (c' := 0) (s' := 0) rfl rfl rfl rfl rfl rfl rfl rfl rfl rfl ?_
                    refine f_102 (FrS.sk hF15n hS) (by omega) (fun m18 hF19 => ?_)
                    have hF19n : FrS mem m18 := FrS.tr hF15n hF19
                    refine Tx.iincW hC te_103_153 rfl rfl (fun z20 z20i z20e => ?_)
                    unfold InI at z20i z20e
                    first | replace z20e := z20e (by omega) | clear z20e
                    refine Tx.goto hC (t := 67) te_103_156 (by decide) ?_
                    exact Tx.weak (by repeat' (first | exact trivial | exact rfl | constructor)) (ih_67 x3 x4 0 z20 m18 (by omega) (by omega) (by omega) (by omega) hF19n)
                  · replace q16 : ¬ ((r13 : Int) = 0) := q16
                    refine Tx.iload hC te_103_123 rfl ?_
                    refine Tx.ifc hC (t := 136) te_103_125 (by decide) (fun q => absurd q (show ¬ (¬ (0 : Int) = 0) by decide)) (fun q => ?_)
                    refine Tx.aload_n hC te_103_128 rfl ?_
                    refine Tx.iconst hC te_103_129 rfl ?_
                    refine Tx.virtI hC te_103_130 mt_96 (args := [.inr 21, .inl 0]) (rest := []) (c' := 0) (s' := 0) rfl rfl rfl rfl rfl rfl rfl rfl rfl rfl ?_
                    refine f_96z (FrS.sk hF15n hS) (fun r21 m22 r21b hF23 r21i => ?_)
                    have hF23n : FrS mem m22 := FrS.tr hF15n hF23
                    unfold InI at r21i
                    refine Tx.ifc hC (t := 140) te_103_133 (by decide) (fun q24 => ?_) (fun q24 => ?_)
                    · replace q24 : (r21 : Int) = 0 := q24
                      refine Tx.iconst hC te_103_140 rfl ?_
                      refine Tx.istore hC te_103_141 rfl ?_
                      refine Tx.iload hC te_103_143 rfl ?_
                      refine Tx.ifc hC (t := 153) te_103_145 (by decide) (fun q => absurd q (show ¬ (¬ (0 : Int) = 0) by decide)) (fun q => ?_)
                      refine Tx.aload_n hC te_103_148 rfl ?_
                      refine Tx.iload_n hC te_103_149 rfl ?_
                      refine Tx.virtV hC te_103_150 mt_102 (args := [.inr 21, .inl x2]) (rest := []) (c' := 0) (s' := 0) rfl rfl rfl rfl rfl rfl rfl rfl rfl rfl ?_
                      refine f_102 (FrS.sk hF23n hS) (by omega) (fun m26 hF27 => ?_)
                      have hF27n : FrS mem m26 := FrS.tr hF23n hF27
                      refine Tx.iincW hC te_103_153 rfl rfl (fun z28 z28i z28e => ?_)
                      unfold InI at z28i z28e
                      first | replace z28e := z28e (by omega) | clear z28e
                      refine Tx.goto hC (t := 67) te_103_156 (by decide) ?_
                      exact Tx.weak (by repeat' (first | exact trivial | exact rfl | constructor)) (ih_67 x3 x4 0 z28 m26 (by omega) (by omega) (by omega) (by omega) hF27n)
                    · replace q24 : ¬ ((r21 : Int) = 0) := q24
                      refine Tx.iconst hC te_103_136 rfl ?_
                      refine Tx.goto hC (t := 141) te_103_137 (by decide) ?_
                      refine Tx.istore hC te_103_141 rfl ?_
                      refine Tx.iload hC te_103_143 rfl ?_
                      refine Tx.ifc hC (t := 153) te_103_145 (by decide) (fun q => ?_) (fun q => absurd (show ¬ (1 : Int) = 0 by decide) q)
                      refine Tx.iincW hC te_103_153 rfl rfl (fun z29 z29i z29e => ?_)
                      unfold InI at z29i z29e
                      first | replace z29e := z29e (by omega) | clear z29e
                      refine Tx.goto hC (t := 67) te_103_156 (by decide) ?_
                      exact Tx.weak (by repeat' (first | exact trivial | exact rfl | constructor)) (ih_67 x3 x4 1 z29 m22 (by omega) (by omega) (by omega) (by omega) hF23n)
                · replace q12 : ¬ (¬ (x3 : Int) = 0) := q12
                  refine Tx.iload hC te_103_95 rfl ?_
                  refine Tx.aload_n hC te_103_97 rfl ?_
                  refine Tx.getR hC te_103_98 rfl rfl rfl ?_
                  refine Tx.iload_n hC te_103_101 rfl ?_
                  refine Tx.iald hC te_103_102 rfl (by omega) (fun v30 v30e v30i => ?_)
                  unfold InI at v30i
                  refine Tx.icmp hC (t := 110) te_103_103 (by decide) (fun q31 => ?_) (fun q31 => ?_)
                  · replace q31 : ¬ (x6 : Int) = v30 := q31
                    refine Tx.iconst hC te_103_110 rfl ?_
                    refine Tx.istore hC te_103_111 rfl ?_
                    refine Tx.aload_n hC te_103_113 rfl ?_
                    refine Tx.iload_n hC te_103_114 rfl ?_
                    refine Tx.iload hC te_103_115 rfl ?_
                    refine Tx.virtI hC te_103_117 mt_91 (args := [.inr 21, .inl x2, .inl x6]) (rest := []) (c' := 0) (s' := 0) rfl rfl rfl rfl rfl rfl rfl rfl rfl rfl ?_
                    refine f_91 (FrS.sk hF_67 hS) (by omega) (by omega) (fun r32 m33 r32b hF34 r32i => ?_)
                    have hF34n : FrS mem m33 := FrS.tr hF_67 hF34
                    unfold InI at r32i
                    refine Tx.ifc hC (t := 140) te_103_120 (by decide) (fun q35 => ?_) (fun q35 => ?_)
                    · replace q35 : (r32 : Int) = 0 := q35
                      refine Tx.iconst hC te_103_140 rfl ?_
                      refine Tx.istore hC te_103_141 rfl ?_
                      refine Tx.iload hC te_103_143 rfl ?_
                      refine Tx.ifc hC (t := 153) te_103_145 (by decide) (fun q => absurd q (show ¬ (¬ (0 : Int) = 0) by decide)) (fun q => ?_)
                      refine Tx.aload_n hC te_103_148 rfl ?_
                      refine Tx.iload_n hC te_103_149 rfl ?_
                      refine Tx.virtV hC te_103_150 mt_102 (args := [.inr 21, .inl x2]) (rest := []) (c' := 0) (s' := 0) rfl rfl rfl rfl rfl rfl rfl rfl rfl rfl ?_
                      refine f_102 (FrS.sk hF34n hS) (by omega) (fun m37 hF38 => ?_)
                      have hF38n : FrS mem m37 := FrS.tr hF34n hF38
                      refine Tx.iincW hC te_103_153 rfl rfl (fun z39 z39i z39e => ?_)
                      unfold InI at z39i z39e
                      first | replace z39e := z39e (by omega) | clear z39e
                      refine Tx.goto hC (t := 67) te_103_156 (by decide) ?_
                      exact Tx.weak (by repeat' (first | exact trivial | exact rfl | constructor)) (ih_67 x3 x4 0 z39 m37 (by omega) (by omega) (by omega) (by omega) hF38n)
                    · replace q35 : ¬ ((r32 : Int) = 0) := q35
                      refine Tx.iload hC te_103_123 rfl ?_
                      refine Tx.ifc hC (t := 136) te_103_125 (by decide) (fun q => absurd q (show ¬ (¬ (0 : Int) = 0) by decide)) (fun q => ?_)
                      refine Tx.aload_n hC te_103_128 rfl ?_
                      refine Tx.iconst hC te_103_129 rfl ?_
                      refine Tx.virtI hC te_103_130 mt_96 (args := [.inr 21, .inl 0]) (rest := []) (c' := 0) (s' := 0) rfl rfl rfl rfl rfl rfl rfl rfl rfl rfl ?_
                      refine f_96z (FrS.sk hF34n hS) (fun r40 m41 r40b hF42 r40i => ?_)
                      have hF42n : FrS mem m41 := FrS.tr hF34n hF42
                      unfold InI at r40i
                      refine Tx.ifc hC (t := 140) te_103_133 (by decide) (fun q43 => ?_) (fun q43 => ?_)
                      · replace q43 : (r40 : Int) = 0 := q43
                        refine Tx.iconst hC te_103_140 rfl ?_
                        refine Tx.istore hC te_103_141 rfl ?_
                        refine Tx.iload hC te_103_143 rfl ?_
                        refine Tx.ifc hC (t := 153) te_103_145 (by decide) (fun q => absurd q (show ¬ (¬ (0 : Int) = 0) by decide)) (fun q => ?_)
                        refine Tx.aload_n hC te_103_148 rfl ?_
                        refine Tx.iload_n hC te_103_149 rfl ?_
                        refine Tx.virtV hC te_103_150 mt_102 (args := [.inr 21, .inl x2]) (rest := []) (c' := 0) (s' := 0) rfl rfl rfl rfl rfl rfl rfl rfl rfl rfl ?_
                        refine f_102 (FrS.sk hF42n hS) (by omega) (fun m45 hF46 => ?_)
                        have hF46n : FrS mem m45 := FrS.tr hF42n hF46
                        refine Tx.iincW hC te_103_153 rfl rfl (fun z47 z47i z47e => ?_)
                        unfold InI at z47i z47e
                        first | replace z47e := z47e (by omega) | clear z47e
                        refine Tx.goto hC (t := 67) te_103_156 (by decide) ?_
                        exact Tx.weak (by repeat' (first | exact trivial | exact rfl | constructor)) (ih_67 x3 x4 0 z47 m45 (by omega) (by omega) (by omega) (by omega) hF46n)
                      · replace q43 : ¬ ((r40 : Int) = 0) := q43
                        refine Tx.iconst hC te_103_136 rfl ?_
                        refine Tx.goto hC (t := 141) te_103_137 (by decide) ?_
                        refine Tx.istore hC te_103_141 rfl ?_
                        refine Tx.iload hC te_103_143 rfl ?_
                        refine Tx.ifc hC (t := 153) te_103_145 (by decide) (fun q => ?_) (fun q => absurd (show ¬ (1 : Int) = 0 by decide) q)
                        refine Tx.iincW hC te_103_153 rfl rfl (fun z48 z48i z48e => ?_)
                        unfold InI at z48i z48e
                        first | replace z48e := z48e (by omega) | clear z48e
                        refine Tx.goto hC (t := 67) te_103_156 (by decide) ?_
                        exact Tx.weak (by repeat' (first | exact trivial | exact rfl | constructor)) (ih_67 x3 x4 1 z48 m41 (by omega) (by omega) (by omega) (by omega) hF42n)
                  · replace q31 : ¬ (¬ (x6 : Int) = v30) := q31
                    refine Tx.iconst hC te_103_106 rfl ?_
                    refine Tx.goto hC (t := 111) te_103_107 (by decide) ?_
                    refine Tx.istore hC te_103_111 rfl ?_
                    refine Tx.aload_n hC te_103_113 rfl ?_
                    refine Tx.iload_n hC te_103_114 rfl ?_
                    refine Tx.iload hC te_103_115 rfl ?_
                    refine Tx.virtI hC te_103_117 mt_91 (args := [.inr 21, .inl x2, .inl x6]) (rest := []) (c' := 0) (s' := 0) rfl rfl rfl rfl rfl rfl rfl rfl rfl rfl ?_
                    refine f_91 (FrS.sk hF_67 hS) (by omega) (by omega) (fun r49 m50 r49b hF51 r49i => ?_)
                    have hF51n : FrS mem m50 := FrS.tr hF_67 hF51
                    unfold InI at r49i
                    refine Tx.ifc hC (t := 140) te_103_120 (by decide) (fun q52 => ?_) (fun q52 => ?_)
                    · replace q52 : (r49 : Int) = 0 := q52
                      refine Tx.iconst hC te_103_140 rfl ?_
                      refine Tx.istore hC te_103_141 rfl ?_
                      refine Tx.iload hC te_103_143 rfl ?_
                      refine Tx.ifc hC (t := 153) te_103_145 (by decide) (fun q => absurd q (show ¬ (¬ (0 : Int) = 0) by decide)) (fun q => ?_)
                      refine Tx.aload_n hC te_103_148 rfl ?_
                      refine Tx.iload_n hC te_103_149 rfl ?_
                      refine Tx.virtV hC te_103_150 mt_102 (args := [.inr 21, .inl x2]) (rest := []) (c' := 0) (s' := 0) rfl rfl rfl rfl rfl rfl rfl rfl rfl rfl ?_
                      refine f_102 (FrS.sk hF51n hS) (by omega) (fun m54 hF55 => ?_)
                      have hF55n : FrS mem m54 := FrS.tr hF51n hF55
                      refine Tx.iincW hC te_103_153 rfl rfl (fun z56 z56i z56e => ?_)
                      unfold InI at z56i z56e
                      first | replace z56e := z56e (by omega) | clear z56e
                      refine Tx.goto hC (t := 67) te_103_156 (by decide) ?_
                      exact Tx.weak (by repeat' (first | exact trivial | exact rfl | constructor)) (ih_67 x3 x4 0 z56 m54 (by omega) (by omega) (by omega) (by omega) hF55n)
                    · replace q52 : ¬ ((r49 : Int) = 0) := q52
                      refine Tx.iload hC te_103_123 rfl ?_
                      refine Tx.ifc hC (t := 136) te_103_125 (by decide) (fun q => ?_) (fun q => absurd (show ¬ (1 : Int) = 0 by decide) q)
                      refine Tx.iconst hC te_103_136 rfl ?_
                      refine Tx.goto hC (t := 141) te_103_137 (by decide) ?_
                      refine Tx.istore hC te_103_141 rfl ?_
                      refine Tx.iload hC te_103_143 rfl ?_
                      refine Tx.ifc hC (t := 153) te_103_145 (by decide) (fun q => ?_) (fun q => absurd (show ¬ (1 : Int) = 0 by decide) q)
                      refine Tx.iincW hC te_103_153 rfl rfl (fun z57 z57i z57e => ?_)
                      unfold InI at z57i z57e
                      first | replace z57e := z57e (by omega) | clear z57e
                      refine Tx.goto hC (t := 67) te_103_156 (by decide) ?_
                      exact Tx.weak (by repeat' (first | exact trivial | exact rfl | constructor)) (ih_67 x3 x4 1 z57 m50 (by omega) (by omega) (by omega) (by omega) hF51n)
      refine Tx.iload_n hC te_103_11 rfl ?_
      refine Tx.aload_n hC te_103_12 rfl ?_
      refine Tx.getI hC te_103_13 rfl rfl rfl (fun v58 v58e v58i => ?_)
      unfold InI at v58i
      rw [FrS.at hF_11 21 _ (by unfold pSk; omega)] at v58e
      refine Tx.icmp hC (t := 172) te_103_16 (by decide) (fun q59 => ?_) (fun q59 => ?_)
      · replace q59 : v58 ≤ (x2 : Int) := q59
        refine Tx.iconst hC te_103_172 rfl ?_
        exact Tx.bret hC te_103_173 rfl (by omega) (show K 1 m_11 from H _ _ (by omega) hF_11)
      · replace q59 : ¬ (v58 ≤ (x2 : Int)) := q59
        refine Tx.aload_n hC te_103_19 rfl ?_
        refine Tx.aload_n hC te_103_20 rfl ?_
        refine Tx.iload_n hC te_103_21 rfl ?_
        refine Tx.virtI hC te_103_22 mt_105 (args := [.inr 21, .inl x2]) (rest := [.inr 21]) (c' := 0) (s' := 0) rfl rfl rfl rfl rfl rfl rfl rfl rfl rfl ?_
        refine f_105 (FrS.sk hF_11 hS) (fun r60 r60i => ?_)
        unfold InI at r60i
        refine Tx.putI hC te_103_25 rfl rfl rfl rfl ?_
        have hF64 : FrS mem (upm m_11 21 3 r60) := FrS.up hF_11 (by unfold pSk; omega) (by omega)
        generalize upm m_11 21 3 r60 = m63 at hF64 ⊢
        refine Tx.aload_n hC te_103_28 rfl ?_
        refine Tx.getI hC te_103_29 rfl rfl rfl (fun v65 v65e v65i => ?_)
        unfold InI at v65i
        refine Tx.aload_n hC te_103_32 rfl ?_
        refine Tx.getI hC te_103_33 rfl rfl rfl (fun v66 v66e v66i => ?_)
        unfold InI at v66i
        refine Tx.bits hC (f := (fun (x y : Int32) => x &&& y)) te_103_36 (fun _ _ _ _ => Iff.rfl) (fun b67 b67e b67i => ?_)
        unfold InI at b67i
        refine Tx.ifc hC (t := 44) te_103_37 (by decide) (fun q68 => ?_) (fun q68 => ?_)
        · replace q68 : ¬ (b67 : Int) = 0 := q68
          refine Tx.iconst hC te_103_44 rfl ?_
          refine Tx.istore_n hC te_103_45 rfl ?_
          refine Tx.iload_n hC te_103_46 rfl ?_
          refine Tx.ifc hC (t := 54) te_103_47 (by decide) (fun q => ?_) (fun q => absurd (show (0 : Int) = 0 by decide) q)
          refine Tx.aload_n hC te_103_54 rfl ?_
          refine Tx.iload_n hC te_103_55 rfl ?_
          refine Tx.virtI hC te_103_56 mt_97 (args := [.inr 21, .inl x2]) (rest := []) (c' := 0) (s' := 0) rfl rfl rfl rfl rfl rfl rfl rfl rfl rfl ?_
          have r69z := FrS.at hF64 21 0 (by unfold pSk; omega)
          refine f_97 (FrS.sk hF64 hS) (by omega) (fun r69 r69i => ?_)
          unfold InI at r69i
          refine Tx.istore hC te_103_59 rfl ?_
          refine Tx.iconst hC te_103_61 rfl ?_
          refine Tx.istore hC te_103_62 rfl ?_
          refine Tx.iconst hC te_103_64 rfl ?_
          refine Tx.istore hC te_103_65 rfl ?_
          exact l_67 _ 0 r69 0 0 m63 (by omega) (by omega) (by omega) (Nat.lt_succ_self _) hF64
        · replace q68 : ¬ (¬ (b67 : Int) = 0) := q68
          refine Tx.iconst hC te_103_40 rfl ?_
          refine Tx.goto hC (t := 45) te_103_41 (by decide) ?_
          refine Tx.istore_n hC te_103_45 rfl ?_
          refine Tx.iload_n hC te_103_46 rfl ?_
          refine Tx.ifc hC (t := 54) te_103_47 (by decide) (fun q => absurd q (show ¬ ((1 : Int) = 0) by decide)) (fun q => ?_)
          refine Tx.iconst hC te_103_50 rfl ?_
          refine Tx.goto hC (t := 59) te_103_51 (by decide) ?_
          refine Tx.istore hC te_103_59 rfl ?_
          refine Tx.iconst hC te_103_61 rfl ?_
          refine Tx.istore hC te_103_62 rfl ?_
          refine Tx.iconst hC te_103_64 rfl ?_
          refine Tx.istore hC te_103_65 rfl ?_
          exact l_67 _ 1 1 0 0 m63 (by omega) (by omega) (by omega) (Nat.lt_succ_self _) hF64
  refine Tx.aload_n hC te_103_0 rfl ?_
  refine Tx.aload_n hC te_103_1 rfl ?_
  refine Tx.virtV hC te_103_2 mt_104 (args := [.inr 21, .inr 20]) (rest := []) (c' := 0) (s' := 0) rfl rfl rfl rfl rfl rfl rfl rfl rfl rfl ?_
  refine f_104 (FrS.sk FrS.rf hS) (fun m73 hF74 => ?_)
  have hF74n : FrS mem m73 := FrS.tr FrS.rf hF74
  refine Tx.aload_n hC te_103_5 rfl ?_
  refine Tx.virtV hC te_103_6 mt_89 (args := [.inr 21]) (rest := []) (c' := 0) (s' := 0) rfl rfl rfl rfl rfl rfl rfl rfl rfl rfl ?_
  refine f_89 (FrS.sk hF74n hS) (fun m76 hF77 => ?_)
  have hF77n : FrS mem m76 := FrS.tr hF74n hF77
  refine Tx.iconst hC te_103_9 rfl ?_
  refine Tx.istore_n hC te_103_10 rfl ?_
  exact l_11 _ 0 m76 (by omega) (Nat.lt_succ_self _) hF77n
theorem f_88 {S : Nat × (Nat → Int32)} {n : Nat} {mem : MM} {K : Int → MM → Prop} {E : Nat → MM → Prop} {o b : Int} (ho : 0 ≤ o ∧ o < 8) (hd : 1 ≤ mem 21 1 ∧ mem 21 1 ≤ 12) (hu : 0 ≤ mem 24 o.toNat ∧ mem 24 o.toNat ≤ 2) (hc : 1 ≤ mem 25 (mem 24 (Int.toNat o)).toNat ∧ mem 25 (mem 24 (Int.toNat o)).toNat ≤ 3) (H1 : ∀ m', Frm (pBz o) mem m' → (∀ k, k < 4 → 0 ≤ m' 27 (4 * o.toNat + k) ∧ m' 27 (4 * o.toNat + k) ≤ mem 25 (mem 24 (Int.toNat o)).toNat) → K 1 m') (H0 : ∀ m', Frm (pBz o) mem m' → K 0 m') : CQI (Ex S (n + 1)) 88 [.inr 21, .inl o, .inl b] mem K E := by
  refine CY.of (k := 2) mt_88 rfl rfl (fun hv => ?_)
  have hC := Ex.mono S n
  have ii_o : InI o := hv (.inl o) (by simp)
  unfold InI at ii_o
  have ii_b : InI b := hv (.inl b) (by simp)
  unfold InI at ii_b
  clear hv
  show Tx (Ex S n) S M_88 (kI K E) 0 0 0 [some (.inr 21), some (.inl o), some (.inl b), none, none] [] mem
  have l_26 : ∀ (N : Nat) (x3 : Int) (m_26 : MM), (0 ≤ x3 ∧ x3 ≤ 4) → (∀ k : Nat, k < 4 → 0 ≤ m_26 27 (4 * o.toNat + k) ∧ m_26 27 (4 * o.toNat + k) ≤ mem 25 (mem 24 (Int.toNat o)).toNat) → ((4 - x3).toNat) < N → Frm (pBz o) mem m_26 → Tx (Ex S n) S M_88 (kI K E) 0 0 26 [some (.inr 21), some (.inl o), some (.inl b), some (.inl x3), none] [] m_26 := by
    intro N
    induction N with
    | zero => intros; omega
    | succ N ih_26 =>
      intro x3 m_26 i26_0 i26_1 hN_26 hF_26
      refine Tx.iload_n hC te_88_26 rfl ?_
      refine Tx.iconst hC te_88_27 rfl ?_
      refine Tx.icmp hC (t := 91) te_88_28 (by decide) (fun q1 => ?_) (fun q1 => ?_)
      · replace q1 : 4 ≤ (x3 : Int) := q1
        refine Tx.iconst hC te_88_91 rfl ?_
        exact Tx.bret hC te_88_92 rfl (by omega) (show K 1 m_26 from H1 _ hF_26 i26_1)
      · replace q1 : ¬ (4 ≤ (x3 : Int)) := q1
        refine Tx.iload_n hC te_88_31 rfl ?_
        refine Tx.iconst hC te_88_32 rfl ?_
        refine Tx.iload_n hC te_88_33 rfl ?_
        refine Tx.bits hC (f := (fun (x y : Int32) => x <<< (y &&& 31))) te_88_34 (fun _ _ _ _ => Iff.rfl) (fun b2 b2e b2i => ?_)
        unfold InI at b2i
        refine Tx.bits hC (f := (fun (x y : Int32) => x &&& y)) te_88_35 (fun _ _ _ _ => Iff.rfl) (fun b3 b3e b3i => ?_)
        unfold InI at b3i
        refine Tx.ifc hC (t := 85) te_88_36 (by decide) (fun q4 => ?_) (fun q4 => ?_)
        · replace q4 : (b3 : Int) = 0 := q4
          refine Tx.iincW hC te_88_85 rfl rfl (fun z5 z5i z5e => ?_)
          unfold InI at z5i z5e
          first | replace z5e := z5e (by omega) | clear z5e
          refine Tx.goto hC (t := 26) te_88_88 (by decide) ?_
          exact ih_26 z5 m_26 (by omega) (by intro k hk; first | (have := i2_1 k (by omega); omega) | exact i26_1 k hk | exact upm_rg (fun _ => by omega) (fun _ => i26_1 k hk)) (by omega) hF_26
        · replace q4 : ¬ ((b3 : Int) = 0) := q4
          refine Tx.iload_n hC te_88_39 rfl ?_
          refine Tx.iconst hC te_88_40 rfl ?_
          refine Tx.imulW hC te_88_41 (fun z6 z6i z6e => ?_)
          unfold InI at z6i z6e
          first | replace z6e := z6e (by omega) | clear z6e
          refine Tx.iload_n hC te_88_42 rfl ?_
          refine Tx.aload_n hC te_88_43 rfl ?_
          refine Tx.getI hC te_88_44 rfl rfl rfl (fun v7 v7e v7i => ?_)
          unfold InI at v7i
          rw [hF_26 21 _ (by unfold pBz; omega)] at v7e
          refine Tx.iremW hC te_88_47 (by omega) (fun z8 z8i z8e z8f => ?_)
          unfold InI at z8i
          refine Tx.iaddW hC te_88_48 (fun z9 z9i z9e => ?_)
          unfold InI at z9i z9e
          first | replace z9e := z9e (by omega) | clear z9e
          refine Tx.istore hC te_88_49 rfl ?_
          refine Tx.aload_n hC te_88_51 rfl ?_
          refine Tx.getR hC te_88_52 rfl rfl rfl ?_
          refine Tx.iload hC te_88_55 rfl ?_
          refine Tx.dup2 hC te_88_57 ?_
          refine Tx.iald hC te_88_58 rfl (by omega) (fun v10 v10e v10i => ?_)
          unfold InI at v10i
          have f11 := i26_1 ((Int.toNat z9) - 4 * Int.toNat o) (by omega)
          rw [show 4 * Int.toNat o + ((Int.toNat z9) - 4 * Int.toNat o) = (Int.toNat z9) by omega] at f11
          refine Tx.iconst hC te_88_59 rfl ?_
          refine Tx.iaddW hC te_88_60 (fun z12 z12i z12e => ?_)
          unfold InI at z12i z12e
          first | replace z12e := z12e (by omega) | clear z12e
          refine Tx.iast hC te_88_61 rfl (by omega) ?_
          have hF14 : Frm (pBz o) mem (upm m_26 27 (Int.toNat z9) z12) := Frm.up hF_26 (by unfold pBz; omega)
          refine Tx.aload_n hC te_88_62 rfl ?_
          refine Tx.getR hC te_88_63 rfl rfl rfl ?_
          refine Tx.iload hC te_88_66 rfl ?_
          refine Tx.iald hC te_88_68 rfl (by omega) (fun v15 v15e v15i => ?_)
          unfold InI at v15i
          have f16 := i26_1 ((Int.toNat z9) - 4 * Int.toNat o) (by omega)
          rw [show 4 * Int.toNat o + ((Int.toNat z9) - 4 * Int.toNat o) = (Int.toNat z9) by omega] at f16
          rw [upm_eq] at v15e
          refine Tx.aload_n hC te_88_69 rfl ?_
          refine Tx.getR hC te_88_70 rfl rfl rfl ?_
          refine Tx.aload_n hC te_88_73 rfl ?_
          refine Tx.getR hC te_88_74 rfl rfl rfl ?_
          refine Tx.iload_n hC te_88_77 rfl ?_
          refine Tx.iald hC te_88_78 rfl (by omega) (fun v17 v17e v17i => ?_)
          unfold InI at v17i
          rw [hF14 24 _ (by unfold pBz; omega)] at v17e
          have cu : mem 25 (Int.toNat v17) = mem 25 (mem 24 (Int.toNat o)).toNat := by rw [v17e]
          refine Tx.iald hC te_88_79 rfl (by omega) (fun v18 v18e v18i => ?_)
          unfold InI at v18i
          rw [hF14 25 _ (by unfold pBz; omega)] at v18e
          refine Tx.icmp hC (t := 85) te_88_80 (by decide) (fun q19 => ?_) (fun q19 => ?_)
          · replace q19 : (v15 : Int) ≤ v18 := q19
            refine Tx.iincW hC te_88_85 rfl rfl (fun z20 z20i z20e => ?_)
            unfold InI at z20i z20e
            first | replace z20e := z20e (by omega) | clear z20e
            refine Tx.goto hC (t := 26) te_88_88 (by decide) ?_
            exact Tx.weak (by repeat' (first | exact trivial | exact rfl | constructor)) (ih_26 z20 (upm m_26 27 (Int.toNat z9) z12) (by omega) (by intro k hk; first | (have := i2_1 k (by omega); omega) | exact i26_1 k hk | exact upm_rg (fun _ => by omega) (fun _ => i26_1 k hk)) (by omega) hF14)
          · replace q19 : ¬ ((v15 : Int) ≤ v18) := q19
            refine Tx.iconst hC te_88_83 rfl ?_
            exact Tx.bret hC te_88_84 rfl (by omega) (show K 0 (upm m_26 27 (Int.toNat z9) z12) from H0 _ hF14)
  have l_2 : ∀ (N : Nat) (x3 : Int) (m_2 : MM), (0 ≤ x3 ∧ x3 ≤ 4) → (∀ k : Nat, (k : Int) < x3 → m_2 27 (4 * o.toNat + k) = 0) → ((4 - x3).toNat) < N → Frm (pBz o) mem m_2 → Tx (Ex S n) S M_88 (kI K E) 0 0 2 [some (.inr 21), some (.inl o), some (.inl b), some (.inl x3), none] [] m_2 := by
    intro N
    induction N with
    | zero => intros; omega
    | succ N ih_2 =>
      intro x3 m_2 i2_0 i2_1 hN_2 hF_2
      refine Tx.iload_n hC te_88_2 rfl ?_
      refine Tx.iconst hC te_88_3 rfl ?_
      refine Tx.icmp hC (t := 24) te_88_4 (by decide) (fun q21 => ?_) (fun q21 => ?_)
      · replace q21 : 4 ≤ (x3 : Int) := q21
        refine Tx.iconst hC te_88_24 rfl ?_
        refine Tx.istore_n hC te_88_25 rfl ?_
        exact l_26 _ 0 m_2 (by omega) (by intro k hk; first | (have := i2_1 k (by omega); omega) | exact i26_1 k hk | exact upm_rg (fun _ => by omega) (fun _ => i26_1 k hk)) (Nat.lt_succ_self _) hF_2
      · replace q21 : ¬ (4 ≤ (x3 : Int)) := q21
        refine Tx.aload_n hC te_88_7 rfl ?_
        refine Tx.getR hC te_88_8 rfl rfl rfl ?_
        refine Tx.iload_n hC te_88_11 rfl ?_
        refine Tx.iconst hC te_88_12 rfl ?_
        refine Tx.imulW hC te_88_13 (fun z22 z22i z22e => ?_)
        unfold InI at z22i z22e
        first | replace z22e := z22e (by omega) | clear z22e
        refine Tx.iload_n hC te_88_14 rfl ?_
        refine Tx.iaddW hC te_88_15 (fun z23 z23i z23e => ?_)
        unfold InI at z23i z23e
        first | replace z23e := z23e (by omega) | clear z23e
        refine Tx.iconst hC te_88_16 rfl ?_
        refine Tx.iast hC te_88_17 rfl (by omega) ?_
        have hF25 : Frm (pBz o) mem (upm m_2 27 (Int.toNat z23) 0) := Frm.up hF_2 (by unfold pBz; omega)
        refine Tx.iincW hC te_88_18 rfl rfl (fun z26 z26i z26e => ?_)
        unfold InI at z26i z26e
        first | replace z26e := z26e (by omega) | clear z26e
        refine Tx.goto hC (t := 2) te_88_21 (by decide) ?_
        exact ih_2 z26 (upm m_2 27 (Int.toNat z23) 0) (by omega) (by intro k hk; first | (exfalso; omega) | (have : 0 ≤ (upm m_2 27 (Int.toNat z23) 0) 27 (4 * o.toNat + k) ∧ (upm m_2 27 (Int.toNat z23) 0) 27 (4 * o.toNat + k) ≤ 0 := upm_rg (fun _ => by omega) (fun q => by have := i2_1 k (by omega); omega); omega)) (by omega) hF25
  refine Tx.iconst hC te_88_0 rfl ?_
  refine Tx.istore_n hC te_88_1 rfl ?_
  exact l_2 _ 0 mem (by omega) (by intro k hk; first | (exfalso; omega) | (have : 0 ≤ mem 27 (4 * o.toNat + k) ∧ mem 27 (4 * o.toNat + k) ≤ 0 := upm_rg (fun _ => by omega) (fun q => by have := i2_1 k (by omega); omega); omega)) (Nat.lt_succ_self _) Frm.rf
theorem f_87 {S : Nat × (Nat → Int32)} {n : Nat} {mem : MM} {K : Int → MM → Prop} {E : Nat → MM → Prop} {d : Int} (hB : BodyOK mem) (hd : 1 ≤ d ∧ d ≤ 12) (hU : ∀ o, o < 8 → 0 ≤ mem 24 o ∧ mem 24 o ≤ 2) (H : ∀ r m', r = 0 ∨ r = 1 → Frm pK7 mem m' → (∀ o, o < 8 → 0 ≤ m' 24 o ∧ m' 24 o ≤ 2) → (r = 1 → SkO m' d) → K r m') : CQI (Ex S (n + 3)) 87 [.inr 21, .inr 1, .inl d] mem K E := by
  refine CY.of (k := 1) mt_87 rfl rfl (fun hv => ?_)
  have hC := Ex.mono S (n + 2)
  have ii_d : InI d := hv (.inl d) (by simp)
  unfold InI at ii_d
  clear hv
  have h8 := hB.1
  show Tx (Ex S (n + 2)) S M_87 (kI K E) 0 0 0 [some (.inr 21), some (.inr 1), some (.inl d), none] [] mem
  have l_124 : ∀ (N : Nat) (x3 : Int) (m_124 : MM), (0 ≤ x3) → (TkI mem m_124 d 3 x3) → ((8 - x3).toNat) < N → Frm pK7 mem m_124 → Tx (Ex S (n + 2)) S M_87 (kI K E) 0 0 124 [some (.inr 21), some (.inr 1), some (.inl d), some (.inl x3)] [] m_124 := by
    intro N
    induction N with
    | zero => intros; omega
    | succ N ih_124 =>
      intro x3 m_124 i124_0 i124_1 hN_124 hF_124
      refine Tx.iload_n hC te_87_124 rfl ?_
      refine Tx.aload_n hC te_87_125 rfl ?_
      refine Tx.getI hC te_87_126 rfl rfl rfl (fun v1 v1e v1i => ?_)
      unfold InI at v1i
      have f2 := i124_1.1.1
      refine Tx.icmp hC (t := 181) te_87_129 (by decide) (fun q3 => ?_) (fun q3 => ?_)
      · replace q3 : v1 ≤ (x3 : Int) := q3
        refine Tx.iconst hC te_87_181 rfl ?_
        exact Tx.bret hC te_87_182 rfl (by omega) (show K 1 m_124 from H 1 _ (by omega) hF_124 i124_1.2.1 (fun _ => TkI.sko i124_1 (by omega) h8 hd))
      · replace q3 : ¬ (v1 ≤ (x3 : Int)) := q3
        refine Tx.aload_n hC te_87_132 rfl ?_
        refine Tx.getR hC te_87_133 rfl rfl rfl ?_
        refine Tx.iload_n hC te_87_136 rfl ?_
        refine Tx.aload_n hC te_87_137 rfl ?_
        refine Tx.iload_n hC te_87_138 rfl ?_
        refine Tx.virtI hC te_87_139 mt_37 (args := [.inr 1, .inl x3]) (rest := [.inl x3, .inr 24]) (c' := 0) (s' := 0) rfl rfl rfl rfl rfl rfl rfl rfl rfl rfl ?_
        refine CWI.q hC (f_37 (hB.fr (fun A i a b => hF_124 A i (by unfold pK7; omega))) (by omega) (fun r4 r4a r4b r4i => ?_))
        unfold InI at r4i
        refine Tx.iast hC te_87_142 rfl (by omega) ?_
        have hF8 : Frm pK7 mem (upm m_124 24 (Int.toNat x3) r4) := Frm.up hF_124 (by unfold pK7; omega)
        have hT9 : TkI mem (upm m_124 24 (Int.toNat x3) r4) d 3 x3 := TkI.up24 i124_1 (by omega) (by omega)
        generalize upm m_124 24 (Int.toNat x3) r4 = m7 at hF8 hT9 ⊢
        refine Tx.aload_n hC te_87_143 rfl ?_
        refine Tx.getR hC te_87_144 rfl rfl rfl ?_
        refine Tx.aload_n hC te_87_147 rfl ?_
        refine Tx.getR hC te_87_148 rfl rfl rfl ?_
        refine Tx.iload_n hC te_87_151 rfl ?_
        refine Tx.iald hC te_87_152 rfl (by omega) (fun v10 v10e v10i => ?_)
        unfold InI at v10i
        have f11 := hT9.2.1 (Int.toNat x3) (by omega)
        refine Tx.dup2 hC te_87_153 ?_
        refine Tx.iald hC te_87_154 rfl (by omega) (fun v12 v12e v12i => ?_)
        unfold InI at v12i
        refine Tx.iconst hC te_87_155 rfl ?_
        refine Tx.iload_n hC te_87_156 rfl ?_
        refine Tx.bits hC (f := (fun (x y : Int32) => x <<< (y &&& 31))) te_87_157 (fun _ _ _ _ => Iff.rfl) (fun b13 b13e b13i => ?_)
        unfold InI at b13i
        refine Tx.bits hC (f := (fun (x y : Int32) => x ||| y)) te_87_158 (fun _ _ _ _ => Iff.rfl) (fun b14 b14e b14i => ?_)
        unfold InI at b14i
        refine Tx.iast hC te_87_159 rfl (by omega) ?_
        have hF16 : Frm pK7 mem (upm m7 26 (Int.toNat v10) b14) := Frm.up hF8 (by unfold pK7; omega)
        have hT17 : TkI mem (upm m7 26 (Int.toNat v10) b14) d 3 x3 := TkI.up0 hT9 (by omega)
        generalize upm m7 26 (Int.toNat v10) b14 = m15 at hF16 hT17 ⊢
        refine Tx.aload_n hC te_87_160 rfl ?_
        refine Tx.iload_n hC te_87_161 rfl ?_
        refine Tx.aload_n hC te_87_162 rfl ?_
        refine Tx.iload_n hC te_87_163 rfl ?_
        refine Tx.virtI hC te_87_164 mt_38 (args := [.inr 1, .inl x3]) (rest := [.inl x3, .inr 21]) (c' := 0) (s' := 0) rfl rfl rfl rfl rfl rfl rfl rfl rfl rfl ?_
        refine CWI.q hC (f_38 (hB.fr (fun A i a b => hF16 A i (by unfold pK7; omega))) (by omega) (fun r18 r18a r18b r18i => ?_))
        unfold InI at r18i
        refine Tx.virtI hC te_87_167 mt_88 (args := [.inr 21, .inl x3, .inl r18]) (rest := []) (c' := 0) (s' := 0) rfl rfl rfl rfl rfl rfl rfl rfl rfl rfl ?_
        have r21t := hT17.1.2
        have r21u := hT17.2.1 (Int.toNat x3) (by omega)
        have r21c := hT17.2.2.1 (Int.toNat (m15 24 (Int.toNat x3))) (by omega)
        refine f_88 (by omega) (by omega) (by omega) (by omega) (fun m22 hF23 r21s r21i => ?_) (fun m22 hF23 r21i => ?_)
        · skip
          have m22T := TkI.asks hT17 (by omega) hF23 r21s
          have hF23n : Frm pK7 mem m22 := hF16.tr (hF23.mono (fun A i q => by unfold pBz at q; unfold pK7; omega))
          refine Tx.ifc hC (t := 175) te_87_170 (by decide) (fun q => ?_) (fun q => absurd (show ¬ (1 : Int) = 0 by decide) q)
          refine Tx.iincW hC te_87_175 rfl rfl (fun z24 z24i z24e => ?_)
          unfold InI at z24i z24e
          first | replace z24e := z24e (by omega) | clear z24e
          refine Tx.goto hC (t := 124) te_87_178 (by decide) ?_
          exact ih_124 z24 m22 (by omega) (TkI.le m22T (by omega) (by omega)) (by omega) hF23n
        · skip
          have hF23n : Frm pK7 mem m22 := hF16.tr (hF23.mono (fun A i q => by unfold pBz at q; unfold pK7; omega))
          refine Tx.ifc hC (t := 175) te_87_170 (by decide) (fun q => absurd q (show ¬ (¬ (0 : Int) = 0) by decide)) (fun q => ?_)
          refine Tx.iconst hC te_87_173 rfl ?_
          exact Tx.bret hC te_87_174 rfl (by omega) (show K 0 m22 from H 0 _ (by omega) hF23n (fun o ho => by rw [hF23 24 o (by unfold pBz; omega)]; exact hT17.2.1 o ho) (fun q => absurd q (by omega)))
  have l_29 : ∀ (N : Nat) (x3 : Int) (m_29 : MM), (0 ≤ x3 ∧ x3 ≤ 3) → (TkI mem m_29 d x3 0) → ((3 - x3).toNat) < N → Frm pK7 mem m_29 → Tx (Ex S (n + 2)) S M_87 (kI K E) 0 0 29 [some (.inr 21), some (.inr 1), some (.inl d), some (.inl x3)] [] m_29 := by
    intro N
    induction N with
    | zero => intros; omega
    | succ N ih_29 =>
      intro x3 m_29 i29_0 i29_1 hN_29 hF_29
      refine Tx.iload_n hC te_87_29 rfl ?_
      refine Tx.iconst hC te_87_30 rfl ?_
      refine Tx.icmp hC (t := 122) te_87_31 (by decide) (fun q25 => ?_) (fun q25 => ?_)
      · replace q25 : 3 ≤ (x3 : Int) := q25
        refine Tx.iconst hC te_87_122 rfl ?_
        refine Tx.istore_n hC te_87_123 rfl ?_
        exact l_124 _ 0 m_29 (by omega) (TkI.le i29_1 (by omega) (by omega)) (Nat.lt_succ_self _) hF_29
      · replace q25 : ¬ (3 ≤ (x3 : Int)) := q25
        refine Tx.aload_n hC te_87_34 rfl ?_
        refine Tx.getR hC te_87_35 rfl rfl rfl ?_
        refine Tx.iload_n hC te_87_38 rfl ?_
        refine Tx.aload_n hC te_87_39 rfl ?_
        refine Tx.getR hC te_87_40 rfl rfl rfl ?_
        refine Tx.iload_n hC te_87_43 rfl ?_
        refine Tx.iald hC te_87_44 rfl (by omega) (fun v26 v26e v26i => ?_)
        unfold InI at v26i
        rw [hF_29 8 _ (by unfold pK7; omega)] at v26e
        have f27 := hB.cn (o := (Int.toNat x3)) (by omega)
        refine Tx.iast hC te_87_45 rfl (by omega) ?_
        have hF29 : Frm pK7 mem (upm m_29 25 (Int.toNat x3) v26) := Frm.up hF_29 (by unfold pK7; omega)
        have hT30 : TkI mem (upm m_29 25 (Int.toNat x3) v26) d (x3 + 1) 0 := TkI.up25 i29_1 (by omega) (by omega)
        generalize upm m_29 25 (Int.toNat x3) v26 = m28 at hF29 hT30 ⊢
        refine Tx.aload_n hC te_87_46 rfl ?_
        refine Tx.iload_n hC te_87_47 rfl ?_
        refine Tx.virtI hC te_87_48 mt_36 (args := [.inr 1, .inl x3]) (rest := []) (c' := 0) (s' := 0) rfl rfl rfl rfl rfl rfl rfl rfl rfl rfl ?_
        refine f_36 (hB.fr (fun A i a b => hF29 A i (by unfold pK7; omega))) (fun r31 r31i => ?_)
        unfold InI at r31i
        refine Tx.iload_n hC te_87_51 rfl ?_
        refine Tx.aload_n hC te_87_52 rfl ?_
        refine Tx.getR hC te_87_53 rfl rfl rfl ?_
        refine Tx.iload_n hC te_87_56 rfl ?_
        refine Tx.iald hC te_87_57 rfl (by omega) (fun v34 v34e v34i => ?_)
        unfold InI at v34i
        refine Tx.imulW hC te_87_58 (fun z35 z35i z35e => ?_)
        unfold InI at z35i z35e
        first | replace z35e := z35e (by omega) | clear z35e
        refine Tx.icmp hC (t := 64) te_87_59 (by decide) (fun q36 => ?_) (fun q36 => ?_)
        · replace q36 : (r31 : Int) ≤ z35 := q36
          refine Tx.aload_n hC te_87_64 rfl ?_
          refine Tx.getR hC te_87_65 rfl rfl rfl ?_
          refine Tx.iload_n hC te_87_68 rfl ?_
          refine Tx.iconst hC te_87_69 rfl ?_
          refine Tx.iast hC te_87_70 rfl (by omega) ?_
          have hF38 : Frm pK7 mem (upm m28 26 (Int.toNat x3) 0) := Frm.up hF29 (by unfold pK7; omega)
          have hT39 : TkI mem (upm m28 26 (Int.toNat x3) 0) d (x3 + 1) 0 := TkI.up0 hT30 (by omega)
          generalize upm m28 26 (Int.toNat x3) 0 = m37 at hF38 hT39 ⊢
          refine Tx.aload_n hC te_87_71 rfl ?_
          refine Tx.getR hC te_87_72 rfl rfl rfl ?_
          refine Tx.iload_n hC te_87_75 rfl ?_
          refine Tx.iconst hC te_87_76 rfl ?_
          refine Tx.imulW hC te_87_77 (fun z40 z40i z40e => ?_)
          unfold InI at z40i z40e
          first | replace z40e := z40e (by omega) | clear z40e
          refine Tx.aload_n hC te_87_78 rfl ?_
          refine Tx.getI hC te_87_79 rfl rfl rfl (fun v41 v41e v41i => ?_)
          unfold InI at v41i
          refine Tx.iast hC te_87_82 rfl (by omega) ?_
          have hF43 : Frm pK7 mem (upm m37 28 (Int.toNat z40) v41) := Frm.up hF38 (by unfold pK7; omega)
          have hT44 : TkI mem (upm m37 28 (Int.toNat z40) v41) d (x3 + 1) 0 := TkI.up0 hT39 (by omega)
          generalize upm m37 28 (Int.toNat z40) v41 = m42 at hF43 hT44 ⊢
          refine Tx.aload_n hC te_87_83 rfl ?_
          refine Tx.getR hC te_87_84 rfl rfl rfl ?_
          refine Tx.iload_n hC te_87_87 rfl ?_
          refine Tx.iconst hC te_87_88 rfl ?_
          refine Tx.imulW hC te_87_89 (fun z45 z45i z45e => ?_)
          unfold InI at z45i z45e
          first | replace z45e := z45e (by omega) | clear z45e
          refine Tx.iconst hC te_87_90 rfl ?_
          refine Tx.iaddW hC te_87_91 (fun z46 z46i z46e => ?_)
          unfold InI at z46i z46e
          first | replace z46e := z46e (by omega) | clear z46e
          refine Tx.iconst hC te_87_92 rfl ?_
          refine Tx.iast hC te_87_93 rfl (by omega) ?_
          have hF48 : Frm pK7 mem (upm m42 28 (Int.toNat z46) 0) := Frm.up hF43 (by unfold pK7; omega)
          have hT49 : TkI mem (upm m42 28 (Int.toNat z46) 0) d (x3 + 1) 0 := TkI.up0 hT44 (by omega)
          generalize upm m42 28 (Int.toNat z46) 0 = m47 at hF48 hT49 ⊢
          refine Tx.aload_n hC te_87_94 rfl ?_
          refine Tx.getR hC te_87_95 rfl rfl rfl ?_
          refine Tx.iload_n hC te_87_98 rfl ?_
          refine Tx.iconst hC te_87_99 rfl ?_
          refine Tx.imulW hC te_87_100 (fun z50 z50i z50e => ?_)
          unfold InI at z50i z50e
          first | replace z50e := z50e (by omega) | clear z50e
          refine Tx.iconst hC te_87_101 rfl ?_
          refine Tx.iaddW hC te_87_102 (fun z51 z51i z51e => ?_)
          unfold InI at z51i z51e
          first | replace z51e := z51e (by omega) | clear z51e
          refine Tx.iconst hC te_87_103 rfl ?_
          refine Tx.iast hC te_87_104 rfl (by omega) ?_
          have hF53 : Frm pK7 mem (upm m47 28 (Int.toNat z51) 0) := Frm.up hF48 (by unfold pK7; omega)
          have hT54 : TkI mem (upm m47 28 (Int.toNat z51) 0) d (x3 + 1) 0 := TkI.up0 hT49 (by omega)
          generalize upm m47 28 (Int.toNat z51) 0 = m52 at hF53 hT54 ⊢
          refine Tx.aload_n hC te_87_105 rfl ?_
          refine Tx.getR hC te_87_106 rfl rfl rfl ?_
          refine Tx.iload_n hC te_87_109 rfl ?_
          refine Tx.iconst hC te_87_110 rfl ?_
          refine Tx.imulW hC te_87_111 (fun z55 z55i z55e => ?_)
          unfold InI at z55i z55e
          first | replace z55e := z55e (by omega) | clear z55e
          refine Tx.iconst hC te_87_112 rfl ?_
          refine Tx.iaddW hC te_87_113 (fun z56 z56i z56e => ?_)
          unfold InI at z56i z56e
          first | replace z56e := z56e (by omega) | clear z56e
          refine Tx.iconst hC te_87_114 rfl ?_
          refine Tx.iast hC te_87_115 rfl (by omega) ?_
          have hF58 : Frm pK7 mem (upm m52 28 (Int.toNat z56) 0) := Frm.up hF53 (by unfold pK7; omega)
          have hT59 : TkI mem (upm m52 28 (Int.toNat z56) 0) d (x3 + 1) 0 := TkI.up0 hT54 (by omega)
          generalize upm m52 28 (Int.toNat z56) 0 = m57 at hF58 hT59 ⊢
          refine Tx.iincW hC te_87_116 rfl rfl (fun z60 z60i z60e => ?_)
          unfold InI at z60i z60e
          first | replace z60e := z60e (by omega) | clear z60e
          refine Tx.goto hC (t := 29) te_87_119 (by decide) ?_
          exact ih_29 z60 m57 (by omega) (TkI.le hT59 (by omega) (by omega)) (by omega) hF58
        · replace q36 : ¬ ((r31 : Int) ≤ z35) := q36
          refine Tx.iconst hC te_87_62 rfl ?_
          exact Tx.bret hC te_87_63 rfl (by omega) (show K 0 m28 from H 0 _ (by omega) hF29 hT30.2.1 (fun q => absurd q (by omega)))
  refine Tx.aload_n hC te_87_0 rfl ?_
  refine Tx.aload_n hC te_87_1 rfl ?_
  refine Tx.getI hC te_87_2 rfl rfl rfl (fun v61 v61e v61i => ?_)
  unfold InI at v61i
  refine Tx.putI hC te_87_5 rfl rfl rfl rfl ?_
  have hF63 : Frm pK7 mem (upm mem 21 0 v61) := Frm.up Frm.rf (by unfold pK7; omega)
  refine Tx.aload_n hC te_87_8 rfl ?_
  refine Tx.iload_n hC te_87_9 rfl ?_
  refine Tx.putI hC te_87_10 rfl rfl rfl rfl ?_
  have hF65 : Frm pK7 mem (upm (upm mem 21 0 v61) 21 1 d) := Frm.up hF63 (by unfold pK7; omega)
  refine Tx.aload_n hC te_87_13 rfl ?_
  refine Tx.iconst hC te_87_14 rfl ?_
  refine Tx.iload_n hC te_87_15 rfl ?_
  refine Tx.bits hC (f := (fun (x y : Int32) => x <<< (y &&& 31))) te_87_16 (fun _ _ _ _ => Iff.rfl) (fun b66 b66e b66i => ?_)
  unfold InI at b66i
  refine Tx.iconst hC te_87_17 rfl ?_
  refine Tx.isubW hC te_87_18 (fun z67 z67i z67e => ?_)
  unfold InI at z67i z67e
  first | replace z67e := z67e (by omega) | clear z67e
  refine Tx.putI hC te_87_19 rfl rfl rfl rfl ?_
  have hF69 : Frm pK7 mem (upm (upm (upm mem 21 0 v61) 21 1 d) 21 2 z67) := Frm.up hF65 (by unfold pK7; omega)
  refine Tx.aload_n hC te_87_22 rfl ?_
  refine Tx.iconst hC te_87_23 rfl ?_
  refine Tx.putI hC te_87_24 rfl rfl rfl rfl ?_
  have hF71 : Frm pK7 mem (upm (upm (upm (upm mem 21 0 v61) 21 1 d) 21 2 z67) 21 4 0) := Frm.up hF69 (by unfold pK7; omega)
  refine Tx.iconst hC te_87_27 rfl ?_
  refine Tx.istore_n hC te_87_28 rfl ?_
  exact l_29 _ 0 (upm (upm (upm (upm mem 21 0 v61) 21 1 d) 21 2 z67) 21 4 0) (by omega) (TkI.start hU (by assumption)) (Nat.lt_succ_self _) hF71
theorem f_86 {S : Nat × (Nat → Int32)} {n : Nat} {mem : MM} {K : Int → MM → Prop} {E : Nat → MM → Prop} {d : Int} (hB : BodyOK mem) (hd : 1 ≤ d ∧ d ≤ 12) (hU : ∀ o, o < 8 → 0 ≤ mem 24 o ∧ mem 24 o ≤ 2) (H : ∀ r m', r = 0 ∨ r = 1 → Frm pT6 mem m' → (∀ o, o < 8 → 0 ≤ m' 24 o ∧ m' 24 o ≤ 2) → (∀ o, m' 22 o = mem 22 o ∨ (0 ≤ m' 22 o ∧ m' 22 o ≤ 11)) → (r = 1 → SkO m' d) → K r m') : CQI (Ex S (n + 14)) 86 [.inr 21, .inr 1, .inl d] mem K E := by
  refine CY.of (k := 3) mt_86 rfl rfl (fun hv => ?_)
  have hC := Ex.mono S (n + 13)
  have ii_d : InI d := hv (.inl d) (by simp)
  unfold InI at ii_d
  clear hv
  show Tx (Ex S (n + 13)) S M_86 (kI K E) 0 0 0 [some (.inr 21), some (.inr 1), some (.inl d), none, none, none] [] mem
  have l_11 : ∀ (N : Nat) (m_11 : MM), (SkO m_11 d) → (∀ o, m_11 22 o = mem 22 o ∨ (0 ≤ m_11 22 o ∧ m_11 22 o ≤ 11)) → (0) < N → Frm pT6 mem m_11 → Tx (Ex S (n + 13)) S M_86 (kI K E) 0 0 11 [some (.inr 21), some (.inr 1), some (.inl d), none, none, none] [] m_11 := by
    intro N
    induction N with
    | zero => intros; omega
    | succ N ih_11 =>
      intro m_11 i11_0 i11_1 hN_11 hF_11
      have hs0 := i11_0.1
      have hs1 := i11_0.2.1
      have l_36 : ∀ (N : Nat) (x3 x4 : Int) (m_36 : MM), (0 ≤ x4) → ((8 - x4).toNat) < N → FrS m_11 m_36 → Tx (Ex S (n + 13)) S M_86 (kI K E) 0 0 36 [some (.inr 21), some (.inr 1), some (.inl d), some (.inl x3), some (.inl x4), none] [] m_36 := by
        intro N
        induction N with
        | zero => intros; omega
        | succ N ih_36 =>
          intro x3 x4 m_36 i36_0 hN_36 hF_36
          refine Tx.iload hC te_86_36 rfl ?_
          refine Tx.aload_n hC te_86_38 rfl ?_
          refine Tx.getI hC te_86_39 rfl rfl rfl (fun v1 v1e v1i => ?_)
          unfold InI at v1i
          rw [FrS.at hF_36 21 _ (by unfold pSk; omega)] at v1e
          refine Tx.icmp hC (t := 121) te_86_42 (by decide) (fun q2 => ?_) (fun q2 => ?_)
          · replace q2 : v1 ≤ (x4 : Int) := q2
            refine Tx.iconst hC te_86_121 rfl ?_
            exact Tx.bret hC te_86_122 rfl (by omega) (show K 1 m_36 from H _ _ (by omega) (hF_11.tr (hF_36.1.mono (fun A i q => by unfold pSk at q; unfold pT6; omega))) (fun o ho => by rw [FrS.at hF_36 24 o (by unfold pSk; omega)]; exact i11_0.2.2.1 o ho) (fun o => by have := i11_1 o; have := hF_36.2 o; omega) (fun _ => (FrS.sk hF_36 i11_0)))
          · replace q2 : ¬ (v1 ≤ (x4 : Int)) := q2
            refine Tx.iload_n hC te_86_45 rfl ?_
            refine Tx.iconst hC te_86_46 rfl ?_
            refine Tx.iload hC te_86_47 rfl ?_
            refine Tx.bits hC (f := (fun (x y : Int32) => x <<< (y &&& 31))) te_86_49 (fun _ _ _ _ => Iff.rfl) (fun b3 b3e b3i => ?_)
            unfold InI at b3i
            refine Tx.bits hC (f := (fun (x y : Int32) => x &&& y)) te_86_50 (fun _ _ _ _ => Iff.rfl) (fun b4 b4e b4i => ?_)
            unfold InI at b4i
            refine Tx.ifc hC (t := 115) te_86_51 (by decide) (fun q5 => ?_) (fun q5 => ?_)
            · replace q5 : ¬ (b4 : Int) = 0 := q5
              refine Tx.iincW hC te_86_115 rfl rfl (fun z6 z6i z6e => ?_)
              unfold InI at z6i z6e
              first | replace z6e := z6e (by omega) | clear z6e
              refine Tx.goto hC (t := 36) te_86_118 (by decide) ?_
              exact ih_36 x3 z6 m_36 (by omega) (by omega) hF_36
            · replace q5 : ¬ (¬ (b4 : Int) = 0) := q5
              refine Tx.aload_n hC te_86_54 rfl ?_
              refine Tx.aload_n hC te_86_55 rfl ?_
              refine Tx.getR hC te_86_56 rfl rfl rfl ?_
              refine Tx.aload_n hC te_86_59 rfl ?_
              refine Tx.getR hC te_86_60 rfl rfl rfl ?_
              refine Tx.iload hC te_86_63 rfl ?_
              refine Tx.iald hC te_86_65 rfl (by omega) (fun v7 v7e v7i => ?_)
              unfold InI at v7i
              rw [FrS.at hF_36 24 _ (by unfold pSk; omega)] at v7e
              have f8 := i11_0.2.2.1 (Int.toNat x4) (by omega)
              refine Tx.iald hC te_86_66 rfl (by omega) (fun v9 v9e v9i => ?_)
              unfold InI at v9i
              rw [FrS.at hF_36 26 _ (by unfold pSk; omega)] at v9e
              refine Tx.putI hC te_86_67 rfl rfl rfl rfl ?_
              have hF11 : FrS m_11 (upm m_36 21 3 v9) := FrS.up hF_36 (by unfold pSk; omega) (by omega)
              generalize upm m_36 21 3 v9 = m10 at hF11 ⊢
              refine Tx.iload_n hC te_86_70 rfl ?_
              refine Tx.aload_n hC te_86_71 rfl ?_
              refine Tx.getI hC te_86_72 rfl rfl rfl (fun v12 v12e v12i => ?_)
              unfold InI at v12i
              refine Tx.bits hC (f := (fun (x y : Int32) => x ||| y)) te_86_75 (fun _ _ _ _ => Iff.rfl) (fun b13 b13e b13i => ?_)
              unfold InI at b13i
              refine Tx.istore_n hC te_86_76 rfl ?_
              refine Tx.aload_n hC te_86_77 rfl ?_
              refine Tx.iload hC te_86_78 rfl ?_
              refine Tx.iconst hC te_86_80 rfl ?_
              refine Tx.virtI hC te_86_81 mt_91 (args := [.inr 21, .inl x4, .inl 0]) (rest := []) (c' := 0) (s' := 0) rfl rfl rfl rfl rfl rfl rfl rfl rfl rfl ?_
              refine f_91 (FrS.sk hF11 i11_0) (by omega) (by omega) (fun r14 m15 r14b hF16 r14i => ?_)
              have hF16n : FrS m_11 m15 := FrS.tr hF11 hF16
              unfold InI at r14i
              refine Tx.ifc hC (t := 99) te_86_84 (by decide) (fun q17 => ?_) (fun q17 => ?_)
              · replace q17 : (r14 : Int) = 0 := q17
                refine Tx.iconst hC te_86_99 rfl ?_
                refine Tx.istore hC te_86_100 rfl ?_
                refine Tx.aload_n hC te_86_102 rfl ?_
                refine Tx.iload hC te_86_103 rfl ?_
                refine Tx.virtV hC te_86_105 mt_102 (args := [.inr 21, .inl x4]) (rest := []) (c' := 0) (s' := 0) rfl rfl rfl rfl rfl rfl rfl rfl rfl rfl ?_
                refine f_102 (FrS.sk hF16n i11_0) (by omega) (fun m19 hF20 => ?_)
                have hF20n : FrS m_11 m19 := FrS.tr hF16n hF20
                refine Tx.iload hC te_86_108 rfl ?_
                refine Tx.ifc hC (t := 115) te_86_110 (by decide) (fun q => absurd q (show ¬ (¬ (0 : Int) = 0) by decide)) (fun q => ?_)
                refine Tx.iconst hC te_86_113 rfl ?_
                exact Tx.bret hC te_86_114 rfl (by omega) (show K 0 m19 from H _ _ (by omega) (hF_11.tr (hF20n.1.mono (fun A i q => by unfold pSk at q; unfold pT6; omega))) (fun o ho => by rw [FrS.at hF20n 24 o (by unfold pSk; omega)]; exact i11_0.2.2.1 o ho) (fun o => by have := i11_1 o; have := hF20n.2 o; omega) (fun _ => (FrS.sk hF20n i11_0)))
              · replace q17 : ¬ ((r14 : Int) = 0) := q17
                refine Tx.aload_n hC te_86_87 rfl ?_
                refine Tx.iconst hC te_86_88 rfl ?_
                refine Tx.virtI hC te_86_89 mt_96 (args := [.inr 21, .inl 0]) (rest := []) (c' := 0) (s' := 0) rfl rfl rfl rfl rfl rfl rfl rfl rfl rfl ?_
                refine f_96z (FrS.sk hF16n i11_0) (fun r21 m22 r21b hF23 r21i => ?_)
                have hF23n : FrS m_11 m22 := FrS.tr hF16n hF23
                unfold InI at r21i
                refine Tx.ifc hC (t := 99) te_86_92 (by decide) (fun q24 => ?_) (fun q24 => ?_)
                · replace q24 : (r21 : Int) = 0 := q24
                  refine Tx.iconst hC te_86_99 rfl ?_
                  refine Tx.istore hC te_86_100 rfl ?_
                  refine Tx.aload_n hC te_86_102 rfl ?_
                  refine Tx.iload hC te_86_103 rfl ?_
                  refine Tx.virtV hC te_86_105 mt_102 (args := [.inr 21, .inl x4]) (rest := []) (c' := 0) (s' := 0) rfl rfl rfl rfl rfl rfl rfl rfl rfl rfl ?_
                  refine f_102 (FrS.sk hF23n i11_0) (by omega) (fun m26 hF27 => ?_)
                  have hF27n : FrS m_11 m26 := FrS.tr hF23n hF27
                  refine Tx.iload hC te_86_108 rfl ?_
                  refine Tx.ifc hC (t := 115) te_86_110 (by decide) (fun q => absurd q (show ¬ (¬ (0 : Int) = 0) by decide)) (fun q => ?_)
                  refine Tx.iconst hC te_86_113 rfl ?_
                  exact Tx.bret hC te_86_114 rfl (by omega) (show K 0 m26 from H _ _ (by omega) (hF_11.tr (hF27n.1.mono (fun A i q => by unfold pSk at q; unfold pT6; omega))) (fun o ho => by rw [FrS.at hF27n 24 o (by unfold pSk; omega)]; exact i11_0.2.2.1 o ho) (fun o => by have := i11_1 o; have := hF27n.2 o; omega) (fun _ => (FrS.sk hF27n i11_0)))
                · replace q24 : ¬ ((r21 : Int) = 0) := q24
                  refine Tx.iconst hC te_86_95 rfl ?_
                  refine Tx.goto hC (t := 100) te_86_96 (by decide) ?_
                  refine Tx.istore hC te_86_100 rfl ?_
                  refine Tx.aload_n hC te_86_102 rfl ?_
                  refine Tx.iload hC te_86_103 rfl ?_
                  refine Tx.virtV hC te_86_105 mt_102 (args := [.inr 21, .inl x4]) (rest := []) (c' := 0) (s' := 0) rfl rfl rfl rfl rfl rfl rfl rfl rfl rfl ?_
                  refine f_102 (FrS.sk hF23n i11_0) (by omega) (fun m29 hF30 => ?_)
                  have hF30n : FrS m_11 m29 := FrS.tr hF23n hF30
                  refine Tx.iload hC te_86_108 rfl ?_
                  refine Tx.ifc hC (t := 115) te_86_110 (by decide) (fun q => ?_) (fun q => absurd (show ¬ (1 : Int) = 0 by decide) q)
                  refine Tx.iincW hC te_86_115 rfl rfl (fun z31 z31i z31e => ?_)
                  unfold InI at z31i z31e
                  first | replace z31e := z31e (by omega) | clear z31e
                  refine Tx.goto hC (t := 36) te_86_118 (by decide) ?_
                  exact Tx.weak (by repeat' (first | exact trivial | exact rfl | constructor)) (ih_36 b13 z31 m29 (by omega) (by omega) hF30n)
      refine Tx.aload_n hC te_86_11 rfl ?_
      refine Tx.getR hC te_86_12 rfl rfl rfl ?_
      refine Tx.iconst hC te_86_15 rfl ?_
      refine Tx.statV hC te_86_16 (by decide) mt_76 (args := [.inr 34, .inl 0]) (rest := []) (c' := 0) (s' := 0) rfl rfl rfl rfl rfl rfl rfl ?_
      refine CWV.q hC (f_76 (Z := 34) (zn := 8) rfl (by omega) (fun m33 hF34 => ?_))
      have hF34n : FrS m_11 m33 := FrS.cp FrS.rf hF34 (fun i => by unfold pSk; omega) (by omega)
      refine Tx.aload_n hC te_86_19 rfl ?_
      refine Tx.getR hC te_86_20 rfl rfl rfl ?_
      refine Tx.iconst hC te_86_23 rfl ?_
      refine Tx.statV hC te_86_24 (by decide) mt_76 (args := [.inr 36, .inl 1]) (rest := []) (c' := 0) (s' := 0) rfl rfl rfl rfl rfl rfl rfl ?_
      refine CWV.q hC (f_76 (Z := 36) (zn := 8) rfl (by omega) (fun m36 hF37 => ?_))
      have hF37n : FrS m_11 m36 := FrS.cp hF34n hF37 (fun i => by unfold pSk; omega) (by omega)
      refine Tx.aload_n hC te_86_27 rfl ?_
      refine Tx.virtV hC te_86_28 mt_89 (args := [.inr 21]) (rest := []) (c' := 0) (s' := 0) rfl rfl rfl rfl rfl rfl rfl rfl rfl rfl ?_
      refine f_89 (FrS.sk hF37n i11_0) (fun m39 hF40 => ?_)
      have hF40n : FrS m_11 m39 := FrS.tr hF37n hF40
      refine Tx.iconst hC te_86_31 rfl ?_
      refine Tx.istore_n hC te_86_32 rfl ?_
      refine Tx.iconst hC te_86_33 rfl ?_
      refine Tx.istore hC te_86_34 rfl ?_
      exact l_36 _ 0 0 m39 (by omega) (Nat.lt_succ_self _) hF40n
  refine Tx.aload_n hC te_86_0 rfl ?_
  refine Tx.aload_n hC te_86_1 rfl ?_
  refine Tx.iload_n hC te_86_2 rfl ?_
  refine Tx.virtI hC te_86_3 mt_87 (args := [.inr 21, .inr 1, .inl d]) (rest := []) (c' := 0) (s' := 0) rfl rfl rfl rfl rfl rfl rfl rfl rfl rfl ?_
  refine f_87 hB hd hU (fun r41 m42 r41b hF43 r41u r41s r41i => ?_)
  have hF43n : Frm pT6 mem m42 := hF43.mono (fun A i q => by unfold pK7 at q; unfold pT6; omega)
  unfold InI at r41i
  refine Tx.ifc hC (t := 11) te_86_6 (by decide) (fun q44 => ?_) (fun q44 => ?_)
  · replace q44 : ¬ (r41 : Int) = 0 := q44
    exact l_11 _ m42 (r41s (by omega)) (fun o => Or.inl (hF43 22 o (by unfold pK7; omega))) (Nat.lt_succ_self _) hF43n
  · replace q44 : ¬ (¬ (r41 : Int) = 0) := q44
    refine Tx.iconst hC te_86_9 rfl ?_
    exact Tx.bret hC te_86_10 rfl (by omega) (show K 0 m42 from H _ _ (by omega) hF43n r41u (fun o => Or.inl (hF43 22 o (by unfold pK7; omega))) (fun q => absurd q (by omega)))
end
section
/-! charts, ways, rows that are run: frames -/
theorem ChSh.rg {Q : Nat} (h : ChSh Q) : 38 ≤ Q ∧ Q ≤ 122 := by
  obtain ⟨⟨k, h1, h2⟩, -⟩ := h
  omega
def p20 (A _i : Nat) : Prop := A = 20
def pRe (A _i : Nat) : Prop := A = 19 ∨ A = 20
def pTm (Q A _i : Nat) : Prop := A = Q + 2
def pLi (Q A _i : Nat) : Prop := A = Q + 4
def pNm (Q A i : Nat) : Prop := (A = Q ∧ (i = 6 ∨ i = 7)) ∨ A = Q + 5 ∨ A = Q + 6
def pCh (Q A _i : Nat) : Prop := Q ≤ A ∧ A ≤ Q + 6
def pPl (A _i : Nat) : Prop := 136 ≤ A ∧ A ≤ 138
def pPa (A _i : Nat) : Prop := A = 141 ∨ A = 142
def p14 (A i : Nat) : Prop := (14 < A ∧ A ≤ 18) ∨ (A = 14 ∧ i = 0)
theorem csN_1 {m : MM} {o : Nat} (h : ¬ m 2 o = 4) : 1 ≤ csN m o := by
  unfold csN
  rw [if_neg h]
  split <;> omega
theorem csN_2 {m : MM} {o : Nat} (h : ¬ m 2 o = 4) (h5 : ¬ m 2 o = 5) : csN m o = 2 := by
  unfold csN
  rw [if_neg h, if_neg h5]
def DT (m : MM) (Q : Nat) (s c : Int) : Prop := ∀ o, o < 8 → (0 ≤ m (Q + 2) o ∧ m (Q + 2) o ≤ 11000) ∧ ((o : Int) < s → m (Q + 2) o ≤ c)
theorem DT.up {m : MM} {Q i : Nat} {s c c' x : Int} (h : DT m Q s c) (hx : 0 ≤ x ∧ x ≤ c') (h1 : c ≤ c') (h2 : c' ≤ 11000) : DT (upm m (Q + 2) i x) Q s c' := fun o ho => by
  have := h o ho
  by_cases q : o = i
  · rw [q, upm_eq]; exact ⟨by omega, fun _ => by omega⟩
  · rw [upm_ne (by omega)]; exact ⟨this.1, fun z => by have := this.2 z; omega⟩
theorem DT.up1 {m : MM} {Q i : Nat} {s x : Int} (h : DT m Q s 11) (hx : 0 ≤ x ∧ x ≤ 11) (hi : s = (i : Int)) : DT (upm m (Q + 2) i x) Q (s + 1) 11 := fun o ho => by
  have := h o ho
  by_cases q : o = i
  · rw [q, upm_eq]; exact ⟨by omega, fun _ => by omega⟩
  · rw [upm_ne (by omega)]; exact ⟨this.1, fun z => this.2 (by omega)⟩
theorem DT.le {m : MM} {Q : Nat} {s c s' c' : Int} (h : DT m Q s c) (h1 : s' ≤ s) (h2 : c ≤ c') : DT m Q s' c' := fun o ho => ⟨(h o ho).1, fun z => by have := (h o ho).2 (by omega); omega⟩
end
