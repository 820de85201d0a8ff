/-! charts, ways, rows that are run: frames -/
theorem ChSh.rg {Q : Nat} (h : ChSh Q) : 38 ≤ Q ∧ Q ≤ 122 := by
  obtain ⟨⟨k, h1, h2⟩, -⟩ := h
  omega
def p20 (A _i : Nat) : Prop := A = 20
def pRe (A _i : Nat) : Prop := A = 19 ∨ A = 20
def pTm (Q A _i : Nat) : Prop := A = Q + 2
def pLi (Q A _i : Nat) : Prop := A = Q + 4
def pNm (Q A i : Nat) : Prop := (A = Q ∧ (i = 6 ∨ i = 7)) ∨ A = Q + 5 ∨ A = Q + 6
def pCh (Q A _i : Nat) : Prop := Q ≤ A ∧ A ≤ Q + 6
def pPl (A _i : Nat) : Prop := 136 ≤ A ∧ A ≤ 138
def pPa (A _i : Nat) : Prop := A = 141 ∨ A = 142
def p14 (A i : Nat) : Prop := (14 < A ∧ A ≤ 18) ∨ (A = 14 ∧ i = 0)
theorem csN_1 {m : MM} {o : Nat} (h : ¬ m 2 o = 4) : 1 ≤ csN m o := by
  unfold csN
  rw [if_neg h]
  split <;> omega
theorem csN_2 {m : MM} {o : Nat} (h : ¬ m 2 o = 4) (h5 : ¬ m 2 o = 5) : csN m o = 2 := by
  unfold csN
  rw [if_neg h, if_neg h5]
def DT (m : MM) (Q : Nat) (s c : Int) : Prop := ∀ o, o < 8 → (0 ≤ m (Q + 2) o ∧ m (Q + 2) o ≤ 11000) ∧ ((o : Int) < s → m (Q + 2) o ≤ c)
theorem DT.up {m : MM} {Q i : Nat} {s c c' x : Int} (h : DT m Q s c) (hx : 0 ≤ x ∧ x ≤ c') (h1 : c ≤ c') (h2 : c' ≤ 11000) : DT (upm m (Q + 2) i x) Q s c' := fun o ho => by
  have := h o ho
  by_cases q : o = i
  · rw [q, upm_eq]; exact ⟨by omega, fun _ => by omega⟩
  · rw [upm_ne (by omega)]; exact ⟨this.1, fun z => by have := this.2 z; omega⟩
theorem DT.up1 {m : MM} {Q i : Nat} {s x : Int} (h : DT m Q s 11) (hx : 0 ≤ x ∧ x ≤ 11) (hi : s = (i : Int)) : DT (upm m (Q + 2) i x) Q (s + 1) 11 := fun o ho => by
  have := h o ho
  by_cases q : o = i
  · rw [q, upm_eq]; exact ⟨by omega, fun _ => by omega⟩
  · rw [upm_ne (by omega)]; exact ⟨this.1, fun z => this.2 (by omega)⟩
theorem DT.le {m : MM} {Q : Nat} {s c s' c' : Int} (h : DT m Q s c) (h1 : s' ≤ s) (h2 : c ≤ c') : DT m Q s' c' := fun o ho => ⟨(h o ho).1, fun z => by have := (h o ho).2 (by omega); omega⟩
/-! laid by wip/hand/tg.py: charts, ways, rows -/
set_option maxRecDepth 100000 in
theorem mt_75 : MT[75]? = some M_75 := rfl
set_option maxRecDepth 100000 in
theorem mt_77 : MT[77]? = some M_77 := rfl
set_option maxRecDepth 100000 in
theorem mt_107 : MT[107]? = some M_107 := rfl
set_option maxRecDepth 100000 in
theorem mt_109 : MT[109]? = some M_109 := rfl
set_option maxRecDepth 100000 in
theorem mt_110 : MT[110]? = some M_110 := rfl
set_option maxRecDepth 100000 in
theorem mt_161 : MT[161]? = some M_161 := rfl
set_option maxRecDepth 100000 in
theorem mt_162 : MT[162]? = some M_162 := rfl
set_option maxRecDepth 100000 in
theorem mt_215 : MT[215]? = some M_215 := rfl
theorem te_75_0 : (pT M_75).find? (fun e => e.1 == 0) = some (0, .aload_n 0, 0, 0) := rfl
theorem te_75_1 : (pT M_75).find? (fun e => e.1 == 1) = some (1, .getfield 15, 5, 1) := rfl
theorem te_75_4 : (pT M_75).find? (fun e => e.1 == 4) = some (4, .iload_n 3, 0, 0) := rfl
theorem te_75_5 : (pT M_75).find? (fun e => e.1 == 5) = some (5, .if_icmp .ne 4, 0, 0) := rfl
theorem te_75_8 : (pT M_75).find? (fun e => e.1 == 8) = some (8, .return_, 0, 0) := rfl
theorem te_75_9 : (pT M_75).find? (fun e => e.1 == 9) = some (9, .aload_n 0, 0, 0) := rfl
theorem te_75_10 : (pT M_75).find? (fun e => e.1 == 10) = some (10, .iload_n 3, 0, 0) := rfl
theorem te_75_11 : (pT M_75).find? (fun e => e.1 == 11) = some (11, .putfield 15, 5, 1) := rfl
theorem te_75_14 : (pT M_75).find? (fun e => e.1 == 14) = some (14, .aload_n 0, 0, 0) := rfl
theorem te_75_15 : (pT M_75).find? (fun e => e.1 == 15) = some (15, .aload_n 1, 0, 0) := rfl
theorem te_75_16 : (pT M_75).find? (fun e => e.1 == 16) = some (16, .getfield 19, 0, 0) := rfl
theorem te_75_19 : (pT M_75).find? (fun e => e.1 == 19) = some (19, .putfield 24, 5, 0) := rfl
theorem te_75_22 : (pT M_75).find? (fun e => e.1 == 22) = some (22, .aload_n 0, 0, 0) := rfl
theorem te_75_23 : (pT M_75).find? (fun e => e.1 == 23) = some (23, .getfield 9, 5, 2) := rfl
theorem te_75_26 : (pT M_75).find? (fun e => e.1 == 26) = some (26, .ldc 25, 3, 0) := rfl
theorem te_75_28 : (pT M_75).find? (fun e => e.1 == 28) = some (28, .invokestatic 26, 76, 2) := rfl
theorem te_75_31 : (pT M_75).find? (fun e => e.1 == 31) = some (31, .iconst 0, 0, 0) := rfl
theorem te_75_32 : (pT M_75).find? (fun e => e.1 == 32) = some (32, .istore 4, 0, 0) := rfl
theorem te_75_34 : (pT M_75).find? (fun e => e.1 == 34) = some (34, .iload 4, 0, 0) := rfl
theorem te_75_36 : (pT M_75).find? (fun e => e.1 == 36) = some (36, .aload_n 2, 0, 0) := rfl
theorem te_75_37 : (pT M_75).find? (fun e => e.1 == 37) = some (37, .getfield 32, 7, 0) := rfl
theorem te_75_40 : (pT M_75).find? (fun e => e.1 == 40) = some (40, .if_icmp .ge 63, 0, 0) := rfl
theorem te_75_43 : (pT M_75).find? (fun e => e.1 == 43) = some (43, .aload_n 2, 0, 0) := rfl
theorem te_75_44 : (pT M_75).find? (fun e => e.1 == 44) = some (44, .getfield 35, 7, 1) := rfl
theorem te_75_47 : (pT M_75).find? (fun e => e.1 == 47) = some (47, .iload 4, 0, 0) := rfl
theorem te_75_49 : (pT M_75).find? (fun e => e.1 == 49) = some (49, .iaload, 0, 0) := rfl
theorem te_75_50 : (pT M_75).find? (fun e => e.1 == 50) = some (50, .bipush 8, 0, 0) := rfl
theorem te_75_52 : (pT M_75).find? (fun e => e.1 == 52) = some (52, .imul, 0, 0) := rfl
theorem te_75_53 : (pT M_75).find? (fun e => e.1 == 53) = some (53, .aload_n 2, 0, 0) := rfl
theorem te_75_54 : (pT M_75).find? (fun e => e.1 == 54) = some (54, .getfield 38, 7, 2) := rfl
theorem te_75_57 : (pT M_75).find? (fun e => e.1 == 57) = some (57, .iload 4, 0, 0) := rfl
theorem te_75_59 : (pT M_75).find? (fun e => e.1 == 59) = some (59, .iaload, 0, 0) := rfl
theorem te_75_60 : (pT M_75).find? (fun e => e.1 == 60) = some (60, .iadd, 0, 0) := rfl
theorem te_75_61 : (pT M_75).find? (fun e => e.1 == 61) = some (61, .istore 5, 0, 0) := rfl
theorem te_75_63 : (pT M_75).find? (fun e => e.1 == 63) = some (63, .aload_n 0, 0, 0) := rfl
theorem te_75_64 : (pT M_75).find? (fun e => e.1 == 64) = some (64, .getfield 9, 5, 2) := rfl
theorem te_75_67 : (pT M_75).find? (fun e => e.1 == 67) = some (67, .iload 5, 0, 0) := rfl
theorem te_75_69 : (pT M_75).find? (fun e => e.1 == 69) = some (69, .aload_n 0, 0, 0) := rfl
theorem te_75_70 : (pT M_75).find? (fun e => e.1 == 70) = some (70, .getfield 9, 5, 2) := rfl
theorem te_75_73 : (pT M_75).find? (fun e => e.1 == 73) = some (73, .iload 5, 0, 0) := rfl
theorem te_75_75 : (pT M_75).find? (fun e => e.1 == 75) = some (75, .iaload, 0, 0) := rfl
theorem te_75_76 : (pT M_75).find? (fun e => e.1 == 76) = some (76, .aload_n 2, 0, 0) := rfl
theorem te_75_77 : (pT M_75).find? (fun e => e.1 == 77) = some (77, .getfield 41, 7, 4) := rfl
theorem te_75_80 : (pT M_75).find? (fun e => e.1 == 80) = some (80, .iload 4, 0, 0) := rfl
theorem te_75_82 : (pT M_75).find? (fun e => e.1 == 82) = some (82, .iaload, 0, 0) := rfl
theorem te_75_83 : (pT M_75).find? (fun e => e.1 == 83) = some (83, .iload_n 3, 0, 0) := rfl
theorem te_75_84 : (pT M_75).find? (fun e => e.1 == 84) = some (84, .aload_n 2, 0, 0) := rfl
theorem te_75_85 : (pT M_75).find? (fun e => e.1 == 85) = some (85, .getfield 44, 7, 3) := rfl
theorem te_75_88 : (pT M_75).find? (fun e => e.1 == 88) = some (88, .iload 4, 0, 0) := rfl
theorem te_75_90 : (pT M_75).find? (fun e => e.1 == 90) = some (90, .iaload, 0, 0) := rfl
theorem te_75_91 : (pT M_75).find? (fun e => e.1 == 91) = some (91, .imul, 0, 0) := rfl
theorem te_75_92 : (pT M_75).find? (fun e => e.1 == 92) = some (92, .isub, 0, 0) := rfl
theorem te_75_93 : (pT M_75).find? (fun e => e.1 == 93) = some (93, .invokestatic 47, 40, 2) := rfl
theorem te_75_96 : (pT M_75).find? (fun e => e.1 == 96) = some (96, .iastore, 0, 0) := rfl
theorem te_75_97 : (pT M_75).find? (fun e => e.1 == 97) = some (97, .iinc 4 1, 0, 0) := rfl
theorem te_75_100 : (pT M_75).find? (fun e => e.1 == 100) = some (100, .goto (-66), 0, 0) := rfl
theorem te_75_103 : (pT M_75).find? (fun e => e.1 == 103) = some (103, .iconst 0, 0, 0) := rfl
theorem te_75_104 : (pT M_75).find? (fun e => e.1 == 104) = some (104, .istore 4, 0, 0) := rfl
theorem te_75_106 : (pT M_75).find? (fun e => e.1 == 106) = some (106, .iload 4, 0, 0) := rfl
theorem te_75_108 : (pT M_75).find? (fun e => e.1 == 108) = some (108, .aload_n 0, 0, 0) := rfl
theorem te_75_109 : (pT M_75).find? (fun e => e.1 == 109) = some (109, .getfield 24, 5, 0) := rfl
theorem te_75_112 : (pT M_75).find? (fun e => e.1 == 112) = some (112, .if_icmp .ge 53, 0, 0) := rfl
theorem te_75_115 : (pT M_75).find? (fun e => e.1 == 115) = some (115, .iconst 0, 0, 0) := rfl
theorem te_75_116 : (pT M_75).find? (fun e => e.1 == 116) = some (116, .istore 5, 0, 0) := rfl
theorem te_75_118 : (pT M_75).find? (fun e => e.1 == 118) = some (118, .iload 5, 0, 0) := rfl
theorem te_75_120 : (pT M_75).find? (fun e => e.1 == 120) = some (120, .aload_n 0, 0, 0) := rfl
theorem te_75_121 : (pT M_75).find? (fun e => e.1 == 121) = some (121, .getfield 24, 5, 0) := rfl
theorem te_75_124 : (pT M_75).find? (fun e => e.1 == 124) = some (124, .if_icmp .ge 35, 0, 0) := rfl
theorem te_75_127 : (pT M_75).find? (fun e => e.1 == 127) = some (127, .aload_n 0, 0, 0) := rfl
theorem te_75_128 : (pT M_75).find? (fun e => e.1 == 128) = some (128, .getfield 9, 5, 2) := rfl
theorem te_75_131 : (pT M_75).find? (fun e => e.1 == 131) = some (131, .iload 5, 0, 0) := rfl
theorem te_75_133 : (pT M_75).find? (fun e => e.1 == 133) = some (133, .bipush 8, 0, 0) := rfl
theorem te_75_135 : (pT M_75).find? (fun e => e.1 == 135) = some (135, .imul, 0, 0) := rfl
theorem te_75_136 : (pT M_75).find? (fun e => e.1 == 136) = some (136, .iload 4, 0, 0) := rfl
theorem te_75_138 : (pT M_75).find? (fun e => e.1 == 138) = some (138, .iadd, 0, 0) := rfl
theorem te_75_139 : (pT M_75).find? (fun e => e.1 == 139) = some (139, .iaload, 0, 0) := rfl
theorem te_75_140 : (pT M_75).find? (fun e => e.1 == 140) = some (140, .ldc 25, 3, 0) := rfl
theorem te_75_142 : (pT M_75).find? (fun e => e.1 == 142) = some (142, .if_icmp .eq 11, 0, 0) := rfl
theorem te_75_145 : (pT M_75).find? (fun e => e.1 == 145) = some (145, .aload_n 0, 0, 0) := rfl
theorem te_75_146 : (pT M_75).find? (fun e => e.1 == 146) = some (146, .iload 5, 0, 0) := rfl
theorem te_75_148 : (pT M_75).find? (fun e => e.1 == 148) = some (148, .iload 4, 0, 0) := rfl
theorem te_75_150 : (pT M_75).find? (fun e => e.1 == 150) = some (150, .invokevirtual 53, 77, 0) := rfl
theorem te_75_153 : (pT M_75).find? (fun e => e.1 == 153) = some (153, .iinc 5 1, 0, 0) := rfl
theorem te_75_156 : (pT M_75).find? (fun e => e.1 == 156) = some (156, .goto (-38), 0, 0) := rfl
theorem te_75_159 : (pT M_75).find? (fun e => e.1 == 159) = some (159, .iinc 4 1, 0, 0) := rfl
theorem te_75_162 : (pT M_75).find? (fun e => e.1 == 162) = some (162, .goto (-56), 0, 0) := rfl
theorem te_75_165 : (pT M_75).find? (fun e => e.1 == 165) = some (165, .return_, 0, 0) := rfl
theorem te_77_0 : (pT M_77).find? (fun e => e.1 == 0) = some (0, .aload_n 0, 0, 0) := rfl
theorem te_77_1 : (pT M_77).find? (fun e => e.1 == 1) = some (1, .getfield 9, 5, 2) := rfl
theorem te_77_4 : (pT M_77).find? (fun e => e.1 == 4) = some (4, .iload_n 1, 0, 0) := rfl
theorem te_77_5 : (pT M_77).find? (fun e => e.1 == 5) = some (5, .bipush 8, 0, 0) := rfl
theorem te_77_7 : (pT M_77).find? (fun e => e.1 == 7) = some (7, .imul, 0, 0) := rfl
theorem te_77_8 : (pT M_77).find? (fun e => e.1 == 8) = some (8, .iload_n 2, 0, 0) := rfl
theorem te_77_9 : (pT M_77).find? (fun e => e.1 == 9) = some (9, .iadd, 0, 0) := rfl
theorem te_77_10 : (pT M_77).find? (fun e => e.1 == 10) = some (10, .iaload, 0, 0) := rfl
theorem te_77_11 : (pT M_77).find? (fun e => e.1 == 11) = some (11, .istore_n 3, 0, 0) := rfl
theorem te_77_12 : (pT M_77).find? (fun e => e.1 == 12) = some (12, .iconst 0, 0, 0) := rfl
theorem te_77_13 : (pT M_77).find? (fun e => e.1 == 13) = some (13, .istore 4, 0, 0) := rfl
theorem te_77_15 : (pT M_77).find? (fun e => e.1 == 15) = some (15, .iload 4, 0, 0) := rfl
theorem te_77_17 : (pT M_77).find? (fun e => e.1 == 17) = some (17, .aload_n 0, 0, 0) := rfl
theorem te_77_18 : (pT M_77).find? (fun e => e.1 == 18) = some (18, .getfield 24, 5, 0) := rfl
theorem te_77_21 : (pT M_77).find? (fun e => e.1 == 21) = some (21, .if_icmp .ge 60, 0, 0) := rfl
theorem te_77_24 : (pT M_77).find? (fun e => e.1 == 24) = some (24, .aload_n 0, 0, 0) := rfl
theorem te_77_25 : (pT M_77).find? (fun e => e.1 == 25) = some (25, .getfield 9, 5, 2) := rfl
theorem te_77_28 : (pT M_77).find? (fun e => e.1 == 28) = some (28, .iload_n 2, 0, 0) := rfl
theorem te_77_29 : (pT M_77).find? (fun e => e.1 == 29) = some (29, .bipush 8, 0, 0) := rfl
theorem te_77_31 : (pT M_77).find? (fun e => e.1 == 31) = some (31, .imul, 0, 0) := rfl
theorem te_77_32 : (pT M_77).find? (fun e => e.1 == 32) = some (32, .iload 4, 0, 0) := rfl
theorem te_77_34 : (pT M_77).find? (fun e => e.1 == 34) = some (34, .iadd, 0, 0) := rfl
theorem te_77_35 : (pT M_77).find? (fun e => e.1 == 35) = some (35, .iaload, 0, 0) := rfl
theorem te_77_36 : (pT M_77).find? (fun e => e.1 == 36) = some (36, .istore 5, 0, 0) := rfl
theorem te_77_38 : (pT M_77).find? (fun e => e.1 == 38) = some (38, .iload 5, 0, 0) := rfl
theorem te_77_40 : (pT M_77).find? (fun e => e.1 == 40) = some (40, .ldc 25, 3, 0) := rfl
theorem te_77_42 : (pT M_77).find? (fun e => e.1 == 42) = some (42, .if_icmp .eq 33, 0, 0) := rfl
theorem te_77_45 : (pT M_77).find? (fun e => e.1 == 45) = some (45, .iload_n 1, 0, 0) := rfl
theorem te_77_46 : (pT M_77).find? (fun e => e.1 == 46) = some (46, .bipush 8, 0, 0) := rfl
theorem te_77_48 : (pT M_77).find? (fun e => e.1 == 48) = some (48, .imul, 0, 0) := rfl
theorem te_77_49 : (pT M_77).find? (fun e => e.1 == 49) = some (49, .iload 4, 0, 0) := rfl
theorem te_77_51 : (pT M_77).find? (fun e => e.1 == 51) = some (51, .iadd, 0, 0) := rfl
theorem te_77_52 : (pT M_77).find? (fun e => e.1 == 52) = some (52, .istore 6, 0, 0) := rfl
theorem te_77_54 : (pT M_77).find? (fun e => e.1 == 54) = some (54, .aload_n 0, 0, 0) := rfl
theorem te_77_55 : (pT M_77).find? (fun e => e.1 == 55) = some (55, .getfield 9, 5, 2) := rfl
theorem te_77_58 : (pT M_77).find? (fun e => e.1 == 58) = some (58, .iload 6, 0, 0) := rfl
theorem te_77_60 : (pT M_77).find? (fun e => e.1 == 60) = some (60, .aload_n 0, 0, 0) := rfl
theorem te_77_61 : (pT M_77).find? (fun e => e.1 == 61) = some (61, .getfield 9, 5, 2) := rfl
theorem te_77_64 : (pT M_77).find? (fun e => e.1 == 64) = some (64, .iload 6, 0, 0) := rfl
theorem te_77_66 : (pT M_77).find? (fun e => e.1 == 66) = some (66, .iaload, 0, 0) := rfl
theorem te_77_67 : (pT M_77).find? (fun e => e.1 == 67) = some (67, .iload_n 3, 0, 0) := rfl
theorem te_77_68 : (pT M_77).find? (fun e => e.1 == 68) = some (68, .iload 5, 0, 0) := rfl
theorem te_77_70 : (pT M_77).find? (fun e => e.1 == 70) = some (70, .iadd, 0, 0) := rfl
theorem te_77_71 : (pT M_77).find? (fun e => e.1 == 71) = some (71, .invokestatic 47, 40, 2) := rfl
theorem te_77_74 : (pT M_77).find? (fun e => e.1 == 74) = some (74, .iastore, 0, 0) := rfl
theorem te_77_75 : (pT M_77).find? (fun e => e.1 == 75) = some (75, .iinc 4 1, 0, 0) := rfl
theorem te_77_78 : (pT M_77).find? (fun e => e.1 == 78) = some (78, .goto (-63), 0, 0) := rfl
theorem te_77_81 : (pT M_77).find? (fun e => e.1 == 81) = some (81, .return_, 0, 0) := rfl
theorem te_107_0 : (pT M_107).find? (fun e => e.1 == 0) = some (0, .iconst 0, 0, 0) := rfl
theorem te_107_1 : (pT M_107).find? (fun e => e.1 == 1) = some (1, .istore_n 2, 0, 0) := rfl
theorem te_107_2 : (pT M_107).find? (fun e => e.1 == 2) = some (2, .iload_n 2, 0, 0) := rfl
theorem te_107_3 : (pT M_107).find? (fun e => e.1 == 3) = some (3, .aload_n 0, 0, 0) := rfl
theorem te_107_4 : (pT M_107).find? (fun e => e.1 == 4) = some (4, .getfield 39, 1, 2) := rfl
theorem te_107_7 : (pT M_107).find? (fun e => e.1 == 7) = some (7, .if_icmp .ge 21, 0, 0) := rfl
theorem te_107_10 : (pT M_107).find? (fun e => e.1 == 10) = some (10, .aload_n 0, 0, 0) := rfl
theorem te_107_11 : (pT M_107).find? (fun e => e.1 == 11) = some (11, .getfield 19, 1, 9) := rfl
theorem te_107_14 : (pT M_107).find? (fun e => e.1 == 14) = some (14, .iload_n 2, 0, 0) := rfl
theorem te_107_15 : (pT M_107).find? (fun e => e.1 == 15) = some (15, .aload_n 0, 0, 0) := rfl
theorem te_107_16 : (pT M_107).find? (fun e => e.1 == 16) = some (16, .getfield 15, 1, 8) := rfl
theorem te_107_19 : (pT M_107).find? (fun e => e.1 == 19) = some (19, .iload_n 2, 0, 0) := rfl
theorem te_107_20 : (pT M_107).find? (fun e => e.1 == 20) = some (20, .iaload, 0, 0) := rfl
theorem te_107_21 : (pT M_107).find? (fun e => e.1 == 21) = some (21, .iastore, 0, 0) := rfl
theorem te_107_22 : (pT M_107).find? (fun e => e.1 == 22) = some (22, .iinc 2 1, 0, 0) := rfl
theorem te_107_25 : (pT M_107).find? (fun e => e.1 == 25) = some (25, .goto (-23), 0, 0) := rfl
theorem te_107_28 : (pT M_107).find? (fun e => e.1 == 28) = some (28, .iconst 1, 0, 0) := rfl
theorem te_107_29 : (pT M_107).find? (fun e => e.1 == 29) = some (29, .istore_n 2, 0, 0) := rfl
theorem te_107_30 : (pT M_107).find? (fun e => e.1 == 30) = some (30, .iconst 0, 0, 0) := rfl
theorem te_107_31 : (pT M_107).find? (fun e => e.1 == 31) = some (31, .istore_n 3, 0, 0) := rfl
theorem te_107_32 : (pT M_107).find? (fun e => e.1 == 32) = some (32, .iload_n 3, 0, 0) := rfl
theorem te_107_33 : (pT M_107).find? (fun e => e.1 == 33) = some (33, .bipush 8, 0, 0) := rfl
theorem te_107_35 : (pT M_107).find? (fun e => e.1 == 35) = some (35, .if_icmp .gt 116, 0, 0) := rfl
theorem te_107_38 : (pT M_107).find? (fun e => e.1 == 38) = some (38, .iload_n 2, 0, 0) := rfl
theorem te_107_39 : (pT M_107).find? (fun e => e.1 == 39) = some (39, .ifCond .eq 112, 0, 0) := rfl
theorem te_107_42 : (pT M_107).find? (fun e => e.1 == 42) = some (42, .iconst 0, 0, 0) := rfl
theorem te_107_43 : (pT M_107).find? (fun e => e.1 == 43) = some (43, .istore_n 2, 0, 0) := rfl
theorem te_107_44 : (pT M_107).find? (fun e => e.1 == 44) = some (44, .iconst 0, 0, 0) := rfl
theorem te_107_45 : (pT M_107).find? (fun e => e.1 == 45) = some (45, .istore 4, 0, 0) := rfl
theorem te_107_47 : (pT M_107).find? (fun e => e.1 == 47) = some (47, .iload 4, 0, 0) := rfl
theorem te_107_49 : (pT M_107).find? (fun e => e.1 == 49) = some (49, .aload_n 1, 0, 0) := rfl
theorem te_107_50 : (pT M_107).find? (fun e => e.1 == 50) = some (50, .getfield 76, 7, 0) := rfl
theorem te_107_53 : (pT M_107).find? (fun e => e.1 == 53) = some (53, .if_icmp .ge 92, 0, 0) := rfl
theorem te_107_56 : (pT M_107).find? (fun e => e.1 == 56) = some (56, .aload_n 1, 0, 0) := rfl
theorem te_107_57 : (pT M_107).find? (fun e => e.1 == 57) = some (57, .getfield 79, 7, 2) := rfl
theorem te_107_60 : (pT M_107).find? (fun e => e.1 == 60) = some (60, .iload 4, 0, 0) := rfl
theorem te_107_62 : (pT M_107).find? (fun e => e.1 == 62) = some (62, .iaload, 0, 0) := rfl
theorem te_107_63 : (pT M_107).find? (fun e => e.1 == 63) = some (63, .istore 5, 0, 0) := rfl
theorem te_107_65 : (pT M_107).find? (fun e => e.1 == 65) = some (65, .aload_n 0, 0, 0) := rfl
theorem te_107_66 : (pT M_107).find? (fun e => e.1 == 66) = some (66, .getfield 19, 1, 9) := rfl
theorem te_107_69 : (pT M_107).find? (fun e => e.1 == 69) = some (69, .aload_n 1, 0, 0) := rfl
theorem te_107_70 : (pT M_107).find? (fun e => e.1 == 70) = some (70, .getfield 82, 7, 1) := rfl
theorem te_107_73 : (pT M_107).find? (fun e => e.1 == 73) = some (73, .iload 4, 0, 0) := rfl
theorem te_107_75 : (pT M_107).find? (fun e => e.1 == 75) = some (75, .iaload, 0, 0) := rfl
theorem te_107_76 : (pT M_107).find? (fun e => e.1 == 76) = some (76, .iaload, 0, 0) := rfl
theorem te_107_77 : (pT M_107).find? (fun e => e.1 == 77) = some (77, .aload_n 1, 0, 0) := rfl
theorem te_107_78 : (pT M_107).find? (fun e => e.1 == 78) = some (78, .getfield 85, 7, 4) := rfl
theorem te_107_81 : (pT M_107).find? (fun e => e.1 == 81) = some (81, .iload 4, 0, 0) := rfl
theorem te_107_83 : (pT M_107).find? (fun e => e.1 == 83) = some (83, .iaload, 0, 0) := rfl
theorem te_107_84 : (pT M_107).find? (fun e => e.1 == 84) = some (84, .iadd, 0, 0) := rfl
theorem te_107_85 : (pT M_107).find? (fun e => e.1 == 85) = some (85, .aload_n 0, 0, 0) := rfl
theorem te_107_86 : (pT M_107).find? (fun e => e.1 == 86) = some (86, .getfield 9, 1, 3) := rfl
theorem te_107_89 : (pT M_107).find? (fun e => e.1 == 89) = some (89, .aload_n 1, 0, 0) := rfl
theorem te_107_90 : (pT M_107).find? (fun e => e.1 == 90) = some (90, .getfield 88, 7, 3) := rfl
theorem te_107_93 : (pT M_107).find? (fun e => e.1 == 93) = some (93, .iload 4, 0, 0) := rfl
theorem te_107_95 : (pT M_107).find? (fun e => e.1 == 95) = some (95, .iaload, 0, 0) := rfl
theorem te_107_96 : (pT M_107).find? (fun e => e.1 == 96) = some (96, .imul, 0, 0) := rfl
theorem te_107_97 : (pT M_107).find? (fun e => e.1 == 97) = some (97, .isub, 0, 0) := rfl
theorem te_107_98 : (pT M_107).find? (fun e => e.1 == 98) = some (98, .aload_n 0, 0, 0) := rfl
theorem te_107_99 : (pT M_107).find? (fun e => e.1 == 99) = some (99, .getfield 19, 1, 9) := rfl
theorem te_107_102 : (pT M_107).find? (fun e => e.1 == 102) = some (102, .iload 5, 0, 0) := rfl
theorem te_107_104 : (pT M_107).find? (fun e => e.1 == 104) = some (104, .iaload, 0, 0) := rfl
theorem te_107_105 : (pT M_107).find? (fun e => e.1 == 105) = some (105, .isub, 0, 0) := rfl
theorem te_107_106 : (pT M_107).find? (fun e => e.1 == 106) = some (106, .istore 6, 0, 0) := rfl
theorem te_107_108 : (pT M_107).find? (fun e => e.1 == 108) = some (108, .iload 6, 0, 0) := rfl
theorem te_107_110 : (pT M_107).find? (fun e => e.1 == 110) = some (110, .ifCond .le 29, 0, 0) := rfl
theorem te_107_113 : (pT M_107).find? (fun e => e.1 == 113) = some (113, .aload_n 0, 0, 0) := rfl
theorem te_107_114 : (pT M_107).find? (fun e => e.1 == 114) = some (114, .getfield 19, 1, 9) := rfl
theorem te_107_117 : (pT M_107).find? (fun e => e.1 == 117) = some (117, .iload 5, 0, 0) := rfl
theorem te_107_119 : (pT M_107).find? (fun e => e.1 == 119) = some (119, .dup2, 0, 0) := rfl
theorem te_107_120 : (pT M_107).find? (fun e => e.1 == 120) = some (120, .iaload, 0, 0) := rfl
theorem te_107_121 : (pT M_107).find? (fun e => e.1 == 121) = some (121, .iload 6, 0, 0) := rfl
theorem te_107_123 : (pT M_107).find? (fun e => e.1 == 123) = some (123, .aload_n 0, 0, 0) := rfl
theorem te_107_124 : (pT M_107).find? (fun e => e.1 == 124) = some (124, .getfield 9, 1, 3) := rfl
theorem te_107_127 : (pT M_107).find? (fun e => e.1 == 127) = some (127, .invokestatic 91, 33, 3) := rfl
theorem te_107_130 : (pT M_107).find? (fun e => e.1 == 130) = some (130, .aload_n 0, 0, 0) := rfl
theorem te_107_131 : (pT M_107).find? (fun e => e.1 == 131) = some (131, .getfield 9, 1, 3) := rfl
theorem te_107_134 : (pT M_107).find? (fun e => e.1 == 134) = some (134, .imul, 0, 0) := rfl
theorem te_107_135 : (pT M_107).find? (fun e => e.1 == 135) = some (135, .iadd, 0, 0) := rfl
theorem te_107_136 : (pT M_107).find? (fun e => e.1 == 136) = some (136, .iastore, 0, 0) := rfl
theorem te_107_137 : (pT M_107).find? (fun e => e.1 == 137) = some (137, .iconst 1, 0, 0) := rfl
theorem te_107_138 : (pT M_107).find? (fun e => e.1 == 138) = some (138, .istore_n 2, 0, 0) := rfl
theorem te_107_139 : (pT M_107).find? (fun e => e.1 == 139) = some (139, .iinc 4 1, 0, 0) := rfl
theorem te_107_142 : (pT M_107).find? (fun e => e.1 == 142) = some (142, .goto (-95), 0, 0) := rfl
theorem te_107_145 : (pT M_107).find? (fun e => e.1 == 145) = some (145, .iinc 3 1, 0, 0) := rfl
theorem te_107_148 : (pT M_107).find? (fun e => e.1 == 148) = some (148, .goto (-116), 0, 0) := rfl
theorem te_107_151 : (pT M_107).find? (fun e => e.1 == 151) = some (151, .return_, 0, 0) := rfl
theorem te_109_0 : (pT M_109).find? (fun e => e.1 == 0) = some (0, .aload_n 0, 0, 0) := rfl
theorem te_109_1 : (pT M_109).find? (fun e => e.1 == 1) = some (1, .getfield 25, 1, 11) := rfl
theorem te_109_4 : (pT M_109).find? (fun e => e.1 == 4) = some (4, .iconst 0, 0, 0) := rfl
theorem te_109_5 : (pT M_109).find? (fun e => e.1 == 5) = some (5, .invokestatic 94, 76, 2) := rfl
theorem te_109_8 : (pT M_109).find? (fun e => e.1 == 8) = some (8, .iconst 0, 0, 0) := rfl
theorem te_109_9 : (pT M_109).find? (fun e => e.1 == 9) = some (9, .istore_n 2, 0, 0) := rfl
theorem te_109_10 : (pT M_109).find? (fun e => e.1 == 10) = some (10, .iload_n 2, 0, 0) := rfl
theorem te_109_11 : (pT M_109).find? (fun e => e.1 == 11) = some (11, .aload_n 0, 0, 0) := rfl
theorem te_109_12 : (pT M_109).find? (fun e => e.1 == 12) = some (12, .getfield 39, 1, 2) := rfl
theorem te_109_15 : (pT M_109).find? (fun e => e.1 == 15) = some (15, .if_icmp .ge 88, 0, 0) := rfl
theorem te_109_18 : (pT M_109).find? (fun e => e.1 == 18) = some (18, .iconst 0, 0, 0) := rfl
theorem te_109_19 : (pT M_109).find? (fun e => e.1 == 19) = some (19, .istore_n 3, 0, 0) := rfl
theorem te_109_20 : (pT M_109).find? (fun e => e.1 == 20) = some (20, .iload_n 3, 0, 0) := rfl
theorem te_109_21 : (pT M_109).find? (fun e => e.1 == 21) = some (21, .aload_n 1, 0, 0) := rfl
theorem te_109_22 : (pT M_109).find? (fun e => e.1 == 22) = some (22, .iload_n 2, 0, 0) := rfl
theorem te_109_23 : (pT M_109).find? (fun e => e.1 == 23) = some (23, .invokevirtual 100, 13, 1) := rfl
theorem te_109_26 : (pT M_109).find? (fun e => e.1 == 26) = some (26, .if_icmp .ge 71, 0, 0) := rfl
theorem te_109_29 : (pT M_109).find? (fun e => e.1 == 29) = some (29, .aload_n 1, 0, 0) := rfl
theorem te_109_30 : (pT M_109).find? (fun e => e.1 == 30) = some (30, .iload_n 2, 0, 0) := rfl
theorem te_109_31 : (pT M_109).find? (fun e => e.1 == 31) = some (31, .iload_n 3, 0, 0) := rfl
theorem te_109_32 : (pT M_109).find? (fun e => e.1 == 32) = some (32, .invokevirtual 103, 14, 1) := rfl
theorem te_109_35 : (pT M_109).find? (fun e => e.1 == 35) = some (35, .istore 4, 0, 0) := rfl
theorem te_109_37 : (pT M_109).find? (fun e => e.1 == 37) = some (37, .iload 4, 0, 0) := rfl
theorem te_109_39 : (pT M_109).find? (fun e => e.1 == 39) = some (39, .ifCond .lt 52, 0, 0) := rfl
theorem te_109_42 : (pT M_109).find? (fun e => e.1 == 42) = some (42, .aload_n 0, 0, 0) := rfl
theorem te_109_43 : (pT M_109).find? (fun e => e.1 == 43) = some (43, .getfield 19, 1, 9) := rfl
theorem te_109_46 : (pT M_109).find? (fun e => e.1 == 46) = some (46, .iload_n 2, 0, 0) := rfl
theorem te_109_47 : (pT M_109).find? (fun e => e.1 == 47) = some (47, .iaload, 0, 0) := rfl
theorem te_109_48 : (pT M_109).find? (fun e => e.1 == 48) = some (48, .aload_n 0, 0, 0) := rfl
theorem te_109_49 : (pT M_109).find? (fun e => e.1 == 49) = some (49, .getfield 9, 1, 3) := rfl
theorem te_109_52 : (pT M_109).find? (fun e => e.1 == 52) = some (52, .aload_n 1, 0, 0) := rfl
theorem te_109_53 : (pT M_109).find? (fun e => e.1 == 53) = some (53, .iload_n 2, 0, 0) := rfl
theorem te_109_54 : (pT M_109).find? (fun e => e.1 == 54) = some (54, .iload_n 3, 0, 0) := rfl
theorem te_109_55 : (pT M_109).find? (fun e => e.1 == 55) = some (55, .invokevirtual 106, 15, 1) := rfl
theorem te_109_58 : (pT M_109).find? (fun e => e.1 == 58) = some (58, .imul, 0, 0) := rfl
theorem te_109_59 : (pT M_109).find? (fun e => e.1 == 59) = some (59, .iadd, 0, 0) := rfl
theorem te_109_60 : (pT M_109).find? (fun e => e.1 == 60) = some (60, .istore 5, 0, 0) := rfl
theorem te_109_62 : (pT M_109).find? (fun e => e.1 == 62) = some (62, .aload_n 0, 0, 0) := rfl
theorem te_109_63 : (pT M_109).find? (fun e => e.1 == 63) = some (63, .getfield 25, 1, 11) := rfl
theorem te_109_66 : (pT M_109).find? (fun e => e.1 == 66) = some (66, .iload 4, 0, 0) := rfl
theorem te_109_68 : (pT M_109).find? (fun e => e.1 == 68) = some (68, .aload_n 0, 0, 0) := rfl
theorem te_109_69 : (pT M_109).find? (fun e => e.1 == 69) = some (69, .getfield 25, 1, 11) := rfl
theorem te_109_72 : (pT M_109).find? (fun e => e.1 == 72) = some (72, .iload 4, 0, 0) := rfl
theorem te_109_74 : (pT M_109).find? (fun e => e.1 == 74) = some (74, .iaload, 0, 0) := rfl
theorem te_109_75 : (pT M_109).find? (fun e => e.1 == 75) = some (75, .iload 5, 0, 0) := rfl
theorem te_109_77 : (pT M_109).find? (fun e => e.1 == 77) = some (77, .aload_n 0, 0, 0) := rfl
theorem te_109_78 : (pT M_109).find? (fun e => e.1 == 78) = some (78, .getfield 22, 1, 10) := rfl
theorem te_109_81 : (pT M_109).find? (fun e => e.1 == 81) = some (81, .iload 4, 0, 0) := rfl
theorem te_109_83 : (pT M_109).find? (fun e => e.1 == 83) = some (83, .iaload, 0, 0) := rfl
theorem te_109_84 : (pT M_109).find? (fun e => e.1 == 84) = some (84, .isub, 0, 0) := rfl
theorem te_109_85 : (pT M_109).find? (fun e => e.1 == 85) = some (85, .iconst 1, 0, 0) := rfl
theorem te_109_86 : (pT M_109).find? (fun e => e.1 == 86) = some (86, .iadd, 0, 0) := rfl
theorem te_109_87 : (pT M_109).find? (fun e => e.1 == 87) = some (87, .invokestatic 60, 40, 2) := rfl
theorem te_109_90 : (pT M_109).find? (fun e => e.1 == 90) = some (90, .iastore, 0, 0) := rfl
theorem te_109_91 : (pT M_109).find? (fun e => e.1 == 91) = some (91, .iinc 3 1, 0, 0) := rfl
theorem te_109_94 : (pT M_109).find? (fun e => e.1 == 94) = some (94, .goto (-74), 0, 0) := rfl
theorem te_109_97 : (pT M_109).find? (fun e => e.1 == 97) = some (97, .iinc 2 1, 0, 0) := rfl
theorem te_109_100 : (pT M_109).find? (fun e => e.1 == 100) = some (100, .goto (-90), 0, 0) := rfl
theorem te_109_103 : (pT M_109).find? (fun e => e.1 == 103) = some (103, .return_, 0, 0) := rfl
theorem te_110_0 : (pT M_110).find? (fun e => e.1 == 0) = some (0, .aload_n 0, 0, 0) := rfl
theorem te_110_1 : (pT M_110).find? (fun e => e.1 == 1) = some (1, .iconst 0, 0, 0) := rfl
theorem te_110_2 : (pT M_110).find? (fun e => e.1 == 2) = some (2, .putfield 109, 1, 6) := rfl
theorem te_110_5 : (pT M_110).find? (fun e => e.1 == 5) = some (5, .aload_n 0, 0, 0) := rfl
theorem te_110_6 : (pT M_110).find? (fun e => e.1 == 6) = some (6, .iconst 1, 0, 0) := rfl
theorem te_110_7 : (pT M_110).find? (fun e => e.1 == 7) = some (7, .putfield 112, 1, 7) := rfl
theorem te_110_10 : (pT M_110).find? (fun e => e.1 == 10) = some (10, .iconst 0, 0, 0) := rfl
theorem te_110_11 : (pT M_110).find? (fun e => e.1 == 11) = some (11, .istore_n 2, 0, 0) := rfl
theorem te_110_12 : (pT M_110).find? (fun e => e.1 == 12) = some (12, .iload_n 2, 0, 0) := rfl
theorem te_110_13 : (pT M_110).find? (fun e => e.1 == 13) = some (13, .aload_n 0, 0, 0) := rfl
theorem te_110_14 : (pT M_110).find? (fun e => e.1 == 14) = some (14, .getfield 39, 1, 2) := rfl
theorem te_110_17 : (pT M_110).find? (fun e => e.1 == 17) = some (17, .if_icmp .ge 88, 0, 0) := rfl
theorem te_110_20 : (pT M_110).find? (fun e => e.1 == 20) = some (20, .aload_n 1, 0, 0) := rfl
theorem te_110_21 : (pT M_110).find? (fun e => e.1 == 21) = some (21, .getfield 115, 0, 1) := rfl
theorem te_110_24 : (pT M_110).find? (fun e => e.1 == 24) = some (24, .iload_n 2, 0, 0) := rfl
theorem te_110_25 : (pT M_110).find? (fun e => e.1 == 25) = some (25, .iaload, 0, 0) := rfl
theorem te_110_26 : (pT M_110).find? (fun e => e.1 == 26) = some (26, .iconst 5, 0, 0) := rfl
theorem te_110_27 : (pT M_110).find? (fun e => e.1 == 27) = some (27, .if_icmp .ne 7, 0, 0) := rfl
theorem te_110_30 : (pT M_110).find? (fun e => e.1 == 30) = some (30, .iconst 1, 0, 0) := rfl
theorem te_110_31 : (pT M_110).find? (fun e => e.1 == 31) = some (31, .goto 4, 0, 0) := rfl
theorem te_110_34 : (pT M_110).find? (fun e => e.1 == 34) = some (34, .iconst 0, 0, 0) := rfl
theorem te_110_35 : (pT M_110).find? (fun e => e.1 == 35) = some (35, .istore_n 3, 0, 0) := rfl
theorem te_110_36 : (pT M_110).find? (fun e => e.1 == 36) = some (36, .aload_n 0, 0, 0) := rfl
theorem te_110_37 : (pT M_110).find? (fun e => e.1 == 37) = some (37, .getfield 28, 1, 12) := rfl
theorem te_110_40 : (pT M_110).find? (fun e => e.1 == 40) = some (40, .iload_n 2, 0, 0) := rfl
theorem te_110_41 : (pT M_110).find? (fun e => e.1 == 41) = some (41, .iload_n 3, 0, 0) := rfl
theorem te_110_42 : (pT M_110).find? (fun e => e.1 == 42) = some (42, .ifCond .eq 7, 0, 0) := rfl
theorem te_110_45 : (pT M_110).find? (fun e => e.1 == 45) = some (45, .iconst 0, 0, 0) := rfl
theorem te_110_46 : (pT M_110).find? (fun e => e.1 == 46) = some (46, .goto 20, 0, 0) := rfl
theorem te_110_49 : (pT M_110).find? (fun e => e.1 == 49) = some (49, .iconst 1, 0, 0) := rfl
theorem te_110_50 : (pT M_110).find? (fun e => e.1 == 50) = some (50, .aload_n 0, 0, 0) := rfl
theorem te_110_51 : (pT M_110).find? (fun e => e.1 == 51) = some (51, .getfield 25, 1, 11) := rfl
theorem te_110_54 : (pT M_110).find? (fun e => e.1 == 54) = some (54, .iload_n 2, 0, 0) := rfl
theorem te_110_55 : (pT M_110).find? (fun e => e.1 == 55) = some (55, .iaload, 0, 0) := rfl
theorem te_110_56 : (pT M_110).find? (fun e => e.1 == 56) = some (56, .aload_n 0, 0, 0) := rfl
theorem te_110_57 : (pT M_110).find? (fun e => e.1 == 57) = some (57, .getfield 9, 1, 3) := rfl
theorem te_110_60 : (pT M_110).find? (fun e => e.1 == 60) = some (60, .invokestatic 91, 33, 3) := rfl
theorem te_110_63 : (pT M_110).find? (fun e => e.1 == 63) = some (63, .invokestatic 60, 40, 2) := rfl
theorem te_110_66 : (pT M_110).find? (fun e => e.1 == 66) = some (66, .iastore, 0, 0) := rfl
theorem te_110_67 : (pT M_110).find? (fun e => e.1 == 67) = some (67, .aload_n 0, 0, 0) := rfl
theorem te_110_68 : (pT M_110).find? (fun e => e.1 == 68) = some (68, .dup, 0, 0) := rfl
theorem te_110_69 : (pT M_110).find? (fun e => e.1 == 69) = some (69, .getfield 109, 1, 6) := rfl
theorem te_110_72 : (pT M_110).find? (fun e => e.1 == 72) = some (72, .aload_n 0, 0, 0) := rfl
theorem te_110_73 : (pT M_110).find? (fun e => e.1 == 73) = some (73, .getfield 28, 1, 12) := rfl
theorem te_110_76 : (pT M_110).find? (fun e => e.1 == 76) = some (76, .iload_n 2, 0, 0) := rfl
theorem te_110_77 : (pT M_110).find? (fun e => e.1 == 77) = some (77, .iaload, 0, 0) := rfl
theorem te_110_78 : (pT M_110).find? (fun e => e.1 == 78) = some (78, .iadd, 0, 0) := rfl
theorem te_110_79 : (pT M_110).find? (fun e => e.1 == 79) = some (79, .putfield 109, 1, 6) := rfl
theorem te_110_82 : (pT M_110).find? (fun e => e.1 == 82) = some (82, .aload_n 0, 0, 0) := rfl
theorem te_110_83 : (pT M_110).find? (fun e => e.1 == 83) = some (83, .aload_n 0, 0, 0) := rfl
theorem te_110_84 : (pT M_110).find? (fun e => e.1 == 84) = some (84, .getfield 112, 1, 7) := rfl
theorem te_110_87 : (pT M_110).find? (fun e => e.1 == 87) = some (87, .aload_n 0, 0, 0) := rfl
theorem te_110_88 : (pT M_110).find? (fun e => e.1 == 88) = some (88, .getfield 28, 1, 12) := rfl
theorem te_110_91 : (pT M_110).find? (fun e => e.1 == 91) = some (91, .iload_n 2, 0, 0) := rfl
theorem te_110_92 : (pT M_110).find? (fun e => e.1 == 92) = some (92, .iaload, 0, 0) := rfl
theorem te_110_93 : (pT M_110).find? (fun e => e.1 == 93) = some (93, .invokestatic 60, 40, 2) := rfl
theorem te_110_96 : (pT M_110).find? (fun e => e.1 == 96) = some (96, .putfield 112, 1, 7) := rfl
theorem te_110_99 : (pT M_110).find? (fun e => e.1 == 99) = some (99, .iinc 2 1, 0, 0) := rfl
theorem te_110_102 : (pT M_110).find? (fun e => e.1 == 102) = some (102, .goto (-90), 0, 0) := rfl
theorem te_110_105 : (pT M_110).find? (fun e => e.1 == 105) = some (105, .iconst 0, 0, 0) := rfl
theorem te_110_106 : (pT M_110).find? (fun e => e.1 == 106) = some (106, .istore_n 2, 0, 0) := rfl
theorem te_110_107 : (pT M_110).find? (fun e => e.1 == 107) = some (107, .iload_n 2, 0, 0) := rfl
theorem te_110_108 : (pT M_110).find? (fun e => e.1 == 108) = some (108, .aload_n 0, 0, 0) := rfl
theorem te_110_109 : (pT M_110).find? (fun e => e.1 == 109) = some (109, .getfield 39, 1, 2) := rfl
theorem te_110_112 : (pT M_110).find? (fun e => e.1 == 112) = some (112, .if_icmp .ge 70, 0, 0) := rfl
theorem te_110_115 : (pT M_110).find? (fun e => e.1 == 115) = some (115, .aload_n 0, 0, 0) := rfl
theorem te_110_116 : (pT M_110).find? (fun e => e.1 == 116) = some (116, .getfield 31, 1, 13) := rfl
theorem te_110_119 : (pT M_110).find? (fun e => e.1 == 119) = some (119, .iload_n 2, 0, 0) := rfl
theorem te_110_120 : (pT M_110).find? (fun e => e.1 == 120) = some (120, .aload_n 0, 0, 0) := rfl
theorem te_110_121 : (pT M_110).find? (fun e => e.1 == 121) = some (121, .getfield 28, 1, 12) := rfl
theorem te_110_124 : (pT M_110).find? (fun e => e.1 == 124) = some (124, .iload_n 2, 0, 0) := rfl
theorem te_110_125 : (pT M_110).find? (fun e => e.1 == 125) = some (125, .iaload, 0, 0) := rfl
theorem te_110_126 : (pT M_110).find? (fun e => e.1 == 126) = some (126, .iastore, 0, 0) := rfl
theorem te_110_127 : (pT M_110).find? (fun e => e.1 == 127) = some (127, .aload_n 0, 0, 0) := rfl
theorem te_110_128 : (pT M_110).find? (fun e => e.1 == 128) = some (128, .getfield 31, 1, 13) := rfl
theorem te_110_131 : (pT M_110).find? (fun e => e.1 == 131) = some (131, .iload_n 2, 0, 0) := rfl
theorem te_110_132 : (pT M_110).find? (fun e => e.1 == 132) = some (132, .iaload, 0, 0) := rfl
theorem te_110_133 : (pT M_110).find? (fun e => e.1 == 133) = some (133, .ifCond .le 43, 0, 0) := rfl
theorem te_110_136 : (pT M_110).find? (fun e => e.1 == 136) = some (136, .aload_n 0, 0, 0) := rfl
theorem te_110_137 : (pT M_110).find? (fun e => e.1 == 137) = some (137, .getfield 31, 1, 13) := rfl
theorem te_110_140 : (pT M_110).find? (fun e => e.1 == 140) = some (140, .iload_n 2, 0, 0) := rfl
theorem te_110_141 : (pT M_110).find? (fun e => e.1 == 141) = some (141, .iaload, 0, 0) := rfl
theorem te_110_142 : (pT M_110).find? (fun e => e.1 == 142) = some (142, .aload_n 0, 0, 0) := rfl
theorem te_110_143 : (pT M_110).find? (fun e => e.1 == 143) = some (143, .getfield 112, 1, 7) := rfl
theorem te_110_146 : (pT M_110).find? (fun e => e.1 == 146) = some (146, .if_icmp .ge 30, 0, 0) := rfl
theorem te_110_149 : (pT M_110).find? (fun e => e.1 == 149) = some (149, .aload_n 0, 0, 0) := rfl
theorem te_110_150 : (pT M_110).find? (fun e => e.1 == 150) = some (150, .getfield 112, 1, 7) := rfl
theorem te_110_153 : (pT M_110).find? (fun e => e.1 == 153) = some (153, .aload_n 0, 0, 0) := rfl
theorem te_110_154 : (pT M_110).find? (fun e => e.1 == 154) = some (154, .getfield 31, 1, 13) := rfl
theorem te_110_157 : (pT M_110).find? (fun e => e.1 == 157) = some (157, .iload_n 2, 0, 0) := rfl
theorem te_110_158 : (pT M_110).find? (fun e => e.1 == 158) = some (158, .iaload, 0, 0) := rfl
theorem te_110_159 : (pT M_110).find? (fun e => e.1 == 159) = some (159, .irem, 0, 0) := rfl
theorem te_110_160 : (pT M_110).find? (fun e => e.1 == 160) = some (160, .ifCond .eq 16, 0, 0) := rfl
theorem te_110_163 : (pT M_110).find? (fun e => e.1 == 163) = some (163, .aload_n 0, 0, 0) := rfl
theorem te_110_164 : (pT M_110).find? (fun e => e.1 == 164) = some (164, .getfield 31, 1, 13) := rfl
theorem te_110_167 : (pT M_110).find? (fun e => e.1 == 167) = some (167, .iload_n 2, 0, 0) := rfl
theorem te_110_168 : (pT M_110).find? (fun e => e.1 == 168) = some (168, .dup2, 0, 0) := rfl
theorem te_110_169 : (pT M_110).find? (fun e => e.1 == 169) = some (169, .iaload, 0, 0) := rfl
theorem te_110_170 : (pT M_110).find? (fun e => e.1 == 170) = some (170, .iconst 1, 0, 0) := rfl
theorem te_110_171 : (pT M_110).find? (fun e => e.1 == 171) = some (171, .iadd, 0, 0) := rfl
theorem te_110_172 : (pT M_110).find? (fun e => e.1 == 172) = some (172, .iastore, 0, 0) := rfl
theorem te_110_173 : (pT M_110).find? (fun e => e.1 == 173) = some (173, .goto (-46), 0, 0) := rfl
theorem te_110_176 : (pT M_110).find? (fun e => e.1 == 176) = some (176, .iinc 2 1, 0, 0) := rfl
theorem te_110_179 : (pT M_110).find? (fun e => e.1 == 179) = some (179, .goto (-72), 0, 0) := rfl
theorem te_110_182 : (pT M_110).find? (fun e => e.1 == 182) = some (182, .return_, 0, 0) := rfl
theorem te_161_0 : (pT M_161).find? (fun e => e.1 == 0) = some (0, .iconst 0, 0, 0) := rfl
theorem te_161_1 : (pT M_161).find? (fun e => e.1 == 1) = some (1, .istore_n 3, 0, 0) := rfl
theorem te_161_2 : (pT M_161).find? (fun e => e.1 == 2) = some (2, .iload_n 3, 0, 0) := rfl
theorem te_161_3 : (pT M_161).find? (fun e => e.1 == 3) = some (3, .bipush 64, 0, 0) := rfl
theorem te_161_5 : (pT M_161).find? (fun e => e.1 == 5) = some (5, .if_icmp .ge 36, 0, 0) := rfl
theorem te_161_8 : (pT M_161).find? (fun e => e.1 == 8) = some (8, .aload_n 0, 0, 0) := rfl
theorem te_161_9 : (pT M_161).find? (fun e => e.1 == 9) = some (9, .getfield 11, 4, 0) := rfl
theorem te_161_12 : (pT M_161).find? (fun e => e.1 == 12) = some (12, .iconst 0, 0, 0) := rfl
theorem te_161_13 : (pT M_161).find? (fun e => e.1 == 13) = some (13, .aaload, 0, 0) := rfl
theorem te_161_14 : (pT M_161).find? (fun e => e.1 == 14) = some (14, .iload_n 3, 0, 0) := rfl
theorem te_161_15 : (pT M_161).find? (fun e => e.1 == 15) = some (15, .iconst 3, 0, 0) := rfl
theorem te_161_16 : (pT M_161).find? (fun e => e.1 == 16) = some (16, .iload_n 3, 0, 0) := rfl
theorem te_161_17 : (pT M_161).find? (fun e => e.1 == 17) = some (17, .imul, 0, 0) := rfl
theorem te_161_18 : (pT M_161).find? (fun e => e.1 == 18) = some (18, .iconst 1, 0, 0) := rfl
theorem te_161_19 : (pT M_161).find? (fun e => e.1 == 19) = some (19, .iadd, 0, 0) := rfl
theorem te_161_20 : (pT M_161).find? (fun e => e.1 == 20) = some (20, .iastore, 0, 0) := rfl
theorem te_161_21 : (pT M_161).find? (fun e => e.1 == 21) = some (21, .aload_n 0, 0, 0) := rfl
theorem te_161_22 : (pT M_161).find? (fun e => e.1 == 22) = some (22, .getfield 11, 4, 0) := rfl
theorem te_161_25 : (pT M_161).find? (fun e => e.1 == 25) = some (25, .iconst 1, 0, 0) := rfl
theorem te_161_26 : (pT M_161).find? (fun e => e.1 == 26) = some (26, .aaload, 0, 0) := rfl
theorem te_161_27 : (pT M_161).find? (fun e => e.1 == 27) = some (27, .iload_n 3, 0, 0) := rfl
theorem te_161_28 : (pT M_161).find? (fun e => e.1 == 28) = some (28, .bipush 7, 0, 0) := rfl
theorem te_161_30 : (pT M_161).find? (fun e => e.1 == 30) = some (30, .iload_n 3, 0, 0) := rfl
theorem te_161_31 : (pT M_161).find? (fun e => e.1 == 31) = some (31, .imul, 0, 0) := rfl
theorem te_161_32 : (pT M_161).find? (fun e => e.1 == 32) = some (32, .iconst 5, 0, 0) := rfl
theorem te_161_33 : (pT M_161).find? (fun e => e.1 == 33) = some (33, .isub, 0, 0) := rfl
theorem te_161_34 : (pT M_161).find? (fun e => e.1 == 34) = some (34, .iastore, 0, 0) := rfl
theorem te_161_35 : (pT M_161).find? (fun e => e.1 == 35) = some (35, .iinc 3 1, 0, 0) := rfl
theorem te_161_38 : (pT M_161).find? (fun e => e.1 == 38) = some (38, .goto (-36), 0, 0) := rfl
theorem te_161_41 : (pT M_161).find? (fun e => e.1 == 41) = some (41, .iconst 0, 0, 0) := rfl
theorem te_161_42 : (pT M_161).find? (fun e => e.1 == 42) = some (42, .istore_n 3, 0, 0) := rfl
theorem te_161_43 : (pT M_161).find? (fun e => e.1 == 43) = some (43, .iload_n 3, 0, 0) := rfl
theorem te_161_44 : (pT M_161).find? (fun e => e.1 == 44) = some (44, .iload_n 2, 0, 0) := rfl
theorem te_161_45 : (pT M_161).find? (fun e => e.1 == 45) = some (45, .if_icmp .ge 47, 0, 0) := rfl
theorem te_161_48 : (pT M_161).find? (fun e => e.1 == 48) = some (48, .iconst 0, 0, 0) := rfl
theorem te_161_49 : (pT M_161).find? (fun e => e.1 == 49) = some (49, .istore 4, 0, 0) := rfl
theorem te_161_51 : (pT M_161).find? (fun e => e.1 == 51) = some (51, .iload 4, 0, 0) := rfl
theorem te_161_53 : (pT M_161).find? (fun e => e.1 == 53) = some (53, .aload_n 1, 0, 0) := rfl
theorem te_161_54 : (pT M_161).find? (fun e => e.1 == 54) = some (54, .getfield 20, 0, 0) := rfl
theorem te_161_57 : (pT M_161).find? (fun e => e.1 == 57) = some (57, .if_icmp .ge 29, 0, 0) := rfl
theorem te_161_60 : (pT M_161).find? (fun e => e.1 == 60) = some (60, .aload_n 0, 0, 0) := rfl
theorem te_161_61 : (pT M_161).find? (fun e => e.1 == 61) = some (61, .getfield 16, 4, 1) := rfl
theorem te_161_64 : (pT M_161).find? (fun e => e.1 == 64) = some (64, .iload 4, 0, 0) := rfl
theorem te_161_66 : (pT M_161).find? (fun e => e.1 == 66) = some (66, .bipush 40, 0, 0) := rfl
theorem te_161_68 : (pT M_161).find? (fun e => e.1 == 68) = some (68, .imul, 0, 0) := rfl
theorem te_161_69 : (pT M_161).find? (fun e => e.1 == 69) = some (69, .iload_n 3, 0, 0) := rfl
theorem te_161_70 : (pT M_161).find? (fun e => e.1 == 70) = some (70, .iadd, 0, 0) := rfl
theorem te_161_71 : (pT M_161).find? (fun e => e.1 == 71) = some (71, .aload_n 0, 0, 0) := rfl
theorem te_161_72 : (pT M_161).find? (fun e => e.1 == 72) = some (72, .aload_n 1, 0, 0) := rfl
theorem te_161_73 : (pT M_161).find? (fun e => e.1 == 73) = some (73, .iload 4, 0, 0) := rfl
theorem te_161_75 : (pT M_161).find? (fun e => e.1 == 75) = some (75, .iload_n 3, 0, 0) := rfl
theorem te_161_76 : (pT M_161).find? (fun e => e.1 == 76) = some (76, .invokevirtual 26, 162, 0) := rfl
theorem te_161_79 : (pT M_161).find? (fun e => e.1 == 79) = some (79, .iastore, 0, 0) := rfl
theorem te_161_80 : (pT M_161).find? (fun e => e.1 == 80) = some (80, .iinc 4 1, 0, 0) := rfl
theorem te_161_83 : (pT M_161).find? (fun e => e.1 == 83) = some (83, .goto (-32), 0, 0) := rfl
theorem te_161_86 : (pT M_161).find? (fun e => e.1 == 86) = some (86, .iinc 3 1, 0, 0) := rfl
theorem te_161_89 : (pT M_161).find? (fun e => e.1 == 89) = some (89, .goto (-46), 0, 0) := rfl
theorem te_161_92 : (pT M_161).find? (fun e => e.1 == 92) = some (92, .return_, 0, 0) := rfl
theorem te_162_0 : (pT M_162).find? (fun e => e.1 == 0) = some (0, .aload_n 1, 0, 0) := rfl
theorem te_162_1 : (pT M_162).find? (fun e => e.1 == 1) = some (1, .getfield 30, 0, 1) := rfl
theorem te_162_4 : (pT M_162).find? (fun e => e.1 == 4) = some (4, .iload_n 2, 0, 0) := rfl
theorem te_162_5 : (pT M_162).find? (fun e => e.1 == 5) = some (5, .iaload, 0, 0) := rfl
theorem te_162_6 : (pT M_162).find? (fun e => e.1 == 6) = some (6, .istore 4, 0, 0) := rfl
theorem te_162_8 : (pT M_162).find? (fun e => e.1 == 8) = some (8, .iload 4, 0, 0) := rfl
theorem te_162_10 : (pT M_162).find? (fun e => e.1 == 10) = some (10, .iconst 4, 0, 0) := rfl
theorem te_162_11 : (pT M_162).find? (fun e => e.1 == 11) = some (11, .if_icmp .ne 22, 0, 0) := rfl
theorem te_162_14 : (pT M_162).find? (fun e => e.1 == 14) = some (14, .aload_n 0, 0, 0) := rfl
theorem te_162_15 : (pT M_162).find? (fun e => e.1 == 15) = some (15, .getfield 11, 4, 0) := rfl
theorem te_162_18 : (pT M_162).find? (fun e => e.1 == 18) = some (18, .aload_n 1, 0, 0) := rfl
theorem te_162_19 : (pT M_162).find? (fun e => e.1 == 19) = some (19, .iload_n 2, 0, 0) := rfl
theorem te_162_20 : (pT M_162).find? (fun e => e.1 == 20) = some (20, .invokevirtual 33, 24, 1) := rfl
theorem te_162_23 : (pT M_162).find? (fun e => e.1 == 23) = some (23, .aaload, 0, 0) := rfl
theorem te_162_24 : (pT M_162).find? (fun e => e.1 == 24) = some (24, .iload_n 3, 0, 0) := rfl
theorem te_162_25 : (pT M_162).find? (fun e => e.1 == 25) = some (25, .aload_n 1, 0, 0) := rfl
theorem te_162_26 : (pT M_162).find? (fun e => e.1 == 26) = some (26, .iload_n 2, 0, 0) := rfl
theorem te_162_27 : (pT M_162).find? (fun e => e.1 == 27) = some (27, .invokevirtual 37, 25, 1) := rfl
theorem te_162_30 : (pT M_162).find? (fun e => e.1 == 30) = some (30, .iadd, 0, 0) := rfl
theorem te_162_31 : (pT M_162).find? (fun e => e.1 == 31) = some (31, .iaload, 0, 0) := rfl
theorem te_162_32 : (pT M_162).find? (fun e => e.1 == 32) = some (32, .ireturn, 0, 0) := rfl
theorem te_162_33 : (pT M_162).find? (fun e => e.1 == 33) = some (33, .aload_n 0, 0, 0) := rfl
theorem te_162_34 : (pT M_162).find? (fun e => e.1 == 34) = some (34, .aload_n 1, 0, 0) := rfl
theorem te_162_35 : (pT M_162).find? (fun e => e.1 == 35) = some (35, .iload_n 2, 0, 0) := rfl
theorem te_162_36 : (pT M_162).find? (fun e => e.1 == 36) = some (36, .iconst 0, 0, 0) := rfl
theorem te_162_37 : (pT M_162).find? (fun e => e.1 == 37) = some (37, .iload_n 3, 0, 0) := rfl
theorem te_162_38 : (pT M_162).find? (fun e => e.1 == 38) = some (38, .invokevirtual 40, 163, 0) := rfl
theorem te_162_41 : (pT M_162).find? (fun e => e.1 == 41) = some (41, .istore 5, 0, 0) := rfl
theorem te_162_43 : (pT M_162).find? (fun e => e.1 == 43) = some (43, .iload 4, 0, 0) := rfl
theorem te_162_45 : (pT M_162).find? (fun e => e.1 == 45) = some (45, .iconst 5, 0, 0) := rfl
theorem te_162_46 : (pT M_162).find? (fun e => e.1 == 46) = some (46, .if_icmp .ne 26, 0, 0) := rfl
theorem te_162_49 : (pT M_162).find? (fun e => e.1 == 49) = some (49, .aload_n 0, 0, 0) := rfl
theorem te_162_50 : (pT M_162).find? (fun e => e.1 == 50) = some (50, .getfield 11, 4, 0) := rfl
theorem te_162_53 : (pT M_162).find? (fun e => e.1 == 53) = some (53, .aload_n 1, 0, 0) := rfl
theorem te_162_54 : (pT M_162).find? (fun e => e.1 == 54) = some (54, .iload_n 2, 0, 0) := rfl
theorem te_162_55 : (pT M_162).find? (fun e => e.1 == 55) = some (55, .invokevirtual 33, 24, 1) := rfl
theorem te_162_58 : (pT M_162).find? (fun e => e.1 == 58) = some (58, .aaload, 0, 0) := rfl
theorem te_162_59 : (pT M_162).find? (fun e => e.1 == 59) = some (59, .iload_n 3, 0, 0) := rfl
theorem te_162_60 : (pT M_162).find? (fun e => e.1 == 60) = some (60, .aload_n 1, 0, 0) := rfl
theorem te_162_61 : (pT M_162).find? (fun e => e.1 == 61) = some (61, .iload_n 2, 0, 0) := rfl
theorem te_162_62 : (pT M_162).find? (fun e => e.1 == 62) = some (62, .invokevirtual 37, 25, 1) := rfl
theorem te_162_65 : (pT M_162).find? (fun e => e.1 == 65) = some (65, .iadd, 0, 0) := rfl
theorem te_162_66 : (pT M_162).find? (fun e => e.1 == 66) = some (66, .iload 5, 0, 0) := rfl
theorem te_162_68 : (pT M_162).find? (fun e => e.1 == 68) = some (68, .iastore, 0, 0) := rfl
theorem te_162_69 : (pT M_162).find? (fun e => e.1 == 69) = some (69, .iload 5, 0, 0) := rfl
theorem te_162_71 : (pT M_162).find? (fun e => e.1 == 71) = some (71, .ireturn, 0, 0) := rfl
theorem te_162_72 : (pT M_162).find? (fun e => e.1 == 72) = some (72, .aload_n 0, 0, 0) := rfl
theorem te_162_73 : (pT M_162).find? (fun e => e.1 == 73) = some (73, .aload_n 1, 0, 0) := rfl
theorem te_162_74 : (pT M_162).find? (fun e => e.1 == 74) = some (74, .iload_n 2, 0, 0) := rfl
theorem te_162_75 : (pT M_162).find? (fun e => e.1 == 75) = some (75, .iconst 1, 0, 0) := rfl
theorem te_162_76 : (pT M_162).find? (fun e => e.1 == 76) = some (76, .iload_n 3, 0, 0) := rfl
theorem te_162_77 : (pT M_162).find? (fun e => e.1 == 77) = some (77, .invokevirtual 40, 163, 0) := rfl
theorem te_162_80 : (pT M_162).find? (fun e => e.1 == 80) = some (80, .istore 6, 0, 0) := rfl
theorem te_162_82 : (pT M_162).find? (fun e => e.1 == 82) = some (82, .iload 4, 0, 0) := rfl
theorem te_162_84 : (pT M_162).find? (fun e => e.1 == 84) = some (84, .tableswitch 46 0 2 #[28, 34, 40], 28, 0) := rfl
theorem te_162_112 : (pT M_162).find? (fun e => e.1 == 112) = some (112, .iload 5, 0, 0) := rfl
theorem te_162_114 : (pT M_162).find? (fun e => e.1 == 114) = some (114, .iload 6, 0, 0) := rfl
theorem te_162_116 : (pT M_162).find? (fun e => e.1 == 116) = some (116, .iadd, 0, 0) := rfl
theorem te_162_117 : (pT M_162).find? (fun e => e.1 == 117) = some (117, .ireturn, 0, 0) := rfl
theorem te_162_118 : (pT M_162).find? (fun e => e.1 == 118) = some (118, .iload 5, 0, 0) := rfl
theorem te_162_120 : (pT M_162).find? (fun e => e.1 == 120) = some (120, .iload 6, 0, 0) := rfl
theorem te_162_122 : (pT M_162).find? (fun e => e.1 == 122) = some (122, .isub, 0, 0) := rfl
theorem te_162_123 : (pT M_162).find? (fun e => e.1 == 123) = some (123, .ireturn, 0, 0) := rfl
theorem te_162_124 : (pT M_162).find? (fun e => e.1 == 124) = some (124, .iload 5, 0, 0) := rfl
theorem te_162_126 : (pT M_162).find? (fun e => e.1 == 126) = some (126, .iload 6, 0, 0) := rfl
theorem te_162_128 : (pT M_162).find? (fun e => e.1 == 128) = some (128, .imul, 0, 0) := rfl
theorem te_162_129 : (pT M_162).find? (fun e => e.1 == 129) = some (129, .ireturn, 0, 0) := rfl
theorem te_162_130 : (pT M_162).find? (fun e => e.1 == 130) = some (130, .iload 5, 0, 0) := rfl
theorem te_162_132 : (pT M_162).find? (fun e => e.1 == 132) = some (132, .iload 6, 0, 0) := rfl
theorem te_162_134 : (pT M_162).find? (fun e => e.1 == 134) = some (134, .invokestatic 44, 29, 2) := rfl
theorem te_162_137 : (pT M_162).find? (fun e => e.1 == 137) = some (137, .ireturn, 0, 0) := rfl
theorem te_215_0 : (pT M_215).find? (fun e => e.1 == 0) = some (0, .aload_n 0, 0, 0) := rfl
theorem te_215_1 : (pT M_215).find? (fun e => e.1 == 1) = some (1, .iload 4, 0, 0) := rfl
theorem te_215_3 : (pT M_215).find? (fun e => e.1 == 3) = some (3, .putfield 15, 3, 1) := rfl
theorem te_215_6 : (pT M_215).find? (fun e => e.1 == 6) = some (6, .aload_n 0, 0, 0) := rfl
theorem te_215_7 : (pT M_215).find? (fun e => e.1 == 7) = some (7, .iload 5, 0, 0) := rfl
theorem te_215_9 : (pT M_215).find? (fun e => e.1 == 9) = some (9, .putfield 19, 3, 2) := rfl
theorem te_215_12 : (pT M_215).find? (fun e => e.1 == 12) = some (12, .sipush 1024, 0, 0) := rfl
theorem te_215_15 : (pT M_215).find? (fun e => e.1 == 15) = some (15, .aload_n 2, 0, 0) := rfl
theorem te_215_16 : (pT M_215).find? (fun e => e.1 == 16) = some (16, .iload_n 3, 0, 0) := rfl
theorem te_215_17 : (pT M_215).find? (fun e => e.1 == 17) = some (17, .invokevirtual 22, 155, 1) := rfl
theorem te_215_20 : (pT M_215).find? (fun e => e.1 == 20) = some (20, .invokestatic 28, 29, 2) := rfl
theorem te_215_23 : (pT M_215).find? (fun e => e.1 == 23) = some (23, .istore 6, 0, 0) := rfl
theorem te_215_25 : (pT M_215).find? (fun e => e.1 == 25) = some (25, .iconst 0, 0, 0) := rfl
theorem te_215_26 : (pT M_215).find? (fun e => e.1 == 26) = some (26, .istore 7, 0, 0) := rfl
theorem te_215_28 : (pT M_215).find? (fun e => e.1 == 28) = some (28, .iconst 0, 0, 0) := rfl
theorem te_215_29 : (pT M_215).find? (fun e => e.1 == 29) = some (29, .istore 8, 0, 0) := rfl
theorem te_215_31 : (pT M_215).find? (fun e => e.1 == 31) = some (31, .iload 8, 0, 0) := rfl
theorem te_215_33 : (pT M_215).find? (fun e => e.1 == 33) = some (33, .iload 6, 0, 0) := rfl
theorem te_215_35 : (pT M_215).find? (fun e => e.1 == 35) = some (35, .if_icmp .ge 73, 0, 0) := rfl
theorem te_215_38 : (pT M_215).find? (fun e => e.1 == 38) = some (38, .iconst 0, 0, 0) := rfl
theorem te_215_39 : (pT M_215).find? (fun e => e.1 == 39) = some (39, .istore 9, 0, 0) := rfl
theorem te_215_41 : (pT M_215).find? (fun e => e.1 == 41) = some (41, .iload 9, 0, 0) := rfl
theorem te_215_43 : (pT M_215).find? (fun e => e.1 == 43) = some (43, .aload_n 2, 0, 0) := rfl
theorem te_215_44 : (pT M_215).find? (fun e => e.1 == 44) = some (44, .getfield 34, 1, 2) := rfl
theorem te_215_47 : (pT M_215).find? (fun e => e.1 == 47) = some (47, .if_icmp .ge 46, 0, 0) := rfl
theorem te_215_50 : (pT M_215).find? (fun e => e.1 == 50) = some (50, .aload_n 2, 0, 0) := rfl
theorem te_215_51 : (pT M_215).find? (fun e => e.1 == 51) = some (51, .iload 9, 0, 0) := rfl
theorem te_215_53 : (pT M_215).find? (fun e => e.1 == 53) = some (53, .iload 8, 0, 0) := rfl
theorem te_215_55 : (pT M_215).find? (fun e => e.1 == 55) = some (55, .iload_n 3, 0, 0) := rfl
theorem te_215_56 : (pT M_215).find? (fun e => e.1 == 56) = some (56, .invokevirtual 37, 152, 1) := rfl
theorem te_215_59 : (pT M_215).find? (fun e => e.1 == 59) = some (59, .istore 10, 0, 0) := rfl
theorem te_215_61 : (pT M_215).find? (fun e => e.1 == 61) = some (61, .iload 10, 0, 0) := rfl
theorem te_215_63 : (pT M_215).find? (fun e => e.1 == 63) = some (63, .iconst (-1), 0, 0) := rfl
theorem te_215_64 : (pT M_215).find? (fun e => e.1 == 64) = some (64, .if_icmp .eq 23, 0, 0) := rfl
theorem te_215_67 : (pT M_215).find? (fun e => e.1 == 67) = some (67, .iload 7, 0, 0) := rfl
theorem te_215_69 : (pT M_215).find? (fun e => e.1 == 69) = some (69, .aload_n 0, 0, 0) := rfl
theorem te_215_70 : (pT M_215).find? (fun e => e.1 == 70) = some (70, .aload_n 1, 0, 0) := rfl
theorem te_215_71 : (pT M_215).find? (fun e => e.1 == 71) = some (71, .aload_n 2, 0, 0) := rfl
theorem te_215_72 : (pT M_215).find? (fun e => e.1 == 72) = some (72, .iload 9, 0, 0) := rfl
theorem te_215_74 : (pT M_215).find? (fun e => e.1 == 74) = some (74, .iload 10, 0, 0) := rfl
theorem te_215_76 : (pT M_215).find? (fun e => e.1 == 76) = some (76, .invokevirtual 41, 216, 0) := rfl
theorem te_215_79 : (pT M_215).find? (fun e => e.1 == 79) = some (79, .iload 8, 0, 0) := rfl
theorem te_215_81 : (pT M_215).find? (fun e => e.1 == 81) = some (81, .isub, 0, 0) := rfl
theorem te_215_82 : (pT M_215).find? (fun e => e.1 == 82) = some (82, .invokestatic 45, 40, 2) := rfl
theorem te_215_85 : (pT M_215).find? (fun e => e.1 == 85) = some (85, .istore 7, 0, 0) := rfl
theorem te_215_87 : (pT M_215).find? (fun e => e.1 == 87) = some (87, .iinc 9 1, 0, 0) := rfl
theorem te_215_90 : (pT M_215).find? (fun e => e.1 == 90) = some (90, .goto (-49), 0, 0) := rfl
theorem te_215_93 : (pT M_215).find? (fun e => e.1 == 93) = some (93, .aload_n 0, 0, 0) := rfl
theorem te_215_94 : (pT M_215).find? (fun e => e.1 == 94) = some (94, .getfield 11, 3, 0) := rfl
theorem te_215_97 : (pT M_215).find? (fun e => e.1 == 97) = some (97, .iload 8, 0, 0) := rfl
theorem te_215_99 : (pT M_215).find? (fun e => e.1 == 99) = some (99, .iload 7, 0, 0) := rfl
theorem te_215_101 : (pT M_215).find? (fun e => e.1 == 101) = some (101, .iastore, 0, 0) := rfl
theorem te_215_102 : (pT M_215).find? (fun e => e.1 == 102) = some (102, .iinc 8 1, 0, 0) := rfl
theorem te_215_105 : (pT M_215).find? (fun e => e.1 == 105) = some (105, .goto (-74), 0, 0) := rfl
theorem te_215_108 : (pT M_215).find? (fun e => e.1 == 108) = some (108, .iload 7, 0, 0) := rfl
theorem te_215_110 : (pT M_215).find? (fun e => e.1 == 110) = some (110, .ireturn, 0, 0) := rfl
theorem f_77 {S : Nat × (Nat → Int32)} {n : Nat} {mem : MM} {K : MM → Prop} {E : Nat → MM → Prop} (hR : 0 ≤ mem 19 0 ∧ mem 19 0 ≤ 8) {f o : Int} (hf : 0 ≤ f ∧ f < 8) (ho : 0 ≤ o ∧ o < 8) (H : ∀ m', Frm p20 mem m' → K m') : CQV (Ex S (n + 2)) 77 [.inr 19, .inl f, .inl o] mem K E := by
  refine CY.of (k := 4) mt_77 rfl rfl (fun hv => ?_)
  have hC := Ex.mono S (n + 1)
  have ii_f : InI f := hv (.inl f) (by simp)
  unfold InI at ii_f
  have ii_o : InI o := hv (.inl o) (by simp)
  unfold InI at ii_o
  clear hv
  show Tx (Ex S (n + 1)) S M_77 (kV K E) 0 0 0 [some (.inr 19), some (.inl f), some (.inl o), none, none, none, none] [] mem
  have l_15 : ∀ (N : Nat) (x3 x4 : Int) (m_15 : MM), (0 ≤ x4) → ((8 - x4).toNat) < N → Frm p20 mem m_15 → Tx (Ex S (n + 1)) S M_77 (kV K E) 0 0 15 [some (.inr 19), some (.inl f), some (.inl o), some (.inl x3), some (.inl x4), none, none] [] m_15 := by
    intro N
    induction N with
    | zero => intros; omega
    | succ N ih_15 =>
      intro x3 x4 m_15 i15_0 hN_15 hF_15
      refine Tx.iload hC te_77_15 rfl ?_
      refine Tx.aload_n hC te_77_17 rfl ?_
      refine Tx.getI hC te_77_18 rfl rfl rfl (fun v1 v1e v1i => ?_)
      unfold InI at v1i
      rw [hF_15 19 _ (by unfold p20; omega)] at v1e
      refine Tx.icmp hC (t := 81) te_77_21 (by decide) (fun q2 => ?_) (fun q2 => ?_)
      · replace q2 : v1 ≤ (x4 : Int) := q2
        exact Tx.vret hC te_77_81 rfl (show K m_15 from H _ hF_15)
      · replace q2 : ¬ (v1 ≤ (x4 : Int)) := q2
        refine Tx.aload_n hC te_77_24 rfl ?_
        refine Tx.getR hC te_77_25 rfl rfl rfl ?_
        refine Tx.iload_n hC te_77_28 rfl ?_
        refine Tx.bipush hC te_77_29 rfl rfl ?_
        refine Tx.imulW hC te_77_31 (fun z3 z3i z3e => ?_)
        unfold InI at z3i z3e
        first | replace z3e := z3e (by omega) | clear z3e
        refine Tx.iload hC te_77_32 rfl ?_
        refine Tx.iaddW hC te_77_34 (fun z4 z4i z4e => ?_)
        unfold InI at z4i z4e
        first | replace z4e := z4e (by omega) | clear z4e
        refine Tx.iald hC te_77_35 rfl (by omega) (fun v5 v5e v5i => ?_)
        unfold InI at v5i
        refine Tx.istore hC te_77_36 rfl ?_
        refine Tx.iload hC te_77_38 rfl ?_
        refine Tx.ldc hC (z := (-100000)) te_77_40 rfl rfl rfl rfl ?_
        refine Tx.icmp hC (t := 75) te_77_42 (by decide) (fun q6 => ?_) (fun q6 => ?_)
        · replace q6 : (v5 : Int) = (-100000) := q6
          refine Tx.iincW hC te_77_75 rfl rfl (fun z7 z7i z7e => ?_)
          unfold InI at z7i z7e
          first | replace z7e := z7e (by omega) | clear z7e
          refine Tx.goto hC (t := 15) te_77_78 (by decide) ?_
          exact Tx.weak (by repeat' (first | exact trivial | exact rfl | constructor)) (ih_15 x3 z7 m_15 (by omega) (by omega) hF_15)
        · replace q6 : ¬ ((v5 : Int) = (-100000)) := q6
          refine Tx.iload_n hC te_77_45 rfl ?_
          refine Tx.bipush hC te_77_46 rfl rfl ?_
          refine Tx.imulW hC te_77_48 (fun z8 z8i z8e => ?_)
          unfold InI at z8i z8e
          first | replace z8e := z8e (by omega) | clear z8e
          refine Tx.iload hC te_77_49 rfl ?_
          refine Tx.iaddW hC te_77_51 (fun z9 z9i z9e => ?_)
          unfold InI at z9i z9e
          first | replace z9e := z9e (by omega) | clear z9e
          refine Tx.istore hC te_77_52 rfl ?_
          refine Tx.aload_n hC te_77_54 rfl ?_
          refine Tx.getR hC te_77_55 rfl rfl rfl ?_
          refine Tx.iload hC te_77_58 rfl ?_
          refine Tx.aload_n hC te_77_60 rfl ?_
          refine Tx.getR hC te_77_61 rfl rfl rfl ?_
          refine Tx.iload hC te_77_64 rfl ?_
          refine Tx.iald hC te_77_66 rfl (by omega) (fun v10 v10e v10i => ?_)
          unfold InI at v10i
          refine Tx.iload_n hC te_77_67 rfl ?_
          refine Tx.iload hC te_77_68 rfl ?_
          refine Tx.iaddW hC te_77_70 (fun z11 z11i z11e => ?_)
          unfold InI at z11i z11e
          first | replace z11e := z11e (by omega) | clear z11e
          refine Tx.statI hC te_77_71 (by decide) mt_40 (args := [.inl v10, .inl z11]) (rest := [.inl z9, .inr 20]) (c' := 0) (s' := 0) rfl rfl rfl rfl rfl rfl rfl ?_
          refine f_40q (fun r12 r12a r12b r12c r12i => ?_)
          unfold InI at r12i
          refine Tx.iast hC te_77_74 rfl (by omega) ?_
          have hF16 : Frm p20 mem (upm m_15 20 (Int.toNat z9) r12) := Frm.up hF_15 (by unfold p20; omega)
          generalize upm m_15 20 (Int.toNat z9) r12 = m15 at hF16 ⊢
          refine Tx.iincW hC te_77_75 rfl rfl (fun z17 z17i z17e => ?_)
          unfold InI at z17i z17e
          first | replace z17e := z17e (by omega) | clear z17e
          refine Tx.goto hC (t := 15) te_77_78 (by decide) ?_
          exact Tx.weak (by repeat' (first | exact trivial | exact rfl | constructor)) (ih_15 x3 z17 m15 (by omega) (by omega) hF16)
  refine Tx.aload_n hC te_77_0 rfl ?_
  refine Tx.getR hC te_77_1 rfl rfl rfl ?_
  refine Tx.iload_n hC te_77_4 rfl ?_
  refine Tx.bipush hC te_77_5 rfl rfl ?_
  refine Tx.imulW hC te_77_7 (fun z18 z18i z18e => ?_)
  unfold InI at z18i z18e
  first | replace z18e := z18e (by omega) | clear z18e
  refine Tx.iload_n hC te_77_8 rfl ?_
  refine Tx.iaddW hC te_77_9 (fun z19 z19i z19e => ?_)
  unfold InI at z19i z19e
  first | replace z19e := z19e (by omega) | clear z19e
  refine Tx.iald hC te_77_10 rfl (by omega) (fun v20 v20e v20i => ?_)
  unfold InI at v20i
  refine Tx.istore_n hC te_77_11 rfl ?_
  refine Tx.iconst hC te_77_12 rfl ?_
  refine Tx.istore hC te_77_13 rfl ?_
  exact l_15 _ v20 0 mem (by omega) (Nat.lt_succ_self _) Frm.rf
theorem f_75 {S : Nat × (Nat → Int32)} {n : Nat} {mem : MM} {K : MM → Prop} {E : Nat → MM → Prop} (hB : BodyOK mem) (hW9 : WbOK mem 9) (hR : 0 ≤ mem 19 0 ∧ mem 19 0 ≤ 8) {d : Int} (H : ∀ m', Frm pRe mem m' → (0 ≤ m' 19 0 ∧ m' 19 0 ≤ 8) → K m') : CQV (Ex S (n + 3)) 75 [.inr 19, .inr 1, .inr 9, .inl d] mem K E := by
  refine CY.of (k := 2) mt_75 rfl rfl (fun hv => ?_)
  have hC := Ex.mono S (n + 2)
  have ii_d : InI d := hv (.inl d) (by simp)
  unfold InI at ii_d
  clear hv
  have h8 := hB.1
  have hw := hW9.2
  show Tx (Ex S (n + 2)) S M_75 (kV K E) 0 0 0 [some (.inr 19), some (.inr 1), some (.inr 9), some (.inl d), none, none] [] mem
  have l_106 : ∀ (N : Nat) (x4 : Int) (m_106 : MM), (0 ≤ x4) → (m_106 19 0 = mem 1 0) → ((8 - x4).toNat) < N → Frm pRe mem m_106 → Tx (Ex S (n + 2)) S M_75 (kV K E) 0 0 106 [some (.inr 19), some (.inr 1), some (.inr 9), some (.inl d), some (.inl x4), none] [] m_106 := by
    intro N
    induction N with
    | zero => intros; omega
    | succ N ih_106 =>
      intro x4 m_106 i106_0 i106_1 hN_106 hF_106
      have l_118 : ∀ (N : Nat) (x5 : Int) (m_118 : MM), (0 ≤ x5) → (m_118 19 0 = mem 1 0) → (0 ≤ x4 ∧ x4 < mem 1 0) → ((8 - x5).toNat) < N → Frm pRe mem m_118 → Tx (Ex S (n + 2)) S M_75 (kV K E) 0 0 118 [some (.inr 19), some (.inr 1), some (.inr 9), some (.inl d), some (.inl x4), some (.inl x5)] [] m_118 := by
        intro N
        induction N with
        | zero => intros; omega
        | succ N ih_118 =>
          intro x5 m_118 i118_0 i118_1 i118_2 hN_118 hF_118
          refine Tx.iload hC te_75_118 rfl ?_
          refine Tx.aload_n hC te_75_120 rfl ?_
          refine Tx.getI hC te_75_121 rfl rfl rfl (fun v1 v1e v1i => ?_)
          unfold InI at v1i
          have f2 := i118_1
          refine Tx.icmp hC (t := 159) te_75_124 (by decide) (fun q3 => ?_) (fun q3 => ?_)
          · replace q3 : v1 ≤ (x5 : Int) := q3
            refine Tx.iincW hC te_75_159 rfl rfl (fun z4 z4i z4e => ?_)
            unfold InI at z4i z4e
            first | replace z4e := z4e (by omega) | clear z4e
            refine Tx.goto hC (t := 106) te_75_162 (by decide) ?_
            exact Tx.weak (by repeat' (first | exact trivial | exact rfl | constructor)) (ih_106 z4 m_118 (by omega) (i118_1) (by omega) hF_118)
          · replace q3 : ¬ (v1 ≤ (x5 : Int)) := q3
            refine Tx.aload_n hC te_75_127 rfl ?_
            refine Tx.getR hC te_75_128 rfl rfl rfl ?_
            refine Tx.iload hC te_75_131 rfl ?_
            refine Tx.bipush hC te_75_133 rfl rfl ?_
            refine Tx.imulW hC te_75_135 (fun z5 z5i z5e => ?_)
            unfold InI at z5i z5e
            first | replace z5e := z5e (by omega) | clear z5e
            refine Tx.iload hC te_75_136 rfl ?_
            refine Tx.iaddW hC te_75_138 (fun z6 z6i z6e => ?_)
            unfold InI at z6i z6e
            first | replace z6e := z6e (by omega) | clear z6e
            refine Tx.iald hC te_75_139 rfl (by omega) (fun v7 v7e v7i => ?_)
            unfold InI at v7i
            refine Tx.ldc hC (z := (-100000)) te_75_140 rfl rfl rfl rfl ?_
            refine Tx.icmp hC (t := 153) te_75_142 (by decide) (fun q8 => ?_) (fun q8 => ?_)
            · replace q8 : (v7 : Int) = (-100000) := q8
              refine Tx.iincW hC te_75_153 rfl rfl (fun z9 z9i z9e => ?_)
              unfold InI at z9i z9e
              first | replace z9e := z9e (by omega) | clear z9e
              refine Tx.goto hC (t := 118) te_75_156 (by decide) ?_
              exact ih_118 z9 m_118 (by omega) (i118_1) (by omega) (by omega) hF_118
            · replace q8 : ¬ ((v7 : Int) = (-100000)) := q8
              refine Tx.aload_n hC te_75_145 rfl ?_
              refine Tx.iload hC te_75_146 rfl ?_
              refine Tx.iload hC te_75_148 rfl ?_
              refine Tx.virtV hC te_75_150 mt_77 (args := [.inr 19, .inl x5, .inl x4]) (rest := []) (c' := 0) (s' := 0) rfl rfl rfl rfl rfl rfl rfl rfl rfl rfl ?_
              have r10z := i118_1
              refine f_77 (by omega) (by omega) (by omega) (fun m11 hF12 => ?_)
              have m11Z : m11 19 0 = mem 1 0 := by rw [hF12 19 0 (by unfold p20; omega)]; exact i118_1
              have hF12n : Frm pRe mem m11 := hF_118.tr (hF12.mono (fun A i q => by unfold p20 at q; unfold pRe; omega))
              refine Tx.iincW hC te_75_153 rfl rfl (fun z13 z13i z13e => ?_)
              unfold InI at z13i z13e
              first | replace z13e := z13e (by omega) | clear z13e
              refine Tx.goto hC (t := 118) te_75_156 (by decide) ?_
              exact ih_118 z13 m11 (by omega) (m11Z) (by omega) (by omega) hF12n
      refine Tx.iload hC te_75_106 rfl ?_
      refine Tx.aload_n hC te_75_108 rfl ?_
      refine Tx.getI hC te_75_109 rfl rfl rfl (fun v14 v14e v14i => ?_)
      unfold InI at v14i
      have f15 := i106_1
      refine Tx.icmp hC (t := 165) te_75_112 (by decide) (fun q16 => ?_) (fun q16 => ?_)
      · replace q16 : v14 ≤ (x4 : Int) := q16
        exact Tx.vret hC te_75_165 rfl (show K m_106 from H _ hF_106 (by omega))
      · replace q16 : ¬ (v14 ≤ (x4 : Int)) := q16
        refine Tx.iconst hC te_75_115 rfl ?_
        refine Tx.istore hC te_75_116 rfl ?_
        exact l_118 _ 0 m_106 (by omega) (i106_1) (by omega) (Nat.lt_succ_self _) hF_106
  have l_34 : ∀ (N : Nat) (x4 : Int) (m_34 : MM), (0 ≤ x4) → (m_34 19 0 = mem 1 0) → ((64 - x4).toNat) < N → Frm pRe mem m_34 → Tx (Ex S (n + 2)) S M_75 (kV K E) 0 0 34 [some (.inr 19), some (.inr 1), some (.inr 9), some (.inl d), some (.inl x4), none] [] m_34 := by
    intro N
    induction N with
    | zero => intros; omega
    | succ N ih_34 =>
      intro x4 m_34 i34_0 i34_1 hN_34 hF_34
      refine Tx.iload hC te_75_34 rfl ?_
      refine Tx.aload_n hC te_75_36 rfl ?_
      refine Tx.getI hC te_75_37 rfl rfl rfl (fun v17 v17e v17i => ?_)
      unfold InI at v17i
      rw [hF_34 9 _ (by unfold pRe; omega)] at v17e
      refine Tx.icmp hC (t := 103) te_75_40 (by decide) (fun q18 => ?_) (fun q18 => ?_)
      · replace q18 : v17 ≤ (x4 : Int) := q18
        refine Tx.iconst hC te_75_103 rfl ?_
        refine Tx.istore hC te_75_104 rfl ?_
        exact l_106 _ 0 m_34 (by omega) (i34_1) (Nat.lt_succ_self _) hF_34
      · replace q18 : ¬ (v17 ≤ (x4 : Int)) := q18
        refine Tx.aload_n hC te_75_43 rfl ?_
        refine Tx.getR hC te_75_44 rfl rfl rfl ?_
        refine Tx.iload hC te_75_47 rfl ?_
        refine Tx.iald hC te_75_49 rfl (by omega) (fun v19 v19e v19i => ?_)
        unfold InI at v19i
        rw [hF_34 10 _ (by unfold pRe; omega)] at v19e
        have f20 : Rg (mem 10 (Int.toNat x4)) (mem 11 (Int.toNat x4)) (mem 12 (Int.toNat x4)) (mem 13 (Int.toNat x4)) := hW9.1 (Int.toNat x4) (by omega)
        unfold Rg at f20
        refine Tx.bipush hC te_75_50 rfl rfl ?_
        refine Tx.imulW hC te_75_52 (fun z21 z21i z21e => ?_)
        unfold InI at z21i z21e
        first | replace z21e := z21e (by omega) | clear z21e
        refine Tx.aload_n hC te_75_53 rfl ?_
        refine Tx.getR hC te_75_54 rfl rfl rfl ?_
        refine Tx.iload hC te_75_57 rfl ?_
        refine Tx.iald hC te_75_59 rfl (by omega) (fun v22 v22e v22i => ?_)
        unfold InI at v22i
        rw [hF_34 11 _ (by unfold pRe; omega)] at v22e
        have f23 : Rg (mem 10 (Int.toNat x4)) (mem 11 (Int.toNat x4)) (mem 12 (Int.toNat x4)) (mem 13 (Int.toNat x4)) := hW9.1 (Int.toNat x4) (by omega)
        unfold Rg at f23
        refine Tx.iaddW hC te_75_60 (fun z24 z24i z24e => ?_)
        unfold InI at z24i z24e
        first | replace z24e := z24e (by omega) | clear z24e
        refine Tx.istore hC te_75_61 rfl ?_
        refine Tx.aload_n hC te_75_63 rfl ?_
        refine Tx.getR hC te_75_64 rfl rfl rfl ?_
        refine Tx.iload hC te_75_67 rfl ?_
        refine Tx.aload_n hC te_75_69 rfl ?_
        refine Tx.getR hC te_75_70 rfl rfl rfl ?_
        refine Tx.iload hC te_75_73 rfl ?_
        refine Tx.iald hC te_75_75 rfl (by omega) (fun v25 v25e v25i => ?_)
        unfold InI at v25i
        refine Tx.aload_n hC te_75_76 rfl ?_
        refine Tx.getR hC te_75_77 rfl rfl rfl ?_
        refine Tx.iload hC te_75_80 rfl ?_
        refine Tx.iald hC te_75_82 rfl (by omega) (fun v26 v26e v26i => ?_)
        unfold InI at v26i
        rw [hF_34 13 _ (by unfold pRe; omega)] at v26e
        have f27 : Rg (mem 10 (Int.toNat x4)) (mem 11 (Int.toNat x4)) (mem 12 (Int.toNat x4)) (mem 13 (Int.toNat x4)) := hW9.1 (Int.toNat x4) (by omega)
        unfold Rg at f27
        refine Tx.iload_n hC te_75_83 rfl ?_
        refine Tx.aload_n hC te_75_84 rfl ?_
        refine Tx.getR hC te_75_85 rfl rfl rfl ?_
        refine Tx.iload hC te_75_88 rfl ?_
        refine Tx.iald hC te_75_90 rfl (by omega) (fun v28 v28e v28i => ?_)
        unfold InI at v28i
        rw [hF_34 12 _ (by unfold pRe; omega)] at v28e
        have f29 : Rg (mem 10 (Int.toNat x4)) (mem 11 (Int.toNat x4)) (mem 12 (Int.toNat x4)) (mem 13 (Int.toNat x4)) := hW9.1 (Int.toNat x4) (by omega)
        unfold Rg at f29
        refine Tx.imulW hC te_75_91 (fun z30 z30i z30e => ?_)
        unfold InI at z30i z30e
        first | replace z30e := z30e (by omega) | clear z30e
        refine Tx.isubW hC te_75_92 (fun z31 z31i z31e => ?_)
        unfold InI at z31i z31e
        first | replace z31e := z31e (by omega) | clear z31e
        refine Tx.statI hC te_75_93 (by decide) mt_40 (args := [.inl v25, .inl z31]) (rest := [.inl z24, .inr 20]) (c' := 0) (s' := 0) rfl rfl rfl rfl rfl rfl rfl ?_
        refine f_40q (fun r32 r32a r32b r32c r32i => ?_)
        unfold InI at r32i
        refine Tx.iast hC te_75_96 rfl (by omega) ?_
        have hF36 : Frm pRe mem (upm m_34 20 (Int.toNat z24) r32) := Frm.up hF_34 (by unfold pRe; omega)
        have hZ37 : (upm m_34 20 (Int.toNat z24) r32) 19 0 = mem 1 0 := by rw [upm_ne (by omega)]; exact i34_1
        generalize upm m_34 20 (Int.toNat z24) r32 = m35 at hF36 hZ37 ⊢
        refine Tx.iincW hC te_75_97 rfl rfl (fun z38 z38i z38e => ?_)
        unfold InI at z38i z38e
        first | replace z38e := z38e (by omega) | clear z38e
        refine Tx.goto hC (t := 34) te_75_100 (by decide) ?_
        exact Tx.weak (by repeat' (first | exact trivial | exact rfl | constructor)) (ih_34 z38 m35 (by omega) (hZ37) (by omega) hF36)
  refine Tx.aload_n hC te_75_0 rfl ?_
  refine Tx.getI hC te_75_1 rfl rfl rfl (fun v39 v39e v39i => ?_)
  unfold InI at v39i
  refine Tx.iload_n hC te_75_4 rfl ?_
  refine Tx.icmp hC (t := 9) te_75_5 (by decide) (fun q40 => ?_) (fun q40 => ?_)
  · replace q40 : ¬ (v39 : Int) = d := q40
    refine Tx.aload_n hC te_75_9 rfl ?_
    refine Tx.iload_n hC te_75_10 rfl ?_
    refine Tx.putI hC te_75_11 rfl rfl rfl rfl ?_
    have hF42 : Frm pRe mem (upm mem 19 1 d) := Frm.up Frm.rf (by unfold pRe; omega)
    generalize upm mem 19 1 d = m41 at hF42 ⊢
    refine Tx.aload_n hC te_75_14 rfl ?_
    refine Tx.aload_n hC te_75_15 rfl ?_
    refine Tx.getI hC te_75_16 rfl rfl rfl (fun v43 v43e v43i => ?_)
    unfold InI at v43i
    rw [hF42 1 _ (by unfold pRe; omega)] at v43e
    refine Tx.putI hC te_75_19 rfl rfl rfl rfl ?_
    have hF45 : Frm pRe mem (upm m41 19 0 v43) := Frm.up hF42 (by unfold pRe; omega)
    have hZ46 : (upm m41 19 0 v43) 19 0 = mem 1 0 := by rw [upm_eq]; omega
    generalize upm m41 19 0 v43 = m44 at hF45 hZ46 ⊢
    refine Tx.aload_n hC te_75_22 rfl ?_
    refine Tx.getR hC te_75_23 rfl rfl rfl ?_
    refine Tx.ldc hC (z := (-100000)) te_75_26 rfl rfl rfl rfl ?_
    refine Tx.statV hC te_75_28 (by decide) mt_76 (args := [.inr 20, .inl (-100000)]) (rest := []) (c' := 0) (s' := 0) rfl rfl rfl rfl rfl rfl rfl ?_
    refine CWV.q hC (f_76 (Z := 20) (zn := 64) rfl (by omega) (fun m48 hF49 => ?_))
    have m48Z : m48 19 0 = mem 1 0 := by rw [hF49 19 0 (by omega)]; exact hZ46
    have hF49n : Frm pRe mem m48 := Frm.cp hF45 hF49 (fun i => by unfold pRe; omega)
    refine Tx.iconst hC te_75_31 rfl ?_
    refine Tx.istore hC te_75_32 rfl ?_
    exact l_34 _ 0 m48 (by omega) (m48Z) (Nat.lt_succ_self _) hF49n
  · replace q40 : ¬ (¬ (v39 : Int) = d) := q40
    exact Tx.vret hC te_75_8 rfl (show K mem from H _ Frm.rf (by omega))
theorem f_107 {S : Nat × (Nat → Int32)} {n : Nat} {mem : MM} {K : MM → Prop} {E : Nat → MM → Prop} {Q : Nat} (hQ : ChSh Q) (hz : mem Q 2 = mem 1 0) (h8 : 0 ≤ mem 1 0 ∧ mem 1 0 ≤ 8) (hp : 1 ≤ mem Q 3 ∧ mem Q 3 ≤ 12) (hsl : ∀ o, o < 8 → 0 ≤ mem (Q + 1) o ∧ mem (Q + 1) o ≤ 11) (hD : DT mem Q 0 0) (hW9 : WbOK mem 9) (hWS : WbS mem) (H : ∀ m', Frm (pTm Q) mem m' → DT m' Q 0 0 → K m') : CQV (Ex S (n + 3)) 107 [.inr Q, .inr 9] mem K E := by
  refine CY.of (k := 5) mt_107 rfl rfl (fun hv => ?_)
  have hC := Ex.mono S (n + 2)
  clear hv
  have hq8 := hQ.rg
  have hw := hW9.2
  show Tx (Ex S (n + 2)) S M_107 (kV K E) 0 0 0 [some (.inr Q), some (.inr 9), none, none, none, none, none] [] mem
  have l_32 : ∀ (N : Nat) (x2 x3 : Int) (m_32 : MM), (0 ≤ x3 ∧ x3 ≤ 9) → (DT m_32 Q (mem 1 0) (11 + 1152 * x3)) → ((9 - x3).toNat) < N → Frm (pTm Q) mem m_32 → Tx (Ex S (n + 2)) S M_107 (kV K E) 0 0 32 [some (.inr Q), some (.inr 9), some (.inl x2), some (.inl x3), none, none, none] [] m_32 := by
    intro N
    induction N with
    | zero => intros; omega
    | succ N ih_32 =>
      intro x2 x3 m_32 i32_0 i32_1 hN_32 hF_32
      have l_47 : ∀ (N : Nat) (x2 x4 : Int) (m_47 : MM), (0 ≤ x4 ∧ x4 ≤ 64) → (DT m_47 Q (mem 1 0) (11 + 1152 * x3 + 18 * x4)) → (0 ≤ x3 ∧ x3 ≤ 8) → ((64 - x4).toNat) < N → Frm (pTm Q) mem m_47 → Tx (Ex S (n + 2)) S M_107 (kV K E) 0 0 47 [some (.inr Q), some (.inr 9), some (.inl x2), some (.inl x3), some (.inl x4), none, none] [] m_47 := by
        intro N
        induction N with
        | zero => intros; omega
        | succ N ih_47 =>
          intro x2 x4 m_47 i47_0 i47_1 i47_2 hN_47 hF_47
          refine Tx.iload hC te_107_47 rfl ?_
          refine Tx.aload_n hC te_107_49 rfl ?_
          refine Tx.getI hC te_107_50 rfl rfl rfl (fun v1 v1e v1i => ?_)
          unfold InI at v1i
          rw [hF_47 9 _ (by unfold pTm; omega)] at v1e
          refine Tx.icmp hC (t := 145) te_107_53 (by decide) (fun q2 => ?_) (fun q2 => ?_)
          · replace q2 : v1 ≤ (x4 : Int) := q2
            refine Tx.iincW hC te_107_145 rfl rfl (fun z3 z3i z3e => ?_)
            unfold InI at z3i z3e
            first | replace z3e := z3e (by omega) | clear z3e
            refine Tx.goto hC (t := 32) te_107_148 (by decide) ?_
            exact Tx.weak (by repeat' (first | exact trivial | exact rfl | constructor)) (ih_32 x2 z3 m_47 (by omega) (DT.le i47_1 (by omega) (by omega)) (by omega) hF_47)
          · replace q2 : ¬ (v1 ≤ (x4 : Int)) := q2
            refine Tx.aload_n hC te_107_56 rfl ?_
            refine Tx.getR hC te_107_57 rfl rfl rfl ?_
            refine Tx.iload hC te_107_60 rfl ?_
            refine Tx.iald hC te_107_62 rfl (by omega) (fun v4 v4e v4i => ?_)
            unfold InI at v4i
            rw [hF_47 11 _ (by unfold pTm; omega)] at v4e
            have f5 : Rg (mem 10 (Int.toNat x4)) (mem 11 (Int.toNat x4)) (mem 12 (Int.toNat x4)) (mem 13 (Int.toNat x4)) := hW9.1 (Int.toNat x4) (by omega)
            unfold Rg at f5
            have f5s := hWS (Int.toNat x4) (by omega)
            refine Tx.istore hC te_107_63 rfl ?_
            refine Tx.aload_n hC te_107_65 rfl ?_
            refine Tx.getR hC te_107_66 hQ.s0 rfl rfl ?_
            refine Tx.aload_n hC te_107_69 rfl ?_
            refine Tx.getR hC te_107_70 rfl rfl rfl ?_
            refine Tx.iload hC te_107_73 rfl ?_
            refine Tx.iald hC te_107_75 rfl (by omega) (fun v6 v6e v6i => ?_)
            unfold InI at v6i
            rw [hF_47 10 _ (by unfold pTm; omega)] at v6e
            have f7 : Rg (mem 10 (Int.toNat x4)) (mem 11 (Int.toNat x4)) (mem 12 (Int.toNat x4)) (mem 13 (Int.toNat x4)) := hW9.1 (Int.toNat x4) (by omega)
            unfold Rg at f7
            have f7s := hWS (Int.toNat x4) (by omega)
            refine Tx.iald hC te_107_76 hQ.s2 (by omega) (fun v8 v8e v8i => ?_)
            unfold InI at v8i
            have f9 := i47_1 (Int.toNat v6) (by omega)
            refine Tx.aload_n hC te_107_77 rfl ?_
            refine Tx.getR hC te_107_78 rfl rfl rfl ?_
            refine Tx.iload hC te_107_81 rfl ?_
            refine Tx.iald hC te_107_83 rfl (by omega) (fun v10 v10e v10i => ?_)
            unfold InI at v10i
            rw [hF_47 13 _ (by unfold pTm; omega)] at v10e
            have f11 : Rg (mem 10 (Int.toNat x4)) (mem 11 (Int.toNat x4)) (mem 12 (Int.toNat x4)) (mem 13 (Int.toNat x4)) := hW9.1 (Int.toNat x4) (by omega)
            unfold Rg at f11
            refine Tx.iaddW hC te_107_84 (fun z12 z12i z12e => ?_)
            unfold InI at z12i z12e
            first | replace z12e := z12e (by omega) | clear z12e
            refine Tx.aload_n hC te_107_85 rfl ?_
            refine Tx.getI hC te_107_86 hQ.s0 rfl rfl (fun v13 v13e v13i => ?_)
            unfold InI at v13i
            rw [hF_47 Q _ (by unfold pTm; omega)] at v13e
            refine Tx.aload_n hC te_107_89 rfl ?_
            refine Tx.getR hC te_107_90 rfl rfl rfl ?_
            refine Tx.iload hC te_107_93 rfl ?_
            refine Tx.iald hC te_107_95 rfl (by omega) (fun v14 v14e v14i => ?_)
            unfold InI at v14i
            rw [hF_47 12 _ (by unfold pTm; omega)] at v14e
            have f15 : Rg (mem 10 (Int.toNat x4)) (mem 11 (Int.toNat x4)) (mem 12 (Int.toNat x4)) (mem 13 (Int.toNat x4)) := hW9.1 (Int.toNat x4) (by omega)
            unfold Rg at f15
            have v13d := d7 (d := v13) (x := v14) (by omega) (by omega)
            refine Tx.imulW hC te_107_96 (fun z16 z16i z16e => ?_)
            unfold InI at z16i z16e
            first | replace z16e := z16e (by omega) | clear z16e
            refine Tx.isubW hC te_107_97 (fun z17 z17i z17e => ?_)
            unfold InI at z17i z17e
            first | replace z17e := z17e (by omega) | clear z17e
            refine Tx.aload_n hC te_107_98 rfl ?_
            refine Tx.getR hC te_107_99 hQ.s0 rfl rfl ?_
            refine Tx.iload hC te_107_102 rfl ?_
            refine Tx.iald hC te_107_104 hQ.s2 (by omega) (fun v18 v18e v18i => ?_)
            unfold InI at v18i
            have f19 := i47_1 (Int.toNat v4) (by omega)
            refine Tx.isubW hC te_107_105 (fun z20 z20i z20e => ?_)
            unfold InI at z20i z20e
            first | replace z20e := z20e (by omega) | clear z20e
            refine Tx.istore hC te_107_106 rfl ?_
            refine Tx.iload hC te_107_108 rfl ?_
            refine Tx.ifc hC (t := 139) te_107_110 (by decide) (fun q21 => ?_) (fun q21 => ?_)
            · replace q21 : (z20 : Int) ≤ 0 := q21
              refine Tx.iincW hC te_107_139 rfl rfl (fun z22 z22i z22e => ?_)
              unfold InI at z22i z22e
              first | replace z22e := z22e (by omega) | clear z22e
              refine Tx.goto hC (t := 47) te_107_142 (by decide) ?_
              exact Tx.weak (by repeat' (first | exact trivial | exact rfl | constructor)) (ih_47 x2 z22 m_47 (by omega) (DT.le i47_1 (by omega) (by omega)) (by omega) (by omega) hF_47)
            · replace q21 : ¬ ((z20 : Int) ≤ 0) := q21
              refine Tx.aload_n hC te_107_113 rfl ?_
              refine Tx.getR hC te_107_114 hQ.s0 rfl rfl ?_
              refine Tx.iload hC te_107_117 rfl ?_
              refine Tx.dup2 hC te_107_119 ?_
              refine Tx.iald hC te_107_120 hQ.s2 (by omega) (fun v23 v23e v23i => ?_)
              unfold InI at v23i
              have f24 := i47_1 (Int.toNat v4) (by omega)
              refine Tx.iload hC te_107_121 rfl ?_
              refine Tx.aload_n hC te_107_123 rfl ?_
              refine Tx.getI hC te_107_124 hQ.s0 rfl rfl (fun v25 v25e v25i => ?_)
              unfold InI at v25i
              rw [hF_47 Q _ (by unfold pTm; omega)] at v25e
              refine Tx.statI hC te_107_127 (by decide) mt_33 (args := [.inl z20, .inl v25]) (rest := [.inl v23, .inl v4, .inr (Q + 2)]) (c' := 0) (s' := 0) rfl rfl rfl rfl rfl rfl rfl ?_
              refine f_33 (fun r26 r26f r26i => ?_)
              rw [v25e] at r26f
              unfold InI at r26i
              refine Tx.aload_n hC te_107_130 rfl ?_
              refine Tx.getI hC te_107_131 hQ.s0 rfl rfl (fun v29 v29e v29i => ?_)
              unfold InI at v29i
              rw [hF_47 Q _ (by unfold pTm; omega)] at v29e
              have cm : r26 * v29 = mem Q 3 * r26 := by rw [v29e, Int.mul_comm]
              have ms : mem Q 3 * (r26 - 1) = mem Q 3 * r26 - mem Q 3 := by rw [Int.mul_sub, Int.mul_one]
              have r26g := r26f (by omega) (by omega)
              refine Tx.imulW hC te_107_134 (fun z30 z30i z30e => ?_)
              unfold InI at z30i z30e
              first | replace z30e := z30e (by omega) | clear z30e
              refine Tx.iaddW hC te_107_135 (fun z31 z31i z31e => ?_)
              unfold InI at z31i z31e
              first | replace z31e := z31e (by omega) | clear z31e
              refine Tx.iast hC te_107_136 hQ.s2 (by omega) ?_
              have hF33 : Frm (pTm Q) mem (upm m_47 (Q + 2) (Int.toNat v4) z31) := Frm.up hF_47 (by unfold pTm; omega)
              have hT34 : DT (upm m_47 (Q + 2) (Int.toNat v4) z31) Q (mem 1 0) (11 + 1152 * x3 + 18 * x4 + 18) := DT.up i47_1 (by omega) (by omega) (by omega)
              generalize upm m_47 (Q + 2) (Int.toNat v4) z31 = m32 at hF33 hT34 ⊢
              refine Tx.iconst hC te_107_137 rfl ?_
              refine Tx.istore_n hC te_107_138 rfl ?_
              refine Tx.iincW hC te_107_139 rfl rfl (fun z35 z35i z35e => ?_)
              unfold InI at z35i z35e
              first | replace z35e := z35e (by omega) | clear z35e
              refine Tx.goto hC (t := 47) te_107_142 (by decide) ?_
              exact Tx.weak (by repeat' (first | exact trivial | exact rfl | constructor)) (ih_47 1 z35 m32 (by omega) (DT.le hT34 (by omega) (by omega)) (by omega) (by omega) hF33)
      refine Tx.iload_n hC te_107_32 rfl ?_
      refine Tx.bipush hC te_107_33 rfl rfl ?_
      refine Tx.icmp hC (t := 151) te_107_35 (by decide) (fun q36 => ?_) (fun q36 => ?_)
      · replace q36 : 8 < (x3 : Int) := q36
        exact Tx.vret hC te_107_151 rfl (show K m_32 from H _ hF_32 (fun o ho => ⟨(i32_1 o ho).1, fun z => by omega⟩))
      · replace q36 : ¬ (8 < (x3 : Int)) := q36
        refine Tx.iload_n hC te_107_38 rfl ?_
        refine Tx.ifc hC (t := 151) te_107_39 (by decide) (fun q37 => ?_) (fun q37 => ?_)
        · replace q37 : (x2 : Int) = 0 := q37
          exact Tx.vret hC te_107_151 rfl (show K m_32 from H _ hF_32 (fun o ho => ⟨(i32_1 o ho).1, fun z => by omega⟩))
        · replace q37 : ¬ ((x2 : Int) = 0) := q37
          refine Tx.iconst hC te_107_42 rfl ?_
          refine Tx.istore_n hC te_107_43 rfl ?_
          refine Tx.iconst hC te_107_44 rfl ?_
          refine Tx.istore hC te_107_45 rfl ?_
          exact l_47 _ 0 0 m_32 (by omega) (DT.le i32_1 (by omega) (by omega)) (by omega) (Nat.lt_succ_self _) hF_32
  have l_2 : ∀ (N : Nat) (x2 : Int) (m_2 : MM), (0 ≤ x2) → (DT m_2 Q x2 11) → ((8 - x2).toNat) < N → Frm (pTm Q) mem m_2 → Tx (Ex S (n + 2)) S M_107 (kV K E) 0 0 2 [some (.inr Q), some (.inr 9), some (.inl x2), none, none, none, none] [] m_2 := by
    intro N
    induction N with
    | zero => intros; omega
    | succ N ih_2 =>
      intro x2 m_2 i2_0 i2_1 hN_2 hF_2
      refine Tx.iload_n hC te_107_2 rfl ?_
      refine Tx.aload_n hC te_107_3 rfl ?_
      refine Tx.getI hC te_107_4 hQ.s0 rfl rfl (fun v38 v38e v38i => ?_)
      unfold InI at v38i
      rw [hF_2 Q _ (by unfold pTm; omega)] at v38e
      refine Tx.icmp hC (t := 28) te_107_7 (by decide) (fun q39 => ?_) (fun q39 => ?_)
      · replace q39 : v38 ≤ (x2 : Int) := q39
        refine Tx.iconst hC te_107_28 rfl ?_
        refine Tx.istore_n hC te_107_29 rfl ?_
        refine Tx.iconst hC te_107_30 rfl ?_
        refine Tx.istore_n hC te_107_31 rfl ?_
        exact l_32 _ 1 0 m_2 (by omega) (DT.le i2_1 (by omega) (by omega)) (Nat.lt_succ_self _) hF_2
      · replace q39 : ¬ (v38 ≤ (x2 : Int)) := q39
        refine Tx.aload_n hC te_107_10 rfl ?_
        refine Tx.getR hC te_107_11 hQ.s0 rfl rfl ?_
        refine Tx.iload_n hC te_107_14 rfl ?_
        refine Tx.aload_n hC te_107_15 rfl ?_
        refine Tx.getR hC te_107_16 hQ.s0 rfl rfl ?_
        refine Tx.iload_n hC te_107_19 rfl ?_
        refine Tx.iald hC te_107_20 hQ.s1 (by omega) (fun v40 v40e v40i => ?_)
        unfold InI at v40i
        rw [hF_2 (Q + 1) _ (by unfold pTm; omega)] at v40e
        have f41 := hsl (Int.toNat x2) (by omega)
        refine Tx.iast hC te_107_21 hQ.s2 (by omega) ?_
        have hF43 : Frm (pTm Q) mem (upm m_2 (Q + 2) (Int.toNat x2) v40) := Frm.up hF_2 (by unfold pTm; omega)
        have hT44 : DT (upm m_2 (Q + 2) (Int.toNat x2) v40) Q (x2 + 1) 11 := DT.up1 i2_1 (by omega) (by omega)
        generalize upm m_2 (Q + 2) (Int.toNat x2) v40 = m42 at hF43 hT44 ⊢
        refine Tx.iincW hC te_107_22 rfl rfl (fun z45 z45i z45e => ?_)
        unfold InI at z45i z45e
        first | replace z45e := z45e (by omega) | clear z45e
        refine Tx.goto hC (t := 2) te_107_25 (by decide) ?_
        exact ih_2 z45 m42 (by omega) (DT.le hT44 (by omega) (by omega)) (by omega) hF43
  refine Tx.iconst hC te_107_0 rfl ?_
  refine Tx.istore_n hC te_107_1 rfl ?_
  exact l_2 _ 0 mem (by omega) (hD.le (by omega) (by omega)) (Nat.lt_succ_self _) Frm.rf
theorem f_109 {S : Nat × (Nat → Int32)} {n : Nat} {mem : MM} {K : MM → Prop} {E : Nat → MM → Prop} {Q : Nat} (hQ : ChSh Q) (hO : ChtOK mem Q) (hB : BodyOK mem) (H : ∀ m', Frm (pLi Q) mem m' → K m') : CQV (Ex S (n + 2)) 109 [.inr Q, .inr 1] mem K E := by
  refine CY.of (k := 4) mt_109 rfl rfl (fun hv => ?_)
  have hC := Ex.mono S (n + 1)
  clear hv
  have hq8 := hQ.rg
  have hQ1 := hO.1
  show Tx (Ex S (n + 1)) S M_109 (kV K E) 0 0 0 [some (.inr Q), some (.inr 1), none, none, none, none] [] mem
  have l_10 : ∀ (N : Nat) (x2 : Int) (m_10 : MM), (0 ≤ x2) → ((8 - x2).toNat) < N → Frm (pLi Q) mem m_10 → Tx (Ex S (n + 1)) S M_109 (kV K E) 0 0 10 [some (.inr Q), some (.inr 1), some (.inl x2), none, none, none] [] m_10 := by
    intro N
    induction N with
    | zero => intros; omega
    | succ N ih_10 =>
      intro x2 m_10 i10_0 hN_10 hF_10
      have l_20 : ∀ (N : Nat) (x3 : Int) (m_20 : MM), (0 ≤ x3) → (0 ≤ x2 ∧ x2 < 8) → ((3 - x3).toNat) < N → Frm (pLi Q) mem m_20 → Tx (Ex S (n + 1)) S M_109 (kV K E) 0 0 20 [some (.inr Q), some (.inr 1), some (.inl x2), some (.inl x3), none, none] [] m_20 := by
        intro N
        induction N with
        | zero => intros; omega
        | succ N ih_20 =>
          intro x3 m_20 i20_0 i20_1 hN_20 hF_20
          refine Tx.iload_n hC te_109_20 rfl ?_
          refine Tx.aload_n hC te_109_21 rfl ?_
          refine Tx.iload_n hC te_109_22 rfl ?_
          refine Tx.virtI hC te_109_23 mt_13 (args := [.inr 1, .inl x2]) (rest := [.inl x3]) (c' := 0) (s' := 0) rfl rfl rfl rfl rfl rfl rfl rfl rfl rfl ?_
          refine f_13q (by omega) (fun r1 r1e r1a r1b r1i => ?_)
          unfold InI at r1i
          refine Tx.icmp hC (t := 97) te_109_26 (by decide) (fun q4 => ?_) (fun q4 => ?_)
          · replace q4 : r1 ≤ (x3 : Int) := q4
            refine Tx.iincW hC te_109_97 rfl rfl (fun z5 z5i z5e => ?_)
            unfold InI at z5i z5e
            first | replace z5e := z5e (by omega) | clear z5e
            refine Tx.goto hC (t := 10) te_109_100 (by decide) ?_
            exact Tx.weak (by repeat' (first | exact trivial | exact rfl | constructor)) (ih_10 z5 m_20 (by omega) (by omega) hF_20)
          · replace q4 : ¬ (r1 ≤ (x3 : Int)) := q4
            refine Tx.aload_n hC te_109_29 rfl ?_
            refine Tx.iload_n hC te_109_30 rfl ?_
            refine Tx.iload_n hC te_109_31 rfl ?_
            refine Tx.virtI hC te_109_32 mt_14 (args := [.inr 1, .inl x2, .inl x3]) (rest := []) (c' := 0) (s' := 0) rfl rfl rfl rfl rfl rfl rfl rfl rfl rfl ?_
            refine f_14s (hB.fr (fun A i a b => hF_20 A i (by unfold pLi; omega))) (by omega) (by omega) (fun r6 r6e r6a r6b r6i => ?_)
            unfold InI at r6i
            refine Tx.istore hC te_109_35 rfl ?_
            refine Tx.iload hC te_109_37 rfl ?_
            refine Tx.ifc hC (t := 91) te_109_39 (by decide) (fun q9 => ?_) (fun q9 => ?_)
            · replace q9 : (r6 : Int) < 0 := q9
              refine Tx.iincW hC te_109_91 rfl rfl (fun z10 z10i z10e => ?_)
              unfold InI at z10i z10e
              first | replace z10e := z10e (by omega) | clear z10e
              refine Tx.goto hC (t := 20) te_109_94 (by decide) ?_
              exact Tx.weak (by repeat' (first | exact trivial | exact rfl | constructor)) (ih_20 z10 m_20 (by omega) (by omega) (by omega) hF_20)
            · replace q9 : ¬ ((r6 : Int) < 0) := q9
              refine Tx.aload_n hC te_109_42 rfl ?_
              refine Tx.getR hC te_109_43 hQ.s0 rfl rfl ?_
              refine Tx.iload_n hC te_109_46 rfl ?_
              refine Tx.iald hC te_109_47 hQ.s2 (by omega) (fun v11 v11e v11i => ?_)
              unfold InI at v11i
              rw [hF_20 (Q + 2) _ (by unfold pLi; omega)] at v11e
              have f12 := hO.2 (Int.toNat x2) (by omega)
              refine Tx.aload_n hC te_109_48 rfl ?_
              refine Tx.getI hC te_109_49 hQ.s0 rfl rfl (fun v13 v13e v13i => ?_)
              unfold InI at v13i
              rw [hF_20 Q _ (by unfold pLi; omega)] at v13e
              refine Tx.aload_n hC te_109_52 rfl ?_
              refine Tx.iload_n hC te_109_53 rfl ?_
              refine Tx.iload_n hC te_109_54 rfl ?_
              refine Tx.virtI hC te_109_55 mt_15 (args := [.inr 1, .inl x2, .inl x3]) (rest := [.inl v13, .inl v11]) (c' := 0) (s' := 0) rfl rfl rfl rfl rfl rfl rfl rfl rfl rfl ?_
              refine f_15s (hB.fr (fun A i a b => hF_20 A i (by unfold pLi; omega))) (by omega) (by omega) (fun r14 r14e r14i => ?_)
              unfold InI at r14i
              refine Tx.imulW hC te_109_58 (fun z17 z17i z17e => ?_)
              unfold InI at z17i z17e
              first | replace z17e := z17e (by omega) | clear z17e
              refine Tx.iaddW hC te_109_59 (fun z18 z18i z18e => ?_)
              unfold InI at z18i z18e
              first | replace z18e := z18e (by omega) | clear z18e
              refine Tx.istore hC te_109_60 rfl ?_
              refine Tx.aload_n hC te_109_62 rfl ?_
              refine Tx.getR hC te_109_63 hQ.s0 rfl rfl ?_
              refine Tx.iload hC te_109_66 rfl ?_
              refine Tx.aload_n hC te_109_68 rfl ?_
              refine Tx.getR hC te_109_69 hQ.s0 rfl rfl ?_
              refine Tx.iload hC te_109_72 rfl ?_
              refine Tx.iald hC te_109_74 hQ.s4 (by omega) (fun v19 v19e v19i => ?_)
              unfold InI at v19i
              refine Tx.iload hC te_109_75 rfl ?_
              refine Tx.aload_n hC te_109_77 rfl ?_
              refine Tx.getR hC te_109_78 hQ.s0 rfl rfl ?_
              refine Tx.iload hC te_109_81 rfl ?_
              refine Tx.iald hC te_109_83 hQ.s3 (by omega) (fun v20 v20e v20i => ?_)
              unfold InI at v20i
              rw [hF_20 (Q + 3) _ (by unfold pLi; omega)] at v20e
              have f21 := hO.2 (Int.toNat r6) (by omega)
              refine Tx.isubW hC te_109_84 (fun z22 z22i z22e => ?_)
              unfold InI at z22i z22e
              first | replace z22e := z22e (by omega) | clear z22e
              refine Tx.iconst hC te_109_85 rfl ?_
              refine Tx.iaddW hC te_109_86 (fun z23 z23i z23e => ?_)
              unfold InI at z23i z23e
              first | replace z23e := z23e (by omega) | clear z23e
              refine Tx.statI hC te_109_87 (by decide) mt_40 (args := [.inl v19, .inl z23]) (rest := [.inl r6, .inr (Q + 4)]) (c' := 0) (s' := 0) rfl rfl rfl rfl rfl rfl rfl ?_
              refine f_40q (fun r24 r24a r24b r24c r24i => ?_)
              unfold InI at r24i
              refine Tx.iast hC te_109_90 hQ.s4 (by omega) ?_
              have hF28 : Frm (pLi Q) mem (upm m_20 (Q + 4) (Int.toNat r6) r24) := Frm.up hF_20 (by unfold pLi; omega)
              generalize upm m_20 (Q + 4) (Int.toNat r6) r24 = m27 at hF28 ⊢
              refine Tx.iincW hC te_109_91 rfl rfl (fun z29 z29i z29e => ?_)
              unfold InI at z29i z29e
              first | replace z29e := z29e (by omega) | clear z29e
              refine Tx.goto hC (t := 20) te_109_94 (by decide) ?_
              exact Tx.weak (by repeat' (first | exact trivial | exact rfl | constructor)) (ih_20 z29 m27 (by omega) (by omega) (by omega) hF28)
      refine Tx.iload_n hC te_109_10 rfl ?_
      refine Tx.aload_n hC te_109_11 rfl ?_
      refine Tx.getI hC te_109_12 hQ.s0 rfl rfl (fun v30 v30e v30i => ?_)
      unfold InI at v30i
      rw [hF_10 Q _ (by unfold pLi; omega)] at v30e
      refine Tx.icmp hC (t := 103) te_109_15 (by decide) (fun q31 => ?_) (fun q31 => ?_)
      · replace q31 : v30 ≤ (x2 : Int) := q31
        exact Tx.vret hC te_109_103 rfl (show K m_10 from H _ hF_10)
      · replace q31 : ¬ (v30 ≤ (x2 : Int)) := q31
        refine Tx.iconst hC te_109_18 rfl ?_
        refine Tx.istore_n hC te_109_19 rfl ?_
        exact l_20 _ 0 m_10 (by omega) (by omega) (Nat.lt_succ_self _) hF_10
  refine Tx.aload_n hC te_109_0 rfl ?_
  refine Tx.getR hC te_109_1 hQ.s0 rfl rfl ?_
  refine Tx.iconst hC te_109_4 rfl ?_
  refine Tx.statV hC te_109_5 (by decide) mt_76 (args := [.inr (Q + 4), .inl 0]) (rest := []) (c' := 0) (s' := 0) rfl rfl rfl rfl rfl rfl rfl ?_
  refine CWV.q hC (f_76 (Z := Q + 4) (zn := 8) hQ.s4 (by omega) (fun m33 hF34 => ?_))
  have hF34n : Frm (pLi Q) mem m33 := Frm.cp Frm.rf hF34 (fun i => by unfold pLi; omega)
  refine Tx.iconst hC te_109_8 rfl ?_
  refine Tx.istore_n hC te_109_9 rfl ?_
  exact l_10 _ 0 m33 (by omega) (Nat.lt_succ_self _) hF34n
theorem f_110 {S : Nat × (Nat → Int32)} {n : Nat} {mem : MM} {K : MM → Prop} {E : Nat → MM → Prop} {Q : Nat} (hQ : ChSh Q) (hO : ChtOK mem Q) (hB : BodyOK mem) (H : ∀ m', Frm (pNm Q) mem m' → K m') : CQV (Ex S (n + 3)) 110 [.inr Q, .inr 1] mem K E := by
  refine CY.of (k := 2) mt_110 rfl rfl (fun hv => ?_)
  have hC := Ex.mono S (n + 2)
  clear hv
  have hq8 := hQ.rg
  have hQ1 := hO.1
  show Tx (Ex S (n + 2)) S M_110 (kV K E) 0 0 0 [some (.inr Q), some (.inr 1), none, none] [] mem
  have l_107 : ∀ (N : Nat) (x2 : Int) (m_107 : MM), (0 ≤ x2) → ((8 - x2).toNat) < N → Frm (pNm Q) mem m_107 → Tx (Ex S (n + 2)) S M_110 (kV K E) 0 0 107 [some (.inr Q), some (.inr 1), some (.inl x2), none] [] m_107 := by
    intro N
    induction N with
    | zero => intros; omega
    | succ N ih_107 =>
      intro x2 m_107 i107_0 hN_107 hF_107
      have l_127 : ∀ (N : Nat) (m_127 : MM), (0 ≤ x2 ∧ x2 < 8) → ((m_127 Q 7 - m_127 (Q + 6) (Int.toNat x2)).toNat) < N → Frm (pNm Q) mem m_127 → Tx (Ex S (n + 2)) S M_110 (kV K E) 0 0 127 [some (.inr Q), some (.inr 1), some (.inl x2), none] [] m_127 := by
        intro N
        induction N with
        | zero => intros; omega
        | succ N ih_127 =>
          intro m_127 i127_0 hN_127 hF_127
          refine Tx.aload_n hC te_110_127 rfl ?_
          refine Tx.getR hC te_110_128 hQ.s0 rfl rfl ?_
          refine Tx.iload_n hC te_110_131 rfl ?_
          refine Tx.iald hC te_110_132 hQ.s6 (by omega) (fun v1 v1e v1i => ?_)
          unfold InI at v1i
          refine Tx.ifc hC (t := 176) te_110_133 (by decide) (fun q2 => ?_) (fun q2 => ?_)
          · replace q2 : (v1 : Int) ≤ 0 := q2
            refine Tx.iincW hC te_110_176 rfl rfl (fun z3 z3i z3e => ?_)
            unfold InI at z3i z3e
            first | replace z3e := z3e (by omega) | clear z3e
            refine Tx.goto hC (t := 107) te_110_179 (by decide) ?_
            exact ih_107 z3 m_127 (by omega) (by omega) hF_127
          · replace q2 : ¬ ((v1 : Int) ≤ 0) := q2
            refine Tx.aload_n hC te_110_136 rfl ?_
            refine Tx.getR hC te_110_137 hQ.s0 rfl rfl ?_
            refine Tx.iload_n hC te_110_140 rfl ?_
            refine Tx.iald hC te_110_141 hQ.s6 (by omega) (fun v4 v4e v4i => ?_)
            unfold InI at v4i
            refine Tx.aload_n hC te_110_142 rfl ?_
            refine Tx.getI hC te_110_143 hQ.s0 rfl rfl (fun v5 v5e v5i => ?_)
            unfold InI at v5i
            refine Tx.icmp hC (t := 176) te_110_146 (by decide) (fun q6 => ?_) (fun q6 => ?_)
            · replace q6 : v5 ≤ (v4 : Int) := q6
              refine Tx.iincW hC te_110_176 rfl rfl (fun z7 z7i z7e => ?_)
              unfold InI at z7i z7e
              first | replace z7e := z7e (by omega) | clear z7e
              refine Tx.goto hC (t := 107) te_110_179 (by decide) ?_
              exact ih_107 z7 m_127 (by omega) (by omega) hF_127
            · replace q6 : ¬ (v5 ≤ (v4 : Int)) := q6
              refine Tx.aload_n hC te_110_149 rfl ?_
              refine Tx.getI hC te_110_150 hQ.s0 rfl rfl (fun v8 v8e v8i => ?_)
              unfold InI at v8i
              refine Tx.aload_n hC te_110_153 rfl ?_
              refine Tx.getR hC te_110_154 hQ.s0 rfl rfl ?_
              refine Tx.iload_n hC te_110_157 rfl ?_
              refine Tx.iald hC te_110_158 hQ.s6 (by omega) (fun v9 v9e v9i => ?_)
              unfold InI at v9i
              refine Tx.iremW hC te_110_159 (by omega) (fun z10 z10i z10e z10f => ?_)
              unfold InI at z10i
              refine Tx.ifc hC (t := 176) te_110_160 (by decide) (fun q11 => ?_) (fun q11 => ?_)
              · replace q11 : (z10 : Int) = 0 := q11
                refine Tx.iincW hC te_110_176 rfl rfl (fun z12 z12i z12e => ?_)
                unfold InI at z12i z12e
                first | replace z12e := z12e (by omega) | clear z12e
                refine Tx.goto hC (t := 107) te_110_179 (by decide) ?_
                exact ih_107 z12 m_127 (by omega) (by omega) hF_127
              · replace q11 : ¬ ((z10 : Int) = 0) := q11
                refine Tx.aload_n hC te_110_163 rfl ?_
                refine Tx.getR hC te_110_164 hQ.s0 rfl rfl ?_
                refine Tx.iload_n hC te_110_167 rfl ?_
                refine Tx.dup2 hC te_110_168 ?_
                refine Tx.iald hC te_110_169 hQ.s6 (by omega) (fun v13 v13e v13i => ?_)
                unfold InI at v13i
                refine Tx.iconst hC te_110_170 rfl ?_
                refine Tx.iaddW hC te_110_171 (fun z14 z14i z14e => ?_)
                unfold InI at z14i z14e
                first | replace z14e := z14e (by omega) | clear z14e
                refine Tx.iast hC te_110_172 hQ.s6 (by omega) ?_
                have hF16 : Frm (pNm Q) mem (upm m_127 (Q + 6) (Int.toNat x2) z14) := Frm.up hF_127 (by unfold pNm; omega)
                refine Tx.goto hC (t := 127) te_110_173 (by decide) ?_
                exact ih_127 (upm m_127 (Q + 6) (Int.toNat x2) z14) (by omega) (by rw [upm_ne (A := Q + 6) (B := Q) (by omega), upm_eq]; omega) hF16
      refine Tx.iload_n hC te_110_107 rfl ?_
      refine Tx.aload_n hC te_110_108 rfl ?_
      refine Tx.getI hC te_110_109 hQ.s0 rfl rfl (fun v17 v17e v17i => ?_)
      unfold InI at v17i
      rw [hF_107 Q _ (by unfold pNm; omega)] at v17e
      refine Tx.icmp hC (t := 182) te_110_112 (by decide) (fun q18 => ?_) (fun q18 => ?_)
      · replace q18 : v17 ≤ (x2 : Int) := q18
        exact Tx.vret hC te_110_182 rfl (show K m_107 from H _ hF_107)
      · replace q18 : ¬ (v17 ≤ (x2 : Int)) := q18
        refine Tx.aload_n hC te_110_115 rfl ?_
        refine Tx.getR hC te_110_116 hQ.s0 rfl rfl ?_
        refine Tx.iload_n hC te_110_119 rfl ?_
        refine Tx.aload_n hC te_110_120 rfl ?_
        refine Tx.getR hC te_110_121 hQ.s0 rfl rfl ?_
        refine Tx.iload_n hC te_110_124 rfl ?_
        refine Tx.iald hC te_110_125 hQ.s5 (by omega) (fun v19 v19e v19i => ?_)
        unfold InI at v19i
        refine Tx.iast hC te_110_126 hQ.s6 (by omega) ?_
        have hF21 : Frm (pNm Q) mem (upm m_107 (Q + 6) (Int.toNat x2) v19) := Frm.up hF_107 (by unfold pNm; omega)
        exact l_127 _ (upm m_107 (Q + 6) (Int.toNat x2) v19) (by omega) (Nat.lt_succ_self _) hF21
  have l_12 : ∀ (N : Nat) (x2 : Int) (m_12 : MM), (0 ≤ x2) → ((8 - x2).toNat) < N → Frm (pNm Q) mem m_12 → Tx (Ex S (n + 2)) S M_110 (kV K E) 0 0 12 [some (.inr Q), some (.inr 1), some (.inl x2), none] [] m_12 := by
    intro N
    induction N with
    | zero => intros; omega
    | succ N ih_12 =>
      intro x2 m_12 i12_0 hN_12 hF_12
      refine Tx.iload_n hC te_110_12 rfl ?_
      refine Tx.aload_n hC te_110_13 rfl ?_
      refine Tx.getI hC te_110_14 hQ.s0 rfl rfl (fun v22 v22e v22i => ?_)
      unfold InI at v22i
      rw [hF_12 Q _ (by unfold pNm; omega)] at v22e
      refine Tx.icmp hC (t := 105) te_110_17 (by decide) (fun q23 => ?_) (fun q23 => ?_)
      · replace q23 : v22 ≤ (x2 : Int) := q23
        refine Tx.iconst hC te_110_105 rfl ?_
        refine Tx.istore_n hC te_110_106 rfl ?_
        exact l_107 _ 0 m_12 (by omega) (Nat.lt_succ_self _) hF_12
      · replace q23 : ¬ (v22 ≤ (x2 : Int)) := q23
        refine Tx.aload_n hC te_110_20 rfl ?_
        refine Tx.getR hC te_110_21 rfl rfl rfl ?_
        refine Tx.iload_n hC te_110_24 rfl ?_
        refine Tx.iald hC te_110_25 rfl (by omega) (fun v24 v24e v24i => ?_)
        unfold InI at v24i
        rw [hF_12 2 _ (by unfold pNm; omega)] at v24e
        refine Tx.iconst hC te_110_26 rfl ?_
        refine Tx.icmp hC (t := 34) te_110_27 (by decide) (fun q25 => ?_) (fun q25 => ?_)
        · replace q25 : ¬ (v24 : Int) = 5 := q25
          refine Tx.iconst hC te_110_34 rfl ?_
          refine Tx.istore_n hC te_110_35 rfl ?_
          refine Tx.aload_n hC te_110_36 rfl ?_
          refine Tx.getR hC te_110_37 hQ.s0 rfl rfl ?_
          refine Tx.iload_n hC te_110_40 rfl ?_
          refine Tx.iload_n hC te_110_41 rfl ?_
          refine Tx.ifc hC (t := 49) te_110_42 (by decide) (fun q => ?_) (fun q => absurd (show (0 : Int) = 0 by decide) q)
          refine Tx.iconst hC te_110_49 rfl ?_
          refine Tx.aload_n hC te_110_50 rfl ?_
          refine Tx.getR hC te_110_51 hQ.s0 rfl rfl ?_
          refine Tx.iload_n hC te_110_54 rfl ?_
          refine Tx.iald hC te_110_55 hQ.s4 (by omega) (fun v26 v26e v26i => ?_)
          unfold InI at v26i
          rw [hF_12 (Q + 4) _ (by unfold pNm; omega)] at v26e
          refine Tx.aload_n hC te_110_56 rfl ?_
          refine Tx.getI hC te_110_57 hQ.s0 rfl rfl (fun v27 v27e v27i => ?_)
          unfold InI at v27i
          rw [hF_12 Q _ (by unfold pNm; omega)] at v27e
          refine Tx.statI hC te_110_60 (by decide) mt_33 (args := [.inl v26, .inl v27]) (rest := [.inl 1, .inl x2, .inr (Q + 5)]) (c' := 0) (s' := 0) rfl rfl rfl rfl rfl rfl rfl ?_
          refine f_33 (fun r28 r28f r28i => ?_)
          unfold InI at r28i
          refine Tx.statI hC te_110_63 (by decide) mt_40 (args := [.inl 1, .inl r28]) (rest := [.inl x2, .inr (Q + 5)]) (c' := 0) (s' := 0) rfl rfl rfl rfl rfl rfl rfl ?_
          refine f_40q (fun r31 r31a r31b r31c r31i => ?_)
          unfold InI at r31i
          refine Tx.iast hC te_110_66 hQ.s5 (by omega) ?_
          have hF35 : Frm (pNm Q) mem (upm m_12 (Q + 5) (Int.toNat x2) r31) := Frm.up hF_12 (by unfold pNm; omega)
          generalize upm m_12 (Q + 5) (Int.toNat x2) r31 = m34 at hF35 ⊢
          refine Tx.aload_n hC te_110_67 rfl ?_
          refine Tx.dup hC te_110_68 ?_
          refine Tx.getI hC te_110_69 hQ.s0 rfl rfl (fun v36 v36e v36i => ?_)
          unfold InI at v36i
          refine Tx.aload_n hC te_110_72 rfl ?_
          refine Tx.getR hC te_110_73 hQ.s0 rfl rfl ?_
          refine Tx.iload_n hC te_110_76 rfl ?_
          refine Tx.iald hC te_110_77 hQ.s5 (by omega) (fun v37 v37e v37i => ?_)
          unfold InI at v37i
          refine Tx.iaddW hC te_110_78 (fun z38 z38i z38e => ?_)
          unfold InI at z38i z38e
          first | replace z38e := z38e (by omega) | clear z38e
          refine Tx.putI hC te_110_79 hQ.s0 rfl rfl rfl ?_
          have hF40 : Frm (pNm Q) mem (upm m34 Q 6 z38) := Frm.up hF35 (by unfold pNm; omega)
          generalize upm m34 Q 6 z38 = m39 at hF40 ⊢
          refine Tx.aload_n hC te_110_82 rfl ?_
          refine Tx.aload_n hC te_110_83 rfl ?_
          refine Tx.getI hC te_110_84 hQ.s0 rfl rfl (fun v41 v41e v41i => ?_)
          unfold InI at v41i
          refine Tx.aload_n hC te_110_87 rfl ?_
          refine Tx.getR hC te_110_88 hQ.s0 rfl rfl ?_
          refine Tx.iload_n hC te_110_91 rfl ?_
          refine Tx.iald hC te_110_92 hQ.s5 (by omega) (fun v42 v42e v42i => ?_)
          unfold InI at v42i
          refine Tx.statI hC te_110_93 (by decide) mt_40 (args := [.inl v41, .inl v42]) (rest := [.inr Q]) (c' := 0) (s' := 0) rfl rfl rfl rfl rfl rfl rfl ?_
          refine f_40q (fun r43 r43a r43b r43c r43i => ?_)
          unfold InI at r43i
          refine Tx.putI hC te_110_96 hQ.s0 rfl rfl rfl ?_
          have hF47 : Frm (pNm Q) mem (upm m39 Q 7 r43) := Frm.up hF40 (by unfold pNm; omega)
          generalize upm m39 Q 7 r43 = m46 at hF47 ⊢
          refine Tx.iincW hC te_110_99 rfl rfl (fun z48 z48i z48e => ?_)
          unfold InI at z48i z48e
          first | replace z48e := z48e (by omega) | clear z48e
          refine Tx.goto hC (t := 12) te_110_102 (by decide) ?_
          exact Tx.weak (by repeat' (first | exact trivial | exact rfl | constructor)) (ih_12 z48 m46 (by omega) (by omega) hF47)
        · replace q25 : ¬ (¬ (v24 : Int) = 5) := q25
          refine Tx.iconst hC te_110_30 rfl ?_
          refine Tx.goto hC (t := 35) te_110_31 (by decide) ?_
          refine Tx.istore_n hC te_110_35 rfl ?_
          refine Tx.aload_n hC te_110_36 rfl ?_
          refine Tx.getR hC te_110_37 hQ.s0 rfl rfl ?_
          refine Tx.iload_n hC te_110_40 rfl ?_
          refine Tx.iload_n hC te_110_41 rfl ?_
          refine Tx.ifc hC (t := 49) te_110_42 (by decide) (fun q => absurd q (show ¬ ((1 : Int) = 0) by decide)) (fun q => ?_)
          refine Tx.iconst hC te_110_45 rfl ?_
          refine Tx.goto hC (t := 66) te_110_46 (by decide) ?_
          refine Tx.iast hC te_110_66 hQ.s5 (by omega) ?_
          have hF50 : Frm (pNm Q) mem (upm m_12 (Q + 5) (Int.toNat x2) 0) := Frm.up hF_12 (by unfold pNm; omega)
          generalize upm m_12 (Q + 5) (Int.toNat x2) 0 = m49 at hF50 ⊢
          refine Tx.aload_n hC te_110_67 rfl ?_
          refine Tx.dup hC te_110_68 ?_
          refine Tx.getI hC te_110_69 hQ.s0 rfl rfl (fun v51 v51e v51i => ?_)
          unfold InI at v51i
          refine Tx.aload_n hC te_110_72 rfl ?_
          refine Tx.getR hC te_110_73 hQ.s0 rfl rfl ?_
          refine Tx.iload_n hC te_110_76 rfl ?_
          refine Tx.iald hC te_110_77 hQ.s5 (by omega) (fun v52 v52e v52i => ?_)
          unfold InI at v52i
          refine Tx.iaddW hC te_110_78 (fun z53 z53i z53e => ?_)
          unfold InI at z53i z53e
          first | replace z53e := z53e (by omega) | clear z53e
          refine Tx.putI hC te_110_79 hQ.s0 rfl rfl rfl ?_
          have hF55 : Frm (pNm Q) mem (upm m49 Q 6 z53) := Frm.up hF50 (by unfold pNm; omega)
          generalize upm m49 Q 6 z53 = m54 at hF55 ⊢
          refine Tx.aload_n hC te_110_82 rfl ?_
          refine Tx.aload_n hC te_110_83 rfl ?_
          refine Tx.getI hC te_110_84 hQ.s0 rfl rfl (fun v56 v56e v56i => ?_)
          unfold InI at v56i
          refine Tx.aload_n hC te_110_87 rfl ?_
          refine Tx.getR hC te_110_88 hQ.s0 rfl rfl ?_
          refine Tx.iload_n hC te_110_91 rfl ?_
          refine Tx.iald hC te_110_92 hQ.s5 (by omega) (fun v57 v57e v57i => ?_)
          unfold InI at v57i
          refine Tx.statI hC te_110_93 (by decide) mt_40 (args := [.inl v56, .inl v57]) (rest := [.inr Q]) (c' := 0) (s' := 0) rfl rfl rfl rfl rfl rfl rfl ?_
          refine f_40q (fun r58 r58a r58b r58c r58i => ?_)
          unfold InI at r58i
          refine Tx.putI hC te_110_96 hQ.s0 rfl rfl rfl ?_
          have hF62 : Frm (pNm Q) mem (upm m54 Q 7 r58) := Frm.up hF55 (by unfold pNm; omega)
          generalize upm m54 Q 7 r58 = m61 at hF62 ⊢
          refine Tx.iincW hC te_110_99 rfl rfl (fun z63 z63i z63e => ?_)
          unfold InI at z63i z63e
          first | replace z63e := z63e (by omega) | clear z63e
          refine Tx.goto hC (t := 12) te_110_102 (by decide) ?_
          exact Tx.weak (by repeat' (first | exact trivial | exact rfl | constructor)) (ih_12 z63 m61 (by omega) (by omega) hF62)
  refine Tx.aload_n hC te_110_0 rfl ?_
  refine Tx.iconst hC te_110_1 rfl ?_
  refine Tx.putI hC te_110_2 hQ.s0 rfl rfl rfl ?_
  have hF65 : Frm (pNm Q) mem (upm mem Q 6 0) := Frm.up Frm.rf (by unfold pNm; omega)
  generalize upm mem Q 6 0 = m64 at hF65 ⊢
  refine Tx.aload_n hC te_110_5 rfl ?_
  refine Tx.iconst hC te_110_6 rfl ?_
  refine Tx.putI hC te_110_7 hQ.s0 rfl rfl rfl ?_
  have hF67 : Frm (pNm Q) mem (upm m64 Q 7 1) := Frm.up hF65 (by unfold pNm; omega)
  generalize upm m64 Q 7 1 = m66 at hF67 ⊢
  refine Tx.iconst hC te_110_10 rfl ?_
  refine Tx.istore_n hC te_110_11 rfl ?_
  exact l_12 _ 0 m66 (by omega) (Nat.lt_succ_self _) hF67
theorem f_162 {S : Nat × (Nat → Int32)} {n : Nat} {mem : MM} {K : Int → MM → Prop} {E : Nat → MM → Prop} (hB : BodyOK mem) {o t : Int} (ho : 0 ≤ o ∧ o < 8) (ht : 0 ≤ t ∧ t ≤ 39) (H : ∀ r m', Frm pPl mem m' → K r m') : CQI (Ex S (n + 3)) 162 [.inr 134, .inr 1, .inl o, .inl t] mem K E := by
  refine CY.of (k := 3) mt_162 rfl rfl (fun hv => ?_)
  have hC := Ex.mono S (n + 2)
  have ii_o : InI o := hv (.inl o) (by simp)
  unfold InI at ii_o
  have ii_t : InI t := hv (.inl t) (by simp)
  unfold InI at ii_t
  clear hv
  show Tx (Ex S (n + 2)) S M_162 (kI K E) 0 0 0 [some (.inr 134), some (.inr 1), some (.inl o), some (.inl t), none, none, none] [] mem
  refine Tx.aload_n hC te_162_0 rfl ?_
  refine Tx.getR hC te_162_1 rfl rfl rfl ?_
  refine Tx.iload_n hC te_162_4 rfl ?_
  refine Tx.iald hC te_162_5 rfl (by omega) (fun v1 v1e v1i => ?_)
  unfold InI at v1i
  have f2 := hB.kd (o := (Int.toNat o)) (by omega)
  refine Tx.istore hC te_162_6 rfl ?_
  refine Tx.iload hC te_162_8 rfl ?_
  refine Tx.iconst hC te_162_10 rfl ?_
  refine Tx.icmp hC (t := 33) te_162_11 (by decide) (fun q3 => ?_) (fun q3 => ?_)
  · replace q3 : ¬ (v1 : Int) = 4 := q3
    refine Tx.aload_n hC te_162_33 rfl ?_
    refine Tx.aload_n hC te_162_34 rfl ?_
    refine Tx.iload_n hC te_162_35 rfl ?_
    refine Tx.iconst hC te_162_36 rfl ?_
    refine Tx.iload_n hC te_162_37 rfl ?_
    refine Tx.virtI hC te_162_38 mt_163 (args := [.inr 134, .inr 1, .inl o, .inl 0, .inl t]) (rest := []) (c' := 0) (s' := 0) rfl rfl rfl rfl rfl rfl rfl rfl rfl rfl ?_
    have r4c := csN_1 (m := mem) (o := Int.toNat o) (by omega)
    have r4d : ¬ mem 2 (Int.toNat o) = 5 → csN mem (Int.toNat o) = 2 := csN_2 (by omega)
    refine f_163 hB (by omega) (by first | omega | (rw [r4d (by omega)]; omega)) (by omega) (fun r4 r4i => ?_)
    unfold InI at r4i
    refine Tx.istore hC te_162_41 rfl ?_
    refine Tx.iload hC te_162_43 rfl ?_
    refine Tx.iconst hC te_162_45 rfl ?_
    refine Tx.icmp hC (t := 72) te_162_46 (by decide) (fun q7 => ?_) (fun q7 => ?_)
    · replace q7 : ¬ (v1 : Int) = 5 := q7
      refine Tx.aload_n hC te_162_72 rfl ?_
      refine Tx.aload_n hC te_162_73 rfl ?_
      refine Tx.iload_n hC te_162_74 rfl ?_
      refine Tx.iconst hC te_162_75 rfl ?_
      refine Tx.iload_n hC te_162_76 rfl ?_
      refine Tx.virtI hC te_162_77 mt_163 (args := [.inr 134, .inr 1, .inl o, .inl 1, .inl t]) (rest := []) (c' := 0) (s' := 0) rfl rfl rfl rfl rfl rfl rfl rfl rfl rfl ?_
      have r8c := csN_1 (m := mem) (o := Int.toNat o) (by omega)
      have r8d : ¬ mem 2 (Int.toNat o) = 5 → csN mem (Int.toNat o) = 2 := csN_2 (by omega)
      refine f_163 hB (by omega) (by first | omega | (rw [r8d (by omega)]; omega)) (by omega) (fun r8 r8i => ?_)
      unfold InI at r8i
      refine Tx.istore hC te_162_80 rfl ?_
      refine Tx.iload hC te_162_82 rfl ?_
      refine Tx.tsw hC (t := 130) (ts := [112, 118, 124]) te_162_84 rfl (by decide) rfl (fun q11 => ?_) (fun i t e q11 => ?_)
      · skip
        refine Tx.iload hC te_162_130 rfl ?_
        refine Tx.iload hC te_162_132 rfl ?_
        refine Tx.statI hC te_162_134 (by decide) mt_29 (args := [.inl r4, .inl r8]) (rest := []) (c' := 0) (s' := 0) rfl rfl rfl rfl rfl rfl rfl ?_
        refine f_29q (fun r12 r12a r12b r12c r12i => ?_)
        unfold InI at r12i
        exact Tx.ireturn hC te_162_137 rfl (fun hr => show K r12 mem from H _ _ Frm.rf)
      · have hi : i = 0 ∨ i = 1 ∨ i = 2 := by
          have := (List.getElem?_eq_some_iff.mp e).1
          simp only [List.length_cons, List.length_nil] at this
          omega
        rcases hi with hi | hi | hi
        · subst hi
          cases (show some 112 = some t from e)
          refine Tx.iload hC te_162_112 rfl ?_
          refine Tx.iload hC te_162_114 rfl ?_
          refine Tx.iaddW hC te_162_116 (fun z15 z15i z15e => ?_)
          unfold InI at z15i z15e
          first | replace z15e := z15e (by omega) | clear z15e
          exact Tx.ireturn hC te_162_117 rfl (fun hr => show K z15 mem from H _ _ Frm.rf)
        · subst hi
          cases (show some 118 = some t from e)
          refine Tx.iload hC te_162_118 rfl ?_
          refine Tx.iload hC te_162_120 rfl ?_
          refine Tx.isubW hC te_162_122 (fun z16 z16i z16e => ?_)
          unfold InI at z16i z16e
          first | replace z16e := z16e (by omega) | clear z16e
          exact Tx.ireturn hC te_162_123 rfl (fun hr => show K z16 mem from H _ _ Frm.rf)
        · subst hi
          cases (show some 124 = some t from e)
          refine Tx.iload hC te_162_124 rfl ?_
          refine Tx.iload hC te_162_126 rfl ?_
          refine Tx.imulW hC te_162_128 (fun z17 z17i z17e => ?_)
          unfold InI at z17i z17e
          first | replace z17e := z17e (by omega) | clear z17e
          exact Tx.ireturn hC te_162_129 rfl (fun hr => show K z17 mem from H _ _ Frm.rf)
    · replace q7 : ¬ (¬ (v1 : Int) = 5) := q7
      refine Tx.aload_n hC te_162_49 rfl ?_
      refine Tx.getR hC te_162_50 rfl rfl rfl ?_
      refine Tx.aload_n hC te_162_53 rfl ?_
      refine Tx.iload_n hC te_162_54 rfl ?_
      refine Tx.virtI hC te_162_55 mt_24 (args := [.inr 1, .inl o]) (rest := [.inr 135]) (c' := 0) (s' := 0) rfl rfl rfl rfl rfl rfl rfl rfl rfl rfl ?_
      refine f_24q (by omega) (fun r18 r18e r18i => ?_)
      have r18w := hB.row (o := Int.toNat o) (by omega) (by omega)
      unfold InI at r18i
      refine Tx.aaldP hC te_162_58 (by omega) (fun R eR => ?_)
      have hR : shA R = some (.inl 64) := rowP eR (by omega)
      refine Tx.iload_n hC te_162_59 rfl ?_
      refine Tx.aload_n hC te_162_60 rfl ?_
      refine Tx.iload_n hC te_162_61 rfl ?_
      refine Tx.virtI hC te_162_62 mt_25 (args := [.inr 1, .inl o]) (rest := [.inl t, .inr R]) (c' := 0) (s' := 0) rfl rfl rfl rfl rfl rfl rfl rfl rfl rfl ?_
      refine f_25q (by omega) (fun r21 r21e r21i => ?_)
      have r21w := hB.row (o := Int.toNat o) (by omega) (by omega)
      unfold InI at r21i
      refine Tx.iaddW hC te_162_65 (fun z24 z24i z24e => ?_)
      unfold InI at z24i z24e
      first | replace z24e := z24e (by omega) | clear z24e
      refine Tx.iload hC te_162_66 rfl ?_
      refine Tx.iast hC te_162_68 hR (by omega) ?_
      have hF26 : Frm pPl mem (upm mem R (Int.toNat z24) r4) := Frm.up Frm.rf (by unfold pPl; omega)
      generalize upm mem R (Int.toNat z24) r4 = m25 at hF26 ⊢
      refine Tx.iload hC te_162_69 rfl ?_
      exact Tx.ireturn hC te_162_71 rfl (fun hr => show K r4 m25 from H _ _ hF26)
  · replace q3 : ¬ (¬ (v1 : Int) = 4) := q3
    refine Tx.aload_n hC te_162_14 rfl ?_
    refine Tx.getR hC te_162_15 rfl rfl rfl ?_
    refine Tx.aload_n hC te_162_18 rfl ?_
    refine Tx.iload_n hC te_162_19 rfl ?_
    refine Tx.virtI hC te_162_20 mt_24 (args := [.inr 1, .inl o]) (rest := [.inr 135]) (c' := 0) (s' := 0) rfl rfl rfl rfl rfl rfl rfl rfl rfl rfl ?_
    refine f_24q (by omega) (fun r27 r27e r27i => ?_)
    have r27w := hB.row (o := Int.toNat o) (by omega) (by omega)
    unfold InI at r27i
    refine Tx.aaldP hC te_162_23 (by omega) (fun R eR => ?_)
    have hR : shA R = some (.inl 64) := rowP eR (by omega)
    refine Tx.iload_n hC te_162_24 rfl ?_
    refine Tx.aload_n hC te_162_25 rfl ?_
    refine Tx.iload_n hC te_162_26 rfl ?_
    refine Tx.virtI hC te_162_27 mt_25 (args := [.inr 1, .inl o]) (rest := [.inl t, .inr R]) (c' := 0) (s' := 0) rfl rfl rfl rfl rfl rfl rfl rfl rfl rfl ?_
    refine f_25q (by omega) (fun r30 r30e r30i => ?_)
    have r30w := hB.row (o := Int.toNat o) (by omega) (by omega)
    unfold InI at r30i
    refine Tx.iaddW hC te_162_30 (fun z33 z33i z33e => ?_)
    unfold InI at z33i z33e
    first | replace z33e := z33e (by omega) | clear z33e
    refine Tx.iald hC te_162_31 hR (by omega) (fun v34 v34e v34i => ?_)
    unfold InI at v34i
    exact Tx.ireturn hC te_162_32 rfl (fun hr => show K v34 mem from H _ _ Frm.rf)
theorem f_161 {S : Nat × (Nat → Int32)} {n : Nat} {mem : MM} {K : MM → Prop} {E : Nat → MM → Prop} (hB : BodyOK mem) {t : Int} (ht : 0 ≤ t ∧ t ≤ 40) (H : ∀ m', Frm pPl mem m' → K m') : CQV (Ex S (n + 4)) 161 [.inr 134, .inr 1, .inl t] mem K E := by
  refine CY.of (k := 2) mt_161 rfl rfl (fun hv => ?_)
  have hC := Ex.mono S (n + 3)
  have ii_t : InI t := hv (.inl t) (by simp)
  unfold InI at ii_t
  clear hv
  have h8 := hB.1
  show Tx (Ex S (n + 3)) S M_161 (kV K E) 0 0 0 [some (.inr 134), some (.inr 1), some (.inl t), none, none] [] mem
  have l_43 : ∀ (N : Nat) (x3 : Int) (m_43 : MM), (0 ≤ x3) → ((40 - x3).toNat) < N → Frm pPl mem m_43 → Tx (Ex S (n + 3)) S M_161 (kV K E) 0 0 43 [some (.inr 134), some (.inr 1), some (.inl t), some (.inl x3), none] [] m_43 := by
    intro N
    induction N with
    | zero => intros; omega
    | succ N ih_43 =>
      intro x3 m_43 i43_0 hN_43 hF_43
      have l_51 : ∀ (N : Nat) (x4 : Int) (m_51 : MM), (0 ≤ x4) → (0 ≤ x3 ∧ x3 < t) → ((8 - x4).toNat) < N → Frm pPl mem m_51 → Tx (Ex S (n + 3)) S M_161 (kV K E) 0 0 51 [some (.inr 134), some (.inr 1), some (.inl t), some (.inl x3), some (.inl x4)] [] m_51 := by
        intro N
        induction N with
        | zero => intros; omega
        | succ N ih_51 =>
          intro x4 m_51 i51_0 i51_1 hN_51 hF_51
          refine Tx.iload hC te_161_51 rfl ?_
          refine Tx.aload_n hC te_161_53 rfl ?_
          refine Tx.getI hC te_161_54 rfl rfl rfl (fun v1 v1e v1i => ?_)
          unfold InI at v1i
          rw [hF_51 1 _ (by unfold pPl; omega)] at v1e
          refine Tx.icmp hC (t := 86) te_161_57 (by decide) (fun q2 => ?_) (fun q2 => ?_)
          · replace q2 : v1 ≤ (x4 : Int) := q2
            refine Tx.iincW hC te_161_86 rfl rfl (fun z3 z3i z3e => ?_)
            unfold InI at z3i z3e
            first | replace z3e := z3e (by omega) | clear z3e
            refine Tx.goto hC (t := 43) te_161_89 (by decide) ?_
            exact Tx.weak (by repeat' (first | exact trivial | exact rfl | constructor)) (ih_43 z3 m_51 (by omega) (by omega) hF_51)
          · replace q2 : ¬ (v1 ≤ (x4 : Int)) := q2
            refine Tx.aload_n hC te_161_60 rfl ?_
            refine Tx.getR hC te_161_61 rfl rfl rfl ?_
            refine Tx.iload hC te_161_64 rfl ?_
            refine Tx.bipush hC te_161_66 rfl rfl ?_
            refine Tx.imulW hC te_161_68 (fun z4 z4i z4e => ?_)
            unfold InI at z4i z4e
            first | replace z4e := z4e (by omega) | clear z4e
            refine Tx.iload_n hC te_161_69 rfl ?_
            refine Tx.iaddW hC te_161_70 (fun z5 z5i z5e => ?_)
            unfold InI at z5i z5e
            first | replace z5e := z5e (by omega) | clear z5e
            refine Tx.aload_n hC te_161_71 rfl ?_
            refine Tx.aload_n hC te_161_72 rfl ?_
            refine Tx.iload hC te_161_73 rfl ?_
            refine Tx.iload_n hC te_161_75 rfl ?_
            refine Tx.virtI hC te_161_76 mt_162 (args := [.inr 134, .inr 1, .inl x4, .inl x3]) (rest := [.inl z5, .inr 138]) (c' := 0) (s' := 0) rfl rfl rfl rfl rfl rfl rfl rfl rfl rfl ?_
            refine f_162 (hB.fr (fun A i a b => hF_51 A i (by unfold pPl; omega))) (by omega) (by omega) (fun r6 m7 hF8 r6i => ?_)
            have hF8n : Frm pPl mem m7 := hF_51.tr hF8
            unfold InI at r6i
            refine Tx.iast hC te_161_79 rfl (by omega) ?_
            have hF10 : Frm pPl mem (upm m7 138 (Int.toNat z5) r6) := Frm.up hF8n (by unfold pPl; omega)
            generalize upm m7 138 (Int.toNat z5) r6 = m9 at hF10 ⊢
            refine Tx.iincW hC te_161_80 rfl rfl (fun z11 z11i z11e => ?_)
            unfold InI at z11i z11e
            first | replace z11e := z11e (by omega) | clear z11e
            refine Tx.goto hC (t := 51) te_161_83 (by decide) ?_
            exact ih_51 z11 m9 (by omega) (by omega) (by omega) hF10
      refine Tx.iload_n hC te_161_43 rfl ?_
      refine Tx.iload_n hC te_161_44 rfl ?_
      refine Tx.icmp hC (t := 92) te_161_45 (by decide) (fun q12 => ?_) (fun q12 => ?_)
      · replace q12 : t ≤ (x3 : Int) := q12
        exact Tx.vret hC te_161_92 rfl (show K m_43 from H _ hF_43)
      · replace q12 : ¬ (t ≤ (x3 : Int)) := q12
        refine Tx.iconst hC te_161_48 rfl ?_
        refine Tx.istore hC te_161_49 rfl ?_
        exact l_51 _ 0 m_43 (by omega) (by omega) (Nat.lt_succ_self _) hF_43
  have l_2 : ∀ (N : Nat) (x3 : Int) (m_2 : MM), (0 ≤ x3) → ((64 - x3).toNat) < N → Frm pPl mem m_2 → Tx (Ex S (n + 3)) S M_161 (kV K E) 0 0 2 [some (.inr 134), some (.inr 1), some (.inl t), some (.inl x3), none] [] m_2 := by
    intro N
    induction N with
    | zero => intros; omega
    | succ N ih_2 =>
      intro x3 m_2 i2_0 hN_2 hF_2
      refine Tx.iload_n hC te_161_2 rfl ?_
      refine Tx.bipush hC te_161_3 rfl rfl ?_
      refine Tx.icmp hC (t := 41) te_161_5 (by decide) (fun q13 => ?_) (fun q13 => ?_)
      · replace q13 : 64 ≤ (x3 : Int) := q13
        refine Tx.iconst hC te_161_41 rfl ?_
        refine Tx.istore_n hC te_161_42 rfl ?_
        exact l_43 _ 0 m_2 (by omega) (Nat.lt_succ_self _) hF_2
      · replace q13 : ¬ (64 ≤ (x3 : Int)) := q13
        refine Tx.aload_n hC te_161_8 rfl ?_
        refine Tx.getR hC te_161_9 rfl rfl rfl ?_
        refine Tx.iconst hC te_161_12 rfl ?_
        refine Tx.aaldP hC te_161_13 (by omega) (fun R eR => ?_)
        have hR : shA R = some (.inl 64) := rowP eR (by omega)
        refine Tx.iload_n hC te_161_14 rfl ?_
        refine Tx.iconst hC te_161_15 rfl ?_
        refine Tx.iload_n hC te_161_16 rfl ?_
        refine Tx.imulW hC te_161_17 (fun z14 z14i z14e => ?_)
        unfold InI at z14i z14e
        first | replace z14e := z14e (by omega) | clear z14e
        refine Tx.iconst hC te_161_18 rfl ?_
        refine Tx.iaddW hC te_161_19 (fun z15 z15i z15e => ?_)
        unfold InI at z15i z15e
        first | replace z15e := z15e (by omega) | clear z15e
        refine Tx.iast hC te_161_20 hR (by omega) ?_
        have hF17 : Frm pPl mem (upm m_2 R (Int.toNat x3) z15) := Frm.up hF_2 (by unfold pPl; omega)
        generalize upm m_2 R (Int.toNat x3) z15 = m16 at hF17 ⊢
        refine Tx.aload_n hC te_161_21 rfl ?_
        refine Tx.getR hC te_161_22 rfl rfl rfl ?_
        refine Tx.iconst hC te_161_25 rfl ?_
        refine Tx.aaldP hC te_161_26 (by omega) (fun R eR => ?_)
        have hR : shA R = some (.inl 64) := rowP eR (by omega)
        refine Tx.iload_n hC te_161_27 rfl ?_
        refine Tx.bipush hC te_161_28 rfl rfl ?_
        refine Tx.iload_n hC te_161_30 rfl ?_
        refine Tx.imulW hC te_161_31 (fun z18 z18i z18e => ?_)
        unfold InI at z18i z18e
        first | replace z18e := z18e (by omega) | clear z18e
        refine Tx.iconst hC te_161_32 rfl ?_
        refine Tx.isubW hC te_161_33 (fun z19 z19i z19e => ?_)
        unfold InI at z19i z19e
        first | replace z19e := z19e (by omega) | clear z19e
        refine Tx.iast hC te_161_34 hR (by omega) ?_
        have hF21 : Frm pPl mem (upm m16 R (Int.toNat x3) z19) := Frm.up hF17 (by unfold pPl; omega)
        generalize upm m16 R (Int.toNat x3) z19 = m20 at hF21 ⊢
        refine Tx.iincW hC te_161_35 rfl rfl (fun z22 z22i z22e => ?_)
        unfold InI at z22i z22e
        first | replace z22e := z22e (by omega) | clear z22e
        refine Tx.goto hC (t := 2) te_161_38 (by decide) ?_
        exact ih_2 z22 m20 (by omega) (by omega) hF21
  refine Tx.iconst hC te_161_0 rfl ?_
  refine Tx.istore_n hC te_161_1 rfl ?_
  exact l_2 _ 0 mem (by omega) (Nat.lt_succ_self _) Frm.rf
theorem f_215 {S : Nat × (Nat → Int32)} {n : Nat} {mem : MM} {K : Int → MM → Prop} {E : Nat → MM → Prop} {Q : Nat} (hQ : ChSh Q) (hO : ChtOK mem Q) (hB : BodyOK mem) {t y z : Int} (H : ∀ r m', Frm pPa mem m' → K r m') : CQI (Ex S (n + 4)) 215 [.inr 141, .inr 1, .inr Q, .inl t, .inl y, .inl z] mem K E := by
  refine CY.of (k := 5) mt_215 rfl rfl (fun hv => ?_)
  have hC := Ex.mono S (n + 3)
  have ii_t : InI t := hv (.inl t) (by simp)
  unfold InI at ii_t
  have ii_y : InI y := hv (.inl y) (by simp)
  unfold InI at ii_y
  have ii_z : InI z := hv (.inl z) (by simp)
  unfold InI at ii_z
  clear hv
  have hq8 := hQ.rg
  have hQ1 := hO.1
  show Tx (Ex S (n + 3)) S M_215 (kI K E) 0 0 0 [some (.inr 141), some (.inr 1), some (.inr Q), some (.inl t), some (.inl y), some (.inl z), none, none, none, none, none] [] mem
  have l_31 : ∀ (N : Nat) (x6 x7 x8 : Int) (m_31 : MM), (0 ≤ x8) → (x6 ≤ 1024) → ((1024 - x8).toNat) < N → Frm pPa mem m_31 → Tx (Ex S (n + 3)) S M_215 (kI K E) 0 0 31 [some (.inr 141), some (.inr 1), some (.inr Q), some (.inl t), some (.inl y), some (.inl z), some (.inl x6), some (.inl x7), some (.inl x8), none, none] [] m_31 := by
    intro N
    induction N with
    | zero => intros; omega
    | succ N ih_31 =>
      intro x6 x7 x8 m_31 i31_0 i31_1 hN_31 hF_31
      have l_41 : ∀ (N : Nat) (x7 x9 : Int) (m_41 : MM), (0 ≤ x9) → (0 ≤ x8 ∧ x8 < x6) → (x6 ≤ 1024) → ((8 - x9).toNat) < N → Frm pPa mem m_41 → Tx (Ex S (n + 3)) S M_215 (kI K E) 0 0 41 [some (.inr 141), some (.inr 1), some (.inr Q), some (.inl t), some (.inl y), some (.inl z), some (.inl x6), some (.inl x7), some (.inl x8), some (.inl x9), none] [] m_41 := by
        intro N
        induction N with
        | zero => intros; omega
        | succ N ih_41 =>
          intro x7 x9 m_41 i41_0 i41_1 i41_2 hN_41 hF_41
          refine Tx.iload hC te_215_41 rfl ?_
          refine Tx.aload_n hC te_215_43 rfl ?_
          refine Tx.getI hC te_215_44 hQ.s0 rfl rfl (fun v1 v1e v1i => ?_)
          unfold InI at v1i
          rw [hF_41 Q _ (by unfold pPa; omega)] at v1e
          refine Tx.icmp hC (t := 93) te_215_47 (by decide) (fun q2 => ?_) (fun q2 => ?_)
          · replace q2 : v1 ≤ (x9 : Int) := q2
            refine Tx.aload_n hC te_215_93 rfl ?_
            refine Tx.getR hC te_215_94 rfl rfl rfl ?_
            refine Tx.iload hC te_215_97 rfl ?_
            refine Tx.iload hC te_215_99 rfl ?_
            refine Tx.iast hC te_215_101 rfl (by omega) ?_
            have hF4 : Frm pPa mem (upm m_41 142 (Int.toNat x8) x7) := Frm.up hF_41 (by unfold pPa; omega)
            generalize upm m_41 142 (Int.toNat x8) x7 = m3 at hF4 ⊢
            refine Tx.iincW hC te_215_102 rfl rfl (fun z5 z5i z5e => ?_)
            unfold InI at z5i z5e
            first | replace z5e := z5e (by omega) | clear z5e
            refine Tx.goto hC (t := 31) te_215_105 (by decide) ?_
            exact Tx.weak (by repeat' (first | exact trivial | exact rfl | constructor)) (ih_31 x6 x7 z5 m3 (by omega) (by omega) (by omega) hF4)
          · replace q2 : ¬ (v1 ≤ (x9 : Int)) := q2
            refine Tx.aload_n hC te_215_50 rfl ?_
            refine Tx.iload hC te_215_51 rfl ?_
            refine Tx.iload hC te_215_53 rfl ?_
            refine Tx.iload_n hC te_215_55 rfl ?_
            refine Tx.virtI hC te_215_56 mt_152 (args := [.inr Q, .inl x9, .inl x8, .inl t]) (rest := []) (c' := 0) (s' := 0) rfl rfl rfl rfl rfl rfl rfl rfl hQ.s0 rfl ?_
            refine f_152 hQ (hO.fr (fun A i a b => hF_41 A i (by unfold pPa; omega))) (by omega) (fun r6 r6i => ?_)
            unfold InI at r6i
            refine Tx.istore hC te_215_59 rfl ?_
            refine Tx.iload hC te_215_61 rfl ?_
            refine Tx.iconst hC te_215_63 rfl ?_
            refine Tx.icmp hC (t := 87) te_215_64 (by decide) (fun q9 => ?_) (fun q9 => ?_)
            · replace q9 : (r6 : Int) = (-1) := q9
              refine Tx.iincW hC te_215_87 rfl rfl (fun z10 z10i z10e => ?_)
              unfold InI at z10i z10e
              first | replace z10e := z10e (by omega) | clear z10e
              refine Tx.goto hC (t := 41) te_215_90 (by decide) ?_
              exact Tx.weak (by repeat' (first | exact trivial | exact rfl | constructor)) (ih_41 x7 z10 m_41 (by omega) (by omega) (by omega) (by omega) hF_41)
            · replace q9 : ¬ ((r6 : Int) = (-1)) := q9
              refine Tx.iload hC te_215_67 rfl ?_
              refine Tx.aload_n hC te_215_69 rfl ?_
              refine Tx.aload_n hC te_215_70 rfl ?_
              refine Tx.aload_n hC te_215_71 rfl ?_
              refine Tx.iload hC te_215_72 rfl ?_
              refine Tx.iload hC te_215_74 rfl ?_
              refine Tx.virtI hC te_215_76 mt_216 (args := [.inr 141, .inr 1, .inr Q, .inl x9, .inl r6]) (rest := [.inl x7]) (c' := 0) (s' := 0) rfl rfl rfl rfl rfl rfl rfl rfl rfl rfl ?_
              refine f_216 hQ (hO.fr (fun A i a b => hF_41 A i (by unfold pPa; omega))) (hB.fr (fun A i a b => hF_41 A i (by unfold pPa; omega))) (by omega) (fun r11 r11i => ?_)
              unfold InI at r11i
              refine Tx.iload hC te_215_79 rfl ?_
              refine Tx.isubW hC te_215_81 (fun z14 z14i z14e => ?_)
              unfold InI at z14i z14e
              first | replace z14e := z14e (by omega) | clear z14e
              refine Tx.statI hC te_215_82 (by decide) mt_40 (args := [.inl x7, .inl z14]) (rest := []) (c' := 0) (s' := 0) rfl rfl rfl rfl rfl rfl rfl ?_
              refine f_40q (fun r15 r15a r15b r15c r15i => ?_)
              unfold InI at r15i
              refine Tx.istore hC te_215_85 rfl ?_
              refine Tx.iincW hC te_215_87 rfl rfl (fun z18 z18i z18e => ?_)
              unfold InI at z18i z18e
              first | replace z18e := z18e (by omega) | clear z18e
              refine Tx.goto hC (t := 41) te_215_90 (by decide) ?_
              exact Tx.weak (by repeat' (first | exact trivial | exact rfl | constructor)) (ih_41 r15 z18 m_41 (by omega) (by omega) (by omega) (by omega) hF_41)
      refine Tx.iload hC te_215_31 rfl ?_
      refine Tx.iload hC te_215_33 rfl ?_
      refine Tx.icmp hC (t := 108) te_215_35 (by decide) (fun q19 => ?_) (fun q19 => ?_)
      · replace q19 : x6 ≤ (x8 : Int) := q19
        refine Tx.iload hC te_215_108 rfl ?_
        exact Tx.ireturn hC te_215_110 rfl (fun hr => show K x7 m_31 from H _ _ hF_31)
      · replace q19 : ¬ (x6 ≤ (x8 : Int)) := q19
        refine Tx.iconst hC te_215_38 rfl ?_
        refine Tx.istore hC te_215_39 rfl ?_
        exact l_41 _ x7 0 m_31 (by omega) (by omega) (by omega) (Nat.lt_succ_self _) hF_31
  refine Tx.aload_n hC te_215_0 rfl ?_
  refine Tx.iload hC te_215_1 rfl ?_
  refine Tx.putI hC te_215_3 rfl rfl rfl rfl ?_
  have hF21 : Frm pPa mem (upm mem 141 1 y) := Frm.up Frm.rf (by unfold pPa; omega)
  generalize upm mem 141 1 y = m20 at hF21 ⊢
  refine Tx.aload_n hC te_215_6 rfl ?_
  refine Tx.iload hC te_215_7 rfl ?_
  refine Tx.putI hC te_215_9 rfl rfl rfl rfl ?_
  have hF23 : Frm pPa mem (upm m20 141 2 z) := Frm.up hF21 (by unfold pPa; omega)
  generalize upm m20 141 2 z = m22 at hF23 ⊢
  refine Tx.sipush hC te_215_12 rfl rfl ?_
  refine Tx.aload_n hC te_215_15 rfl ?_
  refine Tx.iload_n hC te_215_16 rfl ?_
  refine Tx.virtI hC te_215_17 mt_155 (args := [.inr Q, .inl t]) (rest := [.inl 1024]) (c' := 0) (s' := 0) rfl rfl rfl rfl rfl rfl rfl rfl hQ.s0 rfl ?_
  refine f_155 hQ (fun r24 r24i => ?_)
  unfold InI at r24i
  refine Tx.statI hC te_215_20 (by decide) mt_29 (args := [.inl 1024, .inl r24]) (rest := []) (c' := 0) (s' := 0) rfl rfl rfl rfl rfl rfl rfl ?_
  refine f_29q (fun r27 r27a r27b r27c r27i => ?_)
  unfold InI at r27i
  refine Tx.istore hC te_215_23 rfl ?_
  refine Tx.iconst hC te_215_25 rfl ?_
  refine Tx.istore hC te_215_26 rfl ?_
  refine Tx.iconst hC te_215_28 rfl ?_
  refine Tx.istore hC te_215_29 rfl ?_
  exact l_31 _ r27 0 0 m22 (by omega) (by omega) (Nat.lt_succ_self _) hF23
/-! the machine by hand with longs (what they hold doesn't matter) -/
abbrev XV : Type := WV ⊕ Int64
def xv : XV → Value
  | .inl v => wv v
  | .inr l => .long l
def xOK : XV → Prop
  | .inl v => vOK v
  | .inr _ => True
def LkX (lv : LV) (L : List (Option XV)) : Prop := ∀ i v, L[i]? = some (some v) → px_g lv i = some (xv v) ∧ xOK v
def isLg : Option (Option XV) → Bool
  | some (some (.inr _)) => true
  | _ => false
def noLg (L : List (Option XV)) (i : Nat) : Bool := match i with
  | 0 => true
  | j + 1 => !isLg L[j]?
def QLg (h0 : PH) (K : MM → Prop) : Rs → PH → Prop := fun r h => ∃ (l : Int64) (mem : MM), r = .inl (some (.long l)) ∧ RH h0 h mem ∧ K mem
def Lx (C : CXW) (S : Nat × (Nat → Int32)) (M : PM) (Q : PH → Rs → PH → Prop) (pc : Nat) (L : List (Option XV)) (st : List XV) (mem : MM) : Prop := ∀ (h0 : PH) (lv : LV) (h : PH), RA h0 → LkX lv L → (∀ v ∈ st, xOK v) → RH h0 h mem → Vx C S M [] (Q h0) pc lv (st.map xv) h 0 0
theorem nl_cat {L : List (Option XV)} {i j : Nat} {u : XV} (h : noLg L i = true) (hj : j + 1 = i) (hu : L[j]? = some (some u)) : (xv u).category = 1 := by
  subst hj
  replace h : (!isLg L[j]?) = true := h
  rw [hu] at h
  cases u with
  | inl v => exact wv_cat v
  | inr l => exact absurd h (by simp [isLg])
theorem LkX.set {lv : LV} {L : List (Option XV)} (h : LkX lv L) {i : Nat} {v : WV} (hv : vOK v) (hn : noLg L i = true) : LkX (px_s1 lv i (wv v)) (L.set i (some (.inl v))) := by
  intro j u hu
  by_cases hij : i = j
  · subst hij
    rw [List.getElem?_set] at hu
    simp only [if_true] at hu
    split at hu
    · cases hu; exact ⟨pg_self _ _ _, hv⟩
    · cases hu
  · rw [List.getElem?_set_ne hij] at hu
    obtain ⟨h1, h2⟩ := h j u hu
    exact ⟨pg_ne2 (fun q => hij q.symm) h1 (fun q => nl_cat hn q hu), h2⟩
theorem LkX.setL {lv : LV} {L : List (Option XV)} (h : LkX lv L) {i : Nat} {l : Int64} (hn : noLg L i = true) : LkX (px_s2 lv i (.long l)) ((L.set i (some (.inr l))).set (i + 1) none) := by
  intro j u hu
  by_cases hj1 : i + 1 = j
  · subst hj1
    rw [List.getElem?_set] at hu
    simp only [if_true] at hu
    split at hu <;> cases hu
  · rw [List.getElem?_set_ne hj1] at hu
    by_cases hij : i = j
    · subst hij
      rw [List.getElem?_set] at hu
      simp only [if_true] at hu
      split at hu
      · cases hu; exact ⟨pg_self2 _ _ _, trivial⟩
      · cases hu
    · rw [List.getElem?_set_ne hij] at hu
      obtain ⟨h1, h2⟩ := h j u hu
      exact ⟨pg_ne3 (fun q => hij q.symm) (fun q => hj1 q.symm) h1 (fun q => nl_cat hn q hu), h2⟩
theorem Tx.ofL {C : CXW} {S : Nat × (Nat → Int32)} {M : PM} {K : TK} {pc : Nat} {L : List (Option WV)} {mem : MM} (H : Lx C S M (fun h0 => QX h0 K) pc (L.map (Option.map Sum.inl)) [] mem) : Tx C S M K 0 0 pc L [] mem := fun h0 lv h h9 h1 _ h3 => H h0 lv h h9 (fun i v hv => by
  rw [List.getElem?_map] at hv
  cases e : L[i]? with
  | none => rw [e] at hv; cases hv
  | some o =>
    rw [e] at hv
    cases o with
    | none => cases hv
    | some w => cases hv; exact h1 i w e) (fun v hv => by cases hv) h3
section LX
variable {C : CXW} {S : Nat × (Nat → Int32)} {M : PM} {Q : PH → Rs → PH → Prop} {pc : Nat} {L : List (Option XV)} {st : List XV} {mem : MM}
theorem Lx.go (hC : Cmono C) {te : TE} (ht : (pT M).find? (fun e => e.1 == pc) = some te) (H : ∀ (h0 : PH) (lv : LV) (h : PH), RA h0 → LkX lv L → (∀ v ∈ st, xOK v) → RH h0 h mem → pmI C S M [] (Q h0) (Vx C S M [] (Q h0)) te lv (st.map xv) h 0 0) : Lx C S M Q pc L st mem := fun h0 lv h h9 h1 h2 h3 => Vx.go hC ht (H h0 lv h h9 h1 h2 h3)
theorem xtc {v : XV} (hv : xOK v) (hs : ∀ u ∈ st, xOK u) : ∀ u ∈ v :: st, xOK u := by
  intro u hu
  rcases List.mem_cons.mp hu with rfl | hu
  · exact hv
  · exact hs u hu
theorem xt1 {v : XV} (h : ∀ u ∈ v :: st, xOK u) : ∀ u ∈ st, xOK u := fun u hu => h u (List.mem_cons_of_mem _ hu)
theorem Lx.iconst (hC : Cmono C) {z : Int} {a b : Nat} (ht : (pT M).find? (fun e => e.1 == pc) = some (pc, .iconst z, a, b)) (hz : inI z z = true) (H : Lx C S M Q (pc + 1) L (.inl (.inl z) :: st) mem) : Lx C S M Q pc L st mem :=
  Lx.go hC ht fun h0 lv h h9 h1 h2 h3 => H h0 lv h h9 h1 (xtc (inI_iff.mp hz) h2) h3
theorem Lx.lconst (hC : Cmono C) {a b : Nat} {k : _root_.Fin 2} (ht : (pT M).find? (fun e => e.1 == pc) = some (pc, .lconst k, a, b)) (H : ∀ l, Lx C S M Q (pc + 1) L (.inr l :: st) mem) : Lx C S M Q pc L st mem :=
  Lx.go hC ht fun h0 lv h h9 h1 h2 h3 => H (Int64.ofNat k.val) h0 lv h h9 h1 (xtc trivial h2) h3
theorem Lx.iload (hC : Cmono C) {i a b : Nat} {x : Int} (ht : (pT M).find? (fun e => e.1 == pc) = some (pc, .iload i, a, b)) (hl : L[i]? = some (some (.inl (.inl x)))) (H : Lx C S M Q (pc + 2) L (.inl (.inl x) :: st) mem) : Lx C S M Q pc L st mem :=
  Lx.go hC ht fun h0 lv h h9 h1 h2 h3 => ⟨_, (h1 i _ hl).1, H h0 lv h h9 h1 (xtc (h1 i _ hl).2 h2) h3⟩
theorem Lx.iload_n (hC : Cmono C) {i : _root_.Fin 4} {a b : Nat} {x : Int} (ht : (pT M).find? (fun e => e.1 == pc) = some (pc, .iload_n i, a, b)) (hl : L[i.val]? = some (some (.inl (.inl x)))) (H : Lx C S M Q (pc + 1) L (.inl (.inl x) :: st) mem) : Lx C S M Q pc L st mem :=
  Lx.go hC ht fun h0 lv h h9 h1 h2 h3 => ⟨_, (h1 i _ hl).1, H h0 lv h h9 h1 (xtc (h1 i _ hl).2 h2) h3⟩
theorem Lx.aload_n (hC : Cmono C) {i : _root_.Fin 4} {a b A : Nat} (ht : (pT M).find? (fun e => e.1 == pc) = some (pc, .aload_n i, a, b)) (hl : L[i.val]? = some (some (.inl (.inr A)))) (H : Lx C S M Q (pc + 1) L (.inl (.inr A) :: st) mem) : Lx C S M Q pc L st mem :=
  Lx.go hC ht fun h0 lv h h9 h1 h2 h3 => ⟨_, (h1 i _ hl).1, ⟨A, Or.inl rfl⟩, H h0 lv h h9 h1 (xtc trivial h2) h3⟩
theorem Lx.lload (hC : Cmono C) {i a b : Nat} {l : Int64} (ht : (pT M).find? (fun e => e.1 == pc) = some (pc, .lload i, a, b)) (hl : L[i]? = some (some (.inr l))) (H : Lx C S M Q (pc + 2) L (.inr l :: st) mem) : Lx C S M Q pc L st mem :=
  Lx.go hC ht fun h0 lv h h9 h1 h2 h3 => ⟨_, (h1 i _ hl).1, H h0 lv h h9 h1 (xtc trivial h2) h3⟩
theorem Lx.istore (hC : Cmono C) {i a b : Nat} {x : Int} (ht : (pT M).find? (fun e => e.1 == pc) = some (pc, .istore i, a, b)) (hi : Nat.blt i (pL M) = true) (hn : noLg L i = true) (H : Lx C S M Q (pc + 2) (L.set i (some (.inl (.inl x)))) st mem) : Lx C S M Q pc L (.inl (.inl x) :: st) mem :=
  Lx.go hC ht fun h0 lv h h9 h1 h2 h3 => ⟨blt_iff.mp hi, H h0 _ h h9 (h1.set (h2 _ List.mem_cons_self) hn) (xt1 h2) h3⟩
theorem Lx.lstore (hC : Cmono C) {i a b : Nat} {l : Int64} (ht : (pT M).find? (fun e => e.1 == pc) = some (pc, .lstore i, a, b)) (hi : Nat.blt (i + 1) (pL M) = true) (hn : noLg L i = true) (H : Lx C S M Q (pc + 2) ((L.set i (some (.inr l))).set (i + 1) none) st mem) : Lx C S M Q pc L (.inr l :: st) mem :=
  Lx.go hC ht fun h0 lv h h9 h1 h2 h3 => ⟨blt_iff.mp hi, l, st.map xv, rfl, H h0 _ h h9 (h1.setL hn) (xt1 h2) h3⟩
theorem Lx.iincW (hC : Cmono C) {i a b : Nat} {z x : Int} (ht : (pT M).find? (fun e => e.1 == pc) = some (pc, .iinc i z, a, b)) (hi : Nat.blt i (pL M) = true) (hl : L[i]? = some (some (.inl (.inl x)))) (hn : noLg L i = true) (H : ∀ y, InI y → (InI (x + z) → y = x + z) → Lx C S M Q (pc + 3) (L.set i (some (.inl (.inl y)))) st mem) : Lx C S M Q pc L st mem :=
  Lx.go hC ht fun h0 lv h h9 h1 h2 h3 => ⟨blt_iff.mp hi, _, (h1 i _ hl).1, by
    have := H (Int32.ofInt x + Int32.ofInt z).toInt (wiI _) (fun q => by rw [← Int32.ofInt_add, wi q]) h0 _ h h9 (h1.set (i := i) (v := .inl (Int32.ofInt x + Int32.ofInt z).toInt) (wiI _) hn) h2 h3
    rw [show wv (.inl (Int32.ofInt x + Int32.ofInt z).toInt) = .int (Int32.ofInt x + Int32.ofInt z) from by show Value.int (Int32.ofInt _) = _; rw [Int32.ofInt_toInt]] at this
    exact this⟩
theorem Lx.binW (hC : Cmono C) {ins : Instr} {a b : Nat} {x y : Int} (f : Int32 → Int32 → Int32) (ht : (pT M).find? (fun e => e.1 == pc) = some (pc, ins, a, b)) (hi : ∀ h0 lv r h, pmI C S M [] (Q h0) (Vx C S M [] (Q h0)) (pc, ins, a, b) lv (.int (Int32.ofInt y) :: .int (Int32.ofInt x) :: r) h 0 0 ↔ Vx C S M [] (Q h0) (pc + 1) lv (.int (f (Int32.ofInt x) (Int32.ofInt y)) :: r) h 0 0) (H : ∀ z, InI z → z = (f (Int32.ofInt x) (Int32.ofInt y)).toInt → Lx C S M Q (pc + 1) L (.inl (.inl z) :: st) mem) : Lx C S M Q pc L (.inl (.inl y) :: .inl (.inl x) :: st) mem :=
  Lx.go hC ht fun h0 lv h h9 h1 h2 h3 => by
    have := H (f (Int32.ofInt x) (Int32.ofInt y)).toInt (wiI _) rfl h0 lv h h9 h1 (xtc (wiI _) (xt1 (xt1 h2))) h3
    rw [List.map_cons, show xv (.inl (.inl (f (Int32.ofInt x) (Int32.ofInt y)).toInt)) = .int (f (Int32.ofInt x) (Int32.ofInt y)) from by show Value.int (Int32.ofInt _) = _; rw [Int32.ofInt_toInt]] at this
    exact (hi h0 lv _ h).mpr this
theorem Lx.iaddW (hC : Cmono C) {a b : Nat} {x y : Int} (ht : (pT M).find? (fun e => e.1 == pc) = some (pc, .iadd, a, b)) (H : ∀ z, InI z → (InI (x + y) → z = x + y) → Lx C S M Q (pc + 1) L (.inl (.inl z) :: st) mem) : Lx C S M Q pc L (.inl (.inl y) :: .inl (.inl x) :: st) mem := Lx.binW hC (fun x y => x + y) ht (fun _ _ _ _ => Iff.rfl) (fun z h1 h2 => H z h1 (fun q => by rw [h2, ← Int32.ofInt_add, wi q]))
theorem Lx.isubW (hC : Cmono C) {a b : Nat} {x y : Int} (ht : (pT M).find? (fun e => e.1 == pc) = some (pc, .isub, a, b)) (H : ∀ z, InI z → (InI (x - y) → z = x - y) → Lx C S M Q (pc + 1) L (.inl (.inl z) :: st) mem) : Lx C S M Q pc L (.inl (.inl y) :: .inl (.inl x) :: st) mem := Lx.binW hC (fun x y => x - y) ht (fun _ _ _ _ => Iff.rfl) (fun z h1 h2 => H z h1 (fun q => by rw [h2, ← Int32.ofInt_sub, wi q]))
theorem Lx.imulW (hC : Cmono C) {a b : Nat} {x y : Int} (ht : (pT M).find? (fun e => e.1 == pc) = some (pc, .imul, a, b)) (H : ∀ z, InI z → (InI (x * y) → z = x * y) → Lx C S M Q (pc + 1) L (.inl (.inl z) :: st) mem) : Lx C S M Q pc L (.inl (.inl y) :: .inl (.inl x) :: st) mem := Lx.binW hC (fun x y => x * y) ht (fun _ _ _ _ => Iff.rfl) (fun z h1 h2 => H z h1 (fun q => by rw [h2, ← Int32.ofInt_mul, wi q]))
theorem Lx.lor (hC : Cmono C) {a b : Nat} {x y : Int64} (ht : (pT M).find? (fun e => e.1 == pc) = some (pc, .lor, a, b)) (H : ∀ l, Lx C S M Q (pc + 1) L (.inr l :: st) mem) : Lx C S M Q pc L (.inr y :: .inr x :: st) mem :=
  Lx.go hC ht fun h0 lv h h9 h1 h2 h3 => H (x ||| y) h0 lv h h9 h1 (xtc trivial (xt1 (xt1 h2))) h3
theorem Lx.land (hC : Cmono C) {a b : Nat} {x y : Int64} (ht : (pT M).find? (fun e => e.1 == pc) = some (pc, .land, a, b)) (H : ∀ l, Lx C S M Q (pc + 1) L (.inr l :: st) mem) : Lx C S M Q pc L (.inr y :: .inr x :: st) mem :=
  Lx.go hC ht fun h0 lv h h9 h1 h2 h3 => H (x &&& y) h0 lv h h9 h1 (xtc trivial (xt1 (xt1 h2))) h3
theorem Lx.lshl (hC : Cmono C) {a b : Nat} {x : Int64} {y : Int} (ht : (pT M).find? (fun e => e.1 == pc) = some (pc, .lshl, a, b)) (H : ∀ l, Lx C S M Q (pc + 1) L (.inr l :: st) mem) : Lx C S M Q pc L (.inl (.inl y) :: .inr x :: st) mem :=
  Lx.go hC ht fun h0 lv h h9 h1 h2 h3 => H (x <<< ((Int32.ofInt y).toInt64 &&& 63)) h0 lv h h9 h1 (xtc trivial (xt1 (xt1 h2))) h3
theorem Lx.lcmp (hC : Cmono C) {a b : Nat} {x y : Int64} (ht : (pT M).find? (fun e => e.1 == pc) = some (pc, .lcmp, a, b)) (H : ∀ z, InI z → Lx C S M Q (pc + 1) L (.inl (.inl z) :: st) mem) : Lx C S M Q pc L (.inr y :: .inr x :: st) mem :=
  Lx.go hC ht fun h0 lv h h9 h1 h2 h3 => by
    have := H (lg_cmp x y).toInt (wiI _) h0 lv h h9 h1 (xtc (wiI _) (xt1 (xt1 h2))) h3
    rw [List.map_cons, show xv (.inl (.inl (lg_cmp x y).toInt)) = .int (lg_cmp x y) from by show Value.int (Int32.ofInt _) = _; rw [Int32.ofInt_toInt]] at this
    exact this
theorem Lx.goto (hC : Cmono C) {a b t : Nat} {z : Int} (ht : (pT M).find? (fun e => e.1 == pc) = some (pc, .goto z, a, b)) (hz : (pc : Int) + z = t) (H : Lx C S M Q t L st mem) : Lx C S M Q pc L st mem :=
  Lx.go hC ht fun h0 lv h h9 h1 h2 h3 => ⟨by show 0 ≤ (pc : Int) + z; omega, by
    show Vx C S M [] (Q h0) ((pc : Int) + z).toNat _ _ _ _ _
    rw [show ((pc : Int) + z).toNat = t by omega]; exact H h0 lv h h9 h1 h2 h3⟩
theorem Lx.ifc (hC : Cmono C) {cc : ClassFile.Cond} {a b t : Nat} {z x : Int} (ht : (pT M).find? (fun e => e.1 == pc) = some (pc, .ifCond cc z, a, b)) (hz : (pc : Int) + z = t) (H1 : ccZ cc x 0 → Lx C S M Q t L st mem) (H2 : ¬ ccZ cc x 0 → Lx C S M Q (pc + 3) L st mem) : Lx C S M Q pc L (.inl (.inl x) :: st) mem :=
  Lx.go hC ht fun h0 lv h h9 h1 h2 h3 => by
    have hx := wi (h2 _ List.mem_cons_self)
    have hst := xt1 h2
    have e : ccI cc (Int32.ofInt x) 0 ↔ ccZ cc x 0 := by rw [ccI_iff, hx]; exact Iff.rfl
    refine ⟨by show 0 ≤ (pc : Int) + z; omega, fun q => ?_, fun q => ?_⟩
    · show Vx C S M [] (Q h0) ((pc : Int) + z).toNat _ _ _ _ _
      rw [show ((pc : Int) + z).toNat = t by omega]; exact H1 (e.mp q) h0 lv h h9 h1 hst h3
    · exact H2 (fun w => q (e.mpr w)) h0 lv h h9 h1 hst h3
theorem Lx.icmp (hC : Cmono C) {cc : ClassFile.Cond} {a b t : Nat} {z x y : Int} (ht : (pT M).find? (fun e => e.1 == pc) = some (pc, .if_icmp cc z, a, b)) (hz : (pc : Int) + z = t) (H1 : ccZ cc x y → Lx C S M Q t L st mem) (H2 : ¬ ccZ cc x y → Lx C S M Q (pc + 3) L st mem) : Lx C S M Q pc L (.inl (.inl y) :: .inl (.inl x) :: st) mem :=
  Lx.go hC ht fun h0 lv h h9 h1 h2 h3 => by
    have hy := wi (h2 _ List.mem_cons_self)
    have hx := wi (h2 _ (List.mem_cons_of_mem _ List.mem_cons_self))
    have hst := xt1 (xt1 h2)
    have e : ccI cc (Int32.ofInt x) (Int32.ofInt y) ↔ ccZ cc x y := by rw [ccI_iff, hx, hy]
    refine ⟨by show 0 ≤ (pc : Int) + z; omega, fun q => ?_, fun q => ?_⟩
    · show Vx C S M [] (Q h0) ((pc : Int) + z).toNat _ _ _ _ _
      rw [show ((pc : Int) + z).toNat = t by omega]; exact H1 (e.mp q) h0 lv h h9 h1 hst h3
    · exact H2 (fun w => q (e.mpr w)) h0 lv h h9 h1 hst h3
theorem Lx.iald (hC : Cmono C) {a b A n : Nat} {i : Int} (ht : (pT M).find? (fun e => e.1 == pc) = some (pc, .iaload, a, b)) (hA : shA A = some (.inl n)) (hi : 0 ≤ i ∧ i < n) (H : ∀ v, v = mem A i.toNat → InI v → Lx C S M Q (pc + 1) L (.inl (.inl v) :: st) mem) : Lx C S M Q pc L (.inl (.inl i) :: .inl (.inr A) :: st) mem :=
  Lx.go hC ht fun h0 lv h h9 h1 h2 h3 => by
    obtain ⟨g, e1, e2⟩ := h3.row hA
    have hI : InI i := h2 _ List.mem_cons_self
    have hv : InI (mem A i.toNat) := h3.rowI hA _
    show p_iald S h (.int (Int32.ofInt i) :: .ref A :: st.map xv) fun st => Vx C S M [] (Q h0) (pc + 1) lv st h 0 0
    refine iald_mk e1 (vp_in_iff.mpr (by rw [wi hI]; exact hi)) ?_
    rw [clampN hI hi.1, show g i.toNat = Int32.ofInt (mem A i.toNat) from ofI_eq (e2 _).symm]
    exact H _ rfl hv h0 lv h h9 h1 (xtc hv (xt1 (xt1 h2))) h3
theorem Lx.getI (hC : Cmono C) {p A ci f : Nat} {fs : List (Option Nat)} (ht : (pT M).find? (fun e => e.1 == pc) = some (pc, .getfield p, ci, f)) (hA : shA A = some (.inr (ci, fs))) (hf : fs[f]? = some none) (hn : Nat.blt f (fnum ci) = true) (H : ∀ v, v = mem A f → InI v → Lx C S M Q (pc + 3) L (.inl (.inl v) :: st) mem) : Lx C S M Q pc L (.inl (.inr A) :: st) mem :=
  Lx.go hC ht fun h0 lv h h9 h1 h2 h3 => by
    obtain ⟨gs, e1, -, e2⟩ := h3.obj hA
    have e3 := e2 f
    rw [hf] at e3
    obtain ⟨z, e4, e5⟩ := e3
    have hv : InI (mem A f) := h3.fldI hA hf
    show p_get h ci f (.ref A :: st.map xv) fun st => Vx C S M [] (Q h0) (pc + 3) lv st h 0 0
    refine get_mk (v := .int z) e1 (blt_iff.mp hn) e4 ?_
    rw [show z = Int32.ofInt (mem A f) from ofI_eq e5.symm]
    exact H _ rfl hv h0 lv h h9 h1 (xtc hv (xt1 h2)) h3
theorem Lx.getR (hC : Cmono C) {p A B ci f : Nat} {fs : List (Option Nat)} (ht : (pT M).find? (fun e => e.1 == pc) = some (pc, .getfield p, ci, f)) (hA : shA A = some (.inr (ci, fs))) (hf : fs[f]? = some (some B)) (hn : Nat.blt f (fnum ci) = true) (H : Lx C S M Q (pc + 3) L (.inl (.inr B) :: st) mem) : Lx C S M Q pc L (.inl (.inr A) :: st) mem :=
  Lx.go hC ht fun h0 lv h h9 h1 h2 h3 => by
    obtain ⟨gs, e1, -, e2⟩ := h3.obj hA
    have e3 := e2 f
    rw [hf] at e3
    show p_get h ci f (.ref A :: st.map xv) fun st => Vx C S M [] (Q h0) (pc + 3) lv st h 0 0
    exact get_mk (v := .ref B) e1 (blt_iff.mp hn) e3 (H h0 lv h h9 h1 (xtc trivial (xt1 h2)) h3)
theorem Lx.lret (hC : Cmono C) {a b : Nat} {l : Int64} {K : MM → Prop} (ht : (pT M).find? (fun e => e.1 == pc) = some (pc, .lreturn, a, b)) (hR : pR M = some .long) (H : K mem) : Lx C S M (fun h0 => QLg h0 K) pc L [.inr l] mem :=
  Lx.go hC ht fun h0 lv h h9 h1 h2 h3 => ⟨l, rfl, hR, l, mem, rfl, h3, H⟩
theorem Lx.ireturn (hC : Cmono C) {a b : Nat} {x : Int} {K : TK} (ht : (pT M).find? (fun e => e.1 == pc) = some (pc, .ireturn, a, b)) (hR : pR M = some .int) (H : InI x → K (.inl (some (.inl x))) mem) : Lx C S M (fun h0 => QX h0 K) pc L [.inl (.inl x)] mem :=
  Lx.go hC ht fun h0 lv h h9 h1 h2 h3 => ⟨_, rfl, ⟨_, hR, rfl⟩, .inl (some (.inl x)), mem, rfl, h2 (.inl (.inl x)) List.mem_cons_self, h3, H (h2 (.inl (.inl x)) List.mem_cons_self)⟩
theorem cats2 : ∀ (l : List XV), ((l.map xv).map Value.category).sum ≤ 2 * l.length
  | [] => Nat.le_refl _
  | v :: l => by
    rw [List.map_cons, List.map_cons, List.sum_cons, List.length_cons]
    have := cats2 l
    have : (xv v).category ≤ 2 := by
      cases v with
      | inl w => rw [show xv (.inl w) = wv w from rfl, wv_cat]; omega
      | inr l => exact Nat.le_refl _
    omega
theorem Lx.call (hC : Cmono C) {N : PM} {μ : Nat} {virt : Bool} {args : List WV} {rest : List XV} {Q2 : Rs → PH → Prop} (hN : MT[μ]? = some N) (hl : args.length = pN N) (hr : Nat.ble rest.length 4 = true) (hc : pC N = 0) (hs : pS N = 0) (hv : virt = true → ∃ A ci fs, args[0]? = some (.inr A) ∧ shA A = some (.inr (ci, fs)) ∧ ci = pO N) {h0 : PH} {lv : LV} {h : PH} (H : C μ (args.map wv) h Q2) (h2 : ∀ v ∈ args, vOK v) (h3 : RH h0 h mem) (Hk : ∀ r h', Q2 r h' → p_back M [] (Q h0) (Vx C S M [] (Q h0)) pc lv (rest.map xv) 0 0 r h') : p_call C M [] (Q h0) (Vx C S M [] (Q h0)) pc μ virt lv (args.reverse.map wv ++ rest.map xv) h 0 0 := by
  unfold p_call
  rw [hN]
  have el : (args.reverse.map wv).length = pN N := by simp [hl]
  have e1 : (args.reverse.map wv ++ rest.map xv).take (pN N) = args.reverse.map wv := by rw [← el, List.take_left]
  have e2 : (args.reverse.map wv ++ rest.map xv).drop (pN N) = rest.map xv := by rw [← el, List.drop_left]
  simp only [e1, e2]
  have hr2 := Nat.le_of_ble_eq_true hr
  refine ⟨by simp [hl], by have := cats2 rest; omega, by omega, by omega, ?_, ?_⟩
  · intro q
    obtain ⟨A, ci, fs, g1, g2, g3⟩ := hv q
    obtain ⟨gs, g4, -⟩ := h3.obj g2
    refine ⟨A, gs, ?_, by rw [← g3]; exact g4⟩
    rw [List.getLast?_eq_head?_reverse, ← List.map_reverse, List.reverse_reverse, List.head?_eq_getElem?, List.getElem?_map, g1]
    rfl
  · rw [← List.map_reverse, List.reverse_reverse, hc, hs]
    exact hC _ _ _ _ _ Hk H
/-- a call for a number -/
theorem Lx.statI (hC : Cmono C) {p μ b : Nat} {N : PM} {args : List WV} {rest : List XV} (ht : (pT M).find? (fun e => e.1 == pc) = some (pc, .invokestatic p, μ, b)) (hb : b ≠ 7) (hN : MT[μ]? = some N) (hst : st = args.reverse.map Sum.inl ++ rest) (hl : args.length = pN N) (hr : Nat.ble rest.length 4 = true) (hc : pC N = 0) (hs : pS N = 0) (H : CQI C μ args mem (fun y m => InI y → Lx C S M Q (pc + 3) L (.inl (.inl y) :: rest) m) (fun _ _ => False)) : Lx C S M Q pc L st mem := by
  subst hst
  refine Lx.go hC ht fun h0 lv h h9 h1 h2 h3 => Or.inr ⟨hb, ?_⟩
  have ha : ∀ v ∈ args, vOK v := fun v hv => h2 (.inl v) (List.mem_append_left _ (List.mem_map.mpr ⟨v, List.mem_reverse.mpr hv, rfl⟩))
  have := Lx.call (Q := Q) (S := S) (pc := pc) (M := M) (lv := lv) (rest := rest) hC (virt := false) hN hl hr hc hs (fun q => by cases q) (H ha h0 h h9 h3) ha h3 (fun r h' ⟨x, m, e1, e2, e3, e4⟩ => by
    subst e1
    cases x with
    | inr e => exact False.elim e4
    | inl o => cases o with
      | none => exact False.elim e4
      | some v => cases v with
        | inr A => exact False.elim e4
        | inl y => exact e4 e2 h0 lv h' h9 h1 (xtc e2 (fun u hu => h2 u (List.mem_append_right _ hu))) e3)
  rw [List.map_append, List.map_map]
  exact this
/-- a call for a long -/
theorem Lx.virtL (hC : Cmono C) {p μ b ci A : Nat} {N : PM} {args : List WV} {rest : List XV} {fs : List (Option Nat)} (ht : (pT M).find? (fun e => e.1 == pc) = some (pc, .invokevirtual p, μ, b)) (hN : MT[μ]? = some N) (hst : st = args.reverse.map Sum.inl ++ rest) (hl : args.length = pN N) (hr : Nat.ble rest.length 4 = true) (hc : pC N = 0) (hs : pS N = 0) (ha0 : args[0]? = some (.inr A)) (hA : shA A = some (.inr (ci, fs))) (ho : ci = pO N) (H : (∀ v ∈ args, vOK v) → ∀ h0 h, RA h0 → RH h0 h mem → C μ (args.map wv) h (QLg h0 fun m => ∀ l, Lx C S M Q (pc + 3) L (.inr l :: rest) m)) : Lx C S M Q pc L st mem := by
  subst hst
  refine Lx.go hC ht fun h0 lv h h9 h1 h2 h3 => ?_
  have ha : ∀ v ∈ args, vOK v := fun v hv => h2 (.inl v) (List.mem_append_left _ (List.mem_map.mpr ⟨v, List.mem_reverse.mpr hv, rfl⟩))
  have := Lx.call (Q := Q) (S := S) (pc := pc) (M := M) (lv := lv) (rest := rest) hC (virt := true) hN hl hr hc hs (fun _ => ⟨A, ci, fs, ha0, hA, ho⟩) (H ha h0 h h9 h3) ha h3 (fun r h' ⟨l, m, e1, e2, e3⟩ => by
    subst e1
    exact e3 l h0 lv h' h9 h1 (xtc trivial (fun u hu => h2 u (List.mem_append_right _ hu))) e2)
  show p_call C M [] (Q h0) (Vx C S M [] (Q h0)) pc μ true lv _ h 0 0
  rw [List.map_append, List.map_map]
  exact this
end LX
def CQL (C : CXW) (μ : Nat) (args : List WV) (mem : MM) (K : MM → Prop) : Prop := (∀ v ∈ args, vOK v) → ∀ h0 h, RA h0 → RH h0 h mem → C μ (args.map wv) h (QLg h0 K)
theorem CQL.of {S : Nat × (Nat → Int32)} {n μ : Nat} {M : PM} {args : List WV} {mem : MM} {K : MM → Prop} (hM : MT[μ]? = some M) (hk : (pK M == 3) = false) (hl : Nat.ble args.length (pL M) = true) {k : Nat} (H : (∀ v ∈ args, vOK v) → Lx (Ex S n) S M (fun h0 => QLg h0 K) 0 (args.map (fun v => some (Sum.inl v)) ++ List.replicate k none) [] mem) : CQL (Ex S (n + 1)) μ args mem K := by
  intro ha h0 h h9 hh
  refine ⟨M, hM, by rw [cats1]; exact Nat.le_of_ble_eq_true hl, ?_⟩
  rw [if_neg (by simpa using hk)]
  refine H ha h0 _ h h9 ?_ (fun v hv => by cases hv) hh
  intro i v hv
  have hv : (args.map (fun v => some (Sum.inl v)))[i]? = some (some v) := by
    rw [List.getElem?_append] at hv
    split at hv
    · exact hv
    · rw [List.getElem?_replicate] at hv
      split at hv <;> cases hv
  rw [List.getElem?_map] at hv
  cases hv2 : args[i]? with
  | none => rw [hv2] at hv; cases hv
  | some u =>
    rw [hv2] at hv
    have hv : (Sum.inl u : XV) = v := by cases hv; rfl
    subst hv
    refine ⟨?_, ha _ (List.mem_of_getElem? hv2)⟩
    have := pg_args (l := args.map wv) (k := 0) (i := i) (w := wv u) (fun w hw => by obtain ⟨z, -, rfl⟩ := List.mem_map.mp hw; exact wv_cat z) (by rw [List.getElem?_map, hv2]; rfl)
    rwa [Nat.zero_add] at this
/-! laid by wip/hand/tg.py: files that turn -/
def p140 (A _i : Nat) : Prop := A = 140
set_option maxRecDepth 100000 in
theorem mt_179 : MT[179]? = some M_179 := rfl
set_option maxRecDepth 100000 in
theorem mt_180 : MT[180]? = some M_180 := rfl
set_option maxRecDepth 100000 in
theorem mt_181 : MT[181]? = some M_181 := rfl
theorem te_179_0 : (pT M_179).find? (fun e => e.1 == 0) = some (0, .iconst 1, 0, 0) := rfl
theorem te_179_1 : (pT M_179).find? (fun e => e.1 == 1) = some (1, .istore_n 3, 0, 0) := rfl
theorem te_179_2 : (pT M_179).find? (fun e => e.1 == 2) = some (2, .iconst 0, 0, 0) := rfl
theorem te_179_3 : (pT M_179).find? (fun e => e.1 == 3) = some (3, .istore 4, 0, 0) := rfl
theorem te_179_5 : (pT M_179).find? (fun e => e.1 == 5) = some (5, .iload 4, 0, 0) := rfl
theorem te_179_7 : (pT M_179).find? (fun e => e.1 == 7) = some (7, .aload_n 1, 0, 0) := rfl
theorem te_179_8 : (pT M_179).find? (fun e => e.1 == 8) = some (8, .getfield 15, 1, 2) := rfl
theorem te_179_11 : (pT M_179).find? (fun e => e.1 == 11) = some (11, .if_icmp .ge 63, 0, 0) := rfl
theorem te_179_14 : (pT M_179).find? (fun e => e.1 == 14) = some (14, .aload_n 0, 0, 0) := rfl
theorem te_179_15 : (pT M_179).find? (fun e => e.1 == 15) = some (15, .getfield 9, 8, 0) := rfl
theorem te_179_18 : (pT M_179).find? (fun e => e.1 == 18) = some (18, .iload 4, 0, 0) := rfl
theorem te_179_20 : (pT M_179).find? (fun e => e.1 == 20) = some (20, .iconst (-1), 0, 0) := rfl
theorem te_179_21 : (pT M_179).find? (fun e => e.1 == 21) = some (21, .iastore, 0, 0) := rfl
theorem te_179_22 : (pT M_179).find? (fun e => e.1 == 22) = some (22, .iload_n 3, 0, 0) := rfl
theorem te_179_23 : (pT M_179).find? (fun e => e.1 == 23) = some (23, .ifCond .eq 45, 0, 0) := rfl
theorem te_179_26 : (pT M_179).find? (fun e => e.1 == 26) = some (26, .aload_n 1, 0, 0) := rfl
theorem te_179_27 : (pT M_179).find? (fun e => e.1 == 27) = some (27, .getfield 21, 1, 11) := rfl
theorem te_179_30 : (pT M_179).find? (fun e => e.1 == 30) = some (30, .iload 4, 0, 0) := rfl
theorem te_179_32 : (pT M_179).find? (fun e => e.1 == 32) = some (32, .iaload, 0, 0) := rfl
theorem te_179_33 : (pT M_179).find? (fun e => e.1 == 33) = some (33, .ifCond .le 35, 0, 0) := rfl
theorem te_179_36 : (pT M_179).find? (fun e => e.1 == 36) = some (36, .aload_n 0, 0, 0) := rfl
theorem te_179_37 : (pT M_179).find? (fun e => e.1 == 37) = some (37, .getfield 9, 8, 0) := rfl
theorem te_179_40 : (pT M_179).find? (fun e => e.1 == 40) = some (40, .iload 4, 0, 0) := rfl
theorem te_179_42 : (pT M_179).find? (fun e => e.1 == 42) = some (42, .aload_n 0, 0, 0) := rfl
theorem te_179_43 : (pT M_179).find? (fun e => e.1 == 43) = some (43, .aload_n 1, 0, 0) := rfl
theorem te_179_44 : (pT M_179).find? (fun e => e.1 == 44) = some (44, .iload 4, 0, 0) := rfl
theorem te_179_46 : (pT M_179).find? (fun e => e.1 == 46) = some (46, .iload_n 2, 0, 0) := rfl
theorem te_179_47 : (pT M_179).find? (fun e => e.1 == 47) = some (47, .invokevirtual 24, 180, 0) := rfl
theorem te_179_50 : (pT M_179).find? (fun e => e.1 == 50) = some (50, .iastore, 0, 0) := rfl
theorem te_179_51 : (pT M_179).find? (fun e => e.1 == 51) = some (51, .aload_n 0, 0, 0) := rfl
theorem te_179_52 : (pT M_179).find? (fun e => e.1 == 52) = some (52, .getfield 9, 8, 0) := rfl
theorem te_179_55 : (pT M_179).find? (fun e => e.1 == 55) = some (55, .iload 4, 0, 0) := rfl
theorem te_179_57 : (pT M_179).find? (fun e => e.1 == 57) = some (57, .iaload, 0, 0) := rfl
theorem te_179_58 : (pT M_179).find? (fun e => e.1 == 58) = some (58, .iconst (-1), 0, 0) := rfl
theorem te_179_59 : (pT M_179).find? (fun e => e.1 == 59) = some (59, .if_icmp .eq 7, 0, 0) := rfl
theorem te_179_62 : (pT M_179).find? (fun e => e.1 == 62) = some (62, .iconst 1, 0, 0) := rfl
theorem te_179_63 : (pT M_179).find? (fun e => e.1 == 63) = some (63, .goto 4, 0, 0) := rfl
theorem te_179_66 : (pT M_179).find? (fun e => e.1 == 66) = some (66, .iconst 0, 0, 0) := rfl
theorem te_179_67 : (pT M_179).find? (fun e => e.1 == 67) = some (67, .istore_n 3, 0, 0) := rfl
theorem te_179_68 : (pT M_179).find? (fun e => e.1 == 68) = some (68, .iinc 4 1, 0, 0) := rfl
theorem te_179_71 : (pT M_179).find? (fun e => e.1 == 71) = some (71, .goto (-66), 0, 0) := rfl
theorem te_179_74 : (pT M_179).find? (fun e => e.1 == 74) = some (74, .iload_n 3, 0, 0) := rfl
theorem te_179_75 : (pT M_179).find? (fun e => e.1 == 75) = some (75, .ireturn, 0, 0) := rfl
theorem te_180_0 : (pT M_180).find? (fun e => e.1 == 0) = some (0, .aload_n 1, 0, 0) := rfl
theorem te_180_1 : (pT M_180).find? (fun e => e.1 == 1) = some (1, .getfield 21, 1, 11) := rfl
theorem te_180_4 : (pT M_180).find? (fun e => e.1 == 4) = some (4, .iload_n 2, 0, 0) := rfl
theorem te_180_5 : (pT M_180).find? (fun e => e.1 == 5) = some (5, .iaload, 0, 0) := rfl
theorem te_180_6 : (pT M_180).find? (fun e => e.1 == 6) = some (6, .aload_n 1, 0, 0) := rfl
theorem te_180_7 : (pT M_180).find? (fun e => e.1 == 7) = some (7, .getfield 28, 1, 3) := rfl
theorem te_180_10 : (pT M_180).find? (fun e => e.1 == 10) = some (10, .iload_n 3, 0, 0) := rfl
theorem te_180_11 : (pT M_180).find? (fun e => e.1 == 11) = some (11, .imul, 0, 0) := rfl
theorem te_180_12 : (pT M_180).find? (fun e => e.1 == 12) = some (12, .if_icmp .le 5, 0, 0) := rfl
theorem te_180_15 : (pT M_180).find? (fun e => e.1 == 15) = some (15, .iconst (-1), 0, 0) := rfl
theorem te_180_16 : (pT M_180).find? (fun e => e.1 == 16) = some (16, .ireturn, 0, 0) := rfl
theorem te_180_17 : (pT M_180).find? (fun e => e.1 == 17) = some (17, .lconst 0, 0, 0) := rfl
theorem te_180_18 : (pT M_180).find? (fun e => e.1 == 18) = some (18, .lstore 4, 0, 0) := rfl
theorem te_180_20 : (pT M_180).find? (fun e => e.1 == 20) = some (20, .iconst 0, 0, 0) := rfl
theorem te_180_21 : (pT M_180).find? (fun e => e.1 == 21) = some (21, .istore 6, 0, 0) := rfl
theorem te_180_23 : (pT M_180).find? (fun e => e.1 == 23) = some (23, .iload 6, 0, 0) := rfl
theorem te_180_25 : (pT M_180).find? (fun e => e.1 == 25) = some (25, .iload_n 2, 0, 0) := rfl
theorem te_180_26 : (pT M_180).find? (fun e => e.1 == 26) = some (26, .if_icmp .ge 33, 0, 0) := rfl
theorem te_180_29 : (pT M_180).find? (fun e => e.1 == 29) = some (29, .aload_n 1, 0, 0) := rfl
theorem te_180_30 : (pT M_180).find? (fun e => e.1 == 30) = some (30, .getfield 21, 1, 11) := rfl
theorem te_180_33 : (pT M_180).find? (fun e => e.1 == 33) = some (33, .iload 6, 0, 0) := rfl
theorem te_180_35 : (pT M_180).find? (fun e => e.1 == 35) = some (35, .iaload, 0, 0) := rfl
theorem te_180_36 : (pT M_180).find? (fun e => e.1 == 36) = some (36, .ifCond .le 17, 0, 0) := rfl
theorem te_180_39 : (pT M_180).find? (fun e => e.1 == 39) = some (39, .lload 4, 0, 0) := rfl
theorem te_180_41 : (pT M_180).find? (fun e => e.1 == 41) = some (41, .aload_n 0, 0, 0) := rfl
theorem te_180_42 : (pT M_180).find? (fun e => e.1 == 42) = some (42, .aload_n 1, 0, 0) := rfl
theorem te_180_43 : (pT M_180).find? (fun e => e.1 == 43) = some (43, .iload 6, 0, 0) := rfl
theorem te_180_45 : (pT M_180).find? (fun e => e.1 == 45) = some (45, .iload_n 2, 0, 0) := rfl
theorem te_180_46 : (pT M_180).find? (fun e => e.1 == 46) = some (46, .iload_n 3, 0, 0) := rfl
theorem te_180_47 : (pT M_180).find? (fun e => e.1 == 47) = some (47, .invokevirtual 31, 181, 0) := rfl
theorem te_180_50 : (pT M_180).find? (fun e => e.1 == 50) = some (50, .lor, 0, 0) := rfl
theorem te_180_51 : (pT M_180).find? (fun e => e.1 == 51) = some (51, .lstore 4, 0, 0) := rfl
theorem te_180_53 : (pT M_180).find? (fun e => e.1 == 53) = some (53, .iinc 6 1, 0, 0) := rfl
theorem te_180_56 : (pT M_180).find? (fun e => e.1 == 56) = some (56, .goto (-33), 0, 0) := rfl
theorem te_180_59 : (pT M_180).find? (fun e => e.1 == 59) = some (59, .iconst 0, 0, 0) := rfl
theorem te_180_60 : (pT M_180).find? (fun e => e.1 == 60) = some (60, .istore 6, 0, 0) := rfl
theorem te_180_62 : (pT M_180).find? (fun e => e.1 == 62) = some (62, .iload 6, 0, 0) := rfl
theorem te_180_64 : (pT M_180).find? (fun e => e.1 == 64) = some (64, .iload_n 3, 0, 0) := rfl
theorem te_180_65 : (pT M_180).find? (fun e => e.1 == 65) = some (65, .if_icmp .ge 24, 0, 0) := rfl
theorem te_180_68 : (pT M_180).find? (fun e => e.1 == 68) = some (68, .lload 4, 0, 0) := rfl
theorem te_180_70 : (pT M_180).find? (fun e => e.1 == 70) = some (70, .lconst 1, 0, 0) := rfl
theorem te_180_71 : (pT M_180).find? (fun e => e.1 == 71) = some (71, .iload 6, 0, 0) := rfl
theorem te_180_73 : (pT M_180).find? (fun e => e.1 == 73) = some (73, .lshl, 0, 0) := rfl
theorem te_180_74 : (pT M_180).find? (fun e => e.1 == 74) = some (74, .land, 0, 0) := rfl
theorem te_180_75 : (pT M_180).find? (fun e => e.1 == 75) = some (75, .lconst 0, 0, 0) := rfl
theorem te_180_76 : (pT M_180).find? (fun e => e.1 == 76) = some (76, .lcmp, 0, 0) := rfl
theorem te_180_77 : (pT M_180).find? (fun e => e.1 == 77) = some (77, .ifCond .ne 6, 0, 0) := rfl
theorem te_180_80 : (pT M_180).find? (fun e => e.1 == 80) = some (80, .iload 6, 0, 0) := rfl
theorem te_180_82 : (pT M_180).find? (fun e => e.1 == 82) = some (82, .ireturn, 0, 0) := rfl
theorem te_180_83 : (pT M_180).find? (fun e => e.1 == 83) = some (83, .iinc 6 1, 0, 0) := rfl
theorem te_180_86 : (pT M_180).find? (fun e => e.1 == 86) = some (86, .goto (-24), 0, 0) := rfl
theorem te_180_89 : (pT M_180).find? (fun e => e.1 == 89) = some (89, .iconst (-1), 0, 0) := rfl
theorem te_180_90 : (pT M_180).find? (fun e => e.1 == 90) = some (90, .ireturn, 0, 0) := rfl
theorem te_181_0 : (pT M_181).find? (fun e => e.1 == 0) = some (0, .aload_n 1, 0, 0) := rfl
theorem te_181_1 : (pT M_181).find? (fun e => e.1 == 1) = some (1, .getfield 35, 1, 10) := rfl
theorem te_181_4 : (pT M_181).find? (fun e => e.1 == 4) = some (4, .iload_n 2, 0, 0) := rfl
theorem te_181_5 : (pT M_181).find? (fun e => e.1 == 5) = some (5, .iaload, 0, 0) := rfl
theorem te_181_6 : (pT M_181).find? (fun e => e.1 == 6) = some (6, .aload_n 1, 0, 0) := rfl
theorem te_181_7 : (pT M_181).find? (fun e => e.1 == 7) = some (7, .getfield 35, 1, 10) := rfl
theorem te_181_10 : (pT M_181).find? (fun e => e.1 == 10) = some (10, .iload_n 3, 0, 0) := rfl
theorem te_181_11 : (pT M_181).find? (fun e => e.1 == 11) = some (11, .iaload, 0, 0) := rfl
theorem te_181_12 : (pT M_181).find? (fun e => e.1 == 12) = some (12, .isub, 0, 0) := rfl
theorem te_181_13 : (pT M_181).find? (fun e => e.1 == 13) = some (13, .istore 5, 0, 0) := rfl
theorem te_181_15 : (pT M_181).find? (fun e => e.1 == 15) = some (15, .iload 5, 0, 0) := rfl
theorem te_181_17 : (pT M_181).find? (fun e => e.1 == 17) = some (17, .aload_n 1, 0, 0) := rfl
theorem te_181_18 : (pT M_181).find? (fun e => e.1 == 18) = some (18, .getfield 21, 1, 11) := rfl
theorem te_181_21 : (pT M_181).find? (fun e => e.1 == 21) = some (21, .iload_n 3, 0, 0) := rfl
theorem te_181_22 : (pT M_181).find? (fun e => e.1 == 22) = some (22, .iaload, 0, 0) := rfl
theorem te_181_23 : (pT M_181).find? (fun e => e.1 == 23) = some (23, .isub, 0, 0) := rfl
theorem te_181_24 : (pT M_181).find? (fun e => e.1 == 24) = some (24, .iconst 1, 0, 0) := rfl
theorem te_181_25 : (pT M_181).find? (fun e => e.1 == 25) = some (25, .iadd, 0, 0) := rfl
theorem te_181_26 : (pT M_181).find? (fun e => e.1 == 26) = some (26, .aload_n 1, 0, 0) := rfl
theorem te_181_27 : (pT M_181).find? (fun e => e.1 == 27) = some (27, .getfield 28, 1, 3) := rfl
theorem te_181_30 : (pT M_181).find? (fun e => e.1 == 30) = some (30, .invokestatic 38, 33, 3) := rfl
theorem te_181_33 : (pT M_181).find? (fun e => e.1 == 33) = some (33, .istore 6, 0, 0) := rfl
theorem te_181_35 : (pT M_181).find? (fun e => e.1 == 35) = some (35, .iload 5, 0, 0) := rfl
theorem te_181_37 : (pT M_181).find? (fun e => e.1 == 37) = some (37, .aload_n 1, 0, 0) := rfl
theorem te_181_38 : (pT M_181).find? (fun e => e.1 == 38) = some (38, .getfield 21, 1, 11) := rfl
theorem te_181_41 : (pT M_181).find? (fun e => e.1 == 41) = some (41, .iload_n 2, 0, 0) := rfl
theorem te_181_42 : (pT M_181).find? (fun e => e.1 == 42) = some (42, .iaload, 0, 0) := rfl
theorem te_181_43 : (pT M_181).find? (fun e => e.1 == 43) = some (43, .iadd, 0, 0) := rfl
theorem te_181_44 : (pT M_181).find? (fun e => e.1 == 44) = some (44, .iconst 1, 0, 0) := rfl
theorem te_181_45 : (pT M_181).find? (fun e => e.1 == 45) = some (45, .isub, 0, 0) := rfl
theorem te_181_46 : (pT M_181).find? (fun e => e.1 == 46) = some (46, .aload_n 1, 0, 0) := rfl
theorem te_181_47 : (pT M_181).find? (fun e => e.1 == 47) = some (47, .getfield 28, 1, 3) := rfl
theorem te_181_50 : (pT M_181).find? (fun e => e.1 == 50) = some (50, .invokestatic 42, 34, 2) := rfl
theorem te_181_53 : (pT M_181).find? (fun e => e.1 == 53) = some (53, .istore 7, 0, 0) := rfl
theorem te_181_55 : (pT M_181).find? (fun e => e.1 == 55) = some (55, .lconst 0, 0, 0) := rfl
theorem te_181_56 : (pT M_181).find? (fun e => e.1 == 56) = some (56, .lstore 8, 0, 0) := rfl
theorem te_181_58 : (pT M_181).find? (fun e => e.1 == 58) = some (58, .iload 6, 0, 0) := rfl
theorem te_181_60 : (pT M_181).find? (fun e => e.1 == 60) = some (60, .istore 10, 0, 0) := rfl
theorem te_181_62 : (pT M_181).find? (fun e => e.1 == 62) = some (62, .iload 10, 0, 0) := rfl
theorem te_181_64 : (pT M_181).find? (fun e => e.1 == 64) = some (64, .iload 7, 0, 0) := rfl
theorem te_181_66 : (pT M_181).find? (fun e => e.1 == 66) = some (66, .if_icmp .gt 40, 0, 0) := rfl
theorem te_181_69 : (pT M_181).find? (fun e => e.1 == 69) = some (69, .iload 10, 0, 0) := rfl
theorem te_181_71 : (pT M_181).find? (fun e => e.1 == 71) = some (71, .iload 6, 0, 0) := rfl
theorem te_181_73 : (pT M_181).find? (fun e => e.1 == 73) = some (73, .iload 4, 0, 0) := rfl
theorem te_181_75 : (pT M_181).find? (fun e => e.1 == 75) = some (75, .iadd, 0, 0) := rfl
theorem te_181_76 : (pT M_181).find? (fun e => e.1 == 76) = some (76, .if_icmp .ge 30, 0, 0) := rfl
theorem te_181_79 : (pT M_181).find? (fun e => e.1 == 79) = some (79, .lload 8, 0, 0) := rfl
theorem te_181_81 : (pT M_181).find? (fun e => e.1 == 81) = some (81, .lconst 1, 0, 0) := rfl
theorem te_181_82 : (pT M_181).find? (fun e => e.1 == 82) = some (82, .aload_n 0, 0, 0) := rfl
theorem te_181_83 : (pT M_181).find? (fun e => e.1 == 83) = some (83, .getfield 9, 8, 0) := rfl
theorem te_181_86 : (pT M_181).find? (fun e => e.1 == 86) = some (86, .iload_n 2, 0, 0) := rfl
theorem te_181_87 : (pT M_181).find? (fun e => e.1 == 87) = some (87, .iaload, 0, 0) := rfl
theorem te_181_88 : (pT M_181).find? (fun e => e.1 == 88) = some (88, .iload 10, 0, 0) := rfl
theorem te_181_90 : (pT M_181).find? (fun e => e.1 == 90) = some (90, .iadd, 0, 0) := rfl
theorem te_181_91 : (pT M_181).find? (fun e => e.1 == 91) = some (91, .iload 4, 0, 0) := rfl
theorem te_181_93 : (pT M_181).find? (fun e => e.1 == 93) = some (93, .invokestatic 47, 94, 2) := rfl
theorem te_181_96 : (pT M_181).find? (fun e => e.1 == 96) = some (96, .lshl, 0, 0) := rfl
theorem te_181_97 : (pT M_181).find? (fun e => e.1 == 97) = some (97, .lor, 0, 0) := rfl
theorem te_181_98 : (pT M_181).find? (fun e => e.1 == 98) = some (98, .lstore 8, 0, 0) := rfl
theorem te_181_100 : (pT M_181).find? (fun e => e.1 == 100) = some (100, .iinc 10 1, 0, 0) := rfl
theorem te_181_103 : (pT M_181).find? (fun e => e.1 == 103) = some (103, .goto (-41), 0, 0) := rfl
theorem te_181_106 : (pT M_181).find? (fun e => e.1 == 106) = some (106, .lload 8, 0, 0) := rfl
theorem te_181_108 : (pT M_181).find? (fun e => e.1 == 108) = some (108, .lreturn, 0, 0) := rfl
theorem f_181 {S : Nat × (Nat → Int32)} {n : Nat} {mem : MM} {K : MM → Prop} {Q : Nat} (hQ : ChSh Q) (hO : ChtOK mem Q) {p o r : Int} (hp : 0 ≤ p ∧ p < 8) (ho : 0 ≤ o ∧ o < 8) (hr : 1 ≤ r ∧ r ≤ 40) (H : K mem) : CQL (Ex S (n + 3)) 181 [.inr 139, .inr Q, .inl p, .inl o, .inl r] mem K := by
  refine CQL.of (k := 6) mt_181 rfl rfl (fun hv => ?_)
  have hC := Ex.mono S (n + 2)
  have ii_p : InI p := hv (.inl p) (by simp)
  unfold InI at ii_p
  have ii_o : InI o := hv (.inl o) (by simp)
  unfold InI at ii_o
  have ii_r : InI r := hv (.inl r) (by simp)
  unfold InI at ii_r
  clear hv
  have hQ1 := hO.1
  show Lx (Ex S (n + 2)) S M_181 (fun h0 => QLg h0 K) 0 [some (.inl (.inr 139)), some (.inl (.inr Q)), some (.inl (.inl p)), some (.inl (.inl o)), some (.inl (.inl r)), none, none, none, none, none, none] [] mem
  have l_62 : ∀ (N : Nat) (x5 x6 x7 x10 : Int) (x8 : Int64), (-2147483648 ≤ x6 ∧ x6 ≤ x10) → (x10 ≤ 2147483647) → ((x6 + r - x10).toNat) < N → Lx (Ex S (n + 2)) S M_181 (fun h0 => QLg h0 K) 62 [some (.inl (.inr 139)), some (.inl (.inr Q)), some (.inl (.inl p)), some (.inl (.inl o)), some (.inl (.inl r)), some (.inl (.inl x5)), some (.inl (.inl x6)), some (.inl (.inl x7)), some (.inr x8), none, some (.inl (.inl x10))] [] mem := by
    intro N
    induction N with
    | zero => intros; omega
    | succ N ih_62 =>
      intro x5 x6 x7 x10 x8 i62_0 i62_1 hN_62 
      refine Lx.iload hC te_181_62 rfl ?_
      refine Lx.iload hC te_181_64 rfl ?_
      refine Lx.icmp hC (t := 106) te_181_66 (by decide) (fun q1 => ?_) (fun q1 => ?_)
      · replace q1 : x7 < (x10 : Int) := q1
        refine Lx.lload hC te_181_106 rfl ?_
        exact Lx.lret hC te_181_108 rfl (show K mem from H)
      · replace q1 : ¬ (x7 < (x10 : Int)) := q1
        refine Lx.iload hC te_181_69 rfl ?_
        refine Lx.iload hC te_181_71 rfl ?_
        refine Lx.iload hC te_181_73 rfl ?_
        refine Lx.iaddW hC te_181_75 (fun z2 z2i z2e => ?_)
        unfold InI at z2i z2e
        refine Lx.icmp hC (t := 106) te_181_76 (by decide) (fun q3 => ?_) (fun q3 => ?_)
        · replace q3 : z2 ≤ (x10 : Int) := q3
          refine Lx.lload hC te_181_106 rfl ?_
          exact Lx.lret hC te_181_108 rfl (show K mem from H)
        · replace q3 : ¬ (z2 ≤ (x10 : Int)) := q3
          refine Lx.lload hC te_181_79 rfl ?_
          refine Lx.lconst hC te_181_81 (fun l4 => ?_)
          refine Lx.aload_n hC te_181_82 rfl ?_
          refine Lx.getR hC te_181_83 rfl rfl rfl ?_
          refine Lx.iload_n hC te_181_86 rfl ?_
          refine Lx.iald hC te_181_87 rfl (by omega) (fun v5 v5e v5i => ?_)
          unfold InI at v5i
          refine Lx.iload hC te_181_88 rfl ?_
          refine Lx.iaddW hC te_181_90 (fun z6 z6i z6e => ?_)
          unfold InI at z6i z6e
          first | replace z6e := z6e (by omega) | clear z6e
          refine Lx.iload hC te_181_91 rfl ?_
          refine Lx.statI hC te_181_93 (by decide) mt_94 (args := [.inl z6, .inl r]) (rest := [.inr l4, .inr x8]) rfl rfl rfl rfl rfl ?_
          refine f_94 (by omega) (fun r7 r7a r7b r7i => ?_)
          unfold InI at r7i
          refine Lx.lshl hC te_181_96 (fun l10 => ?_)
          refine Lx.lor hC te_181_97 (fun l11 => ?_)
          refine Lx.lstore hC te_181_98 rfl rfl ?_
          refine Lx.iincW hC te_181_100 rfl rfl rfl (fun z12 z12i z12e => ?_)
          unfold InI at z12i z12e
          first | replace z12e := z12e (by omega) | clear z12e
          refine Lx.goto hC (t := 62) te_181_103 (by decide) ?_
          exact ih_62 x5 x6 x7 z12 l11 (by omega) (by omega) (by omega)
  refine Lx.aload_n hC te_181_0 rfl ?_
  refine Lx.getR hC te_181_1 hQ.s0 rfl rfl ?_
  refine Lx.iload_n hC te_181_4 rfl ?_
  refine Lx.iald hC te_181_5 hQ.s3 (by omega) (fun v13 v13e v13i => ?_)
  unfold InI at v13i
  have f14 := hO.2 (Int.toNat p) (by omega)
  refine Lx.aload_n hC te_181_6 rfl ?_
  refine Lx.getR hC te_181_7 hQ.s0 rfl rfl ?_
  refine Lx.iload_n hC te_181_10 rfl ?_
  refine Lx.iald hC te_181_11 hQ.s3 (by omega) (fun v15 v15e v15i => ?_)
  unfold InI at v15i
  have f16 := hO.2 (Int.toNat o) (by omega)
  refine Lx.isubW hC te_181_12 (fun z17 z17i z17e => ?_)
  unfold InI at z17i z17e
  first | replace z17e := z17e (by omega) | clear z17e
  refine Lx.istore hC te_181_13 rfl rfl ?_
  refine Lx.iload hC te_181_15 rfl ?_
  refine Lx.aload_n hC te_181_17 rfl ?_
  refine Lx.getR hC te_181_18 hQ.s0 rfl rfl ?_
  refine Lx.iload_n hC te_181_21 rfl ?_
  refine Lx.iald hC te_181_22 hQ.s4 (by omega) (fun v18 v18e v18i => ?_)
  unfold InI at v18i
  refine Lx.isubW hC te_181_23 (fun z19 z19i z19e => ?_)
  unfold InI at z19i z19e
  first | replace z19e := z19e (by omega) | clear z19e
  refine Lx.iconst hC te_181_24 rfl ?_
  refine Lx.iaddW hC te_181_25 (fun z20 z20i z20e => ?_)
  unfold InI at z20i z20e
  first | replace z20e := z20e (by omega) | clear z20e
  refine Lx.aload_n hC te_181_26 rfl ?_
  refine Lx.getI hC te_181_27 hQ.s0 rfl rfl (fun v21 v21e v21i => ?_)
  unfold InI at v21i
  refine Lx.statI hC te_181_30 (by decide) mt_33 (args := [.inl z20, .inl v21]) (rest := []) rfl rfl rfl rfl rfl ?_
  refine f_33 (fun r22 r22f r22i => ?_)
  unfold InI at r22i
  refine Lx.istore hC te_181_33 rfl rfl ?_
  refine Lx.iload hC te_181_35 rfl ?_
  refine Lx.aload_n hC te_181_37 rfl ?_
  refine Lx.getR hC te_181_38 hQ.s0 rfl rfl ?_
  refine Lx.iload_n hC te_181_41 rfl ?_
  refine Lx.iald hC te_181_42 hQ.s4 (by omega) (fun v25 v25e v25i => ?_)
  unfold InI at v25i
  refine Lx.iaddW hC te_181_43 (fun z26 z26i z26e => ?_)
  unfold InI at z26i z26e
  first | replace z26e := z26e (by omega) | clear z26e
  refine Lx.iconst hC te_181_44 rfl ?_
  refine Lx.isubW hC te_181_45 (fun z27 z27i z27e => ?_)
  unfold InI at z27i z27e
  first | replace z27e := z27e (by omega) | clear z27e
  refine Lx.aload_n hC te_181_46 rfl ?_
  refine Lx.getI hC te_181_47 hQ.s0 rfl rfl (fun v28 v28e v28i => ?_)
  unfold InI at v28i
  refine Lx.statI hC te_181_50 (by decide) mt_34 (args := [.inl z27, .inl v28]) (rest := []) rfl rfl rfl rfl rfl ?_
  refine f_34 (by omega) (fun r29 r29a r29b r29i => ?_)
  unfold InI at r29i
  refine Lx.istore hC te_181_53 rfl rfl ?_
  refine Lx.lconst hC te_181_55 (fun l32 => ?_)
  refine Lx.lstore hC te_181_56 rfl rfl ?_
  refine Lx.iload hC te_181_58 rfl ?_
  refine Lx.istore hC te_181_60 rfl rfl ?_
  exact l_62 _ z17 r22 r29 r22 l32 (by omega) (by omega) (Nat.lt_succ_self _)
theorem f_180 {S : Nat × (Nat → Int32)} {n : Nat} {mem : MM} {K : Int → MM → Prop} {E : Nat → MM → Prop} {Q : Nat} (hQ : ChSh Q) (hO : ChtOK mem Q) {o r : Int} (ho : 0 ≤ o ∧ o < 8) (hr : 1 ≤ r ∧ r ≤ 40) (H : ∀ r, K r mem) : CQI (Ex S (n + 4)) 180 [.inr 139, .inr Q, .inl o, .inl r] mem K E := by
  refine CY.of (k := 3) mt_180 rfl rfl (fun hv => ?_)
  have hC := Ex.mono S (n + 3)
  have ii_o : InI o := hv (.inl o) (by simp)
  unfold InI at ii_o
  have ii_r : InI r := hv (.inl r) (by simp)
  unfold InI at ii_r
  clear hv
  have hQ1 := hO.1
  refine Tx.ofL ?_
  show Lx (Ex S (n + 3)) S M_180 (fun h0 => QX h0 (kI K E)) 0 [some (.inl (.inr 139)), some (.inl (.inr Q)), some (.inl (.inl o)), some (.inl (.inl r)), none, none, none] [] mem
  have l_62 : ∀ (N : Nat) (x6 : Int) (x4 : Int64), (0 ≤ x6) → ((40 - x6).toNat) < N → Lx (Ex S (n + 3)) S M_180 (fun h0 => QX h0 (kI K E)) 62 [some (.inl (.inr 139)), some (.inl (.inr Q)), some (.inl (.inl o)), some (.inl (.inl r)), some (.inr x4), none, some (.inl (.inl x6))] [] mem := by
    intro N
    induction N with
    | zero => intros; omega
    | succ N ih_62 =>
      intro x6 x4 i62_0 hN_62 
      refine Lx.iload hC te_180_62 rfl ?_
      refine Lx.iload_n hC te_180_64 rfl ?_
      refine Lx.icmp hC (t := 89) te_180_65 (by decide) (fun q1 => ?_) (fun q1 => ?_)
      · replace q1 : r ≤ (x6 : Int) := q1
        refine Lx.iconst hC te_180_89 rfl ?_
        exact Lx.ireturn hC te_180_90 rfl (fun hr => show K (-1) mem from H (-1))
      · replace q1 : ¬ (r ≤ (x6 : Int)) := q1
        refine Lx.lload hC te_180_68 rfl ?_
        refine Lx.lconst hC te_180_70 (fun l2 => ?_)
        refine Lx.iload hC te_180_71 rfl ?_
        refine Lx.lshl hC te_180_73 (fun l3 => ?_)
        refine Lx.land hC te_180_74 (fun l4 => ?_)
        refine Lx.lconst hC te_180_75 (fun l5 => ?_)
        refine Lx.lcmp hC te_180_76 (fun z6 z6i => ?_)
        unfold InI at z6i
        refine Lx.ifc hC (t := 83) te_180_77 (by decide) (fun q7 => ?_) (fun q7 => ?_)
        · replace q7 : ¬ (z6 : Int) = 0 := q7
          refine Lx.iincW hC te_180_83 rfl rfl rfl (fun z8 z8i z8e => ?_)
          unfold InI at z8i z8e
          first | replace z8e := z8e (by omega) | clear z8e
          refine Lx.goto hC (t := 62) te_180_86 (by decide) ?_
          exact ih_62 z8 x4 (by omega) (by omega)
        · replace q7 : ¬ (¬ (z6 : Int) = 0) := q7
          refine Lx.iload hC te_180_80 rfl ?_
          exact Lx.ireturn hC te_180_82 rfl (fun hr => show K x6 mem from H x6)
  have l_23 : ∀ (N : Nat) (x6 : Int) (x4 : Int64), (0 ≤ x6) → ((8 - x6).toNat) < N → Lx (Ex S (n + 3)) S M_180 (fun h0 => QX h0 (kI K E)) 23 [some (.inl (.inr 139)), some (.inl (.inr Q)), some (.inl (.inl o)), some (.inl (.inl r)), some (.inr x4), none, some (.inl (.inl x6))] [] mem := by
    intro N
    induction N with
    | zero => intros; omega
    | succ N ih_23 =>
      intro x6 x4 i23_0 hN_23 
      refine Lx.iload hC te_180_23 rfl ?_
      refine Lx.iload_n hC te_180_25 rfl ?_
      refine Lx.icmp hC (t := 59) te_180_26 (by decide) (fun q9 => ?_) (fun q9 => ?_)
      · replace q9 : o ≤ (x6 : Int) := q9
        refine Lx.iconst hC te_180_59 rfl ?_
        refine Lx.istore hC te_180_60 rfl rfl ?_
        exact l_62 _ 0 x4 (by omega) (Nat.lt_succ_self _)
      · replace q9 : ¬ (o ≤ (x6 : Int)) := q9
        refine Lx.aload_n hC te_180_29 rfl ?_
        refine Lx.getR hC te_180_30 hQ.s0 rfl rfl ?_
        refine Lx.iload hC te_180_33 rfl ?_
        refine Lx.iald hC te_180_35 hQ.s4 (by omega) (fun v10 v10e v10i => ?_)
        unfold InI at v10i
        refine Lx.ifc hC (t := 53) te_180_36 (by decide) (fun q11 => ?_) (fun q11 => ?_)
        · replace q11 : (v10 : Int) ≤ 0 := q11
          refine Lx.iincW hC te_180_53 rfl rfl rfl (fun z12 z12i z12e => ?_)
          unfold InI at z12i z12e
          first | replace z12e := z12e (by omega) | clear z12e
          refine Lx.goto hC (t := 23) te_180_56 (by decide) ?_
          exact ih_23 z12 x4 (by omega) (by omega)
        · replace q11 : ¬ ((v10 : Int) ≤ 0) := q11
          refine Lx.lload hC te_180_39 rfl ?_
          refine Lx.aload_n hC te_180_41 rfl ?_
          refine Lx.aload_n hC te_180_42 rfl ?_
          refine Lx.iload hC te_180_43 rfl ?_
          refine Lx.iload_n hC te_180_45 rfl ?_
          refine Lx.iload_n hC te_180_46 rfl ?_
          refine Lx.virtL hC te_180_47 mt_181 (args := [.inr 139, .inr Q, .inl x6, .inl o, .inl r]) (rest := [.inr x4]) rfl rfl rfl rfl rfl rfl rfl rfl ?_
          refine f_181 hQ hO (by omega) (by omega) (by omega) (fun r13 => ?_)
          refine Lx.lor hC te_180_50 (fun l16 => ?_)
          refine Lx.lstore hC te_180_51 rfl rfl ?_
          refine Lx.iincW hC te_180_53 rfl rfl rfl (fun z17 z17i z17e => ?_)
          unfold InI at z17i z17e
          first | replace z17e := z17e (by omega) | clear z17e
          refine Lx.goto hC (t := 23) te_180_56 (by decide) ?_
          exact ih_23 z17 l16 (by omega) (by omega)
  refine Lx.aload_n hC te_180_0 rfl ?_
  refine Lx.getR hC te_180_1 hQ.s0 rfl rfl ?_
  refine Lx.iload_n hC te_180_4 rfl ?_
  refine Lx.iald hC te_180_5 hQ.s4 (by omega) (fun v18 v18e v18i => ?_)
  unfold InI at v18i
  refine Lx.aload_n hC te_180_6 rfl ?_
  refine Lx.getI hC te_180_7 hQ.s0 rfl rfl (fun v19 v19e v19i => ?_)
  unfold InI at v19i
  refine Lx.iload_n hC te_180_10 rfl ?_
  refine Lx.imulW hC te_180_11 (fun z20 z20i z20e => ?_)
  unfold InI at z20i z20e
  first | replace z20e := z20e (by omega) | clear z20e
  refine Lx.icmp hC (t := 17) te_180_12 (by decide) (fun q21 => ?_) (fun q21 => ?_)
  · replace q21 : (v18 : Int) ≤ z20 := q21
    refine Lx.lconst hC te_180_17 (fun l22 => ?_)
    refine Lx.lstore hC te_180_18 rfl rfl ?_
    refine Lx.iconst hC te_180_20 rfl ?_
    refine Lx.istore hC te_180_21 rfl rfl ?_
    exact l_23 _ 0 l22 (by omega) (Nat.lt_succ_self _)
  · replace q21 : ¬ ((v18 : Int) ≤ z20) := q21
    refine Lx.iconst hC te_180_15 rfl ?_
    exact Lx.ireturn hC te_180_16 rfl (fun hr => show K (-1) mem from H (-1))
theorem f_179 {S : Nat × (Nat → Int32)} {n : Nat} {mem : MM} {K : Int → MM → Prop} {E : Nat → MM → Prop} {Q : Nat} (hQ : ChSh Q) (hO : ChtOK mem Q) {r : Int} (hr : 1 ≤ r ∧ r ≤ 40) (H : ∀ r m', r = 0 ∨ r = 1 → Frm p140 mem m' → K r m') : CQI (Ex S (n + 5)) 179 [.inr 139, .inr Q, .inl r] mem K E := by
  refine CY.of (k := 2) mt_179 rfl rfl (fun hv => ?_)
  have hC := Ex.mono S (n + 4)
  have ii_r : InI r := hv (.inl r) (by simp)
  unfold InI at ii_r
  clear hv
  have hq8 := hQ.rg
  have hQ1 := hO.1
  show Tx (Ex S (n + 4)) S M_179 (kI K E) 0 0 0 [some (.inr 139), some (.inr Q), some (.inl r), none, none] [] mem
  have l_5 : ∀ (N : Nat) (x3 x4 : Int) (m_5 : MM), (0 ≤ x4) → (x3 = 0 ∨ x3 = 1) → ((8 - x4).toNat) < N → Frm p140 mem m_5 → Tx (Ex S (n + 4)) S M_179 (kI K E) 0 0 5 [some (.inr 139), some (.inr Q), some (.inl r), some (.inl x3), some (.inl x4)] [] m_5 := by
    intro N
    induction N with
    | zero => intros; omega
    | succ N ih_5 =>
      intro x3 x4 m_5 i5_0 i5_1 hN_5 hF_5
      refine Tx.iload hC te_179_5 rfl ?_
      refine Tx.aload_n hC te_179_7 rfl ?_
      refine Tx.getI hC te_179_8 hQ.s0 rfl rfl (fun v1 v1e v1i => ?_)
      unfold InI at v1i
      rw [hF_5 Q _ (by unfold p140; omega)] at v1e
      refine Tx.icmp hC (t := 74) te_179_11 (by decide) (fun q2 => ?_) (fun q2 => ?_)
      · replace q2 : v1 ≤ (x4 : Int) := q2
        refine Tx.iload_n hC te_179_74 rfl ?_
        exact Tx.bret hC te_179_75 rfl (by omega) (show K x3 m_5 from H _ _ (by omega) hF_5)
      · replace q2 : ¬ (v1 ≤ (x4 : Int)) := q2
        refine Tx.aload_n hC te_179_14 rfl ?_
        refine Tx.getR hC te_179_15 rfl rfl rfl ?_
        refine Tx.iload hC te_179_18 rfl ?_
        refine Tx.iconst hC te_179_20 rfl ?_
        refine Tx.iast hC te_179_21 rfl (by omega) ?_
        have hF4 : Frm p140 mem (upm m_5 140 (Int.toNat x4) (-1)) := Frm.up hF_5 (by unfold p140; omega)
        generalize upm m_5 140 (Int.toNat x4) (-1) = m3 at hF4 ⊢
        refine Tx.iload_n hC te_179_22 rfl ?_
        refine Tx.ifc hC (t := 68) te_179_23 (by decide) (fun q5 => ?_) (fun q5 => ?_)
        · replace q5 : (x3 : Int) = 0 := q5
          refine Tx.iincW hC te_179_68 rfl rfl (fun z6 z6i z6e => ?_)
          unfold InI at z6i z6e
          first | replace z6e := z6e (by omega) | clear z6e
          refine Tx.goto hC (t := 5) te_179_71 (by decide) ?_
          exact ih_5 x3 z6 m3 (by omega) (by omega) (by omega) hF4
        · replace q5 : ¬ ((x3 : Int) = 0) := q5
          refine Tx.aload_n hC te_179_26 rfl ?_
          refine Tx.getR hC te_179_27 hQ.s0 rfl rfl ?_
          refine Tx.iload hC te_179_30 rfl ?_
          refine Tx.iald hC te_179_32 hQ.s4 (by omega) (fun v7 v7e v7i => ?_)
          unfold InI at v7i
          rw [hF4 (Q + 4) _ (by unfold p140; omega)] at v7e
          refine Tx.ifc hC (t := 68) te_179_33 (by decide) (fun q8 => ?_) (fun q8 => ?_)
          · replace q8 : (v7 : Int) ≤ 0 := q8
            refine Tx.iincW hC te_179_68 rfl rfl (fun z9 z9i z9e => ?_)
            unfold InI at z9i z9e
            first | replace z9e := z9e (by omega) | clear z9e
            refine Tx.goto hC (t := 5) te_179_71 (by decide) ?_
            exact ih_5 x3 z9 m3 (by omega) (by omega) (by omega) hF4
          · replace q8 : ¬ ((v7 : Int) ≤ 0) := q8
            refine Tx.aload_n hC te_179_36 rfl ?_
            refine Tx.getR hC te_179_37 rfl rfl rfl ?_
            refine Tx.iload hC te_179_40 rfl ?_
            refine Tx.aload_n hC te_179_42 rfl ?_
            refine Tx.aload_n hC te_179_43 rfl ?_
            refine Tx.iload hC te_179_44 rfl ?_
            refine Tx.iload_n hC te_179_46 rfl ?_
            refine Tx.virtI hC te_179_47 mt_180 (args := [.inr 139, .inr Q, .inl x4, .inl r]) (rest := [.inl x4, .inr 140]) (c' := 0) (s' := 0) rfl rfl rfl rfl rfl rfl rfl rfl rfl rfl ?_
            refine f_180 hQ (hO.fr (fun A i a b => hF4 A i (by unfold p140; omega))) (by omega) (by omega) (fun r10 r10i => ?_)
            unfold InI at r10i
            refine Tx.iast hC te_179_50 rfl (by omega) ?_
            have hF14 : Frm p140 mem (upm m3 140 (Int.toNat x4) r10) := Frm.up hF4 (by unfold p140; omega)
            generalize upm m3 140 (Int.toNat x4) r10 = m13 at hF14 ⊢
            refine Tx.aload_n hC te_179_51 rfl ?_
            refine Tx.getR hC te_179_52 rfl rfl rfl ?_
            refine Tx.iload hC te_179_55 rfl ?_
            refine Tx.iald hC te_179_57 rfl (by omega) (fun v15 v15e v15i => ?_)
            unfold InI at v15i
            refine Tx.iconst hC te_179_58 rfl ?_
            refine Tx.icmp hC (t := 66) te_179_59 (by decide) (fun q16 => ?_) (fun q16 => ?_)
            · replace q16 : (v15 : Int) = (-1) := q16
              refine Tx.iconst hC te_179_66 rfl ?_
              refine Tx.istore_n hC te_179_67 rfl ?_
              refine Tx.iincW hC te_179_68 rfl rfl (fun z17 z17i z17e => ?_)
              unfold InI at z17i z17e
              first | replace z17e := z17e (by omega) | clear z17e
              refine Tx.goto hC (t := 5) te_179_71 (by decide) ?_
              exact ih_5 0 z17 m13 (by omega) (by omega) (by omega) hF14
            · replace q16 : ¬ ((v15 : Int) = (-1)) := q16
              refine Tx.iconst hC te_179_62 rfl ?_
              refine Tx.goto hC (t := 67) te_179_63 (by decide) ?_
              refine Tx.istore_n hC te_179_67 rfl ?_
              refine Tx.iincW hC te_179_68 rfl rfl (fun z18 z18i z18e => ?_)
              unfold InI at z18i z18e
              first | replace z18e := z18e (by omega) | clear z18e
              refine Tx.goto hC (t := 5) te_179_71 (by decide) ?_
              exact ih_5 1 z18 m13 (by omega) (by omega) (by omega) hF14
  refine Tx.iconst hC te_179_0 rfl ?_
  refine Tx.istore_n hC te_179_1 rfl ?_
  refine Tx.iconst hC te_179_2 rfl ?_
  refine Tx.istore hC te_179_3 rfl ?_
  exact l_5 _ 1 0 mem (by omega) (by omega) (Nat.lt_succ_self _) Frm.rf
/-! the web once more: needs lead from op to op; a chart is drawn: lemmas -/
theorem WbOK.fr {m m' : MM} {W : Nat} (h : WbOK m W) (e : ∀ A i, W ≤ A → A ≤ W + 4 → m' A i = m A i) : WbOK m' W := ⟨fun j hj => by
  rw [e _ _ (by omega) (by omega), e _ _ (by omega) (by omega), e _ _ (by omega) (by omega), e _ _ (by omega) (by omega)]; exact h.1 j hj, by rw [e W 0 (by omega) (by omega)]; exact h.2⟩
theorem WbS.fr {m m' : MM} (h : WbS m) (e : ∀ A i, A = 1 ∨ (9 ≤ A ∧ A ≤ 11) → m' A i = m A i) : WbS m' := fun j hj => by
  rw [e 9 0 (by omega)] at hj
  rw [e 10 j (by omega), e 11 j (by omega), e 1 0 (by omega)]; exact h j hj
theorem R64.up0 {m : MM} {W : Nat} {x : Int} (h : R64 m W) : R64 (upm m W 0 x) W := fun j hj => by
  rw [upm_ne (by omega), upm_ne (by omega), upm_ne (by omega), upm_ne (by omega)]; exact h j hj
theorem ChtOK.fr2 {m m' : MM} {Q : Nat} (h : ChtOK m Q) (e : ∀ A i, (A = Q ∧ i < 4) ∨ (Q < A ∧ A ≤ Q + 3) → m' A i = m A i) : ChtOK m' Q := by
  refine ⟨?_, fun o ho => ?_⟩
  · rw [e Q 1 (by omega), e Q 2 (by omega), e Q 3 (by omega)]; exact h.1
  · rw [e (Q + 1) o (by omega), e (Q + 2) o (by omega), e (Q + 3) o (by omega)]; exact h.2 o ho
theorem ChtOK.up3 {m : MM} {Q i : Nat} {x : Int} (h : ChtOK m Q) (hx : 0 ≤ x ∧ x ≤ 11010) : ChtOK (upm m (Q + 3) i x) Q := by
  refine ⟨?_, fun o ho => ?_⟩
  · rw [upm_ne (by omega), upm_ne (by omega), upm_ne (by omega)]; exact h.1
  · rw [upm_ne (A := Q + 3) (B := Q + 1) (by omega), upm_ne (A := Q + 3) (B := Q + 2) (by omega)]
    exact ⟨(h.2 o ho).1, (h.2 o ho).2.1, upm_rg (fun _ => hx) (fun _ => (h.2 o ho).2.2)⟩
theorem dr_start {mem m1 : MM} {Q : Nat} {v d : Int} (hQ : ChSh Q) (hO : ChtOK mem Q) (hB : BodyOK mem) (hSl : ∀ o, o < 8 → 0 ≤ mem 22 o ∧ mem 22 o ≤ 11) (e : v = mem 1 0) (hd : 1 ≤ d ∧ d ≤ 12) (ha : ∀ A i, ¬ A = Q + 1 → m1 A i = upm (upm mem Q 2 v) Q 3 d A i) (hb : ∀ i, m1 (Q + 1) i = if Int.toNat 0 ≤ i ∧ i < Int.toNat 0 + Int.toNat 8 then upm (upm mem Q 2 v) Q 3 d 22 (Int.toNat 0 + (i - Int.toNat 0)) else upm (upm mem Q 2 v) Q 3 d (Q + 1) i) : ChtOK m1 Q ∧ m1 Q 2 = mem 1 0 ∧ Frm (pCh Q) mem m1 := by
  have hq := hQ.rg
  have h8 := hB.1
  have e2 : m1 Q 2 = mem 1 0 := by rw [ha Q 2 (by omega), upm_ne (by omega), upm_eq]; exact e
  have e3 : m1 Q 3 = d := by rw [ha Q 3 (by omega), upm_eq]
  refine ⟨⟨⟨by omega, by omega, ?_⟩, fun o ho => ⟨?_, ?_, ?_⟩⟩, e2, fun A i q => ?_⟩
  · rw [ha Q 1 (by omega), upm_ne (by omega), upm_ne (by omega)]; exact hO.1.2.2
  · rw [hb o, if_pos ⟨by omega, by omega⟩, upm_ne (by omega), upm_ne (by omega), show Int.toNat 0 + (o - Int.toNat 0) = o by omega]; exact hSl o ho
  · rw [ha (Q + 2) o (by omega), upm_ne (by omega), upm_ne (by omega)]; exact (hO.2 o ho).2.1
  · rw [ha (Q + 3) o (by omega), upm_ne (by omega), upm_ne (by omega)]; exact (hO.2 o ho).2.2
  · unfold pCh at q
    rw [ha A i (by omega), upm_ne (by omega), upm_ne (by omega)]
theorem dr_times {m m' : MM} {Q : Nat} (h : ChtOK m Q) (hF : Frm (pTm Q) m m') (hD : DT m' Q 0 0) : ChtOK m' Q := by
  refine ⟨?_, fun o ho => ?_⟩
  · rw [hF Q 1 (by unfold pTm; omega), hF Q 2 (by unfold pTm; omega), hF Q 3 (by unfold pTm; omega)]; exact h.1
  · rw [hF (Q + 1) o (by unfold pTm; omega), hF (Q + 3) o (by unfold pTm; omega)]
    exact ⟨(h.2 o ho).1, (hD o ho).1, (h.2 o ho).2.2⟩
/-- what soundness says -/
def Snd (m : MM) : Prop := ∀ o k : Nat, (o : Int) < m 1 0 → (k : Int) < csN m o → m 3 (4 * o + 2 * k) < m 1 0
theorem Snd.fr {m m' : MM} (h : Snd m) (e : ∀ A i, 0 < A → A < 9 → m' A i = m A i) : Snd m' := fun o k ho hk => by
  rw [e 1 0 (by omega) (by omega)] at ho ⊢
  have ec : csN m' o = csN m o := by unfold csN; rw [e 2 o (by omega) (by omega)]
  rw [ec] at hk
  rw [e 3 _ (by omega) (by omega)]; exact h o k ho hk
def set4 (m : MM) (j : Nat) (a b e l : Int) : MM := upm (upm (upm (upm m 10 j a) 11 j b) 12 j e) 13 j l
theorem set4_ne {m : MM} {j A i : Nat} {a b e l : Int} (h : ¬ (10 ≤ A ∧ A ≤ 13 ∧ i = j)) : set4 m j a b e l A i = m A i := by
  unfold set4
  rw [upm_ne (by omega), upm_ne (by omega), upm_ne (by omega), upm_ne (by omega)]
theorem set4_0 {m : MM} {j : Nat} {a b e l : Int} : set4 m j a b e l 10 j = a ∧ set4 m j a b e l 11 j = b ∧ set4 m j a b e l 12 j = e ∧ set4 m j a b e l 13 j = l := by
  unfold set4
  refine ⟨?_, ?_, ?_, upm_eq⟩
  · rw [upm_ne (by omega), upm_ne (by omega), upm_ne (by omega), upm_eq]
  · rw [upm_ne (by omega), upm_ne (by omega), upm_eq]
  · rw [upm_ne (by omega), upm_eq]
theorem set4_r {m : MM} {j : Nat} {a b e l : Int} (h : R64 m 9) (hr : Rg a b e l) : R64 (set4 m j a b e l) 9 := fun i hi => by
  by_cases q : i = j
  · subst q
    have z := set4_0 (m := m) (j := i) (a := a) (b := b) (e := e) (l := l)
    show Rg (set4 m i a b e l 10 i) (set4 m i a b e l 11 i) (set4 m i a b e l 12 i) (set4 m i a b e l 13 i)
    rw [z.1, z.2.1, z.2.2.1, z.2.2.2]; exact hr
  · rw [set4_ne (by omega), set4_ne (by omega), set4_ne (by omega), set4_ne (by omega)]; exact h i hi
/-- a web whose needs lead from op to op below s -/
def INS (m : MM) (s : Int) : Prop := WbOK m 9 ∧ ∀ j : Nat, (j : Int) < m 9 0 → m 10 j < s ∧ m 11 j < s
def I72 (mem m : MM) (s x : Int) : Prop := m 9 0 = mem 9 0 ∧ R64 m 9 ∧ ∀ j : Nat, ((j : Int) < m 9 0 ∨ (x < (j : Int) ∧ (j : Int) ≤ m 9 0)) → m 10 j < s ∧ m 11 j < s
theorem I72.step {mem m : MM} {s x y y2 y3 y4 a b e l : Int} {j : Nat} (h : I72 mem m s x) (hx : 1 ≤ x ∧ x ≤ mem 9 0 ∧ mem 9 0 < 64) (hj : (j : Int) = x) (ea : a = m 10 y.toNat) (eb : b = m 11 y2.toNat) (ee : e = m 12 y3.toNat) (el : l = m 13 y4.toNat) (hy : y = x - 1) (q2 : y2 = y) (q3 : y3 = y) (q4 : y4 = y) : I72 mem (set4 m j a b e l) s y := by
  rw [q2] at eb
  rw [q3] at ee
  rw [q4] at el
  obtain ⟨h0, h1, h2⟩ := h
  have e9 : set4 m j a b e l 9 0 = m 9 0 := set4_ne (by omega)
  have z := set4_0 (m := m) (j := j) (a := a) (b := b) (e := e) (l := l)
  have hr := h1 y.toNat (by omega)
  refine ⟨e9.trans h0, set4_r h1 (by rw [ea, eb, ee, el]; exact hr), fun i hi => ?_⟩
  rw [e9] at hi
  by_cases q : i = j
  · rw [q, z.1, z.2.1, ea, eb]; exact h2 _ (by omega)
  · rw [set4_ne (by omega), set4_ne (by omega)]; exact h2 i (by omega)
theorem I72.fin {mem m : MM} {s x a b e l z : Int} {j : Nat} (h : I72 mem m s x) (hx : 0 ≤ x ∧ x ≤ mem 9 0 ∧ mem 9 0 < 64) (hj : (j : Int) = x) (hr : Rg a b e l) (hab : a < s ∧ b < s) (hz : z = mem 9 0 + 1) : INS (upm (set4 m j a b e l) 9 0 z) s := by
  obtain ⟨h0, h1, h2⟩ := h
  have w := set4_0 (m := m) (j := j) (a := a) (b := b) (e := e) (l := l)
  refine ⟨⟨R64.up0 (set4_r h1 hr), by rw [upm_eq]; omega⟩, fun i hi => ?_⟩
  rw [upm_eq] at hi
  rw [upm_ne (by omega), upm_ne (by omega)]
  by_cases q : i = j
  · rw [q, w.1, w.2.1]; exact hab
  · rw [set4_ne (by omega), set4_ne (by omega)]; exact h2 i (by omega)
theorem INS.i72 {mem : MM} {s x : Int} (h : INS mem s) (hx : mem 9 0 ≤ x) : I72 mem mem s x := ⟨rfl, h.1.1, fun j hj => h.2 j (by omega)⟩
theorem I72.eq {mem m : MM} {s x x' : Int} (h : I72 mem m s x) (e : x' = x) : I72 mem m s x' := by rw [e]; exact h
def p9w (A i : Nat) : Prop := (9 < A ∧ A ≤ 13) ∨ (A = 9 ∧ i = 0)
/-! laid by wip/hand/tg.py: the web once more, draw -/
set_option maxRecDepth 100000 in
theorem mt_12 : MT[12]? = some M_12 := rfl
set_option maxRecDepth 100000 in
theorem mt_106 : MT[106]? = some M_106 := rfl
set_option maxRecDepth 100000 in
theorem mt_199 : MT[199]? = some M_199 := rfl
theorem te_12_0 : (pT M_12).find? (fun e => e.1 == 0) = some (0, .iconst 0, 0, 0) := rfl
theorem te_12_1 : (pT M_12).find? (fun e => e.1 == 1) = some (1, .istore_n 1, 0, 0) := rfl
theorem te_12_2 : (pT M_12).find? (fun e => e.1 == 2) = some (2, .iload_n 1, 0, 0) := rfl
theorem te_12_3 : (pT M_12).find? (fun e => e.1 == 3) = some (3, .aload_n 0, 0, 0) := rfl
theorem te_12_4 : (pT M_12).find? (fun e => e.1 == 4) = some (4, .getfield 33, 0, 0) := rfl
theorem te_12_7 : (pT M_12).find? (fun e => e.1 == 7) = some (7, .if_icmp .ge 48, 0, 0) := rfl
theorem te_12_10 : (pT M_12).find? (fun e => e.1 == 10) = some (10, .iconst 0, 0, 0) := rfl
theorem te_12_11 : (pT M_12).find? (fun e => e.1 == 11) = some (11, .istore_n 2, 0, 0) := rfl
theorem te_12_12 : (pT M_12).find? (fun e => e.1 == 12) = some (12, .iload_n 2, 0, 0) := rfl
theorem te_12_13 : (pT M_12).find? (fun e => e.1 == 13) = some (13, .aload_n 0, 0, 0) := rfl
theorem te_12_14 : (pT M_12).find? (fun e => e.1 == 14) = some (14, .iload_n 1, 0, 0) := rfl
theorem te_12_15 : (pT M_12).find? (fun e => e.1 == 15) = some (15, .invokevirtual 37, 13, 0) := rfl
theorem te_12_18 : (pT M_12).find? (fun e => e.1 == 18) = some (18, .if_icmp .ge 31, 0, 0) := rfl
theorem te_12_21 : (pT M_12).find? (fun e => e.1 == 21) = some (21, .aload_n 0, 0, 0) := rfl
theorem te_12_22 : (pT M_12).find? (fun e => e.1 == 22) = some (22, .iload_n 1, 0, 0) := rfl
theorem te_12_23 : (pT M_12).find? (fun e => e.1 == 23) = some (23, .aload_n 0, 0, 0) := rfl
theorem te_12_24 : (pT M_12).find? (fun e => e.1 == 24) = some (24, .iload_n 1, 0, 0) := rfl
theorem te_12_25 : (pT M_12).find? (fun e => e.1 == 25) = some (25, .iload_n 2, 0, 0) := rfl
theorem te_12_26 : (pT M_12).find? (fun e => e.1 == 26) = some (26, .invokevirtual 41, 14, 0) := rfl
theorem te_12_29 : (pT M_12).find? (fun e => e.1 == 29) = some (29, .aload_n 0, 0, 0) := rfl
theorem te_12_30 : (pT M_12).find? (fun e => e.1 == 30) = some (30, .iload_n 1, 0, 0) := rfl
theorem te_12_31 : (pT M_12).find? (fun e => e.1 == 31) = some (31, .iload_n 2, 0, 0) := rfl
theorem te_12_32 : (pT M_12).find? (fun e => e.1 == 32) = some (32, .invokevirtual 45, 15, 0) := rfl
theorem te_12_35 : (pT M_12).find? (fun e => e.1 == 35) = some (35, .invokevirtual 48, 16, 0) := rfl
theorem te_12_38 : (pT M_12).find? (fun e => e.1 == 38) = some (38, .ifCond .ne 5, 0, 0) := rfl
theorem te_12_41 : (pT M_12).find? (fun e => e.1 == 41) = some (41, .iconst 0, 0, 0) := rfl
theorem te_12_42 : (pT M_12).find? (fun e => e.1 == 42) = some (42, .ireturn, 0, 0) := rfl
theorem te_12_43 : (pT M_12).find? (fun e => e.1 == 43) = some (43, .iinc 2 1, 0, 0) := rfl
theorem te_12_46 : (pT M_12).find? (fun e => e.1 == 46) = some (46, .goto (-34), 0, 0) := rfl
theorem te_12_49 : (pT M_12).find? (fun e => e.1 == 49) = some (49, .iinc 1 1, 0, 0) := rfl
theorem te_12_52 : (pT M_12).find? (fun e => e.1 == 52) = some (52, .goto (-50), 0, 0) := rfl
theorem te_12_55 : (pT M_12).find? (fun e => e.1 == 55) = some (55, .iconst 1, 0, 0) := rfl
theorem te_12_56 : (pT M_12).find? (fun e => e.1 == 56) = some (56, .ireturn, 0, 0) := rfl
theorem te_106_0 : (pT M_106).find? (fun e => e.1 == 0) = some (0, .aload_n 0, 0, 0) := rfl
theorem te_106_1 : (pT M_106).find? (fun e => e.1 == 1) = some (1, .aload_n 1, 0, 0) := rfl
theorem te_106_2 : (pT M_106).find? (fun e => e.1 == 2) = some (2, .getfield 34, 0, 0) := rfl
theorem te_106_5 : (pT M_106).find? (fun e => e.1 == 5) = some (5, .putfield 39, 1, 2) := rfl
theorem te_106_8 : (pT M_106).find? (fun e => e.1 == 8) = some (8, .aload_n 0, 0, 0) := rfl
theorem te_106_9 : (pT M_106).find? (fun e => e.1 == 9) = some (9, .iload 4, 0, 0) := rfl
theorem te_106_11 : (pT M_106).find? (fun e => e.1 == 11) = some (11, .putfield 9, 1, 3) := rfl
theorem te_106_14 : (pT M_106).find? (fun e => e.1 == 14) = some (14, .aload_n 3, 0, 0) := rfl
theorem te_106_15 : (pT M_106).find? (fun e => e.1 == 15) = some (15, .iconst 0, 0, 0) := rfl
theorem te_106_16 : (pT M_106).find? (fun e => e.1 == 16) = some (16, .aload_n 0, 0, 0) := rfl
theorem te_106_17 : (pT M_106).find? (fun e => e.1 == 17) = some (17, .getfield 15, 1, 8) := rfl
theorem te_106_20 : (pT M_106).find? (fun e => e.1 == 20) = some (20, .iconst 0, 0, 0) := rfl
theorem te_106_21 : (pT M_106).find? (fun e => e.1 == 21) = some (21, .bipush 8, 0, 0) := rfl
theorem te_106_23 : (pT M_106).find? (fun e => e.1 == 23) = some (23, .invokestatic 40, 0, 7) := rfl
theorem te_106_26 : (pT M_106).find? (fun e => e.1 == 26) = some (26, .aload_n 0, 0, 0) := rfl
theorem te_106_27 : (pT M_106).find? (fun e => e.1 == 27) = some (27, .aload_n 2, 0, 0) := rfl
theorem te_106_28 : (pT M_106).find? (fun e => e.1 == 28) = some (28, .invokevirtual 46, 107, 0) := rfl
theorem te_106_31 : (pT M_106).find? (fun e => e.1 == 31) = some (31, .aload_n 0, 0, 0) := rfl
theorem te_106_32 : (pT M_106).find? (fun e => e.1 == 32) = some (32, .iconst 0, 0, 0) := rfl
theorem te_106_33 : (pT M_106).find? (fun e => e.1 == 33) = some (33, .putfield 50, 1, 4) := rfl
theorem te_106_36 : (pT M_106).find? (fun e => e.1 == 36) = some (36, .aload_n 0, 0, 0) := rfl
theorem te_106_37 : (pT M_106).find? (fun e => e.1 == 37) = some (37, .iconst 1, 0, 0) := rfl
theorem te_106_38 : (pT M_106).find? (fun e => e.1 == 38) = some (38, .putfield 53, 1, 5) := rfl
theorem te_106_41 : (pT M_106).find? (fun e => e.1 == 41) = some (41, .iconst 0, 0, 0) := rfl
theorem te_106_42 : (pT M_106).find? (fun e => e.1 == 42) = some (42, .istore 5, 0, 0) := rfl
theorem te_106_44 : (pT M_106).find? (fun e => e.1 == 44) = some (44, .iload 5, 0, 0) := rfl
theorem te_106_46 : (pT M_106).find? (fun e => e.1 == 46) = some (46, .aload_n 0, 0, 0) := rfl
theorem te_106_47 : (pT M_106).find? (fun e => e.1 == 47) = some (47, .getfield 39, 1, 2) := rfl
theorem te_106_50 : (pT M_106).find? (fun e => e.1 == 50) = some (50, .if_icmp .ge 67, 0, 0) := rfl
theorem te_106_53 : (pT M_106).find? (fun e => e.1 == 53) = some (53, .aload_n 0, 0, 0) := rfl
theorem te_106_54 : (pT M_106).find? (fun e => e.1 == 54) = some (54, .getfield 22, 1, 10) := rfl
theorem te_106_57 : (pT M_106).find? (fun e => e.1 == 57) = some (57, .iload 5, 0, 0) := rfl
theorem te_106_59 : (pT M_106).find? (fun e => e.1 == 59) = some (59, .aload_n 0, 0, 0) := rfl
theorem te_106_60 : (pT M_106).find? (fun e => e.1 == 60) = some (60, .getfield 19, 1, 9) := rfl
theorem te_106_63 : (pT M_106).find? (fun e => e.1 == 63) = some (63, .iload 5, 0, 0) := rfl
theorem te_106_65 : (pT M_106).find? (fun e => e.1 == 65) = some (65, .iaload, 0, 0) := rfl
theorem te_106_66 : (pT M_106).find? (fun e => e.1 == 66) = some (66, .aload_n 1, 0, 0) := rfl
theorem te_106_67 : (pT M_106).find? (fun e => e.1 == 67) = some (67, .iload 5, 0, 0) := rfl
theorem te_106_69 : (pT M_106).find? (fun e => e.1 == 69) = some (69, .invokevirtual 56, 19, 1) := rfl
theorem te_106_72 : (pT M_106).find? (fun e => e.1 == 72) = some (72, .iadd, 0, 0) := rfl
theorem te_106_73 : (pT M_106).find? (fun e => e.1 == 73) = some (73, .iastore, 0, 0) := rfl
theorem te_106_74 : (pT M_106).find? (fun e => e.1 == 74) = some (74, .aload_n 0, 0, 0) := rfl
theorem te_106_75 : (pT M_106).find? (fun e => e.1 == 75) = some (75, .aload_n 0, 0, 0) := rfl
theorem te_106_76 : (pT M_106).find? (fun e => e.1 == 76) = some (76, .getfield 50, 1, 4) := rfl
theorem te_106_79 : (pT M_106).find? (fun e => e.1 == 79) = some (79, .aload_n 0, 0, 0) := rfl
theorem te_106_80 : (pT M_106).find? (fun e => e.1 == 80) = some (80, .getfield 22, 1, 10) := rfl
theorem te_106_83 : (pT M_106).find? (fun e => e.1 == 83) = some (83, .iload 5, 0, 0) := rfl
theorem te_106_85 : (pT M_106).find? (fun e => e.1 == 85) = some (85, .iaload, 0, 0) := rfl
theorem te_106_86 : (pT M_106).find? (fun e => e.1 == 86) = some (86, .invokestatic 60, 40, 2) := rfl
theorem te_106_89 : (pT M_106).find? (fun e => e.1 == 89) = some (89, .putfield 50, 1, 4) := rfl
theorem te_106_92 : (pT M_106).find? (fun e => e.1 == 92) = some (92, .aload_n 0, 0, 0) := rfl
theorem te_106_93 : (pT M_106).find? (fun e => e.1 == 93) = some (93, .aload_n 0, 0, 0) := rfl
theorem te_106_94 : (pT M_106).find? (fun e => e.1 == 94) = some (94, .getfield 53, 1, 5) := rfl
theorem te_106_97 : (pT M_106).find? (fun e => e.1 == 97) = some (97, .aload_n 0, 0, 0) := rfl
theorem te_106_98 : (pT M_106).find? (fun e => e.1 == 98) = some (98, .iload 5, 0, 0) := rfl
theorem te_106_100 : (pT M_106).find? (fun e => e.1 == 100) = some (100, .invokevirtual 66, 108, 0) := rfl
theorem te_106_103 : (pT M_106).find? (fun e => e.1 == 103) = some (103, .iconst 1, 0, 0) := rfl
theorem te_106_104 : (pT M_106).find? (fun e => e.1 == 104) = some (104, .iadd, 0, 0) := rfl
theorem te_106_105 : (pT M_106).find? (fun e => e.1 == 105) = some (105, .invokestatic 60, 40, 2) := rfl
theorem te_106_108 : (pT M_106).find? (fun e => e.1 == 108) = some (108, .putfield 53, 1, 5) := rfl
theorem te_106_111 : (pT M_106).find? (fun e => e.1 == 111) = some (111, .iinc 5 1, 0, 0) := rfl
theorem te_106_114 : (pT M_106).find? (fun e => e.1 == 114) = some (114, .goto (-70), 0, 0) := rfl
theorem te_106_117 : (pT M_106).find? (fun e => e.1 == 117) = some (117, .aload_n 0, 0, 0) := rfl
theorem te_106_118 : (pT M_106).find? (fun e => e.1 == 118) = some (118, .aload_n 1, 0, 0) := rfl
theorem te_106_119 : (pT M_106).find? (fun e => e.1 == 119) = some (119, .invokevirtual 69, 109, 0) := rfl
theorem te_106_122 : (pT M_106).find? (fun e => e.1 == 122) = some (122, .aload_n 0, 0, 0) := rfl
theorem te_106_123 : (pT M_106).find? (fun e => e.1 == 123) = some (123, .aload_n 1, 0, 0) := rfl
theorem te_106_124 : (pT M_106).find? (fun e => e.1 == 124) = some (124, .invokevirtual 73, 110, 0) := rfl
theorem te_106_127 : (pT M_106).find? (fun e => e.1 == 127) = some (127, .return_, 0, 0) := rfl
theorem te_199_0 : (pT M_199).find? (fun e => e.1 == 0) = some (0, .aload_n 0, 0, 0) := rfl
theorem te_199_1 : (pT M_199).find? (fun e => e.1 == 1) = some (1, .iconst 0, 0, 0) := rfl
theorem te_199_2 : (pT M_199).find? (fun e => e.1 == 2) = some (2, .putfield 35, 7, 0) := rfl
theorem te_199_5 : (pT M_199).find? (fun e => e.1 == 5) = some (5, .iconst 0, 0, 0) := rfl
theorem te_199_6 : (pT M_199).find? (fun e => e.1 == 6) = some (6, .istore_n 3, 0, 0) := rfl
theorem te_199_7 : (pT M_199).find? (fun e => e.1 == 7) = some (7, .iload_n 3, 0, 0) := rfl
theorem te_199_8 : (pT M_199).find? (fun e => e.1 == 8) = some (8, .aload_n 1, 0, 0) := rfl
theorem te_199_9 : (pT M_199).find? (fun e => e.1 == 9) = some (9, .getfield 35, 7, 0) := rfl
theorem te_199_12 : (pT M_199).find? (fun e => e.1 == 12) = some (12, .if_icmp .ge 56, 0, 0) := rfl
theorem te_199_15 : (pT M_199).find? (fun e => e.1 == 15) = some (15, .iload_n 3, 0, 0) := rfl
theorem te_199_16 : (pT M_199).find? (fun e => e.1 == 16) = some (16, .iload_n 2, 0, 0) := rfl
theorem te_199_17 : (pT M_199).find? (fun e => e.1 == 17) = some (17, .if_icmp .eq 45, 0, 0) := rfl
theorem te_199_20 : (pT M_199).find? (fun e => e.1 == 20) = some (20, .aload_n 0, 0, 0) := rfl
theorem te_199_21 : (pT M_199).find? (fun e => e.1 == 21) = some (21, .aload_n 0, 0, 0) := rfl
theorem te_199_22 : (pT M_199).find? (fun e => e.1 == 22) = some (22, .getfield 35, 7, 0) := rfl
theorem te_199_25 : (pT M_199).find? (fun e => e.1 == 25) = some (25, .aload_n 1, 0, 0) := rfl
theorem te_199_26 : (pT M_199).find? (fun e => e.1 == 26) = some (26, .getfield 11, 7, 1) := rfl
theorem te_199_29 : (pT M_199).find? (fun e => e.1 == 29) = some (29, .iload_n 3, 0, 0) := rfl
theorem te_199_30 : (pT M_199).find? (fun e => e.1 == 30) = some (30, .iaload, 0, 0) := rfl
theorem te_199_31 : (pT M_199).find? (fun e => e.1 == 31) = some (31, .aload_n 1, 0, 0) := rfl
theorem te_199_32 : (pT M_199).find? (fun e => e.1 == 32) = some (32, .getfield 15, 7, 2) := rfl
theorem te_199_35 : (pT M_199).find? (fun e => e.1 == 35) = some (35, .iload_n 3, 0, 0) := rfl
theorem te_199_36 : (pT M_199).find? (fun e => e.1 == 36) = some (36, .iaload, 0, 0) := rfl
theorem te_199_37 : (pT M_199).find? (fun e => e.1 == 37) = some (37, .aload_n 1, 0, 0) := rfl
theorem te_199_38 : (pT M_199).find? (fun e => e.1 == 38) = some (38, .getfield 18, 7, 3) := rfl
theorem te_199_41 : (pT M_199).find? (fun e => e.1 == 41) = some (41, .iload_n 3, 0, 0) := rfl
theorem te_199_42 : (pT M_199).find? (fun e => e.1 == 42) = some (42, .iaload, 0, 0) := rfl
theorem te_199_43 : (pT M_199).find? (fun e => e.1 == 43) = some (43, .aload_n 1, 0, 0) := rfl
theorem te_199_44 : (pT M_199).find? (fun e => e.1 == 44) = some (44, .getfield 21, 7, 4) := rfl
theorem te_199_47 : (pT M_199).find? (fun e => e.1 == 47) = some (47, .iload_n 3, 0, 0) := rfl
theorem te_199_48 : (pT M_199).find? (fun e => e.1 == 48) = some (48, .iaload, 0, 0) := rfl
theorem te_199_49 : (pT M_199).find? (fun e => e.1 == 49) = some (49, .invokevirtual 79, 22, 0) := rfl
theorem te_199_52 : (pT M_199).find? (fun e => e.1 == 52) = some (52, .aload_n 0, 0, 0) := rfl
theorem te_199_53 : (pT M_199).find? (fun e => e.1 == 53) = some (53, .dup, 0, 0) := rfl
theorem te_199_54 : (pT M_199).find? (fun e => e.1 == 54) = some (54, .getfield 35, 7, 0) := rfl
theorem te_199_57 : (pT M_199).find? (fun e => e.1 == 57) = some (57, .iconst 1, 0, 0) := rfl
theorem te_199_58 : (pT M_199).find? (fun e => e.1 == 58) = some (58, .iadd, 0, 0) := rfl
theorem te_199_59 : (pT M_199).find? (fun e => e.1 == 59) = some (59, .putfield 35, 7, 0) := rfl
theorem te_199_62 : (pT M_199).find? (fun e => e.1 == 62) = some (62, .iinc 3 1, 0, 0) := rfl
theorem te_199_65 : (pT M_199).find? (fun e => e.1 == 65) = some (65, .goto (-58), 0, 0) := rfl
theorem te_199_68 : (pT M_199).find? (fun e => e.1 == 68) = some (68, .return_, 0, 0) := rfl
theorem f_22s {S : Nat × (Nat → Int32)} {n : Nat} {mem : MM} {K : MM → Prop} {E : Nat → MM → Prop} {j a b e l : Int} (hj : 0 ≤ j ∧ j < 64) (H : ∀ m', m' = set4 mem j.toNat a b e l → K m') : CQV (Ex S (n + 1)) 22 [.inr 9, .inl j, .inl a, .inl b, .inl e, .inl l] mem K E := by
  refine CY.of (k := 0) mt_22 rfl rfl (fun hv => ?_)
  have hC := Ex.mono S n
  have ii_j : InI j := hv (.inl j) (by simp)
  unfold InI at ii_j
  have ii_a : InI a := hv (.inl a) (by simp)
  unfold InI at ii_a
  have ii_b : InI b := hv (.inl b) (by simp)
  unfold InI at ii_b
  have ii_e : InI e := hv (.inl e) (by simp)
  unfold InI at ii_e
  have ii_l : InI l := hv (.inl l) (by simp)
  unfold InI at ii_l
  clear hv
  show Tx (Ex S n) S M_22 (kV K E) 0 0 0 [some (.inr 9), some (.inl j), some (.inl a), some (.inl b), some (.inl e), some (.inl l)] [] mem
  refine Tx.aload_n hC te_22_0 rfl ?_
  refine Tx.getR hC te_22_1 rfl rfl rfl ?_
  refine Tx.iload_n hC te_22_4 rfl ?_
  refine Tx.iload_n hC te_22_5 rfl ?_
  refine Tx.iast hC te_22_6 rfl (by omega) ?_
  have hF2 : Frm p9w mem (upm mem 10 (Int.toNat j) a) := Frm.up Frm.rf (by unfold p9w; omega)
  refine Tx.aload_n hC te_22_7 rfl ?_
  refine Tx.getR hC te_22_8 rfl rfl rfl ?_
  refine Tx.iload_n hC te_22_11 rfl ?_
  refine Tx.iload_n hC te_22_12 rfl ?_
  refine Tx.iast hC te_22_13 rfl (by omega) ?_
  have hF4 : Frm p9w mem (upm (upm mem 10 (Int.toNat j) a) 11 (Int.toNat j) b) := Frm.up hF2 (by unfold p9w; omega)
  refine Tx.aload_n hC te_22_14 rfl ?_
  refine Tx.getR hC te_22_15 rfl rfl rfl ?_
  refine Tx.iload_n hC te_22_18 rfl ?_
  refine Tx.iload hC te_22_19 rfl ?_
  refine Tx.iast hC te_22_21 rfl (by omega) ?_
  have hF6 : Frm p9w mem (upm (upm (upm mem 10 (Int.toNat j) a) 11 (Int.toNat j) b) 12 (Int.toNat j) e) := Frm.up hF4 (by unfold p9w; omega)
  refine Tx.aload_n hC te_22_22 rfl ?_
  refine Tx.getR hC te_22_23 rfl rfl rfl ?_
  refine Tx.iload_n hC te_22_26 rfl ?_
  refine Tx.iload hC te_22_27 rfl ?_
  refine Tx.iast hC te_22_29 rfl (by omega) ?_
  have hF8 : Frm p9w mem (upm (upm (upm (upm mem 10 (Int.toNat j) a) 11 (Int.toNat j) b) 12 (Int.toNat j) e) 13 (Int.toNat j) l) := Frm.up hF6 (by unfold p9w; omega)
  exact Tx.vret hC te_22_30 rfl (show K (upm (upm (upm (upm mem 10 (Int.toNat j) a) 11 (Int.toNat j) b) 12 (Int.toNat j) e) 13 (Int.toNat j) l) from H _ rfl)
theorem f_20s {S : Nat × (Nat → Int32)} {n : Nat} {mem : MM} {K : MM → Prop} {E : Nat → MM → Prop} {s a b e l : Int} (hI : INS mem s) (hr : Rg a b e l) (hab : a < s ∧ b < s) (H : ∀ m', Frm p9w mem m' → INS m' s → K m') : CQV (Ex S (n + 2)) 20 [.inr 9, .inl a, .inl b, .inl e, .inl l] mem K E := by
  refine CY.of (k := 3) mt_20 rfl rfl (fun hv => ?_)
  have hC := Ex.mono S (n + 1)
  have ii_a : InI a := hv (.inl a) (by simp)
  unfold InI at ii_a
  have ii_b : InI b := hv (.inl b) (by simp)
  unfold InI at ii_b
  have ii_e : InI e := hv (.inl e) (by simp)
  unfold InI at ii_e
  have ii_l : InI l := hv (.inl l) (by simp)
  unfold InI at ii_l
  clear hv
  have hw := hI.1.2
  show Tx (Ex S (n + 1)) S M_20 (kV K E) 0 0 0 [some (.inr 9), some (.inl a), some (.inl b), some (.inl e), some (.inl l), none, none, none] [] mem
  have l_72 : ∀ (N : Nat) (x5 x6 x7 : Int) (m_72 : MM), (0 ≤ x5 ∧ x5 ≤ x7 ∧ x7 ≤ mem 9 0 ∧ mem 9 0 < 64) → (I72 mem m_72 s x7) → ((x7 - x5).toNat) < N → Frm p9w mem m_72 → Tx (Ex S (n + 1)) S M_20 (kV K E) 0 0 72 [some (.inr 9), some (.inl a), some (.inl b), some (.inl e), some (.inl l), some (.inl x5), some (.inl x6), some (.inl x7)] [] m_72 := by
    intro N
    induction N with
    | zero => intros; omega
    | succ N ih_72 =>
      intro x5 x6 x7 m_72 i72_0 i72_1 hN_72 hF_72
      refine Tx.iload hC te_20_72 rfl ?_
      refine Tx.iload hC te_20_74 rfl ?_
      refine Tx.icmp hC (t := 127) te_20_76 (by decide) (fun q1 => ?_) (fun q1 => ?_)
      · replace q1 : (x7 : Int) ≤ x5 := q1
        refine Tx.aload_n hC te_20_127 rfl ?_
        refine Tx.iload hC te_20_128 rfl ?_
        refine Tx.iload_n hC te_20_130 rfl ?_
        refine Tx.iload_n hC te_20_131 rfl ?_
        refine Tx.iload_n hC te_20_132 rfl ?_
        refine Tx.iload hC te_20_133 rfl ?_
        refine Tx.virtV hC te_20_135 mt_22 (args := [.inr 9, .inl x5, .inl a, .inl b, .inl e, .inl l]) (rest := []) (c' := 0) (s' := 0) rfl rfl rfl rfl rfl rfl rfl rfl rfl rfl ?_
        refine f_22s (by omega) (fun m3 r2q => ?_)
        have r29 : m3 9 0 = mem 9 0 := by rw [r2q, set4_ne (by omega)]; exact i72_1.1
        have hF4n : Frm p9w mem m3 := hF_72.tr (fun A i q => by rw [r2q]; exact set4_ne (by unfold p9w at q; omega))
        refine Tx.aload_n hC te_20_138 rfl ?_
        refine Tx.dup hC te_20_139 ?_
        refine Tx.getI hC te_20_140 rfl rfl rfl (fun v5 v5e v5i => ?_)
        unfold InI at v5i
        refine Tx.iconst hC te_20_143 rfl ?_
        refine Tx.iaddW hC te_20_144 (fun z6 z6i z6e => ?_)
        unfold InI at z6i z6e
        first | replace z6e := z6e (by omega) | clear z6e
        refine Tx.putI hC te_20_145 rfl rfl rfl rfl ?_
        have hF8 : Frm p9w mem (upm m3 9 0 z6) := Frm.up hF4n (by unfold p9w; omega)
        exact Tx.vret hC te_20_148 rfl (show K (upm m3 9 0 z6) from H _ hF8 (by rw [r2q]; exact I72.fin i72_1 (by omega) (by omega) hr hab (by omega)))
      · replace q1 : ¬ ((x7 : Int) ≤ x5) := q1
        refine Tx.aload_n hC te_20_79 rfl ?_
        refine Tx.iload hC te_20_80 rfl ?_
        refine Tx.aload_n hC te_20_82 rfl ?_
        refine Tx.getR hC te_20_83 rfl rfl rfl ?_
        refine Tx.iload hC te_20_86 rfl ?_
        refine Tx.iconst hC te_20_88 rfl ?_
        refine Tx.isubW hC te_20_89 (fun z9 z9i z9e => ?_)
        unfold InI at z9i z9e
        first | replace z9e := z9e (by omega) | clear z9e
        refine Tx.iald hC te_20_90 rfl (by omega) (fun v10 v10e v10i => ?_)
        unfold InI at v10i
        refine Tx.aload_n hC te_20_91 rfl ?_
        refine Tx.getR hC te_20_92 rfl rfl rfl ?_
        refine Tx.iload hC te_20_95 rfl ?_
        refine Tx.iconst hC te_20_97 rfl ?_
        refine Tx.isubW hC te_20_98 (fun z11 z11i z11e => ?_)
        unfold InI at z11i z11e
        first | replace z11e := z11e (by omega) | clear z11e
        refine Tx.iald hC te_20_99 rfl (by omega) (fun v12 v12e v12i => ?_)
        unfold InI at v12i
        refine Tx.aload_n hC te_20_100 rfl ?_
        refine Tx.getR hC te_20_101 rfl rfl rfl ?_
        refine Tx.iload hC te_20_104 rfl ?_
        refine Tx.iconst hC te_20_106 rfl ?_
        refine Tx.isubW hC te_20_107 (fun z13 z13i z13e => ?_)
        unfold InI at z13i z13e
        first | replace z13e := z13e (by omega) | clear z13e
        refine Tx.iald hC te_20_108 rfl (by omega) (fun v14 v14e v14i => ?_)
        unfold InI at v14i
        refine Tx.aload_n hC te_20_109 rfl ?_
        refine Tx.getR hC te_20_110 rfl rfl rfl ?_
        refine Tx.iload hC te_20_113 rfl ?_
        refine Tx.iconst hC te_20_115 rfl ?_
        refine Tx.isubW hC te_20_116 (fun z15 z15i z15e => ?_)
        unfold InI at z15i z15e
        first | replace z15e := z15e (by omega) | clear z15e
        refine Tx.iald hC te_20_117 rfl (by omega) (fun v16 v16e v16i => ?_)
        unfold InI at v16i
        refine Tx.virtV hC te_20_118 mt_22 (args := [.inr 9, .inl x7, .inl v10, .inl v12, .inl v14, .inl v16]) (rest := []) (c' := 0) (s' := 0) rfl rfl rfl rfl rfl rfl rfl rfl rfl rfl ?_
        refine f_22s (by omega) (fun m18 r17q => ?_)
        have r17I : I72 mem m18 s (x7 - 1) := by rw [r17q]; exact I72.eq (I72.step i72_1 (by omega) (by omega) v10e v12e v14e v16e (by omega) (by omega) (by omega) (by omega)) (by omega)
        have hF19n : Frm p9w mem m18 := hF_72.tr (fun A i q => by rw [r17q]; exact set4_ne (by unfold p9w at q; omega))
        refine Tx.iincW hC te_20_121 rfl rfl (fun z20 z20i z20e => ?_)
        unfold InI at z20i z20e
        first | replace z20e := z20e (by omega) | clear z20e
        refine Tx.goto hC (t := 72) te_20_124 (by decide) ?_
        exact ih_72 x5 x6 z20 m18 (by omega) (I72.eq r17I (by omega)) (by omega) hF19n
  have l_6 : ∀ (N : Nat) (x5 x6 : Int), (0 ≤ x5 ∧ x5 ≤ mem 9 0) → ((64 - x5).toNat) < N → Tx (Ex S (n + 1)) S M_20 (kV K E) 0 0 6 [some (.inr 9), some (.inl a), some (.inl b), some (.inl e), some (.inl l), some (.inl x5), some (.inl x6), none] [] mem := by
    intro N
    induction N with
    | zero => intros; omega
    | succ N ih_6 =>
      intro x5 x6 i6_0 hN_6 
      refine Tx.iload hC te_20_6 rfl ?_
      refine Tx.aload_n hC te_20_8 rfl ?_
      refine Tx.getI hC te_20_9 rfl rfl rfl (fun v21 v21e v21i => ?_)
      unfold InI at v21i
      refine Tx.icmp hC (t := 42) te_20_12 (by decide) (fun q22 => ?_) (fun q22 => ?_)
      · replace q22 : v21 ≤ (x5 : Int) := q22
        refine Tx.iload hC te_20_42 rfl ?_
        refine Tx.aload_n hC te_20_44 rfl ?_
        refine Tx.getI hC te_20_45 rfl rfl rfl (fun v23 v23e v23i => ?_)
        unfold InI at v23i
        refine Tx.icmp hC (t := 56) te_20_48 (by decide) (fun q24 => ?_) (fun q24 => ?_)
        · replace q24 : v23 ≤ (x5 : Int) := q24
          refine Tx.aload_n hC te_20_56 rfl ?_
          refine Tx.getI hC te_20_57 rfl rfl rfl (fun v25 v25e v25i => ?_)
          unfold InI at v25i
          refine Tx.bipush hC te_20_60 rfl rfl ?_
          refine Tx.icmp hC (t := 66) te_20_62 (by decide) (fun q26 => ?_) (fun q26 => ?_)
          · replace q26 : (v25 : Int) < 64 := q26
            refine Tx.aload_n hC te_20_66 rfl ?_
            refine Tx.getI hC te_20_67 rfl rfl rfl (fun v27 v27e v27i => ?_)
            unfold InI at v27i
            refine Tx.istore hC te_20_70 rfl ?_
            exact l_72 _ x5 x6 v27 mem (by omega) (INS.i72 hI (by omega)) (Nat.lt_succ_self _) Frm.rf
          · replace q26 : ¬ ((v25 : Int) < 64) := q26
            exact Tx.vret hC te_20_65 rfl (show K mem from H _ Frm.rf hI)
        · replace q24 : ¬ (v23 ≤ (x5 : Int)) := q24
          refine Tx.iload hC te_20_51 rfl ?_
          refine Tx.ifc hC (t := 65) te_20_53 (by decide) (fun q28 => ?_) (fun q28 => ?_)
          · replace q28 : (x6 : Int) = 0 := q28
            exact Tx.vret hC te_20_65 rfl (show K mem from H _ Frm.rf hI)
          · replace q28 : ¬ ((x6 : Int) = 0) := q28
            refine Tx.aload_n hC te_20_56 rfl ?_
            refine Tx.getI hC te_20_57 rfl rfl rfl (fun v29 v29e v29i => ?_)
            unfold InI at v29i
            refine Tx.bipush hC te_20_60 rfl rfl ?_
            refine Tx.icmp hC (t := 66) te_20_62 (by decide) (fun q30 => ?_) (fun q30 => ?_)
            · replace q30 : (v29 : Int) < 64 := q30
              refine Tx.aload_n hC te_20_66 rfl ?_
              refine Tx.getI hC te_20_67 rfl rfl rfl (fun v31 v31e v31i => ?_)
              unfold InI at v31i
              refine Tx.istore hC te_20_70 rfl ?_
              exact l_72 _ x5 x6 v31 mem (by omega) (INS.i72 hI (by omega)) (Nat.lt_succ_self _) Frm.rf
            · replace q30 : ¬ ((v29 : Int) < 64) := q30
              exact Tx.vret hC te_20_65 rfl (show K mem from H _ Frm.rf hI)
      · replace q22 : ¬ (v21 ≤ (x5 : Int)) := q22
        refine Tx.aload_n hC te_20_15 rfl ?_
        refine Tx.iload hC te_20_16 rfl ?_
        refine Tx.iload_n hC te_20_18 rfl ?_
        refine Tx.iload_n hC te_20_19 rfl ?_
        refine Tx.iload_n hC te_20_20 rfl ?_
        refine Tx.iload hC te_20_21 rfl ?_
        refine Tx.virtI hC te_20_23 mt_21 (args := [.inr 9, .inl x5, .inl a, .inl b, .inl e, .inl l]) (rest := []) (c' := 0) (s' := 0) rfl rfl rfl rfl rfl rfl rfl rfl rfl rfl ?_
        refine CWI.q hC (f_21 (W := 9) ⟨rfl, rfl, rfl, rfl, rfl⟩ hI.1.1 (by omega) hr (fun r32 r32i => ?_))
        unfold InI at r32i
        refine Tx.istore hC te_20_26 rfl ?_
        refine Tx.iload hC te_20_28 rfl ?_
        refine Tx.ifc hC (t := 36) te_20_30 (by decide) (fun q35 => ?_) (fun q35 => ?_)
        · replace q35 : (r32 : Int) < 0 := q35
          refine Tx.iincW hC te_20_36 rfl rfl (fun z36 z36i z36e => ?_)
          unfold InI at z36i z36e
          first | replace z36e := z36e (by omega) | clear z36e
          refine Tx.goto hC (t := 6) te_20_39 (by decide) ?_
          exact ih_6 z36 r32 (by omega) (by omega)
        · replace q35 : ¬ ((r32 : Int) < 0) := q35
          refine Tx.goto hC (t := 42) te_20_33 (by decide) ?_
          refine Tx.iload hC te_20_42 rfl ?_
          refine Tx.aload_n hC te_20_44 rfl ?_
          refine Tx.getI hC te_20_45 rfl rfl rfl (fun v37 v37e v37i => ?_)
          unfold InI at v37i
          refine Tx.icmp hC (t := 56) te_20_48 (by decide) (fun q38 => ?_) (fun q38 => ?_)
          · replace q38 : v37 ≤ (x5 : Int) := q38
            refine Tx.aload_n hC te_20_56 rfl ?_
            refine Tx.getI hC te_20_57 rfl rfl rfl (fun v39 v39e v39i => ?_)
            unfold InI at v39i
            refine Tx.bipush hC te_20_60 rfl rfl ?_
            refine Tx.icmp hC (t := 66) te_20_62 (by decide) (fun q40 => ?_) (fun q40 => ?_)
            · replace q40 : (v39 : Int) < 64 := q40
              refine Tx.aload_n hC te_20_66 rfl ?_
              refine Tx.getI hC te_20_67 rfl rfl rfl (fun v41 v41e v41i => ?_)
              unfold InI at v41i
              refine Tx.istore hC te_20_70 rfl ?_
              exact l_72 _ x5 r32 v41 mem (by omega) (INS.i72 hI (by omega)) (Nat.lt_succ_self _) Frm.rf
            · replace q40 : ¬ ((v39 : Int) < 64) := q40
              exact Tx.vret hC te_20_65 rfl (show K mem from H _ Frm.rf hI)
          · replace q38 : ¬ (v37 ≤ (x5 : Int)) := q38
            refine Tx.iload hC te_20_51 rfl ?_
            refine Tx.ifc hC (t := 65) te_20_53 (by decide) (fun q42 => ?_) (fun q42 => ?_)
            · replace q42 : (r32 : Int) = 0 := q42
              exact Tx.vret hC te_20_65 rfl (show K mem from H _ Frm.rf hI)
            · replace q42 : ¬ ((r32 : Int) = 0) := q42
              refine Tx.aload_n hC te_20_56 rfl ?_
              refine Tx.getI hC te_20_57 rfl rfl rfl (fun v43 v43e v43i => ?_)
              unfold InI at v43i
              refine Tx.bipush hC te_20_60 rfl rfl ?_
              refine Tx.icmp hC (t := 66) te_20_62 (by decide) (fun q44 => ?_) (fun q44 => ?_)
              · replace q44 : (v43 : Int) < 64 := q44
                refine Tx.aload_n hC te_20_66 rfl ?_
                refine Tx.getI hC te_20_67 rfl rfl rfl (fun v45 v45e v45i => ?_)
                unfold InI at v45i
                refine Tx.istore hC te_20_70 rfl ?_
                exact l_72 _ x5 r32 v45 mem (by omega) (INS.i72 hI (by omega)) (Nat.lt_succ_self _) Frm.rf
              · replace q44 : ¬ ((v43 : Int) < 64) := q44
                exact Tx.vret hC te_20_65 rfl (show K mem from H _ Frm.rf hI)
  refine Tx.iconst hC te_20_0 rfl ?_
  refine Tx.istore hC te_20_1 rfl ?_
  refine Tx.iconst hC te_20_3 rfl ?_
  refine Tx.istore hC te_20_4 rfl ?_
  exact l_6 _ 0 (-1) (by omega) (Nat.lt_succ_self _)
theorem f_23s {S : Nat × (Nat → Int32)} {n : Nat} {mem : MM} {K : MM → Prop} {E : Nat → MM → Prop} (hB : BodyOK mem) {s o p kq : Int} (hI : INS mem s) (hs : s ≤ 8) (ho : 0 ≤ o ∧ o < s) (hp : 0 ≤ p ∧ p < s) (H : ∀ m', Frm p9w mem m' → INS m' s → K m') : CQV (Ex S (n + 3)) 23 [.inr 9, .inr 1, .inl o, .inl p, .inl kq] mem K E := by
  refine CY.of (k := 6) mt_23 rfl rfl (fun hv => ?_)
  have hC := Ex.mono S (n + 2)
  have ii_o : InI o := hv (.inl o) (by simp)
  unfold InI at ii_o
  have ii_p : InI p := hv (.inl p) (by simp)
  unfold InI at ii_p
  have ii_kq : InI kq := hv (.inl kq) (by simp)
  unfold InI at ii_kq
  clear hv
  show Tx (Ex S (n + 2)) S M_23 (kV K E) 0 0 0 [some (.inr 9), some (.inr 1), some (.inl o), some (.inl p), some (.inl kq), none, none, none, none, none, none] [] mem
  refine Tx.aload_n hC te_23_0 rfl ?_
  refine Tx.getR hC te_23_1 rfl rfl rfl ?_
  refine Tx.iload_n hC te_23_4 rfl ?_
  refine Tx.iald hC te_23_5 rfl (by omega) (fun v1 v1e v1i => ?_)
  unfold InI at v1i
  have f2 := hB.kd (o := (Int.toNat o)) (by omega)
  refine Tx.iconst hC te_23_6 rfl ?_
  refine Tx.icmp hC (t := 20) te_23_7 (by decide) (fun q3 => ?_) (fun q3 => ?_)
  · replace q3 : (v1 : Int) < 4 := q3
    exact Tx.vret hC te_23_20 rfl (show K mem from H _ Frm.rf hI)
  · replace q3 : ¬ ((v1 : Int) < 4) := q3
    refine Tx.aload_n hC te_23_10 rfl ?_
    refine Tx.getR hC te_23_11 rfl rfl rfl ?_
    refine Tx.iload_n hC te_23_14 rfl ?_
    refine Tx.iald hC te_23_15 rfl (by omega) (fun v4 v4e v4i => ?_)
    unfold InI at v4i
    have f5 := hB.kd (o := (Int.toNat p)) (by omega)
    refine Tx.iconst hC te_23_16 rfl ?_
    refine Tx.icmp hC (t := 21) te_23_17 (by decide) (fun q6 => ?_) (fun q6 => ?_)
    · replace q6 : 4 ≤ (v4 : Int) := q6
      refine Tx.aload_n hC te_23_21 rfl ?_
      refine Tx.iload_n hC te_23_22 rfl ?_
      refine Tx.virtI hC te_23_23 mt_24 (args := [.inr 1, .inl o]) (rest := []) (c' := 0) (s' := 0) rfl rfl rfl rfl rfl rfl rfl rfl rfl rfl ?_
      refine f_24q (by omega) (fun r7 r7e r7i => ?_)
      have r7w := hB.row (o := Int.toNat o) (by omega) (by omega)
      unfold InI at r7i
      refine Tx.aload_n hC te_23_26 rfl ?_
      refine Tx.iload_n hC te_23_27 rfl ?_
      refine Tx.virtI hC te_23_28 mt_24 (args := [.inr 1, .inl p]) (rest := [.inl r7]) (c' := 0) (s' := 0) rfl rfl rfl rfl rfl rfl rfl rfl rfl rfl ?_
      refine f_24q (by omega) (fun r10 r10e r10i => ?_)
      have r10w := hB.row (o := Int.toNat p) (by omega) (by omega)
      unfold InI at r10i
      refine Tx.icmp hC (t := 35) te_23_31 (by decide) (fun q13 => ?_) (fun q13 => ?_)
      · replace q13 : (r7 : Int) = r10 := q13
        refine Tx.aload_n hC te_23_35 rfl ?_
        refine Tx.iload_n hC te_23_36 rfl ?_
        refine Tx.virtI hC te_23_37 mt_25 (args := [.inr 1, .inl o]) (rest := []) (c' := 0) (s' := 0) rfl rfl rfl rfl rfl rfl rfl rfl rfl rfl ?_
        refine f_25q (by omega) (fun r14 r14e r14i => ?_)
        have r14w := hB.row (o := Int.toNat o) (by omega) (by omega)
        unfold InI at r14i
        refine Tx.aload_n hC te_23_40 rfl ?_
        refine Tx.iload_n hC te_23_41 rfl ?_
        refine Tx.virtI hC te_23_42 mt_25 (args := [.inr 1, .inl p]) (rest := [.inl r14]) (c' := 0) (s' := 0) rfl rfl rfl rfl rfl rfl rfl rfl rfl rfl ?_
        refine f_25q (by omega) (fun r17 r17e r17i => ?_)
        have r17w := hB.row (o := Int.toNat p) (by omega) (by omega)
        unfold InI at r17i
        refine Tx.icmp hC (t := 52) te_23_45 (by decide) (fun q20 => ?_) (fun q20 => ?_)
        · replace q20 : (r14 : Int) < r17 := q20
          refine Tx.iconst hC te_23_52 rfl ?_
          refine Tx.istore hC te_23_53 rfl ?_
          refine Tx.iload hC te_23_55 rfl ?_
          refine Tx.ifc hC (t := 64) te_23_57 (by decide) (fun q => ?_) (fun q => absurd (show (0 : Int) = 0 by decide) q)
          refine Tx.iload_n hC te_23_64 rfl ?_
          refine Tx.istore hC te_23_65 rfl ?_
          refine Tx.iload hC te_23_67 rfl ?_
          refine Tx.ifc hC (t := 76) te_23_69 (by decide) (fun q => ?_) (fun q => absurd (show (0 : Int) = 0 by decide) q)
          refine Tx.iload_n hC te_23_76 rfl ?_
          refine Tx.istore hC te_23_77 rfl ?_
          refine Tx.aload_n hC te_23_79 rfl ?_
          refine Tx.iload hC te_23_80 rfl ?_
          refine Tx.virtI hC te_23_82 mt_25 (args := [.inr 1, .inl p]) (rest := []) (c' := 0) (s' := 0) rfl rfl rfl rfl rfl rfl rfl rfl rfl rfl ?_
          refine f_25q (by omega) (fun r21 r21e r21i => ?_)
          have r21w := hB.row (o := Int.toNat p) (by omega) (by omega)
          unfold InI at r21i
          refine Tx.aload_n hC te_23_85 rfl ?_
          refine Tx.iload hC te_23_86 rfl ?_
          refine Tx.virtI hC te_23_88 mt_25 (args := [.inr 1, .inl o]) (rest := [.inl r21]) (c' := 0) (s' := 0) rfl rfl rfl rfl rfl rfl rfl rfl rfl rfl ?_
          refine f_25q (by omega) (fun r24 r24e r24i => ?_)
          have r24w := hB.row (o := Int.toNat o) (by omega) (by omega)
          unfold InI at r24i
          refine Tx.isubW hC te_23_91 (fun z27 z27i z27e => ?_)
          unfold InI at z27i z27e
          first | replace z27e := z27e (by omega) | clear z27e
          refine Tx.istore hC te_23_92 rfl ?_
          refine Tx.aload_n hC te_23_94 rfl ?_
          refine Tx.getR hC te_23_95 rfl rfl rfl ?_
          refine Tx.iload hC te_23_98 rfl ?_
          refine Tx.iald hC te_23_100 rfl (by omega) (fun v28 v28e v28i => ?_)
          unfold InI at v28i
          have f29 := hB.kd (o := (Int.toNat p)) (by omega)
          refine Tx.iconst hC te_23_101 rfl ?_
          refine Tx.icmp hC (t := 109) te_23_102 (by decide) (fun q30 => ?_) (fun q30 => ?_)
          · replace q30 : ¬ (v28 : Int) = 5 := q30
            refine Tx.iconst hC te_23_109 rfl ?_
            refine Tx.istore hC te_23_110 rfl ?_
            refine Tx.aload_n hC te_23_112 rfl ?_
            refine Tx.getR hC te_23_113 rfl rfl rfl ?_
            refine Tx.iload hC te_23_116 rfl ?_
            refine Tx.iald hC te_23_118 rfl (by omega) (fun v31 v31e v31i => ?_)
            unfold InI at v31i
            have f32 := hB.kd (o := (Int.toNat o)) (by omega)
            refine Tx.iconst hC te_23_119 rfl ?_
            refine Tx.icmp hC (t := 127) te_23_120 (by decide) (fun q33 => ?_) (fun q33 => ?_)
            · replace q33 : ¬ (v31 : Int) = 5 := q33
              refine Tx.iconst hC te_23_127 rfl ?_
              refine Tx.istore hC te_23_128 rfl ?_
              refine Tx.iload hC te_23_130 rfl ?_
              refine Tx.ifc hC (t := 154) te_23_132 (by decide) (fun q => ?_) (fun q => absurd (show (0 : Int) = 0 by decide) q)
              refine Tx.iload hC te_23_154 rfl ?_
              refine Tx.ifc hC (t := 180) te_23_156 (by decide) (fun q => ?_) (fun q => absurd (show (0 : Int) = 0 by decide) q)
              refine Tx.iload hC te_23_180 rfl ?_
              refine Tx.ifc hC (t := 205) te_23_182 (by decide) (fun q => ?_) (fun q => absurd (show (0 : Int) = 0 by decide) q)
              exact Tx.vret hC te_23_205 rfl (show K mem from H _ Frm.rf hI)
            · replace q33 : ¬ (¬ (v31 : Int) = 5) := q33
              refine Tx.iconst hC te_23_123 rfl ?_
              refine Tx.goto hC (t := 128) te_23_124 (by decide) ?_
              refine Tx.istore hC te_23_128 rfl ?_
              refine Tx.iload hC te_23_130 rfl ?_
              refine Tx.ifc hC (t := 154) te_23_132 (by decide) (fun q => ?_) (fun q => absurd (show (0 : Int) = 0 by decide) q)
              refine Tx.iload hC te_23_154 rfl ?_
              refine Tx.ifc hC (t := 180) te_23_156 (by decide) (fun q => ?_) (fun q => absurd (show (0 : Int) = 0 by decide) q)
              refine Tx.iload hC te_23_180 rfl ?_
              refine Tx.ifc hC (t := 205) te_23_182 (by decide) (fun q => absurd q (show ¬ ((1 : Int) = 0) by decide)) (fun q => ?_)
              refine Tx.aload_n hC te_23_185 rfl ?_
              refine Tx.iload hC te_23_186 rfl ?_
              refine Tx.iload hC te_23_188 rfl ?_
              refine Tx.iload hC te_23_190 rfl ?_
              refine Tx.iconst hC te_23_192 rfl ?_
              refine Tx.aload_n hC te_23_193 rfl ?_
              refine Tx.iload hC te_23_194 rfl ?_
              refine Tx.iload hC te_23_196 rfl ?_
              refine Tx.statI hC te_23_198 (by decide) mt_18 (args := [.inr 1, .inl o, .inl kq]) (rest := [.inl 1, .inl z27, .inl o, .inl p, .inr 9]) (c' := 0) (s' := 0) rfl rfl rfl rfl rfl rfl rfl ?_
              refine CWI.q hC (f_18 hB (by omega) (fun r34 r34a r34b r34i => ?_))
              unfold InI at r34i
              refine Tx.isubW hC te_23_201 (fun z37 z37i z37e => ?_)
              unfold InI at z37i z37e
              first | replace z37e := z37e (by omega) | clear z37e
              refine Tx.virtV hC te_23_202 mt_20 (args := [.inr 9, .inl p, .inl o, .inl z27, .inl z37]) (rest := []) (c' := 0) (s' := 0) rfl rfl rfl rfl rfl rfl rfl rfl rfl rfl ?_
              refine f_20s hI (by unfold Rg; omega) (by omega) (fun m39 hF40 r38I => ?_)
              have hF40n : Frm p9w mem m39 := Frm.rf.tr hF40
              exact Tx.vret hC te_23_205 rfl (show K m39 from H _ hF40n r38I)
          · replace q30 : ¬ (¬ (v28 : Int) = 5) := q30
            refine Tx.iconst hC te_23_105 rfl ?_
            refine Tx.goto hC (t := 110) te_23_106 (by decide) ?_
            refine Tx.istore hC te_23_110 rfl ?_
            refine Tx.aload_n hC te_23_112 rfl ?_
            refine Tx.getR hC te_23_113 rfl rfl rfl ?_
            refine Tx.iload hC te_23_116 rfl ?_
            refine Tx.iald hC te_23_118 rfl (by omega) (fun v41 v41e v41i => ?_)
            unfold InI at v41i
            have f42 := hB.kd (o := (Int.toNat o)) (by omega)
            refine Tx.iconst hC te_23_119 rfl ?_
            refine Tx.icmp hC (t := 127) te_23_120 (by decide) (fun q43 => ?_) (fun q43 => ?_)
            · replace q43 : ¬ (v41 : Int) = 5 := q43
              refine Tx.iconst hC te_23_127 rfl ?_
              refine Tx.istore hC te_23_128 rfl ?_
              refine Tx.iload hC te_23_130 rfl ?_
              refine Tx.ifc hC (t := 154) te_23_132 (by decide) (fun q => absurd q (show ¬ ((1 : Int) = 0) by decide)) (fun q => ?_)
              refine Tx.iload hC te_23_135 rfl ?_
              refine Tx.ifc hC (t := 154) te_23_137 (by decide) (fun q => ?_) (fun q => absurd (show (0 : Int) = 0 by decide) q)
              refine Tx.iload hC te_23_154 rfl ?_
              refine Tx.ifc hC (t := 180) te_23_156 (by decide) (fun q => absurd q (show ¬ ((1 : Int) = 0) by decide)) (fun q => ?_)
              refine Tx.aload_n hC te_23_159 rfl ?_
              refine Tx.iload hC te_23_160 rfl ?_
              refine Tx.iload hC te_23_162 rfl ?_
              refine Tx.iload hC te_23_164 rfl ?_
              refine Tx.aload_n hC te_23_166 rfl ?_
              refine Tx.iload hC te_23_167 rfl ?_
              refine Tx.iload hC te_23_169 rfl ?_
              refine Tx.statI hC te_23_171 (by decide) mt_18 (args := [.inr 1, .inl p, .inl kq]) (rest := [.inl z27, .inl o, .inl p, .inr 9]) (c' := 0) (s' := 0) rfl rfl rfl rfl rfl rfl rfl ?_
              refine CWI.q hC (f_18 hB (by omega) (fun r44 r44a r44b r44i => ?_))
              unfold InI at r44i
              refine Tx.virtV hC te_23_174 mt_20 (args := [.inr 9, .inl p, .inl o, .inl z27, .inl r44]) (rest := []) (c' := 0) (s' := 0) rfl rfl rfl rfl rfl rfl rfl rfl rfl rfl ?_
              refine f_20s hI (by unfold Rg; omega) (by omega) (fun m48 hF49 r47I => ?_)
              have hF49n : Frm p9w mem m48 := Frm.rf.tr hF49
              refine Tx.goto hC (t := 205) te_23_177 (by decide) ?_
              exact Tx.vret hC te_23_205 rfl (show K m48 from H _ hF49n r47I)
            · replace q43 : ¬ (¬ (v41 : Int) = 5) := q43
              refine Tx.iconst hC te_23_123 rfl ?_
              refine Tx.goto hC (t := 128) te_23_124 (by decide) ?_
              refine Tx.istore hC te_23_128 rfl ?_
              refine Tx.iload hC te_23_130 rfl ?_
              refine Tx.ifc hC (t := 154) te_23_132 (by decide) (fun q => absurd q (show ¬ ((1 : Int) = 0) by decide)) (fun q => ?_)
              refine Tx.iload hC te_23_135 rfl ?_
              refine Tx.ifc hC (t := 154) te_23_137 (by decide) (fun q => absurd q (show ¬ ((1 : Int) = 0) by decide)) (fun q => ?_)
              refine Tx.aload_n hC te_23_140 rfl ?_
              refine Tx.iload hC te_23_141 rfl ?_
              refine Tx.iload hC te_23_143 rfl ?_
              refine Tx.iload hC te_23_145 rfl ?_
              refine Tx.iconst hC te_23_147 rfl ?_
              refine Tx.virtV hC te_23_148 mt_20 (args := [.inr 9, .inl p, .inl o, .inl z27, .inl 1]) (rest := []) (c' := 0) (s' := 0) rfl rfl rfl rfl rfl rfl rfl rfl rfl rfl ?_
              refine f_20s hI (by unfold Rg; omega) (by omega) (fun m51 hF52 r50I => ?_)
              have hF52n : Frm p9w mem m51 := Frm.rf.tr hF52
              refine Tx.goto hC (t := 205) te_23_151 (by decide) ?_
              exact Tx.vret hC te_23_205 rfl (show K m51 from H _ hF52n r50I)
        · replace q20 : ¬ ((r14 : Int) < r17) := q20
          refine Tx.iconst hC te_23_48 rfl ?_
          refine Tx.goto hC (t := 53) te_23_49 (by decide) ?_
          refine Tx.istore hC te_23_53 rfl ?_
          refine Tx.iload hC te_23_55 rfl ?_
          refine Tx.ifc hC (t := 64) te_23_57 (by decide) (fun q => absurd q (show ¬ ((1 : Int) = 0) by decide)) (fun q => ?_)
          refine Tx.iload_n hC te_23_60 rfl ?_
          refine Tx.goto hC (t := 65) te_23_61 (by decide) ?_
          refine Tx.istore hC te_23_65 rfl ?_
          refine Tx.iload hC te_23_67 rfl ?_
          refine Tx.ifc hC (t := 76) te_23_69 (by decide) (fun q => absurd q (show ¬ ((1 : Int) = 0) by decide)) (fun q => ?_)
          refine Tx.iload_n hC te_23_72 rfl ?_
          refine Tx.goto hC (t := 77) te_23_73 (by decide) ?_
          refine Tx.istore hC te_23_77 rfl ?_
          refine Tx.aload_n hC te_23_79 rfl ?_
          refine Tx.iload hC te_23_80 rfl ?_
          refine Tx.virtI hC te_23_82 mt_25 (args := [.inr 1, .inl o]) (rest := []) (c' := 0) (s' := 0) rfl rfl rfl rfl rfl rfl rfl rfl rfl rfl ?_
          refine f_25q (by omega) (fun r53 r53e r53i => ?_)
          have r53w := hB.row (o := Int.toNat o) (by omega) (by omega)
          unfold InI at r53i
          refine Tx.aload_n hC te_23_85 rfl ?_
          refine Tx.iload hC te_23_86 rfl ?_
          refine Tx.virtI hC te_23_88 mt_25 (args := [.inr 1, .inl p]) (rest := [.inl r53]) (c' := 0) (s' := 0) rfl rfl rfl rfl rfl rfl rfl rfl rfl rfl ?_
          refine f_25q (by omega) (fun r56 r56e r56i => ?_)
          have r56w := hB.row (o := Int.toNat p) (by omega) (by omega)
          unfold InI at r56i
          refine Tx.isubW hC te_23_91 (fun z59 z59i z59e => ?_)
          unfold InI at z59i z59e
          first | replace z59e := z59e (by omega) | clear z59e
          refine Tx.istore hC te_23_92 rfl ?_
          refine Tx.aload_n hC te_23_94 rfl ?_
          refine Tx.getR hC te_23_95 rfl rfl rfl ?_
          refine Tx.iload hC te_23_98 rfl ?_
          refine Tx.iald hC te_23_100 rfl (by omega) (fun v60 v60e v60i => ?_)
          unfold InI at v60i
          have f61 := hB.kd (o := (Int.toNat o)) (by omega)
          refine Tx.iconst hC te_23_101 rfl ?_
          refine Tx.icmp hC (t := 109) te_23_102 (by decide) (fun q62 => ?_) (fun q62 => ?_)
          · replace q62 : ¬ (v60 : Int) = 5 := q62
            refine Tx.iconst hC te_23_109 rfl ?_
            refine Tx.istore hC te_23_110 rfl ?_
            refine Tx.aload_n hC te_23_112 rfl ?_
            refine Tx.getR hC te_23_113 rfl rfl rfl ?_
            refine Tx.iload hC te_23_116 rfl ?_
            refine Tx.iald hC te_23_118 rfl (by omega) (fun v63 v63e v63i => ?_)
            unfold InI at v63i
            have f64 := hB.kd (o := (Int.toNat p)) (by omega)
            refine Tx.iconst hC te_23_119 rfl ?_
            refine Tx.icmp hC (t := 127) te_23_120 (by decide) (fun q65 => ?_) (fun q65 => ?_)
            · replace q65 : ¬ (v63 : Int) = 5 := q65
              refine Tx.iconst hC te_23_127 rfl ?_
              refine Tx.istore hC te_23_128 rfl ?_
              refine Tx.iload hC te_23_130 rfl ?_
              refine Tx.ifc hC (t := 154) te_23_132 (by decide) (fun q => ?_) (fun q => absurd (show (0 : Int) = 0 by decide) q)
              refine Tx.iload hC te_23_154 rfl ?_
              refine Tx.ifc hC (t := 180) te_23_156 (by decide) (fun q => ?_) (fun q => absurd (show (0 : Int) = 0 by decide) q)
              refine Tx.iload hC te_23_180 rfl ?_
              refine Tx.ifc hC (t := 205) te_23_182 (by decide) (fun q => ?_) (fun q => absurd (show (0 : Int) = 0 by decide) q)
              exact Tx.vret hC te_23_205 rfl (show K mem from H _ Frm.rf hI)
            · replace q65 : ¬ (¬ (v63 : Int) = 5) := q65
              refine Tx.iconst hC te_23_123 rfl ?_
              refine Tx.goto hC (t := 128) te_23_124 (by decide) ?_
              refine Tx.istore hC te_23_128 rfl ?_
              refine Tx.iload hC te_23_130 rfl ?_
              refine Tx.ifc hC (t := 154) te_23_132 (by decide) (fun q => ?_) (fun q => absurd (show (0 : Int) = 0 by decide) q)
              refine Tx.iload hC te_23_154 rfl ?_
              refine Tx.ifc hC (t := 180) te_23_156 (by decide) (fun q => ?_) (fun q => absurd (show (0 : Int) = 0 by decide) q)
              refine Tx.iload hC te_23_180 rfl ?_
              refine Tx.ifc hC (t := 205) te_23_182 (by decide) (fun q => absurd q (show ¬ ((1 : Int) = 0) by decide)) (fun q => ?_)
              refine Tx.aload_n hC te_23_185 rfl ?_
              refine Tx.iload hC te_23_186 rfl ?_
              refine Tx.iload hC te_23_188 rfl ?_
              refine Tx.iload hC te_23_190 rfl ?_
              refine Tx.iconst hC te_23_192 rfl ?_
              refine Tx.aload_n hC te_23_193 rfl ?_
              refine Tx.iload hC te_23_194 rfl ?_
              refine Tx.iload hC te_23_196 rfl ?_
              refine Tx.statI hC te_23_198 (by decide) mt_18 (args := [.inr 1, .inl p, .inl kq]) (rest := [.inl 1, .inl z59, .inl p, .inl o, .inr 9]) (c' := 0) (s' := 0) rfl rfl rfl rfl rfl rfl rfl ?_
              refine CWI.q hC (f_18 hB (by omega) (fun r66 r66a r66b r66i => ?_))
              unfold InI at r66i
              refine Tx.isubW hC te_23_201 (fun z69 z69i z69e => ?_)
              unfold InI at z69i z69e
              first | replace z69e := z69e (by omega) | clear z69e
              refine Tx.virtV hC te_23_202 mt_20 (args := [.inr 9, .inl o, .inl p, .inl z59, .inl z69]) (rest := []) (c' := 0) (s' := 0) rfl rfl rfl rfl rfl rfl rfl rfl rfl rfl ?_
              refine f_20s hI (by unfold Rg; omega) (by omega) (fun m71 hF72 r70I => ?_)
              have hF72n : Frm p9w mem m71 := Frm.rf.tr hF72
              exact Tx.vret hC te_23_205 rfl (show K m71 from H _ hF72n r70I)
          · replace q62 : ¬ (¬ (v60 : Int) = 5) := q62
            refine Tx.iconst hC te_23_105 rfl ?_
            refine Tx.goto hC (t := 110) te_23_106 (by decide) ?_
            refine Tx.istore hC te_23_110 rfl ?_
            refine Tx.aload_n hC te_23_112 rfl ?_
            refine Tx.getR hC te_23_113 rfl rfl rfl ?_
            refine Tx.iload hC te_23_116 rfl ?_
            refine Tx.iald hC te_23_118 rfl (by omega) (fun v73 v73e v73i => ?_)
            unfold InI at v73i
            have f74 := hB.kd (o := (Int.toNat p)) (by omega)
            refine Tx.iconst hC te_23_119 rfl ?_
            refine Tx.icmp hC (t := 127) te_23_120 (by decide) (fun q75 => ?_) (fun q75 => ?_)
            · replace q75 : ¬ (v73 : Int) = 5 := q75
              refine Tx.iconst hC te_23_127 rfl ?_
              refine Tx.istore hC te_23_128 rfl ?_
              refine Tx.iload hC te_23_130 rfl ?_
              refine Tx.ifc hC (t := 154) te_23_132 (by decide) (fun q => absurd q (show ¬ ((1 : Int) = 0) by decide)) (fun q => ?_)
              refine Tx.iload hC te_23_135 rfl ?_
              refine Tx.ifc hC (t := 154) te_23_137 (by decide) (fun q => ?_) (fun q => absurd (show (0 : Int) = 0 by decide) q)
              refine Tx.iload hC te_23_154 rfl ?_
              refine Tx.ifc hC (t := 180) te_23_156 (by decide) (fun q => absurd q (show ¬ ((1 : Int) = 0) by decide)) (fun q => ?_)
              refine Tx.aload_n hC te_23_159 rfl ?_
              refine Tx.iload hC te_23_160 rfl ?_
              refine Tx.iload hC te_23_162 rfl ?_
              refine Tx.iload hC te_23_164 rfl ?_
              refine Tx.aload_n hC te_23_166 rfl ?_
              refine Tx.iload hC te_23_167 rfl ?_
              refine Tx.iload hC te_23_169 rfl ?_
              refine Tx.statI hC te_23_171 (by decide) mt_18 (args := [.inr 1, .inl o, .inl kq]) (rest := [.inl z59, .inl p, .inl o, .inr 9]) (c' := 0) (s' := 0) rfl rfl rfl rfl rfl rfl rfl ?_
              refine CWI.q hC (f_18 hB (by omega) (fun r76 r76a r76b r76i => ?_))
              unfold InI at r76i
              refine Tx.virtV hC te_23_174 mt_20 (args := [.inr 9, .inl o, .inl p, .inl z59, .inl r76]) (rest := []) (c' := 0) (s' := 0) rfl rfl rfl rfl rfl rfl rfl rfl rfl rfl ?_
              refine f_20s hI (by unfold Rg; omega) (by omega) (fun m80 hF81 r79I => ?_)
              have hF81n : Frm p9w mem m80 := Frm.rf.tr hF81
              refine Tx.goto hC (t := 205) te_23_177 (by decide) ?_
              exact Tx.vret hC te_23_205 rfl (show K m80 from H _ hF81n r79I)
            · replace q75 : ¬ (¬ (v73 : Int) = 5) := q75
              refine Tx.iconst hC te_23_123 rfl ?_
              refine Tx.goto hC (t := 128) te_23_124 (by decide) ?_
              refine Tx.istore hC te_23_128 rfl ?_
              refine Tx.iload hC te_23_130 rfl ?_
              refine Tx.ifc hC (t := 154) te_23_132 (by decide) (fun q => absurd q (show ¬ ((1 : Int) = 0) by decide)) (fun q => ?_)
              refine Tx.iload hC te_23_135 rfl ?_
              refine Tx.ifc hC (t := 154) te_23_137 (by decide) (fun q => absurd q (show ¬ ((1 : Int) = 0) by decide)) (fun q => ?_)
              refine Tx.aload_n hC te_23_140 rfl ?_
              refine Tx.iload hC te_23_141 rfl ?_
              refine Tx.iload hC te_23_143 rfl ?_
              refine Tx.iload hC te_23_145 rfl ?_
              refine Tx.iconst hC te_23_147 rfl ?_
              refine Tx.virtV hC te_23_148 mt_20 (args := [.inr 9, .inl o, .inl p, .inl z59, .inl 1]) (rest := []) (c' := 0) (s' := 0) rfl rfl rfl rfl rfl rfl rfl rfl rfl rfl ?_
              refine f_20s hI (by unfold Rg; omega) (by omega) (fun m83 hF84 r82I => ?_)
              have hF84n : Frm p9w mem m83 := Frm.rf.tr hF84
              refine Tx.goto hC (t := 205) te_23_151 (by decide) ?_
              exact Tx.vret hC te_23_205 rfl (show K m83 from H _ hF84n r82I)
      · replace q13 : ¬ ((r7 : Int) = r10) := q13
        exact Tx.vret hC te_23_34 rfl (show K mem from H _ Frm.rf hI)
    · replace q6 : ¬ (4 ≤ (v4 : Int)) := q6
      exact Tx.vret hC te_23_20 rfl (show K mem from H _ Frm.rf hI)
theorem f_17s {S : Nat × (Nat → Int32)} {n : Nat} {mem : MM} {K : MM → Prop} {E : Nat → MM → Prop} (hB : BodyOK mem) (hR9 : R64 mem 9) (hSn : Snd mem) {kq : Int} (H : ∀ m', Frm p9w mem m' → INS m' (mem 1 0) → K m') : CQV (Ex S (n + 4)) 17 [.inr 9, .inr 1, .inl kq] mem K E := by
  refine CY.of (k := 3) mt_17 rfl rfl (fun hv => ?_)
  have hC := Ex.mono S (n + 3)
  have ii_kq : InI kq := hv (.inl kq) (by simp)
  unfold InI at ii_kq
  clear hv
  have h8 := hB.1
  show Tx (Ex S (n + 3)) S M_17 (kV K E) 0 0 0 [some (.inr 9), some (.inr 1), some (.inl kq), none, none, none] [] mem
  have l_77 : ∀ (N : Nat) (x3 : Int) (m_77 : MM), (0 ≤ x3) → (INS m_77 (mem 1 0)) → ((8 - x3).toNat) < N → Frm p9w mem m_77 → Tx (Ex S (n + 3)) S M_17 (kV K E) 0 0 77 [some (.inr 9), some (.inr 1), some (.inl kq), some (.inl x3), none, none] [] m_77 := by
    intro N
    induction N with
    | zero => intros; omega
    | succ N ih_77 =>
      intro x3 m_77 i77_0 i77_1 hN_77 hF_77
      have l_90 : ∀ (N : Nat) (x4 : Int) (m_90 : MM), (0 ≤ x4) → (INS m_90 (mem 1 0)) → (0 ≤ x3 ∧ x3 < mem 1 0) → ((8 - x4).toNat) < N → Frm p9w mem m_90 → Tx (Ex S (n + 3)) S M_17 (kV K E) 0 0 90 [some (.inr 9), some (.inr 1), some (.inl kq), some (.inl x3), some (.inl x4), none] [] m_90 := by
        intro N
        induction N with
        | zero => intros; omega
        | succ N ih_90 =>
          intro x4 m_90 i90_0 i90_1 i90_2 hN_90 hF_90
          refine Tx.iload hC te_17_90 rfl ?_
          refine Tx.aload_n hC te_17_92 rfl ?_
          refine Tx.getI hC te_17_93 rfl rfl rfl (fun v1 v1e v1i => ?_)
          unfold InI at v1i
          rw [hF_90 1 _ (by unfold p9w; omega)] at v1e
          refine Tx.icmp hC (t := 114) te_17_96 (by decide) (fun q2 => ?_) (fun q2 => ?_)
          · replace q2 : v1 ≤ (x4 : Int) := q2
            refine Tx.iincW hC te_17_114 rfl rfl (fun z3 z3i z3e => ?_)
            unfold InI at z3i z3e
            first | replace z3e := z3e (by omega) | clear z3e
            refine Tx.goto hC (t := 77) te_17_117 (by decide) ?_
            exact Tx.weak (by repeat' (first | exact trivial | exact rfl | constructor)) (ih_77 z3 m_90 (by omega) (i90_1) (by omega) hF_90)
          · replace q2 : ¬ (v1 ≤ (x4 : Int)) := q2
            refine Tx.aload_n hC te_17_99 rfl ?_
            refine Tx.aload_n hC te_17_100 rfl ?_
            refine Tx.iload_n hC te_17_101 rfl ?_
            refine Tx.iload hC te_17_102 rfl ?_
            refine Tx.iload_n hC te_17_104 rfl ?_
            refine Tx.virtV hC te_17_105 mt_23 (args := [.inr 9, .inr 1, .inl x3, .inl x4, .inl kq]) (rest := []) (c' := 0) (s' := 0) rfl rfl rfl rfl rfl rfl rfl rfl rfl rfl ?_
            refine f_23s (hB.fr (fun A i a b => hF_90 A i (by unfold p9w; omega))) i90_1 (by omega) (by omega) (by omega) (fun m5 hF6 r4I => ?_)
            have hF6n : Frm p9w mem m5 := hF_90.tr hF6
            refine Tx.iincW hC te_17_108 rfl rfl (fun z7 z7i z7e => ?_)
            unfold InI at z7i z7e
            first | replace z7e := z7e (by omega) | clear z7e
            refine Tx.goto hC (t := 90) te_17_111 (by decide) ?_
            exact ih_90 z7 m5 (by omega) (r4I) (by omega) (by omega) hF6n
      refine Tx.iload_n hC te_17_77 rfl ?_
      refine Tx.aload_n hC te_17_78 rfl ?_
      refine Tx.getI hC te_17_79 rfl rfl rfl (fun v8 v8e v8i => ?_)
      unfold InI at v8i
      rw [hF_77 1 _ (by unfold p9w; omega)] at v8e
      refine Tx.icmp hC (t := 120) te_17_82 (by decide) (fun q9 => ?_) (fun q9 => ?_)
      · replace q9 : v8 ≤ (x3 : Int) := q9
        exact Tx.vret hC te_17_120 rfl (show K m_77 from H _ hF_77 i77_1)
      · replace q9 : ¬ (v8 ≤ (x3 : Int)) := q9
        refine Tx.iload_n hC te_17_85 rfl ?_
        refine Tx.iconst hC te_17_86 rfl ?_
        refine Tx.iaddW hC te_17_87 (fun z10 z10i z10e => ?_)
        unfold InI at z10i z10e
        first | replace z10e := z10e (by omega) | clear z10e
        refine Tx.istore hC te_17_88 rfl ?_
        exact l_90 _ z10 m_77 (by omega) (i77_1) (by omega) (Nat.lt_succ_self _) hF_77
  have l_7 : ∀ (N : Nat) (x3 : Int) (m_7 : MM), (0 ≤ x3) → (INS m_7 (mem 1 0)) → ((8 - x3).toNat) < N → Frm p9w mem m_7 → Tx (Ex S (n + 3)) S M_17 (kV K E) 0 0 7 [some (.inr 9), some (.inr 1), some (.inl kq), some (.inl x3), none, none] [] m_7 := by
    intro N
    induction N with
    | zero => intros; omega
    | succ N ih_7 =>
      intro x3 m_7 i7_0 i7_1 hN_7 hF_7
      have l_18 : ∀ (N : Nat) (x4 : Int) (m_18 : MM), (0 ≤ x4) → (INS m_18 (mem 1 0)) → (0 ≤ x3 ∧ x3 < mem 1 0) → ((3 - x4).toNat) < N → Frm p9w mem m_18 → Tx (Ex S (n + 3)) S M_17 (kV K E) 0 0 18 [some (.inr 9), some (.inr 1), some (.inl kq), some (.inl x3), some (.inl x4), none] [] m_18 := by
        intro N
        induction N with
        | zero => intros; omega
        | succ N ih_18 =>
          intro x4 m_18 i18_0 i18_1 i18_2 hN_18 hF_18
          refine Tx.iload hC te_17_18 rfl ?_
          refine Tx.aload_n hC te_17_20 rfl ?_
          refine Tx.iload_n hC te_17_21 rfl ?_
          refine Tx.virtI hC te_17_22 mt_13 (args := [.inr 1, .inl x3]) (rest := [.inl x4]) (c' := 0) (s' := 0) rfl rfl rfl rfl rfl rfl rfl rfl rfl rfl ?_
          refine f_13q (by omega) (fun r11 r11e r11a r11b r11i => ?_)
          unfold InI at r11i
          refine Tx.icmp hC (t := 69) te_17_25 (by decide) (fun q14 => ?_) (fun q14 => ?_)
          · replace q14 : r11 ≤ (x4 : Int) := q14
            refine Tx.iincW hC te_17_69 rfl rfl (fun z15 z15i z15e => ?_)
            unfold InI at z15i z15e
            first | replace z15e := z15e (by omega) | clear z15e
            refine Tx.goto hC (t := 7) te_17_72 (by decide) ?_
            exact Tx.weak (by repeat' (first | exact trivial | exact rfl | constructor)) (ih_7 z15 m_18 (by omega) (i18_1) (by omega) hF_18)
          · replace q14 : ¬ (r11 ≤ (x4 : Int)) := q14
            refine Tx.aload_n hC te_17_28 rfl ?_
            refine Tx.iload_n hC te_17_29 rfl ?_
            refine Tx.iload hC te_17_30 rfl ?_
            refine Tx.virtI hC te_17_32 mt_14 (args := [.inr 1, .inl x3, .inl x4]) (rest := []) (c' := 0) (s' := 0) rfl rfl rfl rfl rfl rfl rfl rfl rfl rfl ?_
            have r16z := hF_18 1 0 (by unfold p9w; omega)
            refine f_14s (hB.fr (fun A i a b => hF_18 A i (by unfold p9w; omega))) (by omega) (by omega) (fun r16 r16e r16a r16b r16i => ?_)
            have r16s := (hSn.fr (fun A i a b => hF_18 A i (by unfold p9w; omega))) (Int.toNat x3) (Int.toNat x4) (by omega) (by omega)
            unfold InI at r16i
            refine Tx.istore hC te_17_35 rfl ?_
            refine Tx.iload hC te_17_37 rfl ?_
            refine Tx.ifc hC (t := 63) te_17_39 (by decide) (fun q19 => ?_) (fun q19 => ?_)
            · replace q19 : (r16 : Int) < 0 := q19
              refine Tx.iincW hC te_17_63 rfl rfl (fun z20 z20i z20e => ?_)
              unfold InI at z20i z20e
              first | replace z20e := z20e (by omega) | clear z20e
              refine Tx.goto hC (t := 18) te_17_66 (by decide) ?_
              exact Tx.weak (by repeat' (first | exact trivial | exact rfl | constructor)) (ih_18 z20 m_18 (by omega) (i18_1) (by omega) (by omega) hF_18)
            · replace q19 : ¬ ((r16 : Int) < 0) := q19
              refine Tx.aload_n hC te_17_42 rfl ?_
              refine Tx.iload hC te_17_43 rfl ?_
              refine Tx.iload_n hC te_17_45 rfl ?_
              refine Tx.aload_n hC te_17_46 rfl ?_
              refine Tx.iload_n hC te_17_47 rfl ?_
              refine Tx.iload hC te_17_48 rfl ?_
              refine Tx.virtI hC te_17_50 mt_15 (args := [.inr 1, .inl x3, .inl x4]) (rest := [.inl x3, .inl r16, .inr 9]) (c' := 0) (s' := 0) rfl rfl rfl rfl rfl rfl rfl rfl rfl rfl ?_
              refine f_15s (hB.fr (fun A i a b => hF_18 A i (by unfold p9w; omega))) (by omega) (by omega) (fun r21 r21e r21i => ?_)
              unfold InI at r21i
              refine Tx.aload_n hC te_17_53 rfl ?_
              refine Tx.iload hC te_17_54 rfl ?_
              refine Tx.iload_n hC te_17_56 rfl ?_
              refine Tx.statI hC te_17_57 (by decide) mt_18 (args := [.inr 1, .inl r16, .inl kq]) (rest := [.inl r21, .inl x3, .inl r16, .inr 9]) (c' := 0) (s' := 0) rfl rfl rfl rfl rfl rfl rfl ?_
              refine CWI.q hC (f_18 (hB.fr (fun A i a b => hF_18 A i (by unfold p9w; omega))) (by omega) (fun r24 r24a r24b r24i => ?_))
              unfold InI at r24i
              refine Tx.virtV hC te_17_60 mt_20 (args := [.inr 9, .inl r16, .inl x3, .inl r21, .inl r24]) (rest := []) (c' := 0) (s' := 0) rfl rfl rfl rfl rfl rfl rfl rfl rfl rfl ?_
              refine f_20s i18_1 (by unfold Rg; omega) (by omega) (fun m28 hF29 r27I => ?_)
              have hF29n : Frm p9w mem m28 := hF_18.tr hF29
              refine Tx.iincW hC te_17_63 rfl rfl (fun z30 z30i z30e => ?_)
              unfold InI at z30i z30e
              first | replace z30e := z30e (by omega) | clear z30e
              refine Tx.goto hC (t := 18) te_17_66 (by decide) ?_
              exact Tx.weak (by repeat' (first | exact trivial | exact rfl | constructor)) (ih_18 z30 m28 (by omega) (r27I) (by omega) (by omega) hF29n)
      refine Tx.iload_n hC te_17_7 rfl ?_
      refine Tx.aload_n hC te_17_8 rfl ?_
      refine Tx.getI hC te_17_9 rfl rfl rfl (fun v31 v31e v31i => ?_)
      unfold InI at v31i
      rw [hF_7 1 _ (by unfold p9w; omega)] at v31e
      refine Tx.icmp hC (t := 75) te_17_12 (by decide) (fun q32 => ?_) (fun q32 => ?_)
      · replace q32 : v31 ≤ (x3 : Int) := q32
        refine Tx.iconst hC te_17_75 rfl ?_
        refine Tx.istore_n hC te_17_76 rfl ?_
        exact l_77 _ 0 m_7 (by omega) (i7_1) (Nat.lt_succ_self _) hF_7
      · replace q32 : ¬ (v31 ≤ (x3 : Int)) := q32
        refine Tx.iconst hC te_17_15 rfl ?_
        refine Tx.istore hC te_17_16 rfl ?_
        exact l_18 _ 0 m_7 (by omega) (i7_1) (by omega) (Nat.lt_succ_self _) hF_7
  refine Tx.aload_n hC te_17_0 rfl ?_
  refine Tx.iconst hC te_17_1 rfl ?_
  refine Tx.putI hC te_17_2 rfl rfl rfl rfl ?_
  have hF34 : Frm p9w mem (upm mem 9 0 0) := Frm.up Frm.rf (by unfold p9w; omega)
  have hI35 : INS (upm mem 9 0 0) (mem 1 0) := ⟨⟨R64.up0 hR9, by rw [upm_eq]; omega⟩, fun j hj => by rw [upm_eq] at hj; omega⟩
  generalize upm mem 9 0 0 = m33 at hF34 hI35 ⊢
  refine Tx.iconst hC te_17_5 rfl ?_
  refine Tx.istore_n hC te_17_6 rfl ?_
  exact l_7 _ 0 m33 (by omega) (hI35) (Nat.lt_succ_self _) hF34
theorem f_12 {S : Nat × (Nat → Int32)} {n : Nat} {mem : MM} {K : Int → MM → Prop} {E : Nat → MM → Prop} (hB : BodyOK mem) (H : ∀ r, r = 0 ∨ r = 1 → (r = 1 → Snd mem) → K r mem) : CQI (Ex S (n + 2)) 12 [.inr 1] mem K E := by
  refine CY.of (k := 2) mt_12 rfl rfl (fun hv => ?_)
  have hC := Ex.mono S (n + 1)
  clear hv
  have h8 := hB.1
  show Tx (Ex S (n + 1)) S M_12 (kI K E) 0 0 0 [some (.inr 1), none, none] [] mem
  have l_2 : ∀ (N : Nat) (x1 : Int), (0 ≤ x1) → (∀ o k : Nat, (o : Int) < x1 → (k : Int) < csN mem o → mem 3 (4 * o + 2 * k) < mem 1 0) → ((8 - x1).toNat) < N → Tx (Ex S (n + 1)) S M_12 (kI K E) 0 0 2 [some (.inr 1), some (.inl x1), none] [] mem := by
    intro N
    induction N with
    | zero => intros; omega
    | succ N ih_2 =>
      intro x1 i2_0 i2_1 hN_2 
      have l_12 : ∀ (N : Nat) (x2 : Int), (0 ≤ x2) → (∀ k : Nat, (k : Int) < x2 → mem 3 (4 * Int.toNat x1 + 2 * k) < mem 1 0) → (0 ≤ x1 ∧ x1 < mem 1 0) → ((3 - x2).toNat) < N → Tx (Ex S (n + 1)) S M_12 (kI K E) 0 0 12 [some (.inr 1), some (.inl x1), some (.inl x2)] [] mem := by
        intro N
        induction N with
        | zero => intros; omega
        | succ N ih_12 =>
          intro x2 i12_0 i12_1 i12_2 hN_12 
          refine Tx.iload_n hC te_12_12 rfl ?_
          refine Tx.aload_n hC te_12_13 rfl ?_
          refine Tx.iload_n hC te_12_14 rfl ?_
          refine Tx.virtI hC te_12_15 mt_13 (args := [.inr 1, .inl x1]) (rest := [.inl x2]) (c' := 0) (s' := 0) rfl rfl rfl rfl rfl rfl rfl rfl rfl rfl ?_
          refine f_13q (by omega) (fun r1 r1e r1a r1b r1i => ?_)
          unfold InI at r1i
          refine Tx.icmp hC (t := 49) te_12_18 (by decide) (fun q4 => ?_) (fun q4 => ?_)
          · replace q4 : r1 ≤ (x2 : Int) := q4
            refine Tx.iincW hC te_12_49 rfl rfl (fun z5 z5i z5e => ?_)
            unfold InI at z5i z5e
            first | replace z5e := z5e (by omega) | clear z5e
            refine Tx.goto hC (t := 2) te_12_52 (by decide) ?_
            exact Tx.weak (by repeat' (first | exact trivial | exact rfl | constructor)) (ih_2 z5 (by omega) (fun o k ho hk => by first | (exfalso; omega) | exact (Classical.em ((o : Int) < x1)).elim (fun q => i2_1 o k q hk) (fun q => by rw [show o = Int.toNat x1 by omega] at hk ⊢; exact i12_1 k (by omega))) (by omega))
          · replace q4 : ¬ (r1 ≤ (x2 : Int)) := q4
            refine Tx.aload_n hC te_12_21 rfl ?_
            refine Tx.iload_n hC te_12_22 rfl ?_
            refine Tx.aload_n hC te_12_23 rfl ?_
            refine Tx.iload_n hC te_12_24 rfl ?_
            refine Tx.iload_n hC te_12_25 rfl ?_
            refine Tx.virtI hC te_12_26 mt_14 (args := [.inr 1, .inl x1, .inl x2]) (rest := [.inl x1, .inr 1]) (c' := 0) (s' := 0) rfl rfl rfl rfl rfl rfl rfl rfl rfl rfl ?_
            refine f_14s hB (by omega) (by omega) (fun r6 r6e r6a r6b r6i => ?_)
            unfold InI at r6i
            refine Tx.aload_n hC te_12_29 rfl ?_
            refine Tx.iload_n hC te_12_30 rfl ?_
            refine Tx.iload_n hC te_12_31 rfl ?_
            refine Tx.virtI hC te_12_32 mt_15 (args := [.inr 1, .inl x1, .inl x2]) (rest := [.inl r6, .inl x1, .inr 1]) (c' := 0) (s' := 0) rfl rfl rfl rfl rfl rfl rfl rfl rfl rfl ?_
            refine f_15s hB (by omega) (by omega) (fun r9 r9e r9i => ?_)
            unfold InI at r9i
            refine Tx.virtI hC te_12_35 mt_16 (args := [.inr 1, .inl x1, .inl r6, .inl r9]) (rest := []) (c' := 0) (s' := 0) rfl rfl rfl rfl rfl rfl rfl rfl rfl rfl ?_
            refine f_16 hB (fun r12 r12b r12f r12i => ?_)
            unfold InI at r12i
            refine Tx.ifc hC (t := 43) te_12_38 (by decide) (fun q15 => ?_) (fun q15 => ?_)
            · replace q15 : ¬ (r12 : Int) = 0 := q15
              refine Tx.iincW hC te_12_43 rfl rfl (fun z16 z16i z16e => ?_)
              unfold InI at z16i z16e
              first | replace z16e := z16e (by omega) | clear z16e
              refine Tx.goto hC (t := 12) te_12_46 (by decide) ?_
              exact ih_12 z16 (by omega) (fun k hk => by first | (exfalso; omega) | exact (Classical.em ((k : Int) < x2)).elim (fun q => i12_1 k q) (fun q => by rw [show k = Int.toNat x2 by omega]; omega)) (by omega) (by omega)
            · replace q15 : ¬ (¬ (r12 : Int) = 0) := q15
              refine Tx.iconst hC te_12_41 rfl ?_
              exact Tx.bret hC te_12_42 rfl (by omega) (show K 0 mem from H 0 (by omega) (fun q => absurd q (by omega)))
      refine Tx.iload_n hC te_12_2 rfl ?_
      refine Tx.aload_n hC te_12_3 rfl ?_
      refine Tx.getI hC te_12_4 rfl rfl rfl (fun v17 v17e v17i => ?_)
      unfold InI at v17i
      refine Tx.icmp hC (t := 55) te_12_7 (by decide) (fun q18 => ?_) (fun q18 => ?_)
      · replace q18 : v17 ≤ (x1 : Int) := q18
        refine Tx.iconst hC te_12_55 rfl ?_
        exact Tx.bret hC te_12_56 rfl (by omega) (show K 1 mem from H 1 (by omega) (fun _ o k ho hk => i2_1 o k (by omega) hk))
      · replace q18 : ¬ (v17 ≤ (x1 : Int)) := q18
        refine Tx.iconst hC te_12_10 rfl ?_
        refine Tx.istore_n hC te_12_11 rfl ?_
        exact l_12 _ 0 (by omega) (fun k hk => by first | (exfalso; omega) | exact (Classical.em ((k : Int) < x2)).elim (fun q => i12_1 k q) (fun q => by rw [show k = Int.toNat x2 by omega]; omega)) (by omega) (Nat.lt_succ_self _)
  refine Tx.iconst hC te_12_0 rfl ?_
  refine Tx.istore_n hC te_12_1 rfl ?_
  exact l_2 _ 0 (by omega) (fun o k ho hk => by first | (exfalso; omega) | exact (Classical.em ((o : Int) < x1)).elim (fun q => i2_1 o k q hk) (fun q => by rw [show o = Int.toNat x1 by omega] at hk ⊢; exact i12_1 k (by omega))) (Nat.lt_succ_self _)
theorem f_199 {S : Nat × (Nat → Int32)} {n : Nat} {mem : MM} {K : MM → Prop} {E : Nat → MM → Prop} (hW9 : WbOK mem 9) (hR14 : R64 mem 14) {l : Int} (H : ∀ m', Frm p14 mem m' → WbOK m' 14 → K m') : CQV (Ex S (n + 2)) 199 [.inr 14, .inr 9, .inl l] mem K E := by
  refine CY.of (k := 1) mt_199 rfl rfl (fun hv => ?_)
  have hC := Ex.mono S (n + 1)
  have ii_l : InI l := hv (.inl l) (by simp)
  unfold InI at ii_l
  clear hv
  have hw := hW9.2
  show Tx (Ex S (n + 1)) S M_199 (kV K E) 0 0 0 [some (.inr 14), some (.inr 9), some (.inl l), none] [] mem
  have l_7 : ∀ (N : Nat) (x3 : Int) (m_7 : MM), (0 ≤ x3 ∧ x3 ≤ 64) → (R64 m_7 14) → (0 ≤ m_7 14 0 ∧ m_7 14 0 ≤ x3) → ((64 - x3).toNat) < N → Frm p14 mem m_7 → Tx (Ex S (n + 1)) S M_199 (kV K E) 0 0 7 [some (.inr 14), some (.inr 9), some (.inl l), some (.inl x3)] [] m_7 := by
    intro N
    induction N with
    | zero => intros; omega
    | succ N ih_7 =>
      intro x3 m_7 i7_0 i7_1 i7_2 hN_7 hF_7
      refine Tx.iload_n hC te_199_7 rfl ?_
      refine Tx.aload_n hC te_199_8 rfl ?_
      refine Tx.getI hC te_199_9 rfl rfl rfl (fun v1 v1e v1i => ?_)
      unfold InI at v1i
      rw [hF_7 9 _ (by unfold p14; omega)] at v1e
      refine Tx.icmp hC (t := 68) te_199_12 (by decide) (fun q2 => ?_) (fun q2 => ?_)
      · replace q2 : v1 ≤ (x3 : Int) := q2
        exact Tx.vret hC te_199_68 rfl (show K m_7 from H _ hF_7 ⟨i7_1, by omega⟩)
      · replace q2 : ¬ (v1 ≤ (x3 : Int)) := q2
        refine Tx.iload_n hC te_199_15 rfl ?_
        refine Tx.iload_n hC te_199_16 rfl ?_
        refine Tx.icmp hC (t := 62) te_199_17 (by decide) (fun q3 => ?_) (fun q3 => ?_)
        · replace q3 : (x3 : Int) = l := q3
          refine Tx.iincW hC te_199_62 rfl rfl (fun z4 z4i z4e => ?_)
          unfold InI at z4i z4e
          first | replace z4e := z4e (by omega) | clear z4e
          refine Tx.goto hC (t := 7) te_199_65 (by decide) ?_
          exact ih_7 z4 m_7 (by omega) (i7_1) (by omega) (by omega) hF_7
        · replace q3 : ¬ ((x3 : Int) = l) := q3
          refine Tx.aload_n hC te_199_20 rfl ?_
          refine Tx.aload_n hC te_199_21 rfl ?_
          refine Tx.getI hC te_199_22 rfl rfl rfl (fun v5 v5e v5i => ?_)
          unfold InI at v5i
          refine Tx.aload_n hC te_199_25 rfl ?_
          refine Tx.getR hC te_199_26 rfl rfl rfl ?_
          refine Tx.iload_n hC te_199_29 rfl ?_
          refine Tx.iald hC te_199_30 rfl (by omega) (fun v6 v6e v6i => ?_)
          unfold InI at v6i
          rw [hF_7 10 _ (by unfold p14; omega)] at v6e
          have f7 : Rg (mem 10 (Int.toNat x3)) (mem 11 (Int.toNat x3)) (mem 12 (Int.toNat x3)) (mem 13 (Int.toNat x3)) := hW9.1 (Int.toNat x3) (by omega)
          unfold Rg at f7
          refine Tx.aload_n hC te_199_31 rfl ?_
          refine Tx.getR hC te_199_32 rfl rfl rfl ?_
          refine Tx.iload_n hC te_199_35 rfl ?_
          refine Tx.iald hC te_199_36 rfl (by omega) (fun v8 v8e v8i => ?_)
          unfold InI at v8i
          rw [hF_7 11 _ (by unfold p14; omega)] at v8e
          have f9 : Rg (mem 10 (Int.toNat x3)) (mem 11 (Int.toNat x3)) (mem 12 (Int.toNat x3)) (mem 13 (Int.toNat x3)) := hW9.1 (Int.toNat x3) (by omega)
          unfold Rg at f9
          refine Tx.aload_n hC te_199_37 rfl ?_
          refine Tx.getR hC te_199_38 rfl rfl rfl ?_
          refine Tx.iload_n hC te_199_41 rfl ?_
          refine Tx.iald hC te_199_42 rfl (by omega) (fun v10 v10e v10i => ?_)
          unfold InI at v10i
          rw [hF_7 12 _ (by unfold p14; omega)] at v10e
          have f11 : Rg (mem 10 (Int.toNat x3)) (mem 11 (Int.toNat x3)) (mem 12 (Int.toNat x3)) (mem 13 (Int.toNat x3)) := hW9.1 (Int.toNat x3) (by omega)
          unfold Rg at f11
          refine Tx.aload_n hC te_199_43 rfl ?_
          refine Tx.getR hC te_199_44 rfl rfl rfl ?_
          refine Tx.iload_n hC te_199_47 rfl ?_
          refine Tx.iald hC te_199_48 rfl (by omega) (fun v12 v12e v12i => ?_)
          unfold InI at v12i
          rw [hF_7 13 _ (by unfold p14; omega)] at v12e
          have f13 : Rg (mem 10 (Int.toNat x3)) (mem 11 (Int.toNat x3)) (mem 12 (Int.toNat x3)) (mem 13 (Int.toNat x3)) := hW9.1 (Int.toNat x3) (by omega)
          unfold Rg at f13
          refine Tx.virtV hC te_199_49 mt_22 (args := [.inr 14, .inl v5, .inl v6, .inl v8, .inl v10, .inl v12]) (rest := []) (c' := 0) (s' := 0) rfl rfl rfl rfl rfl rfl rfl rfl rfl rfl ?_
          refine CWV.q hC (f_22 (W := 14) ⟨rfl, rfl, rfl, rfl, rfl⟩ i7_1 (by omega) (by unfold Rg; omega) (fun m15 hF16 r14z r14t => ?_))
          have hF16n : Frm p14 mem m15 := hF_7.tr (fun A i q => hF16 A i (by unfold p14 at q; omega) (by unfold p14 at q; omega))
          refine Tx.aload_n hC te_199_52 rfl ?_
          refine Tx.dup hC te_199_53 ?_
          refine Tx.getI hC te_199_54 rfl rfl rfl (fun v17 v17e v17i => ?_)
          unfold InI at v17i
          refine Tx.iconst hC te_199_57 rfl ?_
          refine Tx.iaddW hC te_199_58 (fun z18 z18i z18e => ?_)
          unfold InI at z18i z18e
          first | replace z18e := z18e (by omega) | clear z18e
          refine Tx.putI hC te_199_59 rfl rfl rfl rfl ?_
          have hF20 : Frm p14 mem (upm m15 14 0 z18) := Frm.up hF16n (by unfold p14; omega)
          have hT21 : R64 (upm m15 14 0 z18) 14 := R64.up0 r14t
          have hZ22 : (upm m15 14 0 z18) 14 0 = z18 := upm_eq
          generalize upm m15 14 0 z18 = m19 at hF20 hT21 hZ22 ⊢
          refine Tx.iincW hC te_199_62 rfl rfl (fun z23 z23i z23e => ?_)
          unfold InI at z23i z23e
          first | replace z23e := z23e (by omega) | clear z23e
          refine Tx.goto hC (t := 7) te_199_65 (by decide) ?_
          exact ih_7 z23 m19 (by omega) (hT21) (by omega) (by omega) hF20
  refine Tx.aload_n hC te_199_0 rfl ?_
  refine Tx.iconst hC te_199_1 rfl ?_
  refine Tx.putI hC te_199_2 rfl rfl rfl rfl ?_
  have hF25 : Frm p14 mem (upm mem 14 0 0) := Frm.up Frm.rf (by unfold p14; omega)
  have hT26 : R64 (upm mem 14 0 0) 14 := R64.up0 hR14
  have hZ27 : (upm mem 14 0 0) 14 0 = 0 := upm_eq
  generalize upm mem 14 0 0 = m24 at hF25 hT26 hZ27 ⊢
  refine Tx.iconst hC te_199_5 rfl ?_
  refine Tx.istore_n hC te_199_6 rfl ?_
  exact l_7 _ 0 m24 (by omega) (hT26) (by omega) (Nat.lt_succ_self _) hF25
theorem f_106 {S : Nat × (Nat → Int32)} {n : Nat} {mem : MM} {K : MM → Prop} {E : Nat → MM → Prop} {Q : Nat} (hQ : ChSh Q) (hO : ChtOK mem Q) (hB : BodyOK mem) (hW9 : WbOK mem 9) (hWS : WbS mem) (hSl : ∀ o, o < 8 → 0 ≤ mem 22 o ∧ mem 22 o ≤ 11) {d : Int} (hd : 1 ≤ d ∧ d ≤ 12) (H : ∀ m', Frm (pCh Q) mem m' → ChtOK m' Q → K m') : CQV (Ex S (n + 4)) 106 [.inr Q, .inr 1, .inr 9, .inr 22, .inl d] mem K E := by
  refine CY.of (k := 1) mt_106 rfl rfl (fun hv => ?_)
  have hC := Ex.mono S (n + 3)
  have ii_d : InI d := hv (.inl d) (by simp)
  unfold InI at ii_d
  clear hv
  have hq8 := hQ.rg
  show Tx (Ex S (n + 3)) S M_106 (kV K E) 0 0 0 [some (.inr Q), some (.inr 1), some (.inr 9), some (.inr 22), some (.inl d), none] [] mem
  have l_44 : ∀ (N : Nat) (x5 : Int) (m_44 : MM), (0 ≤ x5) → (ChtOK m_44 Q) → ((8 - x5).toNat) < N → Frm (pCh Q) mem m_44 → Tx (Ex S (n + 3)) S M_106 (kV K E) 0 0 44 [some (.inr Q), some (.inr 1), some (.inr 9), some (.inr 22), some (.inl d), some (.inl x5)] [] m_44 := by
    intro N
    induction N with
    | zero => intros; omega
    | succ N ih_44 =>
      intro x5 m_44 i44_0 i44_1 hN_44 hF_44
      refine Tx.iload hC te_106_44 rfl ?_
      refine Tx.aload_n hC te_106_46 rfl ?_
      refine Tx.getI hC te_106_47 hQ.s0 rfl rfl (fun v1 v1e v1i => ?_)
      unfold InI at v1i
      have f2 := i44_1.1
      refine Tx.icmp hC (t := 117) te_106_50 (by decide) (fun q3 => ?_) (fun q3 => ?_)
      · replace q3 : v1 ≤ (x5 : Int) := q3
        refine Tx.aload_n hC te_106_117 rfl ?_
        refine Tx.aload_n hC te_106_118 rfl ?_
        refine Tx.virtV hC te_106_119 mt_109 (args := [.inr Q, .inr 1]) (rest := []) (c' := 0) (s' := 0) rfl rfl rfl rfl rfl rfl rfl rfl hQ.s0 rfl ?_
        refine f_109 hQ i44_1 (hB.fr (fun A i a b => hF_44 A i (by unfold pCh; omega))) (fun m5 hF6 => ?_)
        have r4I := ChtOK.fr2 i44_1 (fun A i q => hF6 A i (by unfold pLi; omega))
        have hF6n : Frm (pCh Q) mem m5 := hF_44.tr (hF6.mono (fun A i q => by unfold pLi at q; unfold pCh; omega))
        refine Tx.aload_n hC te_106_122 rfl ?_
        refine Tx.aload_n hC te_106_123 rfl ?_
        refine Tx.virtV hC te_106_124 mt_110 (args := [.inr Q, .inr 1]) (rest := []) (c' := 0) (s' := 0) rfl rfl rfl rfl rfl rfl rfl rfl hQ.s0 rfl ?_
        refine f_110 hQ r4I (hB.fr (fun A i a b => hF6n A i (by unfold pCh; omega))) (fun m8 hF9 => ?_)
        have r7I := ChtOK.fr2 r4I (fun A i q => hF9 A i (by unfold pNm; omega))
        have hF9n : Frm (pCh Q) mem m8 := hF6n.tr (hF9.mono (fun A i q => by unfold pNm at q; unfold pCh; omega))
        exact Tx.vret hC te_106_127 rfl (show K m8 from H _ hF9n r7I)
      · replace q3 : ¬ (v1 ≤ (x5 : Int)) := q3
        refine Tx.aload_n hC te_106_53 rfl ?_
        refine Tx.getR hC te_106_54 hQ.s0 rfl rfl ?_
        refine Tx.iload hC te_106_57 rfl ?_
        refine Tx.aload_n hC te_106_59 rfl ?_
        refine Tx.getR hC te_106_60 hQ.s0 rfl rfl ?_
        refine Tx.iload hC te_106_63 rfl ?_
        refine Tx.iald hC te_106_65 hQ.s2 (by omega) (fun v10 v10e v10i => ?_)
        unfold InI at v10i
        have f11 := i44_1.2 (Int.toNat x5) (by omega)
        refine Tx.aload_n hC te_106_66 rfl ?_
        refine Tx.iload hC te_106_67 rfl ?_
        refine Tx.virtI hC te_106_69 mt_19 (args := [.inr 1, .inl x5]) (rest := [.inl v10, .inl x5, .inr (Q + 3)]) (c' := 0) (s' := 0) rfl rfl rfl rfl rfl rfl rfl rfl rfl rfl ?_
        refine CWI.q hC (f_19 (hB.fr (fun A i a b => hF_44 A i (by unfold pCh; omega))) (by omega) (fun r12 r12a r12b r12i => ?_))
        unfold InI at r12i
        refine Tx.iaddW hC te_106_72 (fun z15 z15i z15e => ?_)
        unfold InI at z15i z15e
        first | replace z15e := z15e (by omega) | clear z15e
        refine Tx.iast hC te_106_73 hQ.s3 (by omega) ?_
        have hF17 : Frm (pCh Q) mem (upm m_44 (Q + 3) (Int.toNat x5) z15) := Frm.up hF_44 (by unfold pCh; omega)
        have hI18 : ChtOK (upm m_44 (Q + 3) (Int.toNat x5) z15) Q := ChtOK.up3 i44_1 (by omega)
        generalize upm m_44 (Q + 3) (Int.toNat x5) z15 = m16 at hF17 hI18 ⊢
        refine Tx.aload_n hC te_106_74 rfl ?_
        refine Tx.aload_n hC te_106_75 rfl ?_
        refine Tx.getI hC te_106_76 hQ.s0 rfl rfl (fun v19 v19e v19i => ?_)
        unfold InI at v19i
        refine Tx.aload_n hC te_106_79 rfl ?_
        refine Tx.getR hC te_106_80 hQ.s0 rfl rfl ?_
        refine Tx.iload hC te_106_83 rfl ?_
        refine Tx.iald hC te_106_85 hQ.s3 (by omega) (fun v20 v20e v20i => ?_)
        unfold InI at v20i
        refine Tx.statI hC te_106_86 (by decide) mt_40 (args := [.inl v19, .inl v20]) (rest := [.inr Q]) (c' := 0) (s' := 0) rfl rfl rfl rfl rfl rfl rfl ?_
        refine f_40q (fun r21 r21a r21b r21c r21i => ?_)
        unfold InI at r21i
        refine Tx.putI hC te_106_89 hQ.s0 rfl rfl rfl ?_
        have hF25 : Frm (pCh Q) mem (upm m16 Q 4 r21) := Frm.up hF17 (by unfold pCh; omega)
        have hI26 : ChtOK (upm m16 Q 4 r21) Q := ChtOK.fr2 hI18 (fun A i q => upm_ne (by omega))
        generalize upm m16 Q 4 r21 = m24 at hF25 hI26 ⊢
        refine Tx.aload_n hC te_106_92 rfl ?_
        refine Tx.aload_n hC te_106_93 rfl ?_
        refine Tx.getI hC te_106_94 hQ.s0 rfl rfl (fun v27 v27e v27i => ?_)
        unfold InI at v27i
        refine Tx.aload_n hC te_106_97 rfl ?_
        refine Tx.iload hC te_106_98 rfl ?_
        refine Tx.virtI hC te_106_100 mt_108 (args := [.inr Q, .inl x5]) (rest := [.inl v27, .inr Q]) (c' := 0) (s' := 0) rfl rfl rfl rfl rfl rfl rfl rfl hQ.s0 rfl ?_
        refine f_108 hQ hI26 (by omega) (fun r28 r28i => ?_)
        unfold InI at r28i
        refine Tx.iconst hC te_106_103 rfl ?_
        refine Tx.iaddW hC te_106_104 (fun z31 z31i z31e => ?_)
        unfold InI at z31i z31e
        first | replace z31e := z31e (by omega) | clear z31e
        refine Tx.statI hC te_106_105 (by decide) mt_40 (args := [.inl v27, .inl z31]) (rest := [.inr Q]) (c' := 0) (s' := 0) rfl rfl rfl rfl rfl rfl rfl ?_
        refine f_40q (fun r32 r32a r32b r32c r32i => ?_)
        unfold InI at r32i
        refine Tx.putI hC te_106_108 hQ.s0 rfl rfl rfl ?_
        have hF36 : Frm (pCh Q) mem (upm m24 Q 5 r32) := Frm.up hF25 (by unfold pCh; omega)
        have hI37 : ChtOK (upm m24 Q 5 r32) Q := ChtOK.fr2 hI26 (fun A i q => upm_ne (by omega))
        generalize upm m24 Q 5 r32 = m35 at hF36 hI37 ⊢
        refine Tx.iincW hC te_106_111 rfl rfl (fun z38 z38i z38e => ?_)
        unfold InI at z38i z38e
        first | replace z38e := z38e (by omega) | clear z38e
        refine Tx.goto hC (t := 44) te_106_114 (by decide) ?_
        exact ih_44 z38 m35 (by omega) (hI37) (by omega) hF36
  refine Tx.aload_n hC te_106_0 rfl ?_
  refine Tx.aload_n hC te_106_1 rfl ?_
  refine Tx.getI hC te_106_2 rfl rfl rfl (fun v39 v39e v39i => ?_)
  unfold InI at v39i
  refine Tx.putI hC te_106_5 hQ.s0 rfl rfl rfl ?_
  have hF41 : Frm (pCh Q) mem (upm mem Q 2 v39) := Frm.up Frm.rf (by unfold pCh; omega)
  refine Tx.aload_n hC te_106_8 rfl ?_
  refine Tx.iload hC te_106_9 rfl ?_
  refine Tx.putI hC te_106_11 hQ.s0 rfl rfl rfl ?_
  have hF43 : Frm (pCh Q) mem (upm (upm mem Q 2 v39) Q 3 d) := Frm.up hF41 (by unfold pCh; omega)
  refine Tx.aload_n hC te_106_14 rfl ?_
  refine Tx.iconst hC te_106_15 rfl ?_
  refine Tx.aload_n hC te_106_16 rfl ?_
  refine Tx.getR hC te_106_17 hQ.s0 rfl rfl ?_
  refine Tx.iconst hC te_106_20 rfl ?_
  refine Tx.bipush hC te_106_21 rfl rfl ?_
  refine Tx.copy hC te_106_23 rfl hQ.s1 (by omega) rfl (fun m44 m44a m44b => ?_)
  have hD1 := dr_start hQ hO hB hSl (by assumption) hd m44a m44b
  refine Tx.aload_n hC te_106_26 rfl ?_
  refine Tx.aload_n hC te_106_27 rfl ?_
  refine Tx.virtV hC te_106_28 mt_107 (args := [.inr Q, .inr 9]) (rest := []) (c' := 0) (s' := 0) rfl rfl rfl rfl rfl rfl rfl rfl hQ.s0 rfl ?_
  refine f_107 hQ (by rw [hD1.2.1, hD1.2.2 1 0 (by unfold pCh; omega)]) (by rw [hD1.2.2 1 0 (by unfold pCh; omega)]; exact hB.1) hD1.1.1.2.1 (fun o ho => (hD1.1.2 o ho).1) (fun o ho => ⟨(hD1.1.2 o ho).2.1, fun z => by omega⟩) (hW9.fr (fun A i a b => hD1.2.2 A i (by unfold pCh; omega))) (hWS.fr (fun A i a => hD1.2.2 A i (by unfold pCh; omega))) (fun m47 hF48 r46D => ?_)
  have r46I := dr_times hD1.1 hF48 r46D
  have hF48n : Frm (pCh Q) mem m47 := hD1.2.2.tr (hF48.mono (fun A i q => by unfold pTm at q; unfold pCh; omega))
  refine Tx.aload_n hC te_106_31 rfl ?_
  refine Tx.iconst hC te_106_32 rfl ?_
  refine Tx.putI hC te_106_33 hQ.s0 rfl rfl rfl ?_
  have hF50 : Frm (pCh Q) mem (upm m47 Q 4 0) := Frm.up hF48n (by unfold pCh; omega)
  have hI51 : ChtOK (upm m47 Q 4 0) Q := ChtOK.fr2 r46I (fun A i q => upm_ne (by omega))
  generalize upm m47 Q 4 0 = m49 at hF50 hI51 ⊢
  refine Tx.aload_n hC te_106_36 rfl ?_
  refine Tx.iconst hC te_106_37 rfl ?_
  refine Tx.putI hC te_106_38 hQ.s0 rfl rfl rfl ?_
  have hF53 : Frm (pCh Q) mem (upm m49 Q 5 1) := Frm.up hF50 (by unfold pCh; omega)
  have hI54 : ChtOK (upm m49 Q 5 1) Q := ChtOK.fr2 hI51 (fun A i q => upm_ne (by omega))
  generalize upm m49 Q 5 1 = m52 at hF53 hI54 ⊢
  refine Tx.iconst hC te_106_41 rfl ?_
  refine Tx.istore hC te_106_42 rfl ?_
  exact l_44 _ 0 m52 (by omega) (hI54) (Nat.lt_succ_self _) hF53
/-! laid by wip/hand/tg.py: soundness, exactly, in the class -/
/-- soundness, exactly, by the class's cells -/
def SrcC (m : MM) (o k : Nat) : Prop := m 3 (4 * o + 2 * k) < 0 ∨ (m 3 (4 * o + 2 * k) < m 1 0 ∧ ¬ m 2 (m 3 (4 * o + 2 * k)).toNat = 5 ∧ (0 < m 3 (4 * o + 2 * k + 1) ∨ m 3 (4 * o + 2 * k) < o))
def SndX (m : MM) : Prop := ∀ o k : Nat, (o : Int) < m 1 0 → (k : Int) < csN m o → SrcC m o k
theorem SndX.fr {m m' : MM} (h : SndX m) (e : ∀ A i, 0 < A → A < 4 → m' A i = m A i) : SndX m' := fun o k ho hk => by
  rw [e 1 0 (by omega) (by omega)] at ho
  have ec : csN m' o = csN m o := by unfold csN; rw [e 2 o (by omega) (by omega)]
  rw [ec] at hk
  have := h o k ho hk
  unfold SrcC at this ⊢
  rw [e 3 _ (by omega) (by omega), e 3 _ (by omega) (by omega), e 1 0 (by omega) (by omega), e 2 _ (by omega) (by omega)]; exact this
theorem SndX.iff {m m' : MM} (e : ∀ A i, 0 < A → A < 4 → m' A i = m A i) : SndX m ↔ SndX m' := ⟨fun h => h.fr e, fun h => h.fr (fun A i a b => (e A i a b).symm)⟩
theorem SX.fr {m m' : MM} (h : m 0 10 = 1 ↔ SndX m) (e0 : m' 0 10 = m 0 10) (e : ∀ A i, 0 < A → A < 4 → m' A i = m A i) : m' 0 10 = 1 ↔ SndX m' := by rw [e0]; exact h.trans (SndX.iff e)
theorem SndX.snd {m : MM} (h : SndX m) : Snd m := fun o k ho hk => by
  have := h o k ho hk
  unfold SrcC at this
  omega
theorem f_16x {S : Nat × (Nat → Int32)} {n : Nat} {mem : MM} {K : Int → MM → Prop} {E : Nat → MM → Prop} (hB : BodyOK mem) {o s d : Int} {k : Nat} (ho : 0 ≤ o) (hs : s = mem 3 (4 * o.toNat + 2 * k)) (hd : d = mem 3 (4 * o.toNat + 2 * k + 1)) (H : ∀ r, (r = 0 ∨ r = 1) → (r = 1 ↔ SrcC mem o.toNat k) → K r mem) : CQI (Ex S (n + 1)) 16 [.inr 1, .inl o, .inl s, .inl d] mem K E := by
  refine CY.of (k := 0) mt_16 rfl rfl (fun hv => ?_)
  have hC := Ex.mono S n
  have ii_o : InI o := hv (.inl o) (by simp)
  unfold InI at ii_o
  have ii_s : InI s := hv (.inl s) (by simp)
  unfold InI at ii_s
  have ii_d : InI d := hv (.inl d) (by simp)
  unfold InI at ii_d
  clear hv
  have h8 := hB.1
  have hSC : SrcC mem o.toNat k ↔ (s < 0 ∨ (s < mem 1 0 ∧ ¬ mem 2 s.toNat = 5 ∧ (0 < d ∨ s < o))) := by unfold SrcC; rw [← hs, ← hd, Int.toNat_of_nonneg ho]
  show Tx (Ex S n) S M_16 (kI K E) 0 0 0 [some (.inr 1), some (.inl o), some (.inl s), some (.inl d)] [] mem
  refine Tx.iload_n hC te_16_0 rfl ?_
  refine Tx.ifc hC (t := 6) te_16_1 (by decide) (fun q1 => ?_) (fun q1 => ?_)
  · replace q1 : 0 ≤ (s : Int) := q1
    refine Tx.iload_n hC te_16_6 rfl ?_
    refine Tx.aload_n hC te_16_7 rfl ?_
    refine Tx.getI hC te_16_8 rfl rfl rfl (fun v2 v2e v2i => ?_)
    unfold InI at v2i
    refine Tx.icmp hC (t := 24) te_16_11 (by decide) (fun q3 => ?_) (fun q3 => ?_)
    · replace q3 : v2 ≤ (s : Int) := q3
      refine Tx.iconst hC te_16_24 rfl ?_
      exact Tx.bret hC te_16_25 rfl (by omega) (show K 0 mem from H 0 (by omega) (by rw [hSC]; omega))
    · replace q3 : ¬ (v2 ≤ (s : Int)) := q3
      refine Tx.aload_n hC te_16_14 rfl ?_
      refine Tx.getR hC te_16_15 rfl rfl rfl ?_
      refine Tx.iload_n hC te_16_18 rfl ?_
      refine Tx.iald hC te_16_19 rfl (by omega) (fun v4 v4e v4i => ?_)
      unfold InI at v4i
      have f5 := hB.kd (o := (Int.toNat s)) (by omega)
      refine Tx.iconst hC te_16_20 rfl ?_
      refine Tx.icmp hC (t := 26) te_16_21 (by decide) (fun q6 => ?_) (fun q6 => ?_)
      · replace q6 : ¬ (v4 : Int) = 5 := q6
        refine Tx.iload_n hC te_16_26 rfl ?_
        refine Tx.ifc hC (t := 35) te_16_27 (by decide) (fun q7 => ?_) (fun q7 => ?_)
        · replace q7 : 0 < (d : Int) := q7
          refine Tx.iconst hC te_16_35 rfl ?_
          refine Tx.goto hC (t := 40) te_16_36 (by decide) ?_
          exact Tx.bret hC te_16_40 rfl (by omega) (show K 1 mem from H 1 (by omega) (by rw [hSC]; omega))
        · replace q7 : ¬ (0 < (d : Int)) := q7
          refine Tx.iload_n hC te_16_30 rfl ?_
          refine Tx.iload_n hC te_16_31 rfl ?_
          refine Tx.icmp hC (t := 39) te_16_32 (by decide) (fun q8 => ?_) (fun q8 => ?_)
          · replace q8 : o ≤ (s : Int) := q8
            refine Tx.iconst hC te_16_39 rfl ?_
            exact Tx.bret hC te_16_40 rfl (by omega) (show K 0 mem from H 0 (by omega) (by rw [hSC]; omega))
          · replace q8 : ¬ (o ≤ (s : Int)) := q8
            refine Tx.iconst hC te_16_35 rfl ?_
            refine Tx.goto hC (t := 40) te_16_36 (by decide) ?_
            exact Tx.bret hC te_16_40 rfl (by omega) (show K 1 mem from H 1 (by omega) (by rw [hSC]; omega))
      · replace q6 : ¬ (¬ (v4 : Int) = 5) := q6
        refine Tx.iconst hC te_16_24 rfl ?_
        exact Tx.bret hC te_16_25 rfl (by omega) (show K 0 mem from H 0 (by omega) (by rw [hSC]; omega))
  · replace q1 : ¬ (0 ≤ (s : Int)) := q1
    refine Tx.iconst hC te_16_4 rfl ?_
    exact Tx.bret hC te_16_5 rfl (by omega) (show K 1 mem from H 1 (by omega) (by rw [hSC]; omega))
theorem f_12x {S : Nat × (Nat → Int32)} {n : Nat} {mem : MM} {K : Int → MM → Prop} {E : Nat → MM → Prop} (hB : BodyOK mem) (H : ∀ r, r = 0 ∨ r = 1 → (r = 1 ↔ SndX mem) → K r mem) : CQI (Ex S (n + 2)) 12 [.inr 1] mem K E := by
  refine CY.of (k := 2) mt_12 rfl rfl (fun hv => ?_)
  have hC := Ex.mono S (n + 1)
  clear hv
  have h8 := hB.1
  show Tx (Ex S (n + 1)) S M_12 (kI K E) 0 0 0 [some (.inr 1), none, none] [] mem
  have l_2 : ∀ (N : Nat) (x1 : Int), (0 ≤ x1) → (∀ o k : Nat, (o : Int) < x1 → (k : Int) < csN mem o → SrcC mem o k) → ((8 - x1).toNat) < N → Tx (Ex S (n + 1)) S M_12 (kI K E) 0 0 2 [some (.inr 1), some (.inl x1), none] [] mem := by
    intro N
    induction N with
    | zero => intros; omega
    | succ N ih_2 =>
      intro x1 i2_0 i2_1 hN_2 
      have l_12 : ∀ (N : Nat) (x2 : Int), (0 ≤ x2) → (∀ k : Nat, (k : Int) < x2 → SrcC mem (Int.toNat x1) k) → (0 ≤ x1 ∧ x1 < mem 1 0) → ((3 - x2).toNat) < N → Tx (Ex S (n + 1)) S M_12 (kI K E) 0 0 12 [some (.inr 1), some (.inl x1), some (.inl x2)] [] mem := by
        intro N
        induction N with
        | zero => intros; omega
        | succ N ih_12 =>
          intro x2 i12_0 i12_1 i12_2 hN_12 
          refine Tx.iload_n hC te_12_12 rfl ?_
          refine Tx.aload_n hC te_12_13 rfl ?_
          refine Tx.iload_n hC te_12_14 rfl ?_
          refine Tx.virtI hC te_12_15 mt_13 (args := [.inr 1, .inl x1]) (rest := [.inl x2]) (c' := 0) (s' := 0) rfl rfl rfl rfl rfl rfl rfl rfl rfl rfl ?_
          refine f_13q (by omega) (fun r1 r1e r1a r1b r1i => ?_)
          unfold InI at r1i
          refine Tx.icmp hC (t := 49) te_12_18 (by decide) (fun q4 => ?_) (fun q4 => ?_)
          · replace q4 : r1 ≤ (x2 : Int) := q4
            refine Tx.iincW hC te_12_49 rfl rfl (fun z5 z5i z5e => ?_)
            unfold InI at z5i z5e
            first | replace z5e := z5e (by omega) | clear z5e
            refine Tx.goto hC (t := 2) te_12_52 (by decide) ?_
            exact Tx.weak (by repeat' (first | exact trivial | exact rfl | constructor)) (ih_2 z5 (by omega) (fun o k ho hk => (Classical.em ((o : Int) < x1)).elim (fun q => i2_1 o k q hk) (fun q => by have e : o = Int.toNat x1 := by { omega }; subst e; exact i12_1 k (by omega))) (by omega))
          · replace q4 : ¬ (r1 ≤ (x2 : Int)) := q4
            refine Tx.aload_n hC te_12_21 rfl ?_
            refine Tx.iload_n hC te_12_22 rfl ?_
            refine Tx.aload_n hC te_12_23 rfl ?_
            refine Tx.iload_n hC te_12_24 rfl ?_
            refine Tx.iload_n hC te_12_25 rfl ?_
            refine Tx.virtI hC te_12_26 mt_14 (args := [.inr 1, .inl x1, .inl x2]) (rest := [.inl x1, .inr 1]) (c' := 0) (s' := 0) rfl rfl rfl rfl rfl rfl rfl rfl rfl rfl ?_
            refine f_14q (by omega) (by omega) (fun r6 r6e r6i => ?_)
            unfold InI at r6i
            refine Tx.aload_n hC te_12_29 rfl ?_
            refine Tx.iload_n hC te_12_30 rfl ?_
            refine Tx.iload_n hC te_12_31 rfl ?_
            refine Tx.virtI hC te_12_32 mt_15 (args := [.inr 1, .inl x1, .inl x2]) (rest := [.inl r6, .inl x1, .inr 1]) (c' := 0) (s' := 0) rfl rfl rfl rfl rfl rfl rfl rfl rfl rfl ?_
            refine f_15q (by omega) (by omega) (fun r9 r9e r9i => ?_)
            unfold InI at r9i
            refine Tx.virtI hC te_12_35 mt_16 (args := [.inr 1, .inl x1, .inl r6, .inl r9]) (rest := []) (c' := 0) (s' := 0) rfl rfl rfl rfl rfl rfl rfl rfl rfl rfl ?_
            refine f_16x (k := Int.toNat x2) hB (by omega) (by assumption) (by assumption) (fun r12 r12b r12f r12i => ?_)
            unfold InI at r12i
            refine Tx.ifc hC (t := 43) te_12_38 (by decide) (fun q15 => ?_) (fun q15 => ?_)
            · replace q15 : ¬ (r12 : Int) = 0 := q15
              refine Tx.iincW hC te_12_43 rfl rfl (fun z16 z16i z16e => ?_)
              unfold InI at z16i z16e
              first | replace z16e := z16e (by omega) | clear z16e
              refine Tx.goto hC (t := 12) te_12_46 (by decide) ?_
              exact ih_12 z16 (by omega) (fun k hk => (Classical.em ((k : Int) < x2)).elim (fun q => i12_1 k q) (fun q => by rw [show k = Int.toNat x2 by omega]; exact r12f.mp (by omega))) (by omega) (by omega)
            · replace q15 : ¬ (¬ (r12 : Int) = 0) := q15
              refine Tx.iconst hC te_12_41 rfl ?_
              exact Tx.bret hC te_12_42 rfl (by omega) (show K 0 mem from H 0 (by omega) ⟨fun q => absurd q (by omega), fun q => absurd (r12f.mpr (q _ _ (by omega) (by omega))) (by omega)⟩)
      refine Tx.iload_n hC te_12_2 rfl ?_
      refine Tx.aload_n hC te_12_3 rfl ?_
      refine Tx.getI hC te_12_4 rfl rfl rfl (fun v17 v17e v17i => ?_)
      unfold InI at v17i
      refine Tx.icmp hC (t := 55) te_12_7 (by decide) (fun q18 => ?_) (fun q18 => ?_)
      · replace q18 : v17 ≤ (x1 : Int) := q18
        refine Tx.iconst hC te_12_55 rfl ?_
        exact Tx.bret hC te_12_56 rfl (by omega) (show K 1 mem from H 1 (by omega) ⟨fun _ o k ho hk => i2_1 o k (by omega) hk, fun _ => rfl⟩)
      · replace q18 : ¬ (v17 ≤ (x1 : Int)) := q18
        refine Tx.iconst hC te_12_10 rfl ?_
        refine Tx.istore_n hC te_12_11 rfl ?_
        exact l_12 _ 0 (by omega) (fun k hk => absurd hk (by omega)) (by omega) (Nat.lt_succ_self _)
  refine Tx.iconst hC te_12_0 rfl ?_
  refine Tx.istore_n hC te_12_1 rfl ?_
  exact l_2 _ 0 (by omega) (fun o k ho hk => absurd ho (by omega)) (Nat.lt_succ_self _)
/-! strictly rising rows of needs, and what they hold -/
abbrev Q4 : Type := Int × Int × Int × Int
def lt4 (x y : Q4) : Prop := x.1 < y.1 ∨ (x.1 = y.1 ∧ (x.2.1 < y.2.1 ∨ (x.2.1 = y.2.1 ∧ (x.2.2.1 < y.2.2.1 ∨ (x.2.2.1 = y.2.2.1 ∧ x.2.2.2 < y.2.2.2)))))
theorem lt4.irr {x : Q4} (h : lt4 x x) : False := by unfold lt4 at h; omega
theorem lt4.tr {x y z : Q4} (h : lt4 x y) (g : lt4 y z) : lt4 x z := by unfold lt4 at *; omega
theorem lt4.tri (x y : Q4) : lt4 x y ∨ x = y ∨ lt4 y x := by
  obtain ⟨a, b, c, d⟩ := x
  obtain ⟨a', b', c', d'⟩ := y
  by_cases h : a = a' ∧ b = b' ∧ c = c' ∧ d = d'
  · obtain ⟨rfl, rfl, rfl, rfl⟩ := h
    exact Or.inr (Or.inl rfl)
  · have : lt4 (a, b, c, d) (a', b', c', d') ∨ lt4 (a', b', c', d') (a, b, c, d) := by
      simp only [lt4]
      omega
    exact this.elim Or.inl (fun q => Or.inr (Or.inr q))
def Enum (c : Nat → Q4) (n : Nat) (P : Q4 → Prop) : Prop := (∀ i j : Nat, i < j → j < n → lt4 (c i) (c j)) ∧ (∀ i, i < n → P (c i)) ∧ ∀ q, P q → ∃ i, i < n ∧ c i = q
theorem Enum.le {c : Nat → Q4} {n : Nat} {P : Q4 → Prop} (h : Enum c n P) {i j : Nat} (hi : i < n) (hj : j < n) (q : lt4 (c i) (c j)) : i < j := by
  by_cases w : i < j
  · exact w
  · by_cases e : i = j
    · subst e; exact (lt4.irr q).elim
    · exact (lt4.irr (q.tr (h.1 j i (by omega) hi))).elim
theorem Enum.inj {c : Nat → Q4} {n : Nat} {P : Q4 → Prop} (h : Enum c n P) {i j : Nat} (hi : i < n) (hj : j < n) (q : c i = c j) : i = j := by
  by_cases w : i < j
  · have := h.1 i j w hj
    rw [q] at this
    exact (lt4.irr this).elim
  · by_cases e : i = j
    · exact e
    · have := h.1 j i (by omega) hi
      rw [q] at this
      exact (lt4.irr this).elim
theorem Enum.key {c c' : Nat → Q4} {n n' : Nat} {P P' : Q4 → Prop} (h : Enum c n P) (h' : Enum c' n' P') (e : ∀ q, P q ↔ P' q) : ∀ i, i < n → i < n' ∧ c i = c' i := by
  intro i
  induction i using Nat.strongRecOn with
  | _ i ih =>
    intro hi
    obtain ⟨j, hj, ej⟩ := h'.2.2 (c i) ((e _).mp (h.2.1 i hi))
    have hij : i ≤ j := by
      by_cases w : j < i
      · have q := (ih j w (by omega)).2
        have := h.inj (i := j) (j := i) (by omega) hi (q.trans ej)
        omega
      · omega
    by_cases w : i = j
    · subst w; exact ⟨hj, ej.symm⟩
    · have hi' : i < n' := by omega
      obtain ⟨k, hk, ek⟩ := h.2.2 (c' i) ((e _).mpr (h'.2.1 i hi'))
      have l1 : lt4 (c k) (c i) := by rw [ek, ← ej]; exact h'.1 i j (by omega) hj
      have k1 := h.le hk hi l1
      have q := (ih k k1 hk).2
      have := h'.inj (i := k) (j := i) (by omega) hi' (q.symm.trans ek)
      omega
/-- what holds the same is the same -/
theorem Enum.uniq {c c' : Nat → Q4} {n n' : Nat} {P P' : Q4 → Prop} (h : Enum c n P) (h' : Enum c' n' P') (e : ∀ q, P q ↔ P' q) : n = n' ∧ ∀ i, i < n → c i = c' i := by
  have k1 := h.key h' e
  have k2 := h'.key h (fun q => (e q).symm)
  refine ⟨?_, fun i hi => (k1 i hi).2⟩
  by_cases a : n < n'
  · have := (k2 n a).1; omega
  · by_cases b : n' < n
    · have := (k1 n' b).1; omega
    · omega
theorem Enum.cg {c c' : Nat → Q4} {n n' : Nat} {P P' : Q4 → Prop} (h : Enum c n P) (hn : n' = n) (e : ∀ i, i < n → c' i = c i) (eP : ∀ q, P q ↔ P' q) : Enum c' n' P' := by
  subst hn
  refine ⟨fun i j hij hj => ?_, fun i hi => ?_, fun q hq => ?_⟩
  · rw [e i (by omega), e j hj]; exact h.1 i j hij hj
  · rw [e i hi]; exact (eP _).mp (h.2.1 i hi)
  · obtain ⟨i, hi, ei⟩ := h.2.2 q ((eP q).mpr hq)
    exact ⟨i, hi, (e i hi).trans ei⟩
/-- one more is put in at its place -/
theorem Enum.ins {c c' : Nat → Q4} {n t : Nat} {P : Q4 → Prop} {q : Q4} (h : Enum c n P) (ht : t ≤ n) (lo : ∀ i, i < t → lt4 (c i) q) (hi : ∀ i, t ≤ i → i < n → lt4 q (c i)) (e1 : ∀ i, i < t → c' i = c i) (e2 : c' t = q) (e3 : ∀ i, t ≤ i → i < n → c' (i + 1) = c i) : Enum c' (n + 1) (fun x => P x ∨ x = q) := by
  have up : ∀ j, t < j → j < n + 1 → c' j = c (j - 1) := fun j a b => by
    have := e3 (j - 1) (by omega) (by omega)
    rw [show j - 1 + 1 = j by omega] at this
    exact this
  refine ⟨fun i j hij hj => ?_, fun i hi' => ?_, fun x hx => ?_⟩
  · by_cases a : j < t
    · rw [e1 i (by omega), e1 j a]; exact h.1 i j hij (by omega)
    · by_cases b : j = t
      · subst b; rw [e1 i hij, e2]; exact lo i hij
      · rw [up j (by omega) hj]
        by_cases d : i < t
        · rw [e1 i d]
          by_cases f : i = j - 1
          · omega
          · exact h.1 i (j - 1) (by omega) (by omega)
        · by_cases f : i = t
          · subst f; rw [e2]; exact hi (j - 1) (by omega) (by omega)
          · rw [up i (by omega) (by omega)]; exact h.1 (i - 1) (j - 1) (by omega) (by omega)
  · by_cases a : i < t
    · rw [e1 i a]; exact Or.inl (h.2.1 i (by omega))
    · by_cases b : i = t
      · subst b; exact Or.inr e2
      · rw [up i (by omega) hi']; exact Or.inl (h.2.1 (i - 1) (by omega))
  · rcases hx with hx | hx
    · obtain ⟨i, hi', ei⟩ := h.2.2 x hx
      by_cases a : i < t
      · exact ⟨i, by omega, (e1 i a).trans ei⟩
      · exact ⟨i + 1, by omega, (e3 i (by omega) hi').trans ei⟩
    · subst hx; exact ⟨t, by omega, e2⟩
theorem Enum.nil {c : Nat → Q4} : Enum c 0 (fun _ => False) := ⟨fun i j _ h => by omega, fun i h => by omega, fun _ h => h.elim⟩
/-- what a store and another op of its row need -/
def NdR (kd row pl la : Nat → Int) (s o : Nat) (x : Q4) : Prop := kd s = 5 ∧ row o = row s ∧ ((kd o = 4 ∧ (pl o < pl s ∨ (pl s = pl o ∧ s < o)) ∧ x = ((s : Int), (o : Int), pl s - pl o, la s)) ∨ (kd o = 4 ∧ ¬ (pl o < pl s ∨ (pl s = pl o ∧ s < o)) ∧ x = ((o : Int), (s : Int), pl o - pl s, 1 - la s)) ∨ (kd o = 5 ∧ (pl o < pl s ∨ (pl s = pl o ∧ s < o)) ∧ x = ((s : Int), (o : Int), pl s - pl o, 1)))
/-! the class's web, exactly -/
def cwq (m : MM) (W i : Nat) : Q4 := (m (W + 1) i, m (W + 2) i, m (W + 3) i, m (W + 4) i)
def cLa2 (m : MM) (o : Nat) : Int := m 6 (m 2 o).toNat
/-- latency, of one kind one less -/
def laB (m : MM) (q : Int) (o : Nat) : Int := if m 2 o = q then cLa2 m o - 1 else cLa2 m o
def tri : Nat → Int
  | 0 => 0
  | i + 1 => tri i + (7 - i)
theorem tri_le {i : Nat} (h : i ≤ 8) : tri i ≤ 28 := by
  have a : i = 0 ∨ i = 1 ∨ i = 2 ∨ i = 3 ∨ i = 4 ∨ i = 5 ∨ i = 6 ∨ i = 7 ∨ i = 8 := by omega
  rcases a with rfl | rfl | rfl | rfl | rfl | rfl | rfl | rfl | rfl <;> decide
theorem cmp_ok {x1 x2 x3 x4 a b d l r : Int} (h : (¬ x1 = a ∧ r = x1 - a) ∨ (x1 = a ∧ ¬ x2 = b ∧ r = x2 - b) ∨ (x1 = a ∧ x2 = b ∧ ¬ x3 = d ∧ r = x3 - d) ∨ (x1 = a ∧ x2 = b ∧ x3 = d ∧ r = x4 - l)) : (r < 0 ↔ lt4 (x1, x2, x3, x4) (a, b, d, l)) ∧ (r = 0 ↔ ((x1, x2, x3, x4) : Q4) = (a, b, d, l)) := by
  constructor
  · simp only [lt4]; omega
  · simp only [Prod.mk.injEq]; omega
section CWB
variable {S : Nat × (Nat → Int32)} {n : Nat} {mem : MM} {K : Int → MM → Prop}
theorem f_19e (hB : BodyOK mem) {o : Int} (h : 0 ≤ o ∧ o < 8) (H : 1 ≤ cLa2 mem o.toNat → cLa2 mem o.toNat ≤ 6 → K (cLa2 mem o.toNat) mem) : CWI (Ex S (n + 1)) 19 [.inr 1, .inl o] mem K := by
  obtain ⟨h1, -⟩ := hB.2.1 o.toNat (by omega)
  refine CW.of (k := 0) mt_19 rfl rfl (w_19_0 (Ex.mono S n) ⟨h, fun v e _ => ⟨by omega, fun v2 e2 _ _ => ⟨_, rfl, ?_⟩⟩⟩)
  have := hB.2.2.2.1 v.toNat (by omega)
  subst e
  subst e2
  exact H this.1 this.2
theorem f_18e (hB : BodyOK mem) {o q : Int} (h : 0 ≤ o ∧ o < 8) (H : 0 ≤ laB mem q o.toNat → laB mem q o.toNat ≤ 6 → K (laB mem q o.toNat) mem) : CWI (Ex S (n + 2)) 18 [.inr 1, .inl o, .inl q] mem K := by
  refine CW.of (k := 1) mt_18 rfl rfl (w_18_0 (Ex.mono S (n + 1)) (f_19e hB h (fun u1 u2 _ => ⟨h, fun v e _ => ⟨fun ne _ => ⟨_, rfl, ?_⟩, fun ee => ⟨by unfold InI; omega, fun _ => ⟨_, rfl, ?_⟩⟩⟩⟩)))
  · have e2 : laB mem q o.toNat = cLa2 mem o.toNat := if_neg (by rw [← e]; exact ne)
    rw [e2] at H
    exact H (by omega) u2
  · have e2 : laB mem q o.toNat = cLa2 mem o.toNat - 1 := if_pos (by rw [← e]; exact Classical.not_not.mp ee)
    rw [e2] at H
    exact H (by omega) (by omega)
theorem f_18n (hB : BodyOK mem) {o : Nat} {q : Int} (h : o < 8) (H : 0 ≤ laB mem q o → laB mem q o ≤ 6 → K (laB mem q o) mem) : CWI (Ex S (n + 2)) 18 [.inr 1, .inl (o : Int), .inl q] mem K := f_18e hB ⟨by omega, by omega⟩ (by rw [Int.toNat_natCast]; exact H)
theorem f_21e {W : Nat} (hW : WebSh W) (hR : R64 mem W) {j a b d l : Int} (hj : 0 ≤ j ∧ j < 64) (hr : Rg a b d l) (H : ∀ r, (r < 0 ↔ lt4 (cwq mem W j.toNat) (a, b, d, l)) → (r = 0 ↔ cwq mem W j.toNat = (a, b, d, l)) → K r mem) : CWI (Ex S (n + 1)) 21 [.inr W, .inl j, .inl a, .inl b, .inl d, .inl l] mem K := by
  obtain ⟨r1, r2, r3, r4⟩ := hR j.toNat (by omega)
  obtain ⟨s1, s2, s3, s4⟩ := hr
  have H : ∀ r, ((¬ mem (W + 1) j.toNat = a ∧ r = mem (W + 1) j.toNat - a) ∨ (mem (W + 1) j.toNat = a ∧ ¬ mem (W + 2) j.toNat = b ∧ r = mem (W + 2) j.toNat - b) ∨ (mem (W + 1) j.toNat = a ∧ mem (W + 2) j.toNat = b ∧ ¬ mem (W + 3) j.toNat = d ∧ r = mem (W + 3) j.toNat - d) ∨ (mem (W + 1) j.toNat = a ∧ mem (W + 2) j.toNat = b ∧ mem (W + 3) j.toNat = d ∧ r = mem (W + 4) j.toNat - l)) → K r mem := fun r h => H r (cmp_ok h).1 (cmp_ok h).2
  refine CW.of (k := 0) mt_21 rfl rfl (w_21_0 (Ex.mono S n) hW ⟨hj, fun v1 e1 _ => ⟨fun q1 => ⟨hj, fun v2 e2 _ => ⟨fun q2 => ⟨hj, fun v3 e3 _ => ⟨fun q3 => ⟨hj, fun v4 e4 _ => ⟨by unfold InI; omega, fun _ => ⟨_, rfl, H _ (by omega)⟩⟩⟩, fun q3 => ⟨hj, fun v5 e5 _ => ⟨by unfold InI; omega, fun _ => ⟨_, rfl, H _ (by omega)⟩⟩⟩⟩⟩, fun q2 => ⟨hj, fun v5 e5 _ => ⟨by unfold InI; omega, fun _ => ⟨_, rfl, H _ (by omega)⟩⟩⟩⟩⟩, fun q1 => ⟨hj, fun v5 e5 _ => ⟨by unfold InI; omega, fun _ => ⟨_, rfl, H _ (by omega)⟩⟩⟩⟩⟩)
theorem f_22e {K : MM → Prop} {W : Nat} (hW : WebSh W) (hR : R64 mem W) {j a b d l : Int} (hj : 0 ≤ j ∧ j < 64) (hr : Rg a b d l) (H : ∀ m', FrWb W mem m' → m' W 0 = mem W 0 → R64 m' W → cwq m' W j.toNat = (a, b, d, l) → (∀ i, ¬ i = j.toNat → cwq m' W i = cwq mem W i) → K m') : CWV (Ex S (n + 1)) 22 [.inr W, .inl j, .inl a, .inl b, .inl d, .inl l] mem K := by
  have z : cwq (upm (upm (upm (upm mem (W + 1) (Int.toNat j) a) (W + 2) (Int.toNat j) b) (W + 3) (Int.toNat j) d) (W + 4) (Int.toNat j) l) W j.toNat = (a, b, d, l) := by
    unfold cwq
    rw [upm_ne (A := W + 4) (B := W + 1) (by omega), upm_ne (A := W + 3) (B := W + 1) (by omega), upm_ne (A := W + 2) (B := W + 1) (by omega), upm_eq, upm_ne (A := W + 4) (B := W + 2) (by omega), upm_ne (A := W + 3) (B := W + 2) (by omega), upm_eq, upm_ne (A := W + 4) (B := W + 3) (by omega), upm_eq, upm_eq]
  have o : ∀ i, ¬ i = j.toNat → cwq (upm (upm (upm (upm mem (W + 1) (Int.toNat j) a) (W + 2) (Int.toNat j) b) (W + 3) (Int.toNat j) d) (W + 4) (Int.toNat j) l) W i = cwq mem W i := fun i e => by
    unfold cwq
    rw [upm_ne (A := W + 4) (B := W + 1) (by omega), upm_ne (A := W + 3) (B := W + 1) (by omega), upm_ne (A := W + 2) (B := W + 1) (by omega), upm_ne (A := W + 1) (B := W + 1) (by omega), upm_ne (A := W + 4) (B := W + 2) (by omega), upm_ne (A := W + 3) (B := W + 2) (by omega), upm_ne (A := W + 2) (B := W + 2) (by omega), upm_ne (A := W + 1) (B := W + 2) (by omega), upm_ne (A := W + 4) (B := W + 3) (by omega), upm_ne (A := W + 3) (B := W + 3) (by omega), upm_ne (A := W + 2) (B := W + 3) (by omega), upm_ne (A := W + 1) (B := W + 3) (by omega), upm_ne (A := W + 4) (B := W + 4) (by omega), upm_ne (A := W + 3) (B := W + 4) (by omega), upm_ne (A := W + 2) (B := W + 4) (by omega), upm_ne (A := W + 1) (B := W + 4) (by omega)]
  have hg : ∀ {x : Q4} (m : MM) (i : Nat), cwq m W i = x → Rg x.1 x.2.1 x.2.2.1 x.2.2.2 → Rg (m (W + 1) i) (m (W + 2) i) (m (W + 3) i) (m (W + 4) i) := fun m i e h => by rw [← e] at h; exact h
  refine CW.of (k := 0) mt_22 rfl rfl (w_22_0 (Ex.mono S n) hW ⟨hj, hj, hj, hj, rfl, H _ (fun A i e1 e2 => ?_) ?_ (fun i hi => ?_) z o⟩)
  · rw [upm_ne (by omega), upm_ne (by omega), upm_ne (by omega), upm_ne (by omega)]
  · rw [upm_ne (by omega), upm_ne (by omega), upm_ne (by omega), upm_ne (by omega)]
  · by_cases e : i = j.toNat
    · subst e; exact hg _ _ z hr
    · exact hg _ _ (o i e) (hR i hi)
theorem f_20e {K : MM → Prop} {W : Nat} {P : Q4 → Prop} (hW : WebSh W) (hO : WbOK mem W) (h63 : mem W 0 < 64) {a b d l : Int} (hr : Rg a b d l) (hE : Enum (cwq mem W) (mem W 0).toNat P) (H : ∀ m', FrWb W mem m' → WbOK m' W → m' W 0 ≤ mem W 0 + 1 → Enum (cwq m' W) (m' W 0).toNat (fun x => P x ∨ x = (a, b, d, l)) → K m') : CWV (Ex S (n + 2)) 20 [.inr W, .inl a, .inl b, .inl d, .inl l] mem K := by
  obtain ⟨hR, h0, h64⟩ := hO
  have at72 : ∀ (N : Nat) (p x i : Int) (m : MM), 0 ≤ p → p ≤ i → i ≤ mem W 0 → (i - p).toNat < N → FrWb W mem m → m W 0 = mem W 0 → R64 m W → (∀ j : Nat, (j : Int) < p → lt4 (cwq mem W j) (a, b, d, l)) → (∀ j : Nat, p ≤ j → (j : Int) < mem W 0 → lt4 (a, b, d, l) (cwq mem W j)) → (∀ j : Nat, (j : Int) < i → cwq m W j = cwq mem W j) → (∀ j : Nat, i < j → (j : Int) ≤ mem W 0 → cwq m W j = cwq mem W (j - 1)) → Wx (Ex S (n + 1)) S M_20 (fun r m => r = none ∧ K m) 72 [some (.inr W), some (.inl a), some (.inl b), some (.inl d), some (.inl l), some (.inl p), some (.inl x), some (.inl i)] [] m := by
    intro N
    induction N with
    | zero => intros; omega
    | succ N ih =>
      intro p x i m hp hpi hi hN hF e0 hRm lo hi2 cA cB
      refine w_20_72 (Ex.mono S (n + 1)) hW ⟨fun q => f_22e hW hRm ⟨hp, by omega⟩ hr (fun m1 k1 k2 k3 k4 k5 v2 e2 _ => ⟨by unfold InI; omega, rfl, H _ (fun A i e1 e2 => ?_) ⟨fun j hj => ?_, ?_⟩ ?_ ?_⟩), fun q => ?_⟩
      · rw [upm_ne e2]; exact (hF.tr k1) A i e1 e2
      · rw [upm_ne (by omega), upm_ne (by omega), upm_ne (by omega), upm_ne (by omega)]; exact k3 j hj
      · rw [upm_eq]; omega
      · rw [upm_eq]; omega
      · have ec : ∀ j, cwq (upm m1 W 0 (v2 + 1)) W j = cwq m1 W j := fun j => by
          unfold cwq
          rw [upm_ne (by omega), upm_ne (by omega), upm_ne (by omega), upm_ne (by omega)]
        have hi3 : i = p := by omega
        subst hi3
        have en : ((upm m1 W 0 (v2 + 1)) W 0).toNat = (mem W 0).toNat + 1 := by rw [upm_eq]; omega
        rw [en]
        refine hE.ins (t := i.toNat) (by omega) (fun j hj => lo j (by omega)) (fun j w1 w2 => hi2 j (by omega) (by omega)) (fun j hj => ?_) ?_ (fun j w1 w2 => ?_)
        · rw [ec, k5 j (by omega)]; exact cA j (by omega)
        · rw [ec]; exact k4
        · rw [ec, k5 (j + 1) (by omega), cB (j + 1) (by omega) (by omega)]; rfl
      · have hi1 : 0 ≤ i - 1 ∧ i - 1 < 64 := by omega
        have hI : InI (i - 1) := by unfold InI; omega
        refine ⟨hI, hi1, fun v3 e3 _ => ⟨hI, hi1, fun v4 e4 _ => ⟨hI, hi1, fun v5 e5 _ => ⟨hI, hi1, fun v6 e6 _ => ?_⟩⟩⟩⟩
        have hg := hRm (i - 1).toNat (by omega)
        have ev : cwq m W (i - 1).toNat = (v3, v4, v5, v6) := by rw [e3, e4, e5, e6]; rfl
        rw [← e3, ← e4, ← e5, ← e6] at hg
        refine f_22e hW hRm ⟨by omega, by omega⟩ hg (fun m7 k1 k2 k3 k4 k5 => ⟨by unfold InI; omega, ?_⟩)
        rw [show i + -1 = i - 1 by omega]
        refine ih p x (i - 1) m7 hp (by omega) (by omega) (by omega) (hF.tr k1) (k2.trans e0) k3 lo hi2 (fun j hj => ?_) (fun j w1 w2 => ?_)
        · rw [k5 j (by omega)]; exact cA j (by omega)
        · by_cases w : j = i.toNat
          · subst w
            rw [k4, ← ev, cA (i - 1).toNat (by omega)]
            congr 1
            omega
          · rw [k5 j w]; exact cB j (by omega) w2
  have key : ∀ (N : Nat) (p x : Int), 0 ≤ p → p ≤ mem W 0 → (mem W 0 - p).toNat < N → (∀ j : Nat, (j : Int) < p → lt4 (cwq mem W j) (a, b, d, l)) → Wx (Ex S (n + 1)) S M_20 (fun r m => r = none ∧ K m) 6 [some (.inr W), some (.inl a), some (.inl b), some (.inl d), some (.inl l), some (.inl p), some (.inl x), none] [] mem := by
    intro N
    induction N with
    | zero => intros; omega
    | succ N ih =>
      intro p x hp hp2 hN lo
      have go : ∀ x v : Int, v = mem W 0 → (∀ j : Nat, p ≤ j → (j : Int) < mem W 0 → lt4 (a, b, d, l) (cwq mem W j)) → Wx (Ex S (n + 1)) S M_20 (fun r m => r = none ∧ K m) 72 [some (.inr W), some (.inl a), some (.inl b), some (.inl d), some (.inl l), some (.inl p), some (.inl x), some (.inl v)] [] mem := fun x v e hi2 => at72 _ p x v mem hp (by omega) (by omega) (Nat.lt_succ_self _) FrWb.rf rfl hR lo hi2 (fun _ _ => rfl) (fun j w1 w2 => by omega)
      refine w_20_6 (Ex.mono S (n + 1)) hW (fun v1 e1 _ => ⟨fun q v2 e2 _ => ⟨fun _ v3 e3 _ => ⟨fun z v4 e4 _ => go _ _ e4 (fun j w1 w2 => by omega), fun z => by omega⟩, fun z => by omega⟩, fun q => ?_⟩)
      refine f_21e hW hR ⟨hp, by omega⟩ hr (fun r g1 g2 _ => ⟨fun z => ⟨by unfold InI; omega, ih (p + 1) r (by omega) (by omega) (by omega) (fun j hj => ?_)⟩, fun z v9 e9 _ => ⟨fun w => by omega, fun _ => ⟨fun w => ⟨rfl, ?_⟩, fun w v12 e12 _ => ⟨fun _ v13 e13 _ => go _ _ e13 (fun j w1 w2 => ?_), fun w => by omega⟩⟩⟩⟩)
      · by_cases w : (j : Int) < p
        · exact lo j w
        · rw [show j = p.toNat by omega]; exact g1.mp z
      · refine H mem FrWb.rf ⟨hR, h0, h64⟩ (by omega) (hE.cg rfl (fun _ _ => rfl) (fun y => ⟨Or.inl, fun h => h.elim id (fun e => ?_)⟩))
        rw [e, ← g2.mp w]; exact hE.2.1 p.toNat (by omega)
      · have l1 : lt4 (a, b, d, l) (cwq mem W p.toNat) := by
          rcases lt4.tri (a, b, d, l) (cwq mem W p.toNat) with e | e | e
          · exact e
          · exact absurd (g2.mpr e.symm) w
          · exact absurd (g1.mpr e) z
        by_cases e : j = p.toNat
        · rw [e]; exact l1
        · exact l1.tr (hE.1 p.toNat j (by omega) (by omega))
  exact CW.of (k := 3) mt_20 rfl rfl (w_20_0 (Ex.mono S (n + 1)) hW (key _ 0 (-1) (by omega) h0 (Nat.lt_succ_self _) (fun j hj => by omega)))
/-- what a pair of ops needs by its rows -/
def nrB (m : MM) (q : Int) (s o : Nat) (x : Q4) : Prop := NdR (m 2) (rowB m) (plcB m) (laB m q) s o x
theorem f_23e {K : MM → Prop} {W : Nat} {P : Q4 → Prop} (hW : WebSh W) (hB : BodyOK mem) (hO : WbOK mem W) (h63 : mem W 0 < 64) {o p : Nat} {q : Int} (ho : o < 8) (hp : p < 8) (hop : o < p) (hE : Enum (cwq mem W) (mem W 0).toNat P) (H : ∀ m', FrWb W mem m' → WbOK m' W → m' W 0 ≤ mem W 0 + 1 → Enum (cwq m' W) (m' W 0).toNat (fun x => P x ∨ nrB mem q o p x ∨ nrB mem q p o x) → K m') : CWV (Ex S (n + 3)) 23 [.inr W, .inr 1, .inl (o : Int), .inl (p : Int), .inl q] mem K := by
  have same : (∀ x, ¬ nrB mem q o p x ∧ ¬ nrB mem q p o x) → none = (none : Option Int) ∧ K mem := fun h => ⟨rfl, H mem FrWb.rf hO (by omega) (hE.cg rfl (fun _ _ => rfl) (fun x => ⟨Or.inl, fun w => w.elim id (fun w => w.elim (fun w => absurd w (h x).1) (fun w => absurd w (h x).2))⟩))⟩
  have ko : 0 ≤ (o : Int) ∧ (o : Int) < 8 := by omega
  have kp : 0 ≤ (p : Int) ∧ (p : Int) < 8 := by omega
  have nn : (mem 2 o < 4 ∨ mem 2 p < 4 ∨ ¬ rowB mem o = rowB mem p ∨ (¬ mem 2 o = 5 ∧ ¬ mem 2 p = 5)) → ∀ x, ¬ nrB mem q o p x ∧ ¬ nrB mem q p o x := fun h x => by
    constructor
    · rintro ⟨h1, h2, ⟨h3, h4, h5⟩ | ⟨h3, h4, h5⟩ | ⟨h3, h4, h5⟩⟩ <;> omega
    · rintro ⟨h1, h2, ⟨h3, h4, h5⟩ | ⟨h3, h4, h5⟩ | ⟨h3, h4, h5⟩⟩ <;> omega
  refine CW.of (k := 6) mt_23 rfl rfl (w_23_0 (Ex.mono S (n + 2)) hW ⟨ko, fun v1 e1 _ => ⟨fun z => same (nn (by rw [Int.toNat_natCast] at e1; omega)), fun q1 => ⟨kp, fun v2 e2 _ => ⟨fun q2 => f_24 ho (fun _ => f_24 hp (fun _ => ⟨fun er => f_25 ho (fun _ => f_25 hp (fun _ => ?_)), fun er => same (nn (by omega))⟩)), fun z => same (nn (by rw [Int.toNat_natCast] at e2; omega))⟩⟩⟩⟩)
  rw [Int.toNat_natCast] at e1 e2
  have ro := hB.row ho (by omega)
  have rp := hB.row hp (by omega)
  have k5o := (hB.2.1 o ho).1
  have k5p := (hB.2.1 p hp).1
  have put : ∀ a b d l : Int, Rg a b d l → (∀ x, x = (a, b, d, l) ↔ nrB mem q o p x ∨ nrB mem q p o x) → CWV (Ex S (n + 2)) 20 [.inr W, .inl a, .inl b, .inl d, .inl l] mem fun m' => none = (none : Option Int) ∧ K m' := fun a b d l hg hx => f_20e hW hO h63 hg hE (fun m' k1 k2 k3 k4 => ⟨rfl, H m' k1 k2 k3 (k4.cg rfl (fun _ _ => rfl) (fun x => or_congr Iff.rfl (hx x)))⟩)
  have bk : ∀ (y : Q4), (nrB mem q o p y ∨ nrB mem q p o y) → (∀ x, (nrB mem q o p x → x = y) ∧ (nrB mem q p o x → x = y)) → ∀ x, x = y ↔ nrB mem q o p x ∨ nrB mem q p o x := fun y h1 h2 x => ⟨fun e => by rw [e]; exact h1, fun w => w.elim (h2 x).1 (h2 x).2⟩
  refine ⟨fun z => f_25 hp (fun _ => f_25 ho (fun _ => ⟨by unfold InI; omega, kp, fun v15 e15 _ => ⟨fun w1 => ⟨ko, fun v16 e16 _ => ⟨fun w2 => same (nn ?_), fun w2 => f_18n hB ho (fun u1 u2 _ => ⟨by unfold InI; omega, put p o (plcB mem p - plcB mem o) (1 - laB mem q o) (by unfold Rg; omega) ?_⟩)⟩⟩, fun w1 => ⟨ko, fun v20 e20 _ => ⟨fun w2 => f_18n hB hp (fun u1 u2 _ => put p o (plcB mem p - plcB mem o) (laB mem q p) (by unfold Rg; omega) ?_), fun w2 => put p o (plcB mem p - plcB mem o) 1 (by unfold Rg; omega) ?_⟩⟩⟩⟩)), fun z => f_25 ho (fun _ => f_25 hp (fun _ => ⟨by unfold InI; omega, ko, fun v15 e15 _ => ⟨fun w1 => ⟨kp, fun v16 e16 _ => ⟨fun w2 => same (nn ?_), fun w2 => f_18n hB hp (fun u1 u2 _ => ⟨by unfold InI; omega, put o p (plcB mem o - plcB mem p) (1 - laB mem q p) (by unfold Rg; omega) ?_⟩)⟩⟩, fun w1 => ⟨kp, fun v20 e20 _ => ⟨fun w2 => f_18n hB ho (fun u1 u2 _ => put o p (plcB mem o - plcB mem p) (laB mem q o) (by unfold Rg; omega) ?_), fun w2 => put o p (plcB mem o - plcB mem p) 1 (by unfold Rg; omega) ?_⟩⟩⟩⟩))⟩
  all_goals (first | rw [Int.toNat_natCast] at e15 e16 | rw [Int.toNat_natCast] at e15 e20)
  · omega
  · refine bk _ (Or.inl ⟨by omega, by omega, Or.inr (Or.inl ⟨by omega, by omega, rfl⟩)⟩) (fun x => ⟨?_, ?_⟩) <;> rintro ⟨h1, h2, ⟨h3, h4, h5⟩ | ⟨h3, h4, h5⟩ | ⟨h3, h4, h5⟩⟩ <;> first | exact h5 | (exfalso; omega)
  · refine bk _ (Or.inr ⟨by omega, by omega, Or.inl ⟨by omega, by omega, rfl⟩⟩) (fun x => ⟨?_, ?_⟩) <;> rintro ⟨h1, h2, ⟨h3, h4, h5⟩ | ⟨h3, h4, h5⟩ | ⟨h3, h4, h5⟩⟩ <;> first | exact h5 | (exfalso; omega)
  · refine bk _ (Or.inr ⟨by omega, by omega, Or.inr (Or.inr ⟨by omega, by omega, rfl⟩)⟩) (fun x => ⟨?_, ?_⟩) <;> rintro ⟨h1, h2, ⟨h3, h4, h5⟩ | ⟨h3, h4, h5⟩ | ⟨h3, h4, h5⟩⟩ <;> first | exact h5 | (exfalso; omega)
  · omega
  · refine bk _ (Or.inr ⟨by omega, by omega, Or.inr (Or.inl ⟨by omega, by omega, rfl⟩)⟩) (fun x => ⟨?_, ?_⟩) <;> rintro ⟨h1, h2, ⟨h3, h4, h5⟩ | ⟨h3, h4, h5⟩ | ⟨h3, h4, h5⟩⟩ <;> first | exact h5 | (exfalso; omega)
  · refine bk _ (Or.inl ⟨by omega, by omega, Or.inl ⟨by omega, by omega, rfl⟩⟩) (fun x => ⟨?_, ?_⟩) <;> rintro ⟨h1, h2, ⟨h3, h4, h5⟩ | ⟨h3, h4, h5⟩ | ⟨h3, h4, h5⟩⟩ <;> first | exact h5 | (exfalso; omega)
  · refine bk _ (Or.inl ⟨by omega, by omega, Or.inr (Or.inr ⟨by omega, by omega, rfl⟩)⟩) (fun x => ⟨?_, ?_⟩) <;> rintro ⟨h1, h2, ⟨h3, h4, h5⟩ | ⟨h3, h4, h5⟩ | ⟨h3, h4, h5⟩⟩ <;> first | exact h5 | (exfalso; omega)
end CWB
/-! the class weaves its web, exactly -/
def nsB (m : MM) (q : Int) (o k : Nat) (x : Q4) : Prop := (k : Int) < csN m o ∧ 0 ≤ m 3 (4 * o + 2 * k) ∧ x = (m 3 (4 * o + 2 * k), (o : Int), m 3 (4 * o + 2 * k + 1), laB m q (m 3 (4 * o + 2 * k)).toNat)
/-- the needs, by the class's cells -/
def NdC (m : MM) (q : Int) (x : Q4) : Prop := (∃ o k : Nat, (o : Int) < m 1 0 ∧ nsB m q o k x) ∨ ∃ s o : Nat, (s : Int) < m 1 0 ∧ (o : Int) < m 1 0 ∧ ¬ o = s ∧ nrB m q s o x
theorem bd_fr {m m' : MM} (e : ∀ A i, 0 < A → A < 9 → ¬ A = 4 → m' A i = m A i) {q : Int} : csN m' = csN m ∧ rowB m' = rowB m ∧ plcB m' = plcB m ∧ laB m' q = laB m q := by
  refine ⟨funext fun o => ?_, funext fun o => ?_, funext fun o => ?_, funext fun o => ?_⟩
  · unfold csN; rw [e 2 o (by omega) (by omega) (by omega)]
  · unfold rowB; rw [e 2 o (by omega) (by omega) (by omega), e 3 _ (by omega) (by omega) (by omega), e 3 _ (by omega) (by omega) (by omega)]
  · unfold plcB; rw [e 2 o (by omega) (by omega) (by omega), e 3 _ (by omega) (by omega) (by omega), e 3 _ (by omega) (by omega) (by omega)]
  · unfold laB cLa2; rw [e 2 o (by omega) (by omega) (by omega), e 6 _ (by omega) (by omega) (by omega)]
theorem nsB_fr {m m' : MM} (e : ∀ A i, 0 < A → A < 9 → ¬ A = 4 → m' A i = m A i) {q : Int} {o k : Nat} {x : Q4} : nsB m' q o k x ↔ nsB m q o k x := by
  have h := bd_fr e (q := q)
  unfold nsB
  rw [h.1, h.2.2.2, e 3 _ (by omega) (by omega) (by omega), e 3 _ (by omega) (by omega) (by omega)]
theorem nrB_fr {m m' : MM} (e : ∀ A i, 0 < A → A < 9 → ¬ A = 4 → m' A i = m A i) {q : Int} {o k : Nat} {x : Q4} : nrB m' q o k x ↔ nrB m q o k x := by
  have h := bd_fr e (q := q)
  unfold nrB
  rw [h.2.1, h.2.2.1, h.2.2.2, show m' 2 = m 2 from funext fun i => e 2 i (by omega) (by omega) (by omega)]
theorem NdC.fr {m m' : MM} (e : ∀ A i, 0 < A → A < 9 → ¬ A = 4 → m' A i = m A i) {q : Int} {x : Q4} : NdC m' q x ↔ NdC m q x := by
  unfold NdC
  rw [e 1 0 (by omega) (by omega) (by omega)]
  exact or_congr (exists_congr fun o => exists_congr fun k => and_congr Iff.rfl (nsB_fr e)) (exists_congr fun o => exists_congr fun k => and_congr Iff.rfl (and_congr Iff.rfl (and_congr Iff.rfl (nrB_fr e))))
section CWV2
variable {S : Nat × (Nat → Int32)} {n : Nat} {mem : MM} {K : Int → MM → Prop}
theorem f_17e {K : MM → Prop} {W : Nat} (hW : WebSh W) (hWv : W = 9 ∨ W = 14) (hB : BodyOK mem) (hO : R64 mem W) {q : Int} (H : ∀ m', FrWb W mem m' → WbOK m' W → m' W 0 ≤ 44 → Enum (cwq m' W) (m' W 0).toNat (NdC mem q) → K m') : CWV (Ex S (n + 4)) 17 [.inr W, .inr 1, .inl q] mem K := by
  have h8 := hB.1
  have bF0 : ∀ m, FrWb W mem m → ∀ A i, 0 < A → A < 9 → m A i = mem A i := fun m hF A i e1 e2 => hF A i (by omega) (by omega)
  have bF : ∀ m, FrWb W mem m → ∀ A i, 0 < A → A < 9 → ¬ A = 4 → m A i = mem A i := fun m hF A i e1 e2 _ => hF A i (by omega) (by omega)
  have bB : ∀ m, FrWb W mem m → BodyOK m := fun m hF => hB.fr (bF0 m hF)
  have sz : ∀ m, FrWb W mem m → m 1 0 = mem 1 0 := fun m hF => hF _ _ (by omega) (by omega)
  obtain ⟨PA, ePA⟩ : ∃ PA : Nat → Nat → Q4 → Prop, PA = fun o k x => ∃ o' k' : Nat, (o' < o ∨ (o' = o ∧ k' < k)) ∧ (o' : Int) < mem 1 0 ∧ nsB mem q o' k' x := ⟨_, rfl⟩
  obtain ⟨PB, ePB⟩ : ∃ PB : Nat → Nat → Q4 → Prop, PB = fun i j x => (∃ o k : Nat, (o : Int) < mem 1 0 ∧ nsB mem q o k x) ∨ ∃ s t : Nat, s < t ∧ (t : Int) < mem 1 0 ∧ (s < i ∨ (s = i ∧ t < j)) ∧ (nrB mem q s t x ∨ nrB mem q t s x) := ⟨_, rfl⟩
  have l77 : ∀ (N : Nat) (o : Nat) (m : MM), (mem 1 0 - o).toNat < N → o ≤ 8 → FrWb W mem m → WbOK m W → m W 0 ≤ 16 + tri o → Enum (cwq m W) (m W 0).toNat (PB o 0) → Wx (Ex S (n + 3)) S M_17 (fun r m => r = none ∧ K m) 77 [some (.inr W), some (.inr 1), some (.inl q), some (.inl (o : Int)), none, none] [] m := by
    intro N
    induction N with
    | zero => intros; omega
    | succ N ih =>
      intro o m hN ho8 hF hO' hs hE
      have es := sz m hF
      have ht := tri_le ho8
      refine w_17_77 (Ex.mono S (n + 3)) hW (fun v1 e1 _ => ⟨fun z => ⟨rfl, H m hF hO' (by omega) (hE.cg rfl (fun _ _ => rfl) (fun x => ?_))⟩, fun z => ⟨by unfold InI; omega, ?_⟩⟩)
      · rw [ePB]
        refine or_congr Iff.rfl ⟨?_, ?_⟩
        · rintro ⟨s, t, h1, h2, -, h4 | h4⟩
          · exact ⟨s, t, by omega, h2, by omega, h4⟩
          · exact ⟨t, s, h2, by omega, by omega, h4⟩
        · rintro ⟨s, t, h1, h2, h3, h4⟩
          by_cases w : s < t
          · exact ⟨s, t, w, h2, by omega, Or.inl h4⟩
          · exact ⟨t, s, by omega, h1, by omega, Or.inr h4⟩
      have inner : ∀ (N' : Nat) (p : Nat) (m : MM), (mem 1 0 - p).toNat < N' → o < p → (p : Int) ≤ mem 1 0 → FrWb W mem m → WbOK m W → m W 0 ≤ 16 + tri o + ((p : Int) - o - 1) → Enum (cwq m W) (m W 0).toNat (PB o p) → Wx (Ex S (n + 3)) S M_17 (fun r m => r = none ∧ K m) 90 [some (.inr W), some (.inr 1), some (.inl q), some (.inl (o : Int)), some (.inl (p : Int)), none] [] m := by
        intro N'
        induction N' with
        | zero => intros; omega
        | succ N' ih2 =>
          intro p m hN' hop hp hF hO' hs hE
          have es := sz m hF
          refine w_17_90 (Ex.mono S (n + 3)) hW (fun v1 e1 _ => ⟨fun z2 => ⟨by unfold InI; omega, ih (o + 1) m (by omega) (by omega) hF hO' ?_ (hE.cg rfl (fun _ _ => rfl) (fun x => ?_))⟩, fun z2 => f_23e hW (bB m hF) hO' (by omega) (by omega) (by omega) hop hE (fun m' k1 k2 k3 k4 => ⟨by unfold InI; omega, ih2 (p + 1) m' (by omega) (by omega) (by omega) (hF.tr k1) k2 (by omega) (k4.cg rfl (fun _ _ => rfl) (fun x => ?_))⟩)⟩)
          · have : tri (o + 1) = tri o + (7 - o) := rfl
            omega
          · rw [ePB]
            refine or_congr Iff.rfl ⟨?_, ?_⟩
            · rintro ⟨s, t, h1, h2, h3, h4⟩
              exact ⟨s, t, h1, h2, by omega, h4⟩
            · rintro ⟨s, t, h1, h2, h3, h4⟩
              exact ⟨s, t, h1, h2, by omega, h4⟩
          · rw [ePB]
            constructor
            · rintro ((h | ⟨s, t, h1, h2, h3, h4⟩) | h | h)
              · exact Or.inl h
              · exact Or.inr ⟨s, t, h1, h2, by omega, h4⟩
              · exact Or.inr ⟨o, p, hop, by omega, by omega, Or.inl ((nrB_fr (bF m hF)).mp h)⟩
              · exact Or.inr ⟨o, p, hop, by omega, by omega, Or.inr ((nrB_fr (bF m hF)).mp h)⟩
            · rintro (h | ⟨s, t, h1, h2, h3, h4⟩)
              · exact Or.inl (Or.inl h)
              · by_cases w : s = o ∧ t = p
                · obtain ⟨rfl, rfl⟩ := w
                  exact h4.elim (fun h => Or.inr (Or.inl ((nrB_fr (bF m hF)).mpr h))) (fun h => Or.inr (Or.inr ((nrB_fr (bF m hF)).mpr h)))
                · exact Or.inl (Or.inr ⟨s, t, h1, h2, by omega, h4⟩)
      refine inner _ (o + 1) m (Nat.lt_succ_self _) (by omega) (by omega) hF hO' (by omega) (hE.cg rfl (fun _ _ => rfl) (fun x => ?_))
      rw [ePB]
      refine or_congr Iff.rfl ⟨?_, ?_⟩
      · rintro ⟨s, t, h1, h2, h3, h4⟩
        exact ⟨s, t, h1, h2, by omega, h4⟩
      · rintro ⟨s, t, h1, h2, h3, h4⟩
        exact ⟨s, t, h1, h2, by omega, h4⟩
  have l7 : ∀ (N : Nat) (o : Nat) (m : MM), (mem 1 0 - o).toNat < N → o ≤ 8 → FrWb W mem m → WbOK m W → m W 0 ≤ 2 * o → Enum (cwq m W) (m W 0).toNat (PA o 0) → Wx (Ex S (n + 3)) S M_17 (fun r m => r = none ∧ K m) 7 [some (.inr W), some (.inr 1), some (.inl q), some (.inl (o : Int)), none, none] [] m := by
    intro N
    induction N with
    | zero => intros; omega
    | succ N ih =>
      intro o m hN ho8 hF hO' hs hE
      have es := sz m hF
      refine w_17_7 (Ex.mono S (n + 3)) hW (fun v1 e1 _ => ⟨fun z => l77 _ 0 m (Nat.lt_succ_self _) (by omega) hF hO' (by unfold tri; omega) (hE.cg rfl (fun _ _ => rfl) (fun x => ?_)), fun z => ?_⟩)
      · rw [ePA, ePB]
        constructor
        · rintro ⟨o', k', -, h2, h3⟩
          exact Or.inl ⟨o', k', h2, h3⟩
        · rintro (⟨o', k', h2, h3⟩ | ⟨s, t, -, -, h3, -⟩)
          · exact ⟨o', k', by omega, h2, h3⟩
          · omega
      have inner : ∀ (N' : Nat) (k : Nat) (m : MM), k ≤ 2 → 3 - k < N' → FrWb W mem m → WbOK m W → m W 0 ≤ 2 * o + k → Enum (cwq m W) (m W 0).toNat (PA o k) → Wx (Ex S (n + 3)) S M_17 (fun r m => r = none ∧ K m) 18 [some (.inr W), some (.inr 1), some (.inl q), some (.inl (o : Int)), some (.inl (k : Int)), none] [] m := by
        intro N'
        induction N' with
        | zero => intros; omega
        | succ N' ih2 =>
          intro k m hk hN' hF hO' hs hE
          have es := sz m hF
          have hcs := csN_le m o
          have ecs := (bd_fr (bF m hF) (q := q)).1
          refine w_17_18 (Ex.mono S (n + 3)) hW (f_13 ⟨by omega, by omega⟩ (fun _ => ⟨fun z2 => ⟨by unfold InI; omega, ih (o + 1) m (by omega) (by omega) hF hO' (by omega) (hE.cg rfl (fun _ _ => rfl) (fun x => ?_))⟩, fun z2 => ?_⟩))
          · rw [Int.toNat_natCast, ecs] at z2
            rw [ePA]
            constructor
            · rintro ⟨o', k', h1, h2, h3⟩
              exact ⟨o', k', by omega, h2, h3⟩
            · rintro ⟨o', k', h1, h2, h3⟩
              by_cases w : o' = o
              · subst w
                have := h3.1
                exact ⟨o', k', by omega, h2, h3⟩
              · exact ⟨o', k', by omega, h2, h3⟩
          rw [Int.toNat_natCast] at z2
          have hsr := (bB m hF).src (o := o) (k := k) (by omega) (by omega)
          have step : ∀ x, (PA o k x ∨ nsB mem q o k x) ↔ PA o (k + 1) x := fun x => by
            rw [ePA]
            constructor
            · rintro (⟨o', k', h1, h2, h3⟩ | h)
              · exact ⟨o', k', by omega, h2, h3⟩
              · exact ⟨o, k, by omega, by omega, h⟩
            · rintro ⟨o', k', h1, h2, h3⟩
              by_cases w : o' = o ∧ k' = k
              · obtain ⟨rfl, rfl⟩ := w
                exact Or.inr h3
              · exact Or.inl ⟨o', k', by omega, h2, h3⟩
          refine f_14 (by omega) (by omega) (fun _ => ⟨fun z3 => ⟨by unfold InI; omega, ih2 (k + 1) m (by omega) (by omega) hF hO' (by omega) (hE.cg rfl (fun _ _ => rfl) (fun x => Iff.trans ?_ (step x)))⟩, fun z3 => f_15 (by omega) (by omega) (fun _ => ?_)⟩)
          · constructor
            · exact Or.inl
            · rintro (h | h)
              · exact h
              · have := ((nsB_fr (bF m hF)).mpr h).2.1; omega
          unfold srcOK at hsr
          refine f_18e (bB m hF) ⟨by omega, by omega⟩ (fun u1 u2 _ => f_20e hW hO' (by omega) (by unfold Rg; omega) hE (fun m' k1 k2 k3 k4 => ⟨by unfold InI; omega, ih2 (k + 1) m' (by omega) (by omega) (hF.tr k1) k2 (by omega) (k4.cg rfl (fun _ _ => rfl) (fun x => Iff.trans ?_ (step x)))⟩))
          refine or_congr Iff.rfl (Iff.trans ?_ (nsB_fr (bF m hF)))
          exact ⟨fun e => ⟨by omega, by omega, e⟩, fun h => h.2.2⟩
      refine inner 4 0 m (by omega) (by omega) hF hO' (by omega) hE
  refine CW.of (k := 3) mt_17 rfl rfl (w_17_0 (Ex.mono S (n + 3)) hW (l7 _ 0 _ (Nat.lt_succ_self _) (by omega) (fun A i e1 e2 => upm_ne e2) ⟨fun j hj => ?_, by rw [upm_eq]; omega⟩ (by rw [upm_eq]; omega) ?_))
  · rw [upm_ne (by omega), upm_ne (by omega), upm_ne (by omega), upm_ne (by omega)]; exact hO j hj
  · rw [upm_eq, ePA]
    refine (Enum.nil (c := fun _ => (0, 0, 0, 0))).cg rfl (fun i hi => by omega) (fun x => ⟨fun h => h.elim, ?_⟩)
    rintro ⟨o', k', h1, -⟩
    omega
end CWV2
/-- a web that holds just the needs -/
def WbX (m : MM) : Prop := WbS m ∧ Enum (cwq m 9) (m 9 0).toNat (NdC m (-1))
theorem WbX.fr {m m' : MM} (h : WbX m) (e : ∀ A i, (A = 9 ∧ i = 0) ∨ (10 ≤ A ∧ A ≤ 13) ∨ (0 < A ∧ A < 9 ∧ ¬ A = 4) → m' A i = m A i) : WbX m' := by
  refine ⟨fun j hj => ?_, ?_⟩
  · rw [e 9 0 (by omega)] at hj
    rw [e 10 j (by omega), e 11 j (by omega), e 1 0 (by omega)]; exact h.1 j hj
  · rw [e 9 0 (by omega)]
    refine h.2.cg rfl (fun i _ => ?_) (fun x => (NdC.fr (fun A i a b c => e A i (by omega))).symm)
    unfold cwq
    rw [e (9 + 1) i (by omega), e (9 + 2) i (by omega), e (9 + 3) i (by omega), e (9 + 4) i (by omega)]
theorem NdC.lt {m : MM} {q : Int} {x : Q4} (hs : Snd m) (h : NdC m q x) : x.1 < m 1 0 ∧ x.2.1 < m 1 0 := by
  rcases h with ⟨o, k, h1, h2, h3, h4⟩ | ⟨s, o, h1, h2, h3, h4, h5, ⟨h6, h7, h8⟩ | ⟨h6, h7, h8⟩ | ⟨h6, h7, h8⟩⟩
  · subst h4; exact ⟨hs o k h1 h2, h1⟩
  · subst h8; exact ⟨h1, h2⟩
  · subst h8; exact ⟨h2, h1⟩
  · subst h8; exact ⟨h1, h2⟩
/-! the reference's needs, exactly -/
def rq (m : MM) (i : Nat) : Q4 := (m 154 i, m 155 i, m 156 i, m 157 i)
def set4r (m : MM) (k : Nat) (a b d l : Int) : MM := upm (upm (upm (upm m 154 k a) 155 k b) 156 k d) 157 k l
theorem set4r_q {m : MM} {k : Nat} {a b d l : Int} : rq (set4r m k a b d l) k = (a, b, d, l) := by
  unfold rq set4r
  rw [upm_ne (A := 157) (B := 154) (by omega), upm_ne (A := 156) (B := 154) (by omega), upm_ne (A := 155) (B := 154) (by omega), upm_eq, upm_ne (A := 157) (B := 155) (by omega), upm_ne (A := 156) (B := 155) (by omega), upm_eq, upm_ne (A := 157) (B := 156) (by omega), upm_eq, upm_eq]
theorem set4r_ne {m : MM} {k A i : Nat} {a b d l : Int} (h : ¬ (154 ≤ A ∧ A ≤ 157 ∧ i = k)) : set4r m k a b d l A i = m A i := by
  unfold set4r
  rw [upm_ne (by omega), upm_ne (by omega), upm_ne (by omega), upm_ne (by omega)]
theorem set4r_o {m : MM} {k i : Nat} {a b d l : Int} (h : ¬ i = k) : rq (set4r m k a b d l) i = rq m i := by
  unfold rq
  rw [set4r_ne (by omega), set4r_ne (by omega), set4r_ne (by omega), set4r_ne (by omega)]
theorem rq_12 {m : MM} {z : Int} {i : Nat} : rq (upm m 143 12 z) i = rq m i := by
  unfold rq
  rw [upm_ne (by omega), upm_ne (by omega), upm_ne (by omega), upm_ne (by omega)]
/-- the needs, by the reference's cells -/
def NdF (m : MM) (x : Q4) : Prop := (∃ o k : Nat, (o : Int) < m 143 1 ∧ (k : Int) < srcN m o ∧ 0 ≤ srcA m o k ∧ x = (srcA m o k, (o : Int), srcB m o k, latF m (srcA m o k).toNat)) ∨ ∃ s o : Nat, (s : Int) < m 143 1 ∧ (o : Int) < m 143 1 ∧ ¬ o = s ∧ NdR (m 144) (rowF m) (plcF m) (latF m) s o x
section RND
variable {S : Nat × (Nat → Int32)} {n : Nat} {mem : MM} {Pn : Int → Int → Int → Int → Prop} {P : Q4 → Prop} {a b d l : Int}
theorem f_248e {K : Int → MM → Prop} {k : Int} (h : 0 ≤ k ∧ k < 48) (H : ∀ r, (r = 0 ∨ r = 1) → (r = 1 ↔ lt4 (a, b, d, l) (rq mem k.toNat)) → K r mem) : CWI (Ex S (n + 1)) 248 [.inr 143, .inl k, .inl a, .inl b, .inl d, .inl l] mem K := by
  have H : ∀ r, (r = 0 ∨ r = 1) → (r = 1 ↔ (a < mem 154 k.toNat ∨ (a = mem 154 k.toNat ∧ (b < mem 155 k.toNat ∨ (b = mem 155 k.toNat ∧ (d < mem 156 k.toNat ∨ (d = mem 156 k.toNat ∧ l < mem 157 k.toNat))))))) → K r mem := fun r h1 h2 => H r h1 h2
  have h0 : ¬ (a < mem 154 k.toNat ∨ (a = mem 154 k.toNat ∧ (b < mem 155 k.toNat ∨ (b = mem 155 k.toNat ∧ (d < mem 156 k.toNat ∨ (d = mem 156 k.toNat ∧ l < mem 157 k.toNat)))))) → ∃ y, some (0 : Int) = some y ∧ K y mem := fun q => ⟨_, rfl, H _ (Or.inl rfl) ⟨fun z => by omega, fun z => absurd z q⟩⟩
  have h1 : (a < mem 154 k.toNat ∨ (a = mem 154 k.toNat ∧ (b < mem 155 k.toNat ∨ (b = mem 155 k.toNat ∧ (d < mem 156 k.toNat ∨ (d = mem 156 k.toNat ∧ l < mem 157 k.toNat)))))) → ∃ y, some (1 : Int) = some y ∧ K y mem := fun q => ⟨_, rfl, H _ (Or.inr rfl) ⟨fun _ => q, fun _ => rfl⟩⟩
  refine CW.of (k := 0) mt_248 rfl rfl (w_248_0 (Ex.mono S n) ⟨h, fun v1 e1 _ => ⟨fun q1 => ⟨h, fun v2 e2 _ => ⟨fun q2 => ⟨h, fun v3 e3 _ => ⟨fun q3 => ⟨h, fun v4 e4 _ => ⟨fun _ => h0 (by omega), fun _ => h1 (by omega)⟩⟩, fun q3 => ⟨h, fun v4 e4 _ => ⟨fun _ => h0 (by omega), fun _ => h1 (by omega)⟩⟩⟩⟩, fun q2 => ⟨h, fun v4 e4 _ => ⟨fun _ => h0 (by omega), fun _ => h1 (by omega)⟩⟩⟩⟩, fun q1 => ⟨h, fun v4 e4 _ => ⟨fun _ => h0 (by omega), fun _ => h1 (by omega)⟩⟩⟩⟩)
/-- the place is made -/
theorem cn_70e {m0 : MM} {c : Int} (hc : 0 ≤ c ∧ c < 48) (h12 : m0 143 12 = c) (hP : Pn a b d l) (hr : Rg a b d l) (hA0 : NdAll Pn m0 c) (hE : Enum (rq m0) c.toNat P) (hne : ∀ j : Nat, (j : Int) < c → ¬ rq m0 j = (a, b, d, l)) {Kk : WK} (H : ∀ m', FrN m0 m' → R4 m0 m' → m' 143 12 = c + 1 → NdAll Pn m' (c + 1) → Enum (rq m') (c + 1).toNat (fun x => P x ∨ x = (a, b, d, l)) → Kk none m') : ∀ (N : Nat) (k : Int) (mem : MM), 0 ≤ k → k ≤ c → k.toNat < N → FrN m0 mem → R4 m0 mem → mem 143 12 = c → (∀ j : Nat, (j : Int) < k → rq mem j = rq m0 j) → (∀ j : Nat, k < j → (j : Int) ≤ c → rq mem j = rq m0 (j - 1)) → (∀ j : Nat, k ≤ j → (j : Int) < c → lt4 (a, b, d, l) (rq m0 j)) → Wx (Ex S (n + 1)) S M_247 Kk 70 [some (.inr 143), some (.inl a), some (.inl b), some (.inl d), some (.inl l), some (.inl k)] [] mem := by
  intro N
  induction N with
  | zero => intros; omega
  | succ N ih =>
    intro k mem hk1 hk2 hN hF h4r hc2 cA cB hi
    have hk : 0 ≤ k ∧ k < 48 := by omega
    have pn : ∀ {m : MM} {i : Nat} {x : Q4}, rq m i = x → Pn x.1 x.2.1 x.2.2.1 x.2.2.2 → Pn (m 154 i) (m 155 i) (m 156 i) (m 157 i) := fun e h => by rw [← e] at h; exact h
    have rg : ∀ {m : MM} {i : Nat} {x : Q4}, rq m i = x → Rg x.1 x.2.1 x.2.2.1 x.2.2.2 → Rg (m 154 i) (m 155 i) (m 156 i) (m 157 i) := fun e h => by rw [← e] at h; exact h
    have fin : (∀ j : Nat, (j : Int) < k → lt4 (rq m0 j) (a, b, d, l)) → ∀ v1 : Int, v1 = (upm (upm (upm (upm mem 154 (Int.toNat k) a) 155 (Int.toNat k) b) 156 (Int.toNat k) d) 157 (Int.toNat k) l) 143 12 → InI v1 → (InI (v1 + 1)) ∧ (Kk none (upm (upm (upm (upm (upm mem 154 (Int.toNat k) a) 155 (Int.toNat k) b) 156 (Int.toNat k) d) 157 (Int.toNat k) l) 143 12 (v1 + 1))) := by
      intro lo v1 e _
      have e : v1 = c := by rw [e, upm_ne (by omega), upm_ne (by omega), upm_ne (by omega), upm_ne (by omega)]; exact hc2
      subst e
      have at_ : ∀ j : Nat, (j : Int) ≤ m0 143 12 → (j = k.toNat ∧ rq (upm (set4r mem k.toNat a b d l) 143 12 (v1 + 1)) j = (a, b, d, l)) ∨ ((j : Int) < k ∧ rq (upm (set4r mem k.toNat a b d l) 143 12 (v1 + 1)) j = rq m0 j) ∨ (k < j ∧ rq (upm (set4r mem k.toNat a b d l) 143 12 (v1 + 1)) j = rq m0 (j - 1)) := fun j hj => by
        rw [rq_12]
        by_cases w : j = k.toNat
        · subst w; exact Or.inl ⟨rfl, set4r_q⟩
        · rw [set4r_o w]
          by_cases w2 : (j : Int) < k
          · exact Or.inr (Or.inl ⟨w2, cA j w2⟩)
          · exact Or.inr (Or.inr ⟨by omega, cB j (by omega) (by omega)⟩)
      refine ⟨by unfold InI; omega, H (upm (set4r mem k.toNat a b d l) 143 12 (v1 + 1)) ?_ ?_ upm_eq ?_ ?_⟩
      · intro A i h1 h2 h3 h4 h5
        rw [upm_ne h5, set4r_ne (by omega)]
        exact hF A i h1 h2 h3 h4 h5
      · intro h0 j hj
        have := h4r h0 j hj
        rw [upm_ne (by omega), upm_ne (by omega), upm_ne (by omega), upm_ne (by omega)]
        by_cases hjk : j = k.toNat
        · subst hjk; exact rg set4r_q hr
        · rw [set4r_ne (by omega), set4r_ne (by omega), set4r_ne (by omega), set4r_ne (by omega)]; exact this
      · intro j hj
        rcases at_ j (by omega) with ⟨-, e⟩ | ⟨w, e⟩ | ⟨w, e⟩
        · exact pn e hP
        · exact pn e (hA0 j (by omega))
        · exact pn e (hA0 (j - 1) (by omega))
      · rw [show (v1 + 1).toNat = v1.toNat + 1 by omega]
        refine hE.ins (t := k.toNat) (by omega) (fun j hj => lo j (by omega)) (fun j w1 w2 => hi j (by omega) (by omega)) (fun j hj => ?_) ?_ (fun j w1 w2 => ?_)
        · rcases at_ j (by omega) with ⟨w, e⟩ | ⟨w, e⟩ | ⟨w, e⟩
          · omega
          · exact e
          · omega
        · rcases at_ k.toNat (by omega) with ⟨w, e⟩ | ⟨w, e⟩ | ⟨w, e⟩
          · exact e
          · omega
          · omega
        · rcases at_ (j + 1) (by omega) with ⟨w, e⟩ | ⟨w, e⟩ | ⟨w, e⟩
          · omega
          · omega
          · exact e
    refine w_247_70 (Ex.mono S (n + 1)) ⟨fun q => ⟨hk, hk, hk, hk, fin (fun j hj => by omega)⟩, fun q => ⟨by unfold InI; omega, f_248e ⟨by omega, by omega⟩ (fun r g0 g1 _ => ⟨fun z => ⟨hk, hk, hk, hk, fin (fun j hj => ?_)⟩, fun z => ?_⟩)⟩⟩
    · rw [cA (k - 1).toNat (by omega)] at g1
      have l1 : lt4 (rq m0 (k - 1).toNat) (a, b, d, l) := by
        rcases lt4.tri (a, b, d, l) (rq m0 (k - 1).toNat) with e | e | e
        · have := g1.mpr e; omega
        · exact absurd e.symm (hne _ (by omega))
        · exact e
      by_cases w : j = (k - 1).toNat
      · rw [w]; exact l1
      · exact (hE.1 j (k - 1).toNat (by omega) (by omega)).tr l1
    have hk3 : 0 ≤ k - 1 ∧ k - 1 < 48 := by omega
    have hI : InI (k - 1) := by unfold InI; omega
    refine ⟨hI, hk3, fun v5 e5 _ => ⟨hk, hI, hk3, fun v6 e6 _ => ⟨hk, hI, hk3, fun v7 e7 _ => ⟨hk, hI, hk3, fun v8 e8 _ => ⟨hk, by unfold InI; omega, ?_⟩⟩⟩⟩⟩
    rw [upm_ne (by omega)] at e6
    rw [upm_ne (by omega), upm_ne (by omega)] at e7
    rw [upm_ne (by omega), upm_ne (by omega), upm_ne (by omega)] at e8
    have ev : rq mem (k - 1).toNat = (v5, v6, v7, v8) := by rw [e5, e6, e7, e8]; rfl
    rw [show k + -1 = k - 1 by omega]
    have g2 : lt4 (a, b, d, l) (rq m0 (k - 1).toNat) := by
      rw [← cA (k - 1).toNat (by omega)]
      exact g1.mp (by omega)
    refine ih (k - 1) (set4r mem k.toNat v5 v6 v7 v8) (by omega) (by omega) (by omega) ?_ ?_ (by rw [set4r_ne (by omega)]; exact hc2) (fun j hj => ?_) (fun j w1 w2 => ?_) (fun j w1 w2 => ?_)
    · intro A i h1 h2 h3 h4 h5
      rw [set4r_ne (by omega)]
      exact hF A i h1 h2 h3 h4 h5
    · intro h0 j hj
      have := h4r h0 j hj
      by_cases hjk : j = k.toNat
      · subst hjk
        have g := h4r h0 (k - 1).toNat (by omega)
        rw [← e5, ← e6, ← e7, ← e8] at g
        exact rg set4r_q g
      · rw [set4r_ne (by omega), set4r_ne (by omega), set4r_ne (by omega), set4r_ne (by omega)]; exact this
    · rw [set4r_o (by omega)]; exact cA j (by omega)
    · by_cases w : j = k.toNat
      · subst w
        rw [set4r_q, ← ev, cA (k - 1).toNat (by omega)]
        congr 1
        omega
      · rw [set4r_o w]; exact cB j (by omega) w2
    · by_cases w : j = (k - 1).toNat
      · rw [w]; exact g2
      · exact hi j (by omega) w2
/-- one more need, or it was there -/
theorem f_247e {K : MM → Prop} (hc : 0 ≤ mem 143 12 ∧ mem 143 12 < 48) (hP : Pn a b d l) (hr : Rg a b d l) (hA : NdAll Pn mem (mem 143 12)) (hE : Enum (rq mem) (mem 143 12).toNat P) (H : ∀ m', FrN mem m' → R4 mem m' → mem 143 12 ≤ m' 143 12 → m' 143 12 ≤ mem 143 12 + 1 → NdAll Pn m' (m' 143 12) → Enum (rq m') (m' 143 12).toNat (fun x => P x ∨ x = (a, b, d, l)) → K m') : CWV (Ex S (n + 2)) 247 [.inr 143, .inl a, .inl b, .inl d, .inl l] mem K := by
  refine CW.of (k := 1) mt_247 rfl rfl (w_247_0 (Ex.mono S (n + 1)) ?_)
  have key : ∀ (N : Nat) (k : Int), 0 ≤ k → k ≤ mem 143 12 → (mem 143 12 - k).toNat < N → (∀ j : Nat, (j : Int) < k → ¬ rq mem j = (a, b, d, l)) → Wx (Ex S (n + 1)) S M_247 (fun r m => r = none ∧ K m) 3 [some (.inr 143), some (.inl a), some (.inl b), some (.inl d), some (.inl l), some (.inl k)] [] mem := by
    intro N
    induction N with
    | zero => intros; omega
    | succ N ih =>
      intro k hk1 hk2 hN hne
      refine w_247_3 (Ex.mono S (n + 1)) (fun v e _ => ⟨fun q v2 e2 _ => ?_, fun q => ?_⟩)
      · subst e2
        refine cn_70e hc rfl hP hr hA hE (fun j hj => hne j (by omega)) (m0 := mem) (fun m' h1 h4 h2 h3 h5 => ⟨rfl, H m' h1 h4 (by omega) (by omega) (by rw [h2]; exact h3) (by rw [h2]; exact h5)⟩) _ _ mem hc.1 (Int.le_refl _) (Nat.lt_succ_self _) FrN.rf R4.rf rfl (fun j _ => rfl) (fun j h1 h2 => by omega) (fun j h1 h2 => by omega)
      · have hk : 0 ≤ k ∧ k < 48 := by omega
        have nx : ¬ (mem 154 k.toNat = a ∧ mem 155 k.toNat = b ∧ mem 156 k.toNat = d ∧ mem 157 k.toNat = l) → InI (k + 1) ∧ Wx (Ex S (n + 1)) S M_247 (fun r m => r = none ∧ K m) 3 [some (.inr 143), some (.inl a), some (.inl b), some (.inl d), some (.inl l), some (.inl (k + 1))] [] mem := fun ne => ⟨by unfold InI; omega, ih (k + 1) (by omega) (by omega) (by omega) (fun j hj => by
          by_cases w : (j : Int) < k
          · exact hne j w
          · rw [show j = k.toNat by omega]
            unfold rq
            simp only [Prod.mk.injEq]
            exact ne)⟩
        refine ⟨hk, fun v3 e3 _ => ⟨fun _ => nx (by omega), fun q3 => ⟨hk, fun v4 e4 _ => ⟨fun _ => nx (by omega), fun q4 => ⟨hk, fun v5 e5 _ => ⟨fun _ => nx (by omega), fun q5 => ⟨hk, fun v6 e6 _ => ⟨fun _ => nx (by omega), fun q6 => ⟨rfl, H mem FrN.rf R4.rf (by omega) (by omega) hA (hE.cg rfl (fun _ _ => rfl) (fun x => ⟨Or.inl, fun w => w.elim id (fun e => ?_)⟩))⟩⟩⟩⟩⟩⟩⟩⟩⟩
        have : rq mem k.toNat = (a, b, d, l) := by
          unfold rq
          simp only [Prod.mk.injEq]
          omega
        rw [e, ← this]
        exact hE.2.1 k.toNat (by omega)
  exact key _ 0 (by omega) hc.1 (Nat.lt_succ_self _) (fun j hj => by omega)
end RND
/-! the reference lays its needs, exactly -/
section RLY
variable {S : Nat × (Nat → Int32)} {n : Nat} {m0 : MM}
def nsF (m : MM) (o k : Nat) (x : Q4) : Prop := (k : Int) < srcN m o ∧ 0 ≤ srcA m o k ∧ x = (srcA m o k, (o : Int), srcB m o k, latF m (srcA m o k).toNat)
def nrF (m : MM) (s o : Nat) (x : Q4) : Prop := NdR (m 144) (rowF m) (plcF m) (latF m) s o x
def PBf (m : MM) (s o : Nat) (x : Q4) : Prop := (∃ o k : Nat, (o : Int) < m 143 1 ∧ nsF m o k x) ∨ ∃ s' o' : Nat, (s' : Int) < m 143 1 ∧ (o' : Int) < m 143 1 ∧ ¬ o' = s' ∧ (s' < s ∨ (s' = s ∧ o' < o)) ∧ nrF m s' o' x
def PAf (m : MM) (o : Nat) (k : Int) (x : Q4) : Prop := ∃ o' k' : Nat, (o' < o ∨ (o' = o ∧ (k' : Int) < k)) ∧ (o' : Int) < m 143 1 ∧ nsF m o' k' x
theorem ln_86e (hO : OpsOK m0) {Kk : WK} (H : ∀ m', FrN m0 m' → R4 m0 m' → 0 ≤ m' 143 12 → m' 143 12 ≤ 44 → NdAll (PN (m0 143 1)) m' (m' 143 12) → Enum (rq m') (m' 143 12).toNat (NdF m0) → Kk none m') : ∀ (N : Nat) (s o : Nat) (mem : MM), (s : Int) < m0 143 1 → (o : Int) ≤ m0 143 1 → (9 * (m0 143 1 - s) + (9 - o)).toNat < N → FrN m0 mem → R4 m0 mem → 0 ≤ mem 143 12 → mem 143 12 ≤ 16 + smN (fun s => smN (cNd m0 s) (m0 143 1).toNat) s + smN (cNd m0 s) o → NdAll (PN (m0 143 1)) mem (mem 143 12) → Enum (rq mem) (mem 143 12).toNat (PBf m0 s o) → Wx (Ex S (n + 2)) S M_245 Kk 86 [some (.inr 143), some (.inl (s : Int)), some (.inl (o : Int)), none, none, none] [] mem := by
  intro N
  induction N with
  | zero => intros; omega
  | succ N ih =>
    intro s o mem hs ho hN hF hR4 hn0 hn1 hA hE
    have hO2 := hF.ops hO
    have h8 := hO.1
    have eops : mem 143 1 = m0 143 1 := hF _ _ (by omega) (by omega) (by omega) (by omega) (by omega)
    have e144 : ∀ i, mem 144 i = m0 144 i := fun i => hF _ _ (by omega) (by omega) (by omega) (by omega) (by omega)
    have e145 : ∀ i, mem 145 i = m0 145 i := fun i => hF _ _ (by omega) (by omega) (by omega) (by omega) (by omega)
    have e146 : ∀ i, mem 146 i = m0 146 i := fun i => hF _ _ (by omega) (by omega) (by omega) (by omega) (by omega)
    have e147 : ∀ i, mem 147 i = m0 147 i := fun i => hF _ _ (by omega) (by omega) (by omega) (by omega) (by omega)
    have e148 : ∀ i, mem 148 i = m0 148 i := fun i => hF _ _ (by omega) (by omega) (by omega) (by omega) (by omega)
    have epl : ∀ i, plcF mem i = plcF m0 i := fun i => by unfold plcF; rw [e144, e146, e148]
    have ero : ∀ i, rowF mem i = rowF m0 i := fun i => by unfold rowF; rw [e144, e145, e147]
    have elat : ∀ i, latF mem i = latF m0 i := fun i => by
      unfold latF
      rw [e144]
      exact hF _ _ (by omega) (by omega) (by omega) (by omega) (by omega)
    have hs8 : 0 ≤ (s : Int) ∧ (s : Int) < 8 := by omega
    -- the next of s
    have outer : (∀ o' : Nat, o ≤ o' → (o' : Int) < m0 143 1 → ∀ x, ¬ nrF m0 s o' x) → Wx (Ex S (n + 2)) S M_245 Kk 76 [some (.inr 143), some (.inl ((s : Int) + 1)), none, none, none, none] [] mem := by
      intro hno
      have hle : smN (cNd m0 s) o ≤ smN (cNd m0 s) (m0 143 1).toNat := smN_up (by omega)
      have hn2 : mem 143 12 ≤ 16 + smN (fun s => smN (cNd m0 s) (m0 143 1).toNat) (s + 1) := by simp only [smN]; omega
      have eP : ∀ x, PBf m0 s o x ↔ PBf m0 (s + 1) 0 x := fun x => by
        refine or_congr Iff.rfl ⟨?_, ?_⟩
        · rintro ⟨s', o', h1, h2, h3, h4, h5⟩
          exact ⟨s', o', h1, h2, h3, by omega, h5⟩
        · rintro ⟨s', o', h1, h2, h3, h4, h5⟩
          by_cases w : s' = s ∧ o ≤ o'
          · obtain ⟨rfl, w⟩ := w
            exact absurd h5 (hno o' w h2 x)
          · exact ⟨s', o', h1, h2, h3, by omega, h5⟩
      refine w_245_76 (Ex.mono S (n + 2)) (fun v e _ => ⟨fun q => H mem hF hR4 hn0 ?_ hA (hE.cg rfl (fun _ _ => rfl) (fun x => (eP x).trans (or_congr ⟨?_, ?_⟩ ⟨?_, ?_⟩))), fun q => ?_⟩)
      · have := pairs28 (cNd_self m0) (cNd_anti m0) (m0 143 1).toNat (by omega)
        rw [show s + 1 = (m0 143 1).toNat by omega] at hn2
        omega
      · exact fun ⟨a, b, c, d⟩ => ⟨a, b, c, d⟩
      · exact fun ⟨a, b, c, d⟩ => ⟨a, b, c, d⟩
      · exact fun ⟨s', o', h1, h2, h3, _, h5⟩ => ⟨s', o', h1, h2, h3, h5⟩
      · exact fun ⟨s', o', h1, h2, h3, h5⟩ => ⟨s', o', h1, h2, h3, by omega, h5⟩
      · exact ih (s + 1) 0 mem (by omega) (by omega) (by omega) hF hR4 hn0 (by simp only [smN] at hn2 ⊢; omega) hA (hE.cg rfl (fun _ _ => rfl) eP)
    -- the next of o
    have inner : ∀ m', FrN mem m' → R4 mem m' → 0 ≤ m' 143 12 → m' 143 12 ≤ mem 143 12 + cNd m0 s o → NdAll (PN (m0 143 1)) m' (m' 143 12) → (o : Int) < m0 143 1 → Enum (rq m') (m' 143 12).toNat (PBf m0 s (o + 1)) → InI ((o : Int) + 1) ∧ Wx (Ex S (n + 2)) S M_245 Kk 86 [some (.inr 143), some (.inl (s : Int)), some (.inl ((o : Int) + 1)), none, none, none] [] m' := fun m' h1 hr h2 h3 h4 h5 h6 => by
      refine ⟨by unfold InI; omega, ih s (o + 1) m' hs (by omega) (by omega) (hF.tr h1) (hR4.tr hr) h2 ?_ h4 h6⟩
      simp only [smN]; omega
    have stp : (o : Int) < m0 143 1 → ¬ o = s → ∀ x, (PBf m0 s o x ∨ nrF m0 s o x) ↔ PBf m0 s (o + 1) x := fun ho hos x => by
      constructor
      · rintro ((h | ⟨s', o', h1, h2, h3, h4, h5⟩) | h)
        · exact Or.inl h
        · exact Or.inr ⟨s', o', h1, h2, h3, by omega, h5⟩
        · exact Or.inr ⟨s, o, hs, ho, hos, by omega, h⟩
      · rintro (h | ⟨s', o', h1, h2, h3, h4, h5⟩)
        · exact Or.inl (Or.inl h)
        · by_cases w : s' = s ∧ o' = o
          · obtain ⟨rfl, rfl⟩ := w
            exact Or.inr h5
          · exact Or.inl (Or.inr ⟨s', o', h1, h2, h3, by omega, h5⟩)
    refine w_245_86 (Ex.mono S (n + 2)) (fun v e _ => ⟨fun q => ⟨by unfold InI; omega, outer (fun o' h1 h2 => by omega)⟩, fun q => ⟨hs8, fun v2 e2 _ => ⟨fun q2 => ⟨by unfold InI; omega, outer (fun o' _ _ x hx => ?_)⟩, fun q2 => ?_⟩⟩⟩)
    · have := hx.1
      have := e144 s
      simp only [Int.toNat_natCast] at e2
      omega
    have ho2 : (o : Int) < m0 143 1 := by omega
    have ho8 : 0 ≤ (o : Int) ∧ (o : Int) < 8 := by omega
    have same : (¬ o = s → ∀ x, ¬ nrF m0 s o x) → _ := fun hn => inner mem FrN.rf R4.rf hn0 (by omega) hA ho2 (hE.cg rfl (fun _ _ => rfl) (fun x => by
      by_cases w : o = s
      · refine or_congr Iff.rfl ⟨?_, ?_⟩
        · rintro ⟨s', o', h1, h2, h3, h4, h5⟩
          exact ⟨s', o', h1, h2, h3, by omega, h5⟩
        · rintro ⟨s', o', h1, h2, h3, h4, h5⟩
          exact ⟨s', o', h1, h2, h3, by omega, h5⟩
      · exact Iff.trans ⟨Or.inl, fun h => h.elim id (fun h => absurd h (hn w x))⟩ (stp ho2 w x)))
    refine ⟨fun q3 => same (fun w => absurd (by omega) w), fun q3 => ?_⟩
    have ks : m0 144 s = 5 := by
      have := e144 s
      simp only [Int.toNat_natCast] at e2
      omega
    have nso : ¬ o = s := by omega
    have nk : ¬ mem 144 o = 4 → ¬ mem 144 o = 5 → ∀ x, ¬ nrF m0 s o x := fun w1 w2 x hx => by
      have kE := e144 o
      obtain ⟨h1, h2, ⟨h3, h4, h5⟩ | ⟨h3, h4, h5⟩ | ⟨h3, h4, h5⟩⟩ := hx <;> omega
    refine f_249 ho8 (fun q4 _ => ⟨fun q5 => by omega, fun _ => ?_⟩) (fun w1 w2 _ => ⟨fun _ => same (fun _ => nk (by simpa only [Int.toNat_natCast] using w1) (by simpa only [Int.toNat_natCast] using w2)), fun q5 => absurd rfl q5⟩)
    refine f_250 ho8 (fun _ => f_250 hs8 (fun _ => ⟨fun q5 => ?_, fun q5 => same (fun _ x hx => q5 (by
      simp only [Int.toNat_natCast]
      rw [ero, ero]
      exact hx.2.1))⟩))
    refine f_251 hs8 (fun _ => f_251 ho8 (fun _ => ?_))
    simp only [Int.toNat_natCast] at q4 q5 ⊢
    rw [ero, ero] at q5
    have hps : 0 ≤ plcF mem s ∧ plcF mem s ≤ 7 := by
      obtain ⟨-, -, -, h4, h5⟩ := hO2.2.1 s (by omega)
      have := h5 (by rw [e144]; exact ks)
      unfold plcF; rw [if_neg (by rw [e144]; omega)]; omega
    have hpo : 0 ≤ plcF mem o ∧ plcF mem o ≤ 7 := by
      obtain ⟨-, -, -, h4, h5⟩ := hO2.2.1 o (by omega)
      unfold plcF
      split
      · have := h4 (by assumption); omega
      · have := h5 (by omega); omega
    have hls := hO2.lat (o := s) (by omega)
    have c48 : mem 143 12 < 48 := by
      have h1 := pairs28 (cNd_self m0) (cNd_anti m0) (m0 143 1).toNat (by omega)
      have h2 : smN (cNd m0 s) o ≤ smN (cNd m0 s) (m0 143 1).toNat := smN_up (by omega)
      have h3 : smN (fun s => smN (cNd m0 s) (m0 143 1).toNat) (s + 1) ≤ smN (fun s => smN (cNd m0 s) (m0 143 1).toNat) (m0 143 1).toNat := smN_up (by omega)
      simp only [smN] at h3
      omega
    -- a need comes
    have put : ∀ a b d l : Int, PN (m0 143 1) a b d l → cNd m0 s o = 1 → (∀ x, x = (a, b, d, l) ↔ nrF m0 s o x) → CWV (Ex S (n + 2)) 247 [.inr 143, .inl a, .inl b, .inl d, .inl l] mem fun m' => InI ((o : Int) + 1) ∧ Wx (Ex S (n + 2)) S M_245 Kk 86 [some (.inr 143), some (.inl (s : Int)), some (.inl ((o : Int) + 1)), none, none, none] [] m' := fun a b d l hp hc hx =>
      f_247e (Pn := PN (m0 143 1)) ⟨hn0, c48⟩ hp (by unfold PN at hp; unfold Rg; omega) hA hE (fun m' h1 hr h2 h3 h4 h5 => inner m' h1 hr (by omega) (by omega) h4 ho2 (h5.cg rfl (fun _ _ => rfl) (fun x => (or_congr Iff.rfl (hx x)).trans (stp ho2 nso x))))
    have bk : ∀ y : Q4, nrF m0 s o y → (∀ x, nrF m0 s o x → x = y) → ∀ x, x = y ↔ nrF m0 s o x := fun y h1 h2 x => ⟨fun e => by rw [e]; exact h1, h2 x⟩
    have sub7 : ∀ x y : Int, 0 ≤ x ∧ x ≤ 7 → 0 ≤ y ∧ y ≤ 7 → InI (x - y) := fun x y h1 h2 => by unfold InI; omega
    have at170 : ∀ ah : Int, (ah = 1 ∧ (plcF m0 o < plcF m0 s ∨ (plcF m0 s = plcF m0 o ∧ s < o))) ∨ (ah = 0 ∧ ¬ (plcF m0 o < plcF m0 s ∨ (plcF m0 s = plcF m0 o ∧ s < o))) → Wx (Ex S (n + 2)) S M_245 Kk 170 [some (.inr 143), some (.inl (s : Int)), some (.inl (o : Int)), some (.inl (plcF mem s)), some (.inl (plcF mem o)), some (.inl ah)] [] mem := by
      intro ah hah
      have kE := e144 o
      have pE := epl o
      have pS := epl s
      have c4 : m0 144 o = 4 → cNd m0 s o = 1 := fun h => by unfold cNd; rw [if_pos ⟨ks, nso, Or.inl h⟩]
      have c5 : m0 144 o = 5 → ah = 1 → cNd m0 s o = 1 := fun h h2 => by unfold cNd; rw [if_pos ⟨ks, nso, Or.inr ⟨h, by omega⟩⟩]
      refine w_245_170 (Ex.mono S (n + 2)) ⟨ho8, fun v1 g1 _ => ⟨fun z1 => ⟨ho8, fun v2 g2 _ => ⟨fun z2 => ⟨fun z3 => same (fun _ x hx => ?_), fun z3 => ⟨sub7 _ _ hps hpo, put _ _ _ _ ?_ ?_ ?_⟩⟩, fun z2 => ?_⟩⟩, fun z1 => ⟨fun z2 => ⟨ho8, fun v2 g2 _ => ⟨fun z3 => ?_, fun z3 => ⟨sub7 _ _ hpo hps, f_246 hO2 hs8 (fun _ => ⟨?_, put _ _ _ _ ?_ ?_ ?_⟩)⟩⟩⟩, fun z2 => ⟨sub7 _ _ hps hpo, f_246 hO2 hs8 (fun _ => put _ _ _ _ ?_ ?_ ?_)⟩⟩⟩⟩
      · simp only [Int.toNat_natCast] at g1 g2
        obtain ⟨h1, h2, ⟨h3, h4, h5⟩ | ⟨h3, h4, h5⟩ | ⟨h3, h4, h5⟩⟩ := hx <;> omega
      · simp only [Int.toNat_natCast] at g1 g2; unfold PN; omega
      · simp only [Int.toNat_natCast] at g1 g2; exact c5 (by omega) (by omega)
      · simp only [Int.toNat_natCast] at g1 g2
        rw [pE, pS]
        refine bk _ ⟨ks, q5, Or.inr (Or.inr ⟨by omega, by omega, rfl⟩)⟩ (fun x => ?_)
        rintro ⟨h1, h2, ⟨h3, h4, h5⟩ | ⟨h3, h4, h5⟩ | ⟨h3, h4, h5⟩⟩ <;> first | exact h5 | (exfalso; omega)
      · exfalso; omega
      · exfalso; omega
      · simp only [Int.toNat_natCast]; unfold InI; omega
      · simp only [Int.toNat_natCast] at g1 g2 ⊢; unfold PN; omega
      · simp only [Int.toNat_natCast] at g1 g2; exact c4 (by omega)
      · simp only [Int.toNat_natCast] at g1 g2 ⊢
        rw [pE, pS, elat]
        refine bk _ ⟨ks, q5, Or.inr (Or.inl ⟨by omega, by omega, rfl⟩)⟩ (fun x => ?_)
        rintro ⟨h1, h2, ⟨h3, h4, h5⟩ | ⟨h3, h4, h5⟩ | ⟨h3, h4, h5⟩⟩ <;> first | exact h5 | (exfalso; omega)
      · simp only [Int.toNat_natCast] at g1 ⊢; unfold PN; omega
      · simp only [Int.toNat_natCast] at g1; exact c4 (by omega)
      · simp only [Int.toNat_natCast] at g1 ⊢
        rw [pE, pS, elat]
        refine bk _ ⟨ks, q5, Or.inl ⟨by omega, by omega, rfl⟩⟩ (fun x => ?_)
        rintro ⟨h1, h2, ⟨h3, h4, h5⟩ | ⟨h3, h4, h5⟩ | ⟨h3, h4, h5⟩⟩ <;> first | exact h5 | (exfalso; omega)
    have pE := epl o
    have pS := epl s
    exact w_245_146 (Ex.mono S (n + 2)) ⟨fun z => at170 1 (Or.inl ⟨rfl, by omega⟩), fun z => ⟨fun z2 => at170 0 (Or.inr ⟨rfl, by omega⟩), fun z2 => ⟨fun z3 => at170 0 (Or.inr ⟨rfl, by omega⟩), fun z3 => at170 1 (Or.inl ⟨rfl, by omega⟩)⟩⟩⟩
theorem ln_17e (hO : OpsOK m0) (hS : SoundM m0) {Kk : WK} (H : ∀ m', FrN m0 m' → R4 m0 m' → 0 ≤ m' 143 12 → m' 143 12 ≤ 44 → NdAll (PN (m0 143 1)) m' (m' 143 12) → Enum (rq m') (m' 143 12).toNat (NdF m0) → Kk none m') : ∀ (N : Nat) (o : Nat) (k : Int) (mem : MM), (o : Int) < m0 143 1 → 0 ≤ k → k ≤ 2 → (3 * (m0 143 1 - o) + (3 - k)).toNat < N → FrN m0 mem → R4 m0 mem → 0 ≤ mem 143 12 → mem 143 12 ≤ 2 * o + k → NdAll (PN (m0 143 1)) mem (mem 143 12) → Enum (rq mem) (mem 143 12).toNat (PAf m0 o k) → Wx (Ex S (n + 2)) S M_245 Kk 17 [some (.inr 143), some (.inl (o : Int)), some (.inl k), none, none, none] [] mem := by
  intro N
  induction N with
  | zero => intros; omega
  | succ N ih =>
    intro o k mem ho hk1 hk2 hN hF hR4 hn0 hn1 hA hE
    have hO2 := hF.ops hO
    have h8 := hO.1
    have eops : mem 143 1 = m0 143 1 := hF _ _ (by omega) (by omega) (by omega) (by omega) (by omega)
    have e : ∀ A i, (A = 144 ∨ A = 145 ∨ A = 146 ∨ A = 147 ∨ A = 148 ∨ A = 151) → mem A i = m0 A i := fun A i q => hF A i (by omega) (by omega) (by omega) (by omega) (by omega)
    have esN : srcN mem o = srcN m0 o := by unfold srcN; rw [e 144 _ (by omega)]
    have esA : srcA mem o k = srcA m0 o k := by unfold srcA; rw [e 145 _ (by omega), e 147 _ (by omega)]
    have esB : srcB mem o k = srcB m0 o k := by unfold srcB; rw [e 146 _ (by omega), e 148 _ (by omega)]
    have elat : ∀ i, latF mem i = latF m0 i := fun i => by unfold latF; rw [e 144 _ (by omega), e 151 _ (by omega)]
    have ho8 : 0 ≤ (o : Int) ∧ (o : Int) < 8 := by omega
    refine w_245_17 (Ex.mono S (n + 2)) (f_241 ho8 (fun _ => ⟨fun q => ⟨by unfold InI; omega, ?_⟩, fun q => ?_⟩))
    · have q : srcN m0 o ≤ k := by rw [← esN]; simpa only [Int.toNat_natCast] using q
      have eP : ∀ x, PAf m0 o k x ↔ PAf m0 (o + 1) 0 x := fun x => by
        constructor
        · rintro ⟨o', k', h1, h2, h3⟩
          exact ⟨o', k', by omega, h2, h3⟩
        · rintro ⟨o', k', h1, h2, h3⟩
          have := h3.1
          by_cases w : o' = o
          · subst w; exact ⟨o', k', by omega, h2, h3⟩
          · exact ⟨o', k', by omega, h2, h3⟩
      refine w_245_7 (Ex.mono S (n + 2)) (fun v ev _ => ⟨fun q2 => ?_, fun q2 => ?_⟩)
      · have eQ : ∀ x, PAf m0 o k x ↔ PBf m0 0 0 x := fun x => (eP x).trans (by
          constructor
          · rintro ⟨o', k', h1, h2, h3⟩
            exact Or.inl ⟨o', k', h2, h3⟩
          · rintro (⟨o', k', h2, h3⟩ | ⟨s', o', -, -, -, h4, -⟩)
            · exact ⟨o', k', by omega, h2, h3⟩
            · omega)
        refine w_245_76 (Ex.mono S (n + 2)) (fun v ev _ => ⟨fun q3 => ?_, fun q3 => ?_⟩)
        · omega
        · exact ln_86e hO H _ 0 0 mem (by omega) (by omega) (Nat.lt_succ_self _) hF hR4 hn0 (by simp only [smN]; omega) hA (hE.cg rfl (fun _ _ => rfl) eQ)
      · exact ih (o + 1) 0 mem (by omega) (by omega) (by omega) (by omega) hF hR4 hn0 (by omega) hA (hE.cg rfl (fun _ _ => rfl) eP)
    · simp only [Int.toNat_natCast] at q
      have hs := hO2.src (o := o) (by omega) hk1 (by omega)
      have hS2 := hS o ho k hk1 (by omega)
      have hnn : srcN mem o ≤ 2 := by unfold srcN; split <;> (try split) <;> omega
      have ek : ((k.toNat : Nat) : Int) = k := by omega
      have stp : ∀ x, (PAf m0 o k x ∨ nsF m0 o k.toNat x) ↔ PAf m0 o (k + 1) x := fun x => by
        constructor
        · rintro (⟨o', k', h1, h2, h3⟩ | h)
          · exact ⟨o', k', by omega, h2, h3⟩
          · exact ⟨o, k.toNat, by omega, ho, h⟩
        · rintro ⟨o', k', h1, h2, h3⟩
          by_cases w : o' = o ∧ k' = k.toNat
          · obtain ⟨rfl, rfl⟩ := w
            exact Or.inr h3
          · exact Or.inl ⟨o', k', by omega, h2, h3⟩
      have nx : ∀ m', FrN mem m' → R4 mem m' → 0 ≤ m' 143 12 → m' 143 12 ≤ mem 143 12 + 1 → NdAll (PN (m0 143 1)) m' (m' 143 12) → Enum (rq m') (m' 143 12).toNat (PAf m0 o (k + 1)) → InI (k + 1) ∧ Wx (Ex S (n + 2)) S M_245 Kk 17 [some (.inr 143), some (.inl (o : Int)), some (.inl (k + 1)), none, none, none] [] m' := fun m' h1 hr h2 h3 h4 h5 => ⟨by unfold InI; omega, ih o (k + 1) m' ho (by omega) (by omega) (by omega) (hF.tr h1) (hR4.tr hr) h2 (by omega) h4 h5⟩
      refine f_242 ho8 (fun _ => ⟨fun q2 => nx mem FrN.rf R4.rf hn0 (by omega) hA (hE.cg rfl (fun _ _ => rfl) (fun x => Iff.trans ⟨Or.inl, fun h => h.elim id (fun h => ?_)⟩ (stp x))), fun q2 => ?_⟩)
      · have := h.2.1
        rw [ek, ← esA] at this
        simp only [Int.toNat_natCast] at q2
        omega
      simp only [Int.toNat_natCast] at q2
      have hA7 : 0 ≤ srcA mem o k ∧ srcA mem o k < 8 := by unfold srcOK at hs; omega
      have hl := hO2.lat (o := (srcA mem o k).toNat) (by omega)
      refine f_242 ho8 (fun _ => f_243 ho8 (fun _ => f_242 ho8 (fun _ => f_246 hO2 (by simpa only [Int.toNat_natCast] using hA7) (fun _ => ?_))))
      simp only [Int.toNat_natCast]
      have hpn : PN (m0 143 1) (srcA mem o k) (o : Int) (srcB mem o k) (latF mem (srcA mem o k).toNat) := by
        unfold SrcS at hS2
        unfold srcOK at hs
        unfold PN
        omega
      refine f_247e (Pn := PN (m0 143 1)) ⟨hn0, by omega⟩ hpn (by unfold PN at hpn; unfold Rg; omega) hA hE (fun m' h1 hr h2 h3 h4 h5 => nx m' h1 hr (by omega) (by omega) h4 (h5.cg rfl (fun _ _ => rfl) (fun x => (or_congr Iff.rfl ?_).trans (stp x))))
      unfold nsF
      rw [ek, ← esN, ← esA, ← esB, ← elat]
      exact ⟨fun e => ⟨by omega, by omega, e⟩, fun h => h.2.2⟩
theorem f_245e {K : MM → Prop} (hO : OpsOK m0) (hS : SoundM m0) (H : ∀ m', FrN m0 m' → R4 m0 m' → 0 ≤ m' 143 12 → m' 143 12 ≤ 44 → NdAll (PN (m0 143 1)) m' (m' 143 12) → Enum (rq m') (m' 143 12).toNat (NdF m0) → K m') : CWV (Ex S (n + 3)) 245 [.inr 143] m0 K := by
  have hF : FrN m0 (upm m0 143 12 0) := fun A i _ _ _ _ h => upm_ne h
  have hR : R4 m0 (upm m0 143 12 0) := R4.same (fun A i e => upm_ne (by omega))
  refine CW.of (k := 5) mt_245 rfl rfl (w_245_0 (Ex.mono S (n + 2)) (w_245_7 (Ex.mono S (n + 2)) (fun v e _ => ⟨fun q => ?_, fun q => ?_⟩)))
  · have e : v = m0 143 1 := by rw [e]; simp [upm]
    refine w_245_76 (Ex.mono S (n + 2)) (fun v2 e2 _ => ⟨fun q3 => ⟨rfl, H _ hF hR (by simp [upm]) (by simp [upm]) ?_ ?_⟩, fun q3 => ?_⟩)
    · intro j hj; simp [upm] at hj; omega
    · rw [upm_eq]
      refine (Enum.nil (c := fun _ => (0, 0, 0, 0))).cg rfl (fun i hi => by omega) (fun x => ⟨fun h => h.elim, ?_⟩)
      rintro (⟨o, k, h1, -⟩ | ⟨s, o, h1, -⟩) <;> omega
    · have e2 : v2 = m0 143 1 := by rw [e2]; simp [upm]
      omega
  · have e : v = m0 143 1 := by rw [e]; simp [upm]
    refine ln_17e hO hS (fun m' h1 hr h2 h3 h4 h5 => ⟨rfl, H m' h1 hr h2 h3 h4 h5⟩) _ 0 0 _ (by omega) (by omega) (by omega) (Nat.lt_succ_self _) hF hR (by simp [upm]) (by simp [upm]) (by intro j hj; simp [upm] at hj; omega) ?_
    rw [upm_eq]
    refine (Enum.nil (c := fun _ => (0, 0, 0, 0))).cg rfl (fun i hi => by omega) (fun x => ⟨fun h => h.elim, ?_⟩)
    rintro ⟨o', k', h1, -⟩
    omega
end RLY
