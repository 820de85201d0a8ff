section
/-! the seeker of slots: what it keeps -/
theorem Frm.cp {P : Nat → Nat → Prop} {m m1 m2 : MM} {A1 : Nat} (h : Frm P m m1) (ha : ∀ A i, ¬ A = A1 → m2 A i = m1 A i) (q : ∀ i, P A1 i) : Frm P m m2 := fun A i e => (ha A i (fun w => e (by rw [w]; exact q i))).trans (h A i e)
def pSk (A i : Nat) : Prop := (A = 21 ∧ 2 ≤ i) ∨ A = 22 ∨ A = 23 ∨ (28 ≤ A ∧ A ≤ 36)
def FrS (m m' : MM) : Prop := Frm pSk m m' ∧ ∀ o, m' 22 o = m 22 o ∨ (0 ≤ m' 22 o ∧ m' 22 o ≤ 11)
theorem FrS.rf {m : MM} : FrS m m := ⟨Frm.rf, fun _ => Or.inl rfl⟩
theorem FrS.tr {a b c : MM} (h1 : FrS a b) (h2 : FrS b c) : FrS a c := ⟨h1.1.tr h2.1, fun o => by
  have := h1.2 o
  have := h2.2 o
  omega⟩
theorem FrS.up {m m1 : MM} {A i : Nat} {x : Int} (h : FrS m m1) (q : pSk A i) (w : A = 22 → 0 ≤ x ∧ x ≤ 11) : FrS m (upm m1 A i x) := ⟨h.1.up q, fun o => by
  by_cases e : 22 = A ∧ o = i
  · rw [e.1, e.2, upm_eq]; exact Or.inr (w e.1.symm)
  · rw [upm_ne e]; exact h.2 o⟩
theorem FrS.cp {m m1 m2 : MM} {A1 : Nat} (h : FrS m m1) (ha : ∀ A i, ¬ A = A1 → m2 A i = m1 A i) (q : ∀ i, pSk A1 i) (w : ¬ 22 = A1) : FrS m m2 := ⟨h.1.cp ha q, fun o => by rw [ha 22 o w]; exact h.2 o⟩
theorem FrS.at {m m' : MM} (h : FrS m m') (A i : Nat) (q : ¬ pSk A i) : m' A i = m A i := h.1 A i q
def SkO (m : MM) (d : Int) : Prop := (0 ≤ m 21 0 ∧ m 21 0 ≤ 8) ∧ (m 21 1 = d ∧ 1 ≤ d ∧ d ≤ 12) ∧ (∀ o, o < 8 → 0 ≤ m 24 o ∧ m 24 o ≤ 2) ∧ (∀ u, u < 3 → 1 ≤ m 25 u ∧ m 25 u ≤ 3) ∧ ∀ o r : Nat, (o : Int) < m 21 0 → r < 4 → 0 ≤ m 27 (4 * o + r) ∧ m 27 (4 * o + r) ≤ m 25 (m 24 o).toNat
end
section
/-! laid by wip/hand/tg.py: the seeker: sk -/
set_option maxRecDepth 100000 in
theorem mt_89 : MT[89]? = some M_89 := rfl
set_option maxRecDepth 100000 in
theorem mt_90 : MT[90]? = some M_90 := rfl
set_option maxRecDepth 100000 in
theorem mt_91 : MT[91]? = some M_91 := rfl
set_option maxRecDepth 100000 in
theorem mt_92 : MT[92]? = some M_92 := rfl
set_option maxRecDepth 100000 in
theorem mt_93 : MT[93]? = some M_93 := rfl
set_option maxRecDepth 100000 in
theorem mt_95 : MT[95]? = some M_95 := rfl
set_option maxRecDepth 100000 in
theorem mt_97 : MT[97]? = some M_97 := rfl
set_option maxRecDepth 100000 in
theorem mt_98 : MT[98]? = some M_98 := rfl
set_option maxRecDepth 100000 in
theorem mt_99 : MT[99]? = some M_99 := rfl
set_option maxRecDepth 100000 in
theorem mt_100 : MT[100]? = some M_100 := rfl
set_option maxRecDepth 100000 in
theorem mt_101 : MT[101]? = some M_101 := rfl
set_option maxRecDepth 100000 in
theorem mt_102 : MT[102]? = some M_102 := rfl
set_option maxRecDepth 100000 in
theorem mt_104 : MT[104]? = some M_104 := rfl
set_option maxRecDepth 100000 in
theorem mt_105 : MT[105]? = some M_105 := rfl
theorem te_89_0 : (pT M_89).find? (fun e => e.1 == 0) = some (0, .iconst 0, 0, 0) := rfl
theorem te_89_1 : (pT M_89).find? (fun e => e.1 == 1) = some (1, .istore_n 1, 0, 0) := rfl
theorem te_89_2 : (pT M_89).find? (fun e => e.1 == 2) = some (2, .iload_n 1, 0, 0) := rfl
theorem te_89_3 : (pT M_89).find? (fun e => e.1 == 3) = some (3, .aload_n 0, 0, 0) := rfl
theorem te_89_4 : (pT M_89).find? (fun e => e.1 == 4) = some (4, .getfield 70, 6, 0) := rfl
theorem te_89_7 : (pT M_89).find? (fun e => e.1 == 7) = some (7, .if_icmp .ge 58, 0, 0) := rfl
theorem te_89_10 : (pT M_89).find? (fun e => e.1 == 10) = some (10, .aload_n 0, 0, 0) := rfl
theorem te_89_11 : (pT M_89).find? (fun e => e.1 == 11) = some (11, .getfield 51, 6, 18) := rfl
theorem te_89_14 : (pT M_89).find? (fun e => e.1 == 14) = some (14, .iload_n 1, 0, 0) := rfl
theorem te_89_15 : (pT M_89).find? (fun e => e.1 == 15) = some (15, .iconst 0, 0, 0) := rfl
theorem te_89_16 : (pT M_89).find? (fun e => e.1 == 16) = some (16, .iastore, 0, 0) := rfl
theorem te_89_17 : (pT M_89).find? (fun e => e.1 == 17) = some (17, .iconst 0, 0, 0) := rfl
theorem te_89_18 : (pT M_89).find? (fun e => e.1 == 18) = some (18, .istore_n 2, 0, 0) := rfl
theorem te_89_19 : (pT M_89).find? (fun e => e.1 == 19) = some (19, .iload_n 2, 0, 0) := rfl
theorem te_89_20 : (pT M_89).find? (fun e => e.1 == 20) = some (20, .aload_n 0, 0, 0) := rfl
theorem te_89_21 : (pT M_89).find? (fun e => e.1 == 21) = some (21, .getfield 70, 6, 0) := rfl
theorem te_89_24 : (pT M_89).find? (fun e => e.1 == 24) = some (24, .if_icmp .ge 35, 0, 0) := rfl
theorem te_89_27 : (pT M_89).find? (fun e => e.1 == 27) = some (27, .iload_n 2, 0, 0) := rfl
theorem te_89_28 : (pT M_89).find? (fun e => e.1 == 28) = some (28, .iload_n 1, 0, 0) := rfl
theorem te_89_29 : (pT M_89).find? (fun e => e.1 == 29) = some (29, .if_icmp .eq 24, 0, 0) := rfl
theorem te_89_32 : (pT M_89).find? (fun e => e.1 == 32) = some (32, .aload_n 0, 0, 0) := rfl
theorem te_89_33 : (pT M_89).find? (fun e => e.1 == 33) = some (33, .iload_n 1, 0, 0) := rfl
theorem te_89_34 : (pT M_89).find? (fun e => e.1 == 34) = some (34, .iload_n 2, 0, 0) := rfl
theorem te_89_35 : (pT M_89).find? (fun e => e.1 == 35) = some (35, .invokevirtual 132, 90, 0) := rfl
theorem te_89_38 : (pT M_89).find? (fun e => e.1 == 38) = some (38, .ifCond .eq 15, 0, 0) := rfl
theorem te_89_41 : (pT M_89).find? (fun e => e.1 == 41) = some (41, .aload_n 0, 0, 0) := rfl
theorem te_89_42 : (pT M_89).find? (fun e => e.1 == 42) = some (42, .getfield 51, 6, 18) := rfl
theorem te_89_45 : (pT M_89).find? (fun e => e.1 == 45) = some (45, .iload_n 1, 0, 0) := rfl
theorem te_89_46 : (pT M_89).find? (fun e => e.1 == 46) = some (46, .dup2, 0, 0) := rfl
theorem te_89_47 : (pT M_89).find? (fun e => e.1 == 47) = some (47, .iaload, 0, 0) := rfl
theorem te_89_48 : (pT M_89).find? (fun e => e.1 == 48) = some (48, .iconst 1, 0, 0) := rfl
theorem te_89_49 : (pT M_89).find? (fun e => e.1 == 49) = some (49, .iload_n 2, 0, 0) := rfl
theorem te_89_50 : (pT M_89).find? (fun e => e.1 == 50) = some (50, .ishl, 0, 0) := rfl
theorem te_89_51 : (pT M_89).find? (fun e => e.1 == 51) = some (51, .ior, 0, 0) := rfl
theorem te_89_52 : (pT M_89).find? (fun e => e.1 == 52) = some (52, .iastore, 0, 0) := rfl
theorem te_89_53 : (pT M_89).find? (fun e => e.1 == 53) = some (53, .iinc 2 1, 0, 0) := rfl
theorem te_89_56 : (pT M_89).find? (fun e => e.1 == 56) = some (56, .goto (-37), 0, 0) := rfl
theorem te_89_59 : (pT M_89).find? (fun e => e.1 == 59) = some (59, .iinc 1 1, 0, 0) := rfl
theorem te_89_62 : (pT M_89).find? (fun e => e.1 == 62) = some (62, .goto (-60), 0, 0) := rfl
theorem te_89_65 : (pT M_89).find? (fun e => e.1 == 65) = some (65, .return_, 0, 0) := rfl
theorem te_90_0 : (pT M_90).find? (fun e => e.1 == 0) = some (0, .aload_n 0, 0, 0) := rfl
theorem te_90_1 : (pT M_90).find? (fun e => e.1 == 1) = some (1, .getfield 48, 6, 17) := rfl
theorem te_90_4 : (pT M_90).find? (fun e => e.1 == 4) = some (4, .iload_n 1, 0, 0) := rfl
theorem te_90_5 : (pT M_90).find? (fun e => e.1 == 5) = some (5, .iaload, 0, 0) := rfl
theorem te_90_6 : (pT M_90).find? (fun e => e.1 == 6) = some (6, .ifCond .ne 27, 0, 0) := rfl
theorem te_90_9 : (pT M_90).find? (fun e => e.1 == 9) = some (9, .aload_n 0, 0, 0) := rfl
theorem te_90_10 : (pT M_90).find? (fun e => e.1 == 10) = some (10, .getfield 48, 6, 17) := rfl
theorem te_90_13 : (pT M_90).find? (fun e => e.1 == 13) = some (13, .iload_n 2, 0, 0) := rfl
theorem te_90_14 : (pT M_90).find? (fun e => e.1 == 14) = some (14, .iaload, 0, 0) := rfl
theorem te_90_15 : (pT M_90).find? (fun e => e.1 == 15) = some (15, .ifCond .ne 18, 0, 0) := rfl
theorem te_90_18 : (pT M_90).find? (fun e => e.1 == 18) = some (18, .aload_n 0, 0, 0) := rfl
theorem te_90_19 : (pT M_90).find? (fun e => e.1 == 19) = some (19, .getfield 18, 6, 7) := rfl
theorem te_90_22 : (pT M_90).find? (fun e => e.1 == 22) = some (22, .iload_n 1, 0, 0) := rfl
theorem te_90_23 : (pT M_90).find? (fun e => e.1 == 23) = some (23, .iaload, 0, 0) := rfl
theorem te_90_24 : (pT M_90).find? (fun e => e.1 == 24) = some (24, .aload_n 0, 0, 0) := rfl
theorem te_90_25 : (pT M_90).find? (fun e => e.1 == 25) = some (25, .getfield 18, 6, 7) := rfl
theorem te_90_28 : (pT M_90).find? (fun e => e.1 == 28) = some (28, .iload_n 2, 0, 0) := rfl
theorem te_90_29 : (pT M_90).find? (fun e => e.1 == 29) = some (29, .iaload, 0, 0) := rfl
theorem te_90_30 : (pT M_90).find? (fun e => e.1 == 30) = some (30, .if_icmp .eq 5, 0, 0) := rfl
theorem te_90_33 : (pT M_90).find? (fun e => e.1 == 33) = some (33, .iconst 0, 0, 0) := rfl
theorem te_90_34 : (pT M_90).find? (fun e => e.1 == 34) = some (34, .ireturn, 0, 0) := rfl
theorem te_90_35 : (pT M_90).find? (fun e => e.1 == 35) = some (35, .iconst 0, 0, 0) := rfl
theorem te_90_36 : (pT M_90).find? (fun e => e.1 == 36) = some (36, .istore_n 3, 0, 0) := rfl
theorem te_90_37 : (pT M_90).find? (fun e => e.1 == 37) = some (37, .iload_n 3, 0, 0) := rfl
theorem te_90_38 : (pT M_90).find? (fun e => e.1 == 38) = some (38, .iconst 4, 0, 0) := rfl
theorem te_90_39 : (pT M_90).find? (fun e => e.1 == 39) = some (39, .if_icmp .ge 34, 0, 0) := rfl
theorem te_90_42 : (pT M_90).find? (fun e => e.1 == 42) = some (42, .aload_n 0, 0, 0) := rfl
theorem te_90_43 : (pT M_90).find? (fun e => e.1 == 43) = some (43, .getfield 27, 6, 10) := rfl
theorem te_90_46 : (pT M_90).find? (fun e => e.1 == 46) = some (46, .iload_n 1, 0, 0) := rfl
theorem te_90_47 : (pT M_90).find? (fun e => e.1 == 47) = some (47, .iconst 4, 0, 0) := rfl
theorem te_90_48 : (pT M_90).find? (fun e => e.1 == 48) = some (48, .imul, 0, 0) := rfl
theorem te_90_49 : (pT M_90).find? (fun e => e.1 == 49) = some (49, .iload_n 3, 0, 0) := rfl
theorem te_90_50 : (pT M_90).find? (fun e => e.1 == 50) = some (50, .iadd, 0, 0) := rfl
theorem te_90_51 : (pT M_90).find? (fun e => e.1 == 51) = some (51, .iaload, 0, 0) := rfl
theorem te_90_52 : (pT M_90).find? (fun e => e.1 == 52) = some (52, .aload_n 0, 0, 0) := rfl
theorem te_90_53 : (pT M_90).find? (fun e => e.1 == 53) = some (53, .getfield 27, 6, 10) := rfl
theorem te_90_56 : (pT M_90).find? (fun e => e.1 == 56) = some (56, .iload_n 2, 0, 0) := rfl
theorem te_90_57 : (pT M_90).find? (fun e => e.1 == 57) = some (57, .iconst 4, 0, 0) := rfl
theorem te_90_58 : (pT M_90).find? (fun e => e.1 == 58) = some (58, .imul, 0, 0) := rfl
theorem te_90_59 : (pT M_90).find? (fun e => e.1 == 59) = some (59, .iload_n 3, 0, 0) := rfl
theorem te_90_60 : (pT M_90).find? (fun e => e.1 == 60) = some (60, .iadd, 0, 0) := rfl
theorem te_90_61 : (pT M_90).find? (fun e => e.1 == 61) = some (61, .iaload, 0, 0) := rfl
theorem te_90_62 : (pT M_90).find? (fun e => e.1 == 62) = some (62, .if_icmp .eq 5, 0, 0) := rfl
theorem te_90_65 : (pT M_90).find? (fun e => e.1 == 65) = some (65, .iconst 0, 0, 0) := rfl
theorem te_90_66 : (pT M_90).find? (fun e => e.1 == 66) = some (66, .ireturn, 0, 0) := rfl
theorem te_90_67 : (pT M_90).find? (fun e => e.1 == 67) = some (67, .iinc 3 1, 0, 0) := rfl
theorem te_90_70 : (pT M_90).find? (fun e => e.1 == 70) = some (70, .goto (-33), 0, 0) := rfl
theorem te_90_73 : (pT M_90).find? (fun e => e.1 == 73) = some (73, .iconst 1, 0, 0) := rfl
theorem te_90_74 : (pT M_90).find? (fun e => e.1 == 74) = some (74, .ireturn, 0, 0) := rfl
theorem te_91_0 : (pT M_91).find? (fun e => e.1 == 0) = some (0, .aload_n 0, 0, 0) := rfl
theorem te_91_1 : (pT M_91).find? (fun e => e.1 == 1) = some (1, .getfield 18, 6, 7) := rfl
theorem te_91_4 : (pT M_91).find? (fun e => e.1 == 4) = some (4, .iload_n 1, 0, 0) := rfl
theorem te_91_5 : (pT M_91).find? (fun e => e.1 == 5) = some (5, .iaload, 0, 0) := rfl
theorem te_91_6 : (pT M_91).find? (fun e => e.1 == 6) = some (6, .iconst 4, 0, 0) := rfl
theorem te_91_7 : (pT M_91).find? (fun e => e.1 == 7) = some (7, .imul, 0, 0) := rfl
theorem te_91_8 : (pT M_91).find? (fun e => e.1 == 8) = some (8, .istore_n 3, 0, 0) := rfl
theorem te_91_9 : (pT M_91).find? (fun e => e.1 == 9) = some (9, .aload_n 0, 0, 0) := rfl
theorem te_91_10 : (pT M_91).find? (fun e => e.1 == 10) = some (10, .getfield 30, 6, 11) := rfl
theorem te_91_13 : (pT M_91).find? (fun e => e.1 == 13) = some (13, .iload_n 3, 0, 0) := rfl
theorem te_91_14 : (pT M_91).find? (fun e => e.1 == 14) = some (14, .aload_n 0, 0, 0) := rfl
theorem te_91_15 : (pT M_91).find? (fun e => e.1 == 15) = some (15, .getfield 33, 6, 12) := rfl
theorem te_91_18 : (pT M_91).find? (fun e => e.1 == 18) = some (18, .iload_n 1, 0, 0) := rfl
theorem te_91_19 : (pT M_91).find? (fun e => e.1 == 19) = some (19, .iconst 4, 0, 0) := rfl
theorem te_91_20 : (pT M_91).find? (fun e => e.1 == 20) = some (20, .imul, 0, 0) := rfl
theorem te_91_21 : (pT M_91).find? (fun e => e.1 == 21) = some (21, .iconst 4, 0, 0) := rfl
theorem te_91_22 : (pT M_91).find? (fun e => e.1 == 22) = some (22, .invokestatic 125, 0, 7) := rfl
theorem te_91_25 : (pT M_91).find? (fun e => e.1 == 25) = some (25, .aload_n 0, 0, 0) := rfl
theorem te_91_26 : (pT M_91).find? (fun e => e.1 == 26) = some (26, .getfield 9, 6, 5) := rfl
theorem te_91_29 : (pT M_91).find? (fun e => e.1 == 29) = some (29, .iload_n 1, 0, 0) := rfl
theorem te_91_30 : (pT M_91).find? (fun e => e.1 == 30) = some (30, .iload_n 2, 0, 0) := rfl
theorem te_91_31 : (pT M_91).find? (fun e => e.1 == 31) = some (31, .iastore, 0, 0) := rfl
theorem te_91_32 : (pT M_91).find? (fun e => e.1 == 32) = some (32, .aload_n 0, 0, 0) := rfl
theorem te_91_33 : (pT M_91).find? (fun e => e.1 == 33) = some (33, .dup, 0, 0) := rfl
theorem te_91_34 : (pT M_91).find? (fun e => e.1 == 34) = some (34, .getfield 97, 6, 4) := rfl
theorem te_91_37 : (pT M_91).find? (fun e => e.1 == 37) = some (37, .iconst 1, 0, 0) := rfl
theorem te_91_38 : (pT M_91).find? (fun e => e.1 == 38) = some (38, .iload_n 1, 0, 0) := rfl
theorem te_91_39 : (pT M_91).find? (fun e => e.1 == 39) = some (39, .ishl, 0, 0) := rfl
theorem te_91_40 : (pT M_91).find? (fun e => e.1 == 40) = some (40, .ior, 0, 0) := rfl
theorem te_91_41 : (pT M_91).find? (fun e => e.1 == 41) = some (41, .putfield 97, 6, 4) := rfl
theorem te_91_44 : (pT M_91).find? (fun e => e.1 == 44) = some (44, .iconst 0, 0, 0) := rfl
theorem te_91_45 : (pT M_91).find? (fun e => e.1 == 45) = some (45, .istore 4, 0, 0) := rfl
theorem te_91_47 : (pT M_91).find? (fun e => e.1 == 47) = some (47, .iload 4, 0, 0) := rfl
theorem te_91_49 : (pT M_91).find? (fun e => e.1 == 49) = some (49, .iconst 4, 0, 0) := rfl
theorem te_91_50 : (pT M_91).find? (fun e => e.1 == 50) = some (50, .if_icmp .ge 103, 0, 0) := rfl
theorem te_91_53 : (pT M_91).find? (fun e => e.1 == 53) = some (53, .aload_n 0, 0, 0) := rfl
theorem te_91_54 : (pT M_91).find? (fun e => e.1 == 54) = some (54, .getfield 27, 6, 10) := rfl
theorem te_91_57 : (pT M_91).find? (fun e => e.1 == 57) = some (57, .iload_n 1, 0, 0) := rfl
theorem te_91_58 : (pT M_91).find? (fun e => e.1 == 58) = some (58, .iconst 4, 0, 0) := rfl
theorem te_91_59 : (pT M_91).find? (fun e => e.1 == 59) = some (59, .imul, 0, 0) := rfl
theorem te_91_60 : (pT M_91).find? (fun e => e.1 == 60) = some (60, .iload 4, 0, 0) := rfl
theorem te_91_62 : (pT M_91).find? (fun e => e.1 == 62) = some (62, .iadd, 0, 0) := rfl
theorem te_91_63 : (pT M_91).find? (fun e => e.1 == 63) = some (63, .iaload, 0, 0) := rfl
theorem te_91_64 : (pT M_91).find? (fun e => e.1 == 64) = some (64, .istore 5, 0, 0) := rfl
theorem te_91_66 : (pT M_91).find? (fun e => e.1 == 66) = some (66, .iload 5, 0, 0) := rfl
theorem te_91_68 : (pT M_91).find? (fun e => e.1 == 68) = some (68, .ifCond .le 79, 0, 0) := rfl
theorem te_91_71 : (pT M_91).find? (fun e => e.1 == 71) = some (71, .iconst 1, 0, 0) := rfl
theorem te_91_72 : (pT M_91).find? (fun e => e.1 == 72) = some (72, .iload_n 2, 0, 0) := rfl
theorem te_91_73 : (pT M_91).find? (fun e => e.1 == 73) = some (73, .iload 4, 0, 0) := rfl
theorem te_91_75 : (pT M_91).find? (fun e => e.1 == 75) = some (75, .iadd, 0, 0) := rfl
theorem te_91_76 : (pT M_91).find? (fun e => e.1 == 76) = some (76, .aload_n 0, 0, 0) := rfl
theorem te_91_77 : (pT M_91).find? (fun e => e.1 == 77) = some (77, .getfield 103, 6, 1) := rfl
theorem te_91_80 : (pT M_91).find? (fun e => e.1 == 80) = some (80, .irem, 0, 0) := rfl
theorem te_91_81 : (pT M_91).find? (fun e => e.1 == 81) = some (81, .ishl, 0, 0) := rfl
theorem te_91_82 : (pT M_91).find? (fun e => e.1 == 82) = some (82, .istore 6, 0, 0) := rfl
theorem te_91_84 : (pT M_91).find? (fun e => e.1 == 84) = some (84, .aload_n 0, 0, 0) := rfl
theorem te_91_85 : (pT M_91).find? (fun e => e.1 == 85) = some (85, .getfield 30, 6, 11) := rfl
theorem te_91_88 : (pT M_91).find? (fun e => e.1 == 88) = some (88, .iload_n 3, 0, 0) := rfl
theorem te_91_89 : (pT M_91).find? (fun e => e.1 == 89) = some (89, .iconst 3, 0, 0) := rfl
theorem te_91_90 : (pT M_91).find? (fun e => e.1 == 90) = some (90, .iadd, 0, 0) := rfl
theorem te_91_91 : (pT M_91).find? (fun e => e.1 == 91) = some (91, .dup2, 0, 0) := rfl
theorem te_91_92 : (pT M_91).find? (fun e => e.1 == 92) = some (92, .iaload, 0, 0) := rfl
theorem te_91_93 : (pT M_91).find? (fun e => e.1 == 93) = some (93, .aload_n 0, 0, 0) := rfl
theorem te_91_94 : (pT M_91).find? (fun e => e.1 == 94) = some (94, .getfield 30, 6, 11) := rfl
theorem te_91_97 : (pT M_91).find? (fun e => e.1 == 97) = some (97, .iload_n 3, 0, 0) := rfl
theorem te_91_98 : (pT M_91).find? (fun e => e.1 == 98) = some (98, .iconst 2, 0, 0) := rfl
theorem te_91_99 : (pT M_91).find? (fun e => e.1 == 99) = some (99, .iadd, 0, 0) := rfl
theorem te_91_100 : (pT M_91).find? (fun e => e.1 == 100) = some (100, .iaload, 0, 0) := rfl
theorem te_91_101 : (pT M_91).find? (fun e => e.1 == 101) = some (101, .iload 6, 0, 0) := rfl
theorem te_91_103 : (pT M_91).find? (fun e => e.1 == 103) = some (103, .iand, 0, 0) := rfl
theorem te_91_104 : (pT M_91).find? (fun e => e.1 == 104) = some (104, .ior, 0, 0) := rfl
theorem te_91_105 : (pT M_91).find? (fun e => e.1 == 105) = some (105, .iastore, 0, 0) := rfl
theorem te_91_106 : (pT M_91).find? (fun e => e.1 == 106) = some (106, .aload_n 0, 0, 0) := rfl
theorem te_91_107 : (pT M_91).find? (fun e => e.1 == 107) = some (107, .getfield 30, 6, 11) := rfl
theorem te_91_110 : (pT M_91).find? (fun e => e.1 == 110) = some (110, .iload_n 3, 0, 0) := rfl
theorem te_91_111 : (pT M_91).find? (fun e => e.1 == 111) = some (111, .iconst 2, 0, 0) := rfl
theorem te_91_112 : (pT M_91).find? (fun e => e.1 == 112) = some (112, .iadd, 0, 0) := rfl
theorem te_91_113 : (pT M_91).find? (fun e => e.1 == 113) = some (113, .dup2, 0, 0) := rfl
theorem te_91_114 : (pT M_91).find? (fun e => e.1 == 114) = some (114, .iaload, 0, 0) := rfl
theorem te_91_115 : (pT M_91).find? (fun e => e.1 == 115) = some (115, .aload_n 0, 0, 0) := rfl
theorem te_91_116 : (pT M_91).find? (fun e => e.1 == 116) = some (116, .getfield 30, 6, 11) := rfl
theorem te_91_119 : (pT M_91).find? (fun e => e.1 == 119) = some (119, .iload_n 3, 0, 0) := rfl
theorem te_91_120 : (pT M_91).find? (fun e => e.1 == 120) = some (120, .iconst 1, 0, 0) := rfl
theorem te_91_121 : (pT M_91).find? (fun e => e.1 == 121) = some (121, .iadd, 0, 0) := rfl
theorem te_91_122 : (pT M_91).find? (fun e => e.1 == 122) = some (122, .iaload, 0, 0) := rfl
theorem te_91_123 : (pT M_91).find? (fun e => e.1 == 123) = some (123, .iload 6, 0, 0) := rfl
theorem te_91_125 : (pT M_91).find? (fun e => e.1 == 125) = some (125, .iand, 0, 0) := rfl
theorem te_91_126 : (pT M_91).find? (fun e => e.1 == 126) = some (126, .ior, 0, 0) := rfl
theorem te_91_127 : (pT M_91).find? (fun e => e.1 == 127) = some (127, .iastore, 0, 0) := rfl
theorem te_91_128 : (pT M_91).find? (fun e => e.1 == 128) = some (128, .aload_n 0, 0, 0) := rfl
theorem te_91_129 : (pT M_91).find? (fun e => e.1 == 129) = some (129, .getfield 30, 6, 11) := rfl
theorem te_91_132 : (pT M_91).find? (fun e => e.1 == 132) = some (132, .iload_n 3, 0, 0) := rfl
theorem te_91_133 : (pT M_91).find? (fun e => e.1 == 133) = some (133, .iconst 1, 0, 0) := rfl
theorem te_91_134 : (pT M_91).find? (fun e => e.1 == 134) = some (134, .iadd, 0, 0) := rfl
theorem te_91_135 : (pT M_91).find? (fun e => e.1 == 135) = some (135, .dup2, 0, 0) := rfl
theorem te_91_136 : (pT M_91).find? (fun e => e.1 == 136) = some (136, .iaload, 0, 0) := rfl
theorem te_91_137 : (pT M_91).find? (fun e => e.1 == 137) = some (137, .iload 6, 0, 0) := rfl
theorem te_91_139 : (pT M_91).find? (fun e => e.1 == 139) = some (139, .ior, 0, 0) := rfl
theorem te_91_140 : (pT M_91).find? (fun e => e.1 == 140) = some (140, .iastore, 0, 0) := rfl
theorem te_91_141 : (pT M_91).find? (fun e => e.1 == 141) = some (141, .iinc 5 (-1), 0, 0) := rfl
theorem te_91_144 : (pT M_91).find? (fun e => e.1 == 144) = some (144, .goto (-78), 0, 0) := rfl
theorem te_91_147 : (pT M_91).find? (fun e => e.1 == 147) = some (147, .iinc 4 1, 0, 0) := rfl
theorem te_91_150 : (pT M_91).find? (fun e => e.1 == 150) = some (150, .goto (-103), 0, 0) := rfl
theorem te_91_153 : (pT M_91).find? (fun e => e.1 == 153) = some (153, .aload_n 0, 0, 0) := rfl
theorem te_91_154 : (pT M_91).find? (fun e => e.1 == 154) = some (154, .iload_n 1, 0, 0) := rfl
theorem te_91_155 : (pT M_91).find? (fun e => e.1 == 155) = some (155, .invokevirtual 159, 92, 0) := rfl
theorem te_91_158 : (pT M_91).find? (fun e => e.1 == 158) = some (158, .ifCond .ne 5, 0, 0) := rfl
theorem te_91_161 : (pT M_91).find? (fun e => e.1 == 161) = some (161, .iconst 1, 0, 0) := rfl
theorem te_91_162 : (pT M_91).find? (fun e => e.1 == 162) = some (162, .ireturn, 0, 0) := rfl
theorem te_91_163 : (pT M_91).find? (fun e => e.1 == 163) = some (163, .aload_n 0, 0, 0) := rfl
theorem te_91_164 : (pT M_91).find? (fun e => e.1 == 164) = some (164, .getfield 36, 6, 13) := rfl
theorem te_91_167 : (pT M_91).find? (fun e => e.1 == 167) = some (167, .iconst 0, 0, 0) := rfl
theorem te_91_168 : (pT M_91).find? (fun e => e.1 == 168) = some (168, .aload_n 0, 0, 0) := rfl
theorem te_91_169 : (pT M_91).find? (fun e => e.1 == 169) = some (169, .getfield 39, 6, 14) := rfl
theorem te_91_172 : (pT M_91).find? (fun e => e.1 == 172) = some (172, .iload_n 1, 0, 0) := rfl
theorem te_91_173 : (pT M_91).find? (fun e => e.1 == 173) = some (173, .bipush 64, 0, 0) := rfl
theorem te_91_175 : (pT M_91).find? (fun e => e.1 == 175) = some (175, .imul, 0, 0) := rfl
theorem te_91_176 : (pT M_91).find? (fun e => e.1 == 176) = some (176, .bipush 64, 0, 0) := rfl
theorem te_91_178 : (pT M_91).find? (fun e => e.1 == 178) = some (178, .invokestatic 125, 0, 7) := rfl
theorem te_91_181 : (pT M_91).find? (fun e => e.1 == 181) = some (181, .aload_n 0, 0, 0) := rfl
theorem te_91_182 : (pT M_91).find? (fun e => e.1 == 182) = some (182, .iload_n 1, 0, 0) := rfl
theorem te_91_183 : (pT M_91).find? (fun e => e.1 == 183) = some (183, .invokevirtual 162, 93, 0) := rfl
theorem te_91_186 : (pT M_91).find? (fun e => e.1 == 186) = some (186, .ifCond .ne 5, 0, 0) := rfl
theorem te_91_189 : (pT M_91).find? (fun e => e.1 == 189) = some (189, .iconst 0, 0, 0) := rfl
theorem te_91_190 : (pT M_91).find? (fun e => e.1 == 190) = some (190, .ireturn, 0, 0) := rfl
theorem te_91_191 : (pT M_91).find? (fun e => e.1 == 191) = some (191, .aload_n 0, 0, 0) := rfl
theorem te_91_192 : (pT M_91).find? (fun e => e.1 == 192) = some (192, .iload_n 1, 0, 0) := rfl
theorem te_91_193 : (pT M_91).find? (fun e => e.1 == 193) = some (193, .invokevirtual 165, 95, 0) := rfl
theorem te_91_196 : (pT M_91).find? (fun e => e.1 == 196) = some (196, .iconst 1, 0, 0) := rfl
theorem te_91_197 : (pT M_91).find? (fun e => e.1 == 197) = some (197, .ireturn, 0, 0) := rfl
theorem te_92_0 : (pT M_92).find? (fun e => e.1 == 0) = some (0, .aload_n 0, 0, 0) := rfl
theorem te_92_1 : (pT M_92).find? (fun e => e.1 == 1) = some (1, .getfield 48, 6, 17) := rfl
theorem te_92_4 : (pT M_92).find? (fun e => e.1 == 4) = some (4, .iload_n 1, 0, 0) := rfl
theorem te_92_5 : (pT M_92).find? (fun e => e.1 == 5) = some (5, .iaload, 0, 0) := rfl
theorem te_92_6 : (pT M_92).find? (fun e => e.1 == 6) = some (6, .invokestatic 142, 39, 2) := rfl
theorem te_92_9 : (pT M_92).find? (fun e => e.1 == 9) = some (9, .iconst 2, 0, 0) := rfl
theorem te_92_10 : (pT M_92).find? (fun e => e.1 == 10) = some (10, .if_icmp .lt 7, 0, 0) := rfl
theorem te_92_13 : (pT M_92).find? (fun e => e.1 == 13) = some (13, .iconst 1, 0, 0) := rfl
theorem te_92_14 : (pT M_92).find? (fun e => e.1 == 14) = some (14, .goto 4, 0, 0) := rfl
theorem te_92_17 : (pT M_92).find? (fun e => e.1 == 17) = some (17, .iconst 0, 0, 0) := rfl
theorem te_92_18 : (pT M_92).find? (fun e => e.1 == 18) = some (18, .ireturn, 0, 0) := rfl
theorem te_93_0 : (pT M_93).find? (fun e => e.1 == 0) = some (0, .aload_n 0, 0, 0) := rfl
theorem te_93_1 : (pT M_93).find? (fun e => e.1 == 1) = some (1, .getfield 48, 6, 17) := rfl
theorem te_93_4 : (pT M_93).find? (fun e => e.1 == 4) = some (4, .iload_n 1, 0, 0) := rfl
theorem te_93_5 : (pT M_93).find? (fun e => e.1 == 5) = some (5, .iaload, 0, 0) := rfl
theorem te_93_6 : (pT M_93).find? (fun e => e.1 == 6) = some (6, .aload_n 0, 0, 0) := rfl
theorem te_93_7 : (pT M_93).find? (fun e => e.1 == 7) = some (7, .getfield 97, 6, 4) := rfl
theorem te_93_10 : (pT M_93).find? (fun e => e.1 == 10) = some (10, .iand, 0, 0) := rfl
theorem te_93_11 : (pT M_93).find? (fun e => e.1 == 11) = some (11, .istore_n 2, 0, 0) := rfl
theorem te_93_12 : (pT M_93).find? (fun e => e.1 == 12) = some (12, .iconst 0, 0, 0) := rfl
theorem te_93_13 : (pT M_93).find? (fun e => e.1 == 13) = some (13, .istore_n 3, 0, 0) := rfl
theorem te_93_14 : (pT M_93).find? (fun e => e.1 == 14) = some (14, .iload_n 3, 0, 0) := rfl
theorem te_93_15 : (pT M_93).find? (fun e => e.1 == 15) = some (15, .aload_n 0, 0, 0) := rfl
theorem te_93_16 : (pT M_93).find? (fun e => e.1 == 16) = some (16, .getfield 70, 6, 0) := rfl
theorem te_93_19 : (pT M_93).find? (fun e => e.1 == 19) = some (19, .if_icmp .ge 123, 0, 0) := rfl
theorem te_93_22 : (pT M_93).find? (fun e => e.1 == 22) = some (22, .aload_n 0, 0, 0) := rfl
theorem te_93_23 : (pT M_93).find? (fun e => e.1 == 23) = some (23, .getfield 42, 6, 15) := rfl
theorem te_93_26 : (pT M_93).find? (fun e => e.1 == 26) = some (26, .iload_n 3, 0, 0) := rfl
theorem te_93_27 : (pT M_93).find? (fun e => e.1 == 27) = some (27, .aload_n 0, 0, 0) := rfl
theorem te_93_28 : (pT M_93).find? (fun e => e.1 == 28) = some (28, .getfield 36, 6, 13) := rfl
theorem te_93_31 : (pT M_93).find? (fun e => e.1 == 31) = some (31, .iload_n 3, 0, 0) := rfl
theorem te_93_32 : (pT M_93).find? (fun e => e.1 == 32) = some (32, .bipush 8, 0, 0) := rfl
theorem te_93_34 : (pT M_93).find? (fun e => e.1 == 34) = some (34, .imul, 0, 0) := rfl
theorem te_93_35 : (pT M_93).find? (fun e => e.1 == 35) = some (35, .iload_n 1, 0, 0) := rfl
theorem te_93_36 : (pT M_93).find? (fun e => e.1 == 36) = some (36, .iadd, 0, 0) := rfl
theorem te_93_37 : (pT M_93).find? (fun e => e.1 == 37) = some (37, .iaload, 0, 0) := rfl
theorem te_93_38 : (pT M_93).find? (fun e => e.1 == 38) = some (38, .iastore, 0, 0) := rfl
theorem te_93_39 : (pT M_93).find? (fun e => e.1 == 39) = some (39, .aload_n 0, 0, 0) := rfl
theorem te_93_40 : (pT M_93).find? (fun e => e.1 == 40) = some (40, .getfield 45, 6, 16) := rfl
theorem te_93_43 : (pT M_93).find? (fun e => e.1 == 43) = some (43, .iload_n 3, 0, 0) := rfl
theorem te_93_44 : (pT M_93).find? (fun e => e.1 == 44) = some (44, .aload_n 0, 0, 0) := rfl
theorem te_93_45 : (pT M_93).find? (fun e => e.1 == 45) = some (45, .getfield 36, 6, 13) := rfl
theorem te_93_48 : (pT M_93).find? (fun e => e.1 == 48) = some (48, .iload_n 1, 0, 0) := rfl
theorem te_93_49 : (pT M_93).find? (fun e => e.1 == 49) = some (49, .bipush 8, 0, 0) := rfl
theorem te_93_51 : (pT M_93).find? (fun e => e.1 == 51) = some (51, .imul, 0, 0) := rfl
theorem te_93_52 : (pT M_93).find? (fun e => e.1 == 52) = some (52, .iload_n 3, 0, 0) := rfl
theorem te_93_53 : (pT M_93).find? (fun e => e.1 == 53) = some (53, .iadd, 0, 0) := rfl
theorem te_93_54 : (pT M_93).find? (fun e => e.1 == 54) = some (54, .iaload, 0, 0) := rfl
theorem te_93_55 : (pT M_93).find? (fun e => e.1 == 55) = some (55, .iastore, 0, 0) := rfl
theorem te_93_56 : (pT M_93).find? (fun e => e.1 == 56) = some (56, .iload_n 2, 0, 0) := rfl
theorem te_93_57 : (pT M_93).find? (fun e => e.1 == 57) = some (57, .iconst 1, 0, 0) := rfl
theorem te_93_58 : (pT M_93).find? (fun e => e.1 == 58) = some (58, .iload_n 3, 0, 0) := rfl
theorem te_93_59 : (pT M_93).find? (fun e => e.1 == 59) = some (59, .ishl, 0, 0) := rfl
theorem te_93_60 : (pT M_93).find? (fun e => e.1 == 60) = some (60, .iand, 0, 0) := rfl
theorem te_93_61 : (pT M_93).find? (fun e => e.1 == 61) = some (61, .ifCond .eq 75, 0, 0) := rfl
theorem te_93_64 : (pT M_93).find? (fun e => e.1 == 64) = some (64, .aload_n 0, 0, 0) := rfl
theorem te_93_65 : (pT M_93).find? (fun e => e.1 == 65) = some (65, .getfield 42, 6, 15) := rfl
theorem te_93_68 : (pT M_93).find? (fun e => e.1 == 68) = some (68, .iload_n 3, 0, 0) := rfl
theorem te_93_69 : (pT M_93).find? (fun e => e.1 == 69) = some (69, .dup2, 0, 0) := rfl
theorem te_93_70 : (pT M_93).find? (fun e => e.1 == 70) = some (70, .iaload, 0, 0) := rfl
theorem te_93_71 : (pT M_93).find? (fun e => e.1 == 71) = some (71, .aload_n 0, 0, 0) := rfl
theorem te_93_72 : (pT M_93).find? (fun e => e.1 == 72) = some (72, .getfield 9, 6, 5) := rfl
theorem te_93_75 : (pT M_93).find? (fun e => e.1 == 75) = some (75, .iload_n 1, 0, 0) := rfl
theorem te_93_76 : (pT M_93).find? (fun e => e.1 == 76) = some (76, .iaload, 0, 0) := rfl
theorem te_93_77 : (pT M_93).find? (fun e => e.1 == 77) = some (77, .aload_n 0, 0, 0) := rfl
theorem te_93_78 : (pT M_93).find? (fun e => e.1 == 78) = some (78, .getfield 9, 6, 5) := rfl
theorem te_93_81 : (pT M_93).find? (fun e => e.1 == 81) = some (81, .iload_n 3, 0, 0) := rfl
theorem te_93_82 : (pT M_93).find? (fun e => e.1 == 82) = some (82, .iaload, 0, 0) := rfl
theorem te_93_83 : (pT M_93).find? (fun e => e.1 == 83) = some (83, .isub, 0, 0) := rfl
theorem te_93_84 : (pT M_93).find? (fun e => e.1 == 84) = some (84, .aload_n 0, 0, 0) := rfl
theorem te_93_85 : (pT M_93).find? (fun e => e.1 == 85) = some (85, .getfield 42, 6, 15) := rfl
theorem te_93_88 : (pT M_93).find? (fun e => e.1 == 88) = some (88, .iload_n 3, 0, 0) := rfl
theorem te_93_89 : (pT M_93).find? (fun e => e.1 == 89) = some (89, .iaload, 0, 0) := rfl
theorem te_93_90 : (pT M_93).find? (fun e => e.1 == 90) = some (90, .isub, 0, 0) := rfl
theorem te_93_91 : (pT M_93).find? (fun e => e.1 == 91) = some (91, .aload_n 0, 0, 0) := rfl
theorem te_93_92 : (pT M_93).find? (fun e => e.1 == 92) = some (92, .getfield 103, 6, 1) := rfl
theorem te_93_95 : (pT M_93).find? (fun e => e.1 == 95) = some (95, .invokestatic 154, 94, 2) := rfl
theorem te_93_98 : (pT M_93).find? (fun e => e.1 == 98) = some (98, .iadd, 0, 0) := rfl
theorem te_93_99 : (pT M_93).find? (fun e => e.1 == 99) = some (99, .iastore, 0, 0) := rfl
theorem te_93_100 : (pT M_93).find? (fun e => e.1 == 100) = some (100, .aload_n 0, 0, 0) := rfl
theorem te_93_101 : (pT M_93).find? (fun e => e.1 == 101) = some (101, .getfield 45, 6, 16) := rfl
theorem te_93_104 : (pT M_93).find? (fun e => e.1 == 104) = some (104, .iload_n 3, 0, 0) := rfl
theorem te_93_105 : (pT M_93).find? (fun e => e.1 == 105) = some (105, .dup2, 0, 0) := rfl
theorem te_93_106 : (pT M_93).find? (fun e => e.1 == 106) = some (106, .iaload, 0, 0) := rfl
theorem te_93_107 : (pT M_93).find? (fun e => e.1 == 107) = some (107, .aload_n 0, 0, 0) := rfl
theorem te_93_108 : (pT M_93).find? (fun e => e.1 == 108) = some (108, .getfield 9, 6, 5) := rfl
theorem te_93_111 : (pT M_93).find? (fun e => e.1 == 111) = some (111, .iload_n 3, 0, 0) := rfl
theorem te_93_112 : (pT M_93).find? (fun e => e.1 == 112) = some (112, .iaload, 0, 0) := rfl
theorem te_93_113 : (pT M_93).find? (fun e => e.1 == 113) = some (113, .aload_n 0, 0, 0) := rfl
theorem te_93_114 : (pT M_93).find? (fun e => e.1 == 114) = some (114, .getfield 9, 6, 5) := rfl
theorem te_93_117 : (pT M_93).find? (fun e => e.1 == 117) = some (117, .iload_n 1, 0, 0) := rfl
theorem te_93_118 : (pT M_93).find? (fun e => e.1 == 118) = some (118, .iaload, 0, 0) := rfl
theorem te_93_119 : (pT M_93).find? (fun e => e.1 == 119) = some (119, .isub, 0, 0) := rfl
theorem te_93_120 : (pT M_93).find? (fun e => e.1 == 120) = some (120, .aload_n 0, 0, 0) := rfl
theorem te_93_121 : (pT M_93).find? (fun e => e.1 == 121) = some (121, .getfield 45, 6, 16) := rfl
theorem te_93_124 : (pT M_93).find? (fun e => e.1 == 124) = some (124, .iload_n 3, 0, 0) := rfl
theorem te_93_125 : (pT M_93).find? (fun e => e.1 == 125) = some (125, .iaload, 0, 0) := rfl
theorem te_93_126 : (pT M_93).find? (fun e => e.1 == 126) = some (126, .isub, 0, 0) := rfl
theorem te_93_127 : (pT M_93).find? (fun e => e.1 == 127) = some (127, .aload_n 0, 0, 0) := rfl
theorem te_93_128 : (pT M_93).find? (fun e => e.1 == 128) = some (128, .getfield 103, 6, 1) := rfl
theorem te_93_131 : (pT M_93).find? (fun e => e.1 == 131) = some (131, .invokestatic 154, 94, 2) := rfl
theorem te_93_134 : (pT M_93).find? (fun e => e.1 == 134) = some (134, .iadd, 0, 0) := rfl
theorem te_93_135 : (pT M_93).find? (fun e => e.1 == 135) = some (135, .iastore, 0, 0) := rfl
theorem te_93_136 : (pT M_93).find? (fun e => e.1 == 136) = some (136, .iinc 3 1, 0, 0) := rfl
theorem te_93_139 : (pT M_93).find? (fun e => e.1 == 139) = some (139, .goto (-125), 0, 0) := rfl
theorem te_93_142 : (pT M_93).find? (fun e => e.1 == 142) = some (142, .iconst 0, 0, 0) := rfl
theorem te_93_143 : (pT M_93).find? (fun e => e.1 == 143) = some (143, .istore_n 3, 0, 0) := rfl
theorem te_93_144 : (pT M_93).find? (fun e => e.1 == 144) = some (144, .iload_n 3, 0, 0) := rfl
theorem te_93_145 : (pT M_93).find? (fun e => e.1 == 145) = some (145, .aload_n 0, 0, 0) := rfl
theorem te_93_146 : (pT M_93).find? (fun e => e.1 == 146) = some (146, .getfield 70, 6, 0) := rfl
theorem te_93_149 : (pT M_93).find? (fun e => e.1 == 149) = some (149, .if_icmp .ge 140, 0, 0) := rfl
theorem te_93_152 : (pT M_93).find? (fun e => e.1 == 152) = some (152, .aload_n 0, 0, 0) := rfl
theorem te_93_153 : (pT M_93).find? (fun e => e.1 == 153) = some (153, .getfield 48, 6, 17) := rfl
theorem te_93_156 : (pT M_93).find? (fun e => e.1 == 156) = some (156, .iload_n 1, 0, 0) := rfl
theorem te_93_157 : (pT M_93).find? (fun e => e.1 == 157) = some (157, .iaload, 0, 0) := rfl
theorem te_93_158 : (pT M_93).find? (fun e => e.1 == 158) = some (158, .iconst 1, 0, 0) := rfl
theorem te_93_159 : (pT M_93).find? (fun e => e.1 == 159) = some (159, .iload_n 3, 0, 0) := rfl
theorem te_93_160 : (pT M_93).find? (fun e => e.1 == 160) = some (160, .ishl, 0, 0) := rfl
theorem te_93_161 : (pT M_93).find? (fun e => e.1 == 161) = some (161, .iand, 0, 0) := rfl
theorem te_93_162 : (pT M_93).find? (fun e => e.1 == 162) = some (162, .ifCond .ne 6, 0, 0) := rfl
theorem te_93_165 : (pT M_93).find? (fun e => e.1 == 165) = some (165, .goto 118, 0, 0) := rfl
theorem te_93_168 : (pT M_93).find? (fun e => e.1 == 168) = some (168, .iconst 0, 0, 0) := rfl
theorem te_93_169 : (pT M_93).find? (fun e => e.1 == 169) = some (169, .istore 4, 0, 0) := rfl
theorem te_93_171 : (pT M_93).find? (fun e => e.1 == 171) = some (171, .iload 4, 0, 0) := rfl
theorem te_93_173 : (pT M_93).find? (fun e => e.1 == 173) = some (173, .aload_n 0, 0, 0) := rfl
theorem te_93_174 : (pT M_93).find? (fun e => e.1 == 174) = some (174, .getfield 70, 6, 0) := rfl
theorem te_93_177 : (pT M_93).find? (fun e => e.1 == 177) = some (177, .if_icmp .ge 88, 0, 0) := rfl
theorem te_93_180 : (pT M_93).find? (fun e => e.1 == 180) = some (180, .iload_n 2, 0, 0) := rfl
theorem te_93_181 : (pT M_93).find? (fun e => e.1 == 181) = some (181, .iconst 1, 0, 0) := rfl
theorem te_93_182 : (pT M_93).find? (fun e => e.1 == 182) = some (182, .iload 4, 0, 0) := rfl
theorem te_93_184 : (pT M_93).find? (fun e => e.1 == 184) = some (184, .ishl, 0, 0) := rfl
theorem te_93_185 : (pT M_93).find? (fun e => e.1 == 185) = some (185, .iand, 0, 0) := rfl
theorem te_93_186 : (pT M_93).find? (fun e => e.1 == 186) = some (186, .ifCond .eq 73, 0, 0) := rfl
theorem te_93_189 : (pT M_93).find? (fun e => e.1 == 189) = some (189, .aload_n 0, 0, 0) := rfl
theorem te_93_190 : (pT M_93).find? (fun e => e.1 == 190) = some (190, .getfield 42, 6, 15) := rfl
theorem te_93_193 : (pT M_93).find? (fun e => e.1 == 193) = some (193, .iload_n 3, 0, 0) := rfl
theorem te_93_194 : (pT M_93).find? (fun e => e.1 == 194) = some (194, .aload_n 0, 0, 0) := rfl
theorem te_93_195 : (pT M_93).find? (fun e => e.1 == 195) = some (195, .getfield 42, 6, 15) := rfl
theorem te_93_198 : (pT M_93).find? (fun e => e.1 == 198) = some (198, .iload_n 3, 0, 0) := rfl
theorem te_93_199 : (pT M_93).find? (fun e => e.1 == 199) = some (199, .iaload, 0, 0) := rfl
theorem te_93_200 : (pT M_93).find? (fun e => e.1 == 200) = some (200, .aload_n 0, 0, 0) := rfl
theorem te_93_201 : (pT M_93).find? (fun e => e.1 == 201) = some (201, .getfield 36, 6, 13) := rfl
theorem te_93_204 : (pT M_93).find? (fun e => e.1 == 204) = some (204, .iload_n 3, 0, 0) := rfl
theorem te_93_205 : (pT M_93).find? (fun e => e.1 == 205) = some (205, .bipush 8, 0, 0) := rfl
theorem te_93_207 : (pT M_93).find? (fun e => e.1 == 207) = some (207, .imul, 0, 0) := rfl
theorem te_93_208 : (pT M_93).find? (fun e => e.1 == 208) = some (208, .iload 4, 0, 0) := rfl
theorem te_93_210 : (pT M_93).find? (fun e => e.1 == 210) = some (210, .iadd, 0, 0) := rfl
theorem te_93_211 : (pT M_93).find? (fun e => e.1 == 211) = some (211, .iaload, 0, 0) := rfl
theorem te_93_212 : (pT M_93).find? (fun e => e.1 == 212) = some (212, .aload_n 0, 0, 0) := rfl
theorem te_93_213 : (pT M_93).find? (fun e => e.1 == 213) = some (213, .getfield 42, 6, 15) := rfl
theorem te_93_216 : (pT M_93).find? (fun e => e.1 == 216) = some (216, .iload 4, 0, 0) := rfl
theorem te_93_218 : (pT M_93).find? (fun e => e.1 == 218) = some (218, .iaload, 0, 0) := rfl
theorem te_93_219 : (pT M_93).find? (fun e => e.1 == 219) = some (219, .iadd, 0, 0) := rfl
theorem te_93_220 : (pT M_93).find? (fun e => e.1 == 220) = some (220, .invokestatic 168, 40, 2) := rfl
theorem te_93_223 : (pT M_93).find? (fun e => e.1 == 223) = some (223, .iastore, 0, 0) := rfl
theorem te_93_224 : (pT M_93).find? (fun e => e.1 == 224) = some (224, .aload_n 0, 0, 0) := rfl
theorem te_93_225 : (pT M_93).find? (fun e => e.1 == 225) = some (225, .getfield 45, 6, 16) := rfl
theorem te_93_228 : (pT M_93).find? (fun e => e.1 == 228) = some (228, .iload_n 3, 0, 0) := rfl
theorem te_93_229 : (pT M_93).find? (fun e => e.1 == 229) = some (229, .aload_n 0, 0, 0) := rfl
theorem te_93_230 : (pT M_93).find? (fun e => e.1 == 230) = some (230, .getfield 45, 6, 16) := rfl
theorem te_93_233 : (pT M_93).find? (fun e => e.1 == 233) = some (233, .iload_n 3, 0, 0) := rfl
theorem te_93_234 : (pT M_93).find? (fun e => e.1 == 234) = some (234, .iaload, 0, 0) := rfl
theorem te_93_235 : (pT M_93).find? (fun e => e.1 == 235) = some (235, .aload_n 0, 0, 0) := rfl
theorem te_93_236 : (pT M_93).find? (fun e => e.1 == 236) = some (236, .getfield 45, 6, 16) := rfl
theorem te_93_239 : (pT M_93).find? (fun e => e.1 == 239) = some (239, .iload 4, 0, 0) := rfl
theorem te_93_241 : (pT M_93).find? (fun e => e.1 == 241) = some (241, .iaload, 0, 0) := rfl
theorem te_93_242 : (pT M_93).find? (fun e => e.1 == 242) = some (242, .aload_n 0, 0, 0) := rfl
theorem te_93_243 : (pT M_93).find? (fun e => e.1 == 243) = some (243, .getfield 36, 6, 13) := rfl
theorem te_93_246 : (pT M_93).find? (fun e => e.1 == 246) = some (246, .iload 4, 0, 0) := rfl
theorem te_93_248 : (pT M_93).find? (fun e => e.1 == 248) = some (248, .bipush 8, 0, 0) := rfl
theorem te_93_250 : (pT M_93).find? (fun e => e.1 == 250) = some (250, .imul, 0, 0) := rfl
theorem te_93_251 : (pT M_93).find? (fun e => e.1 == 251) = some (251, .iload_n 3, 0, 0) := rfl
theorem te_93_252 : (pT M_93).find? (fun e => e.1 == 252) = some (252, .iadd, 0, 0) := rfl
theorem te_93_253 : (pT M_93).find? (fun e => e.1 == 253) = some (253, .iaload, 0, 0) := rfl
theorem te_93_254 : (pT M_93).find? (fun e => e.1 == 254) = some (254, .iadd, 0, 0) := rfl
theorem te_93_255 : (pT M_93).find? (fun e => e.1 == 255) = some (255, .invokestatic 168, 40, 2) := rfl
theorem te_93_258 : (pT M_93).find? (fun e => e.1 == 258) = some (258, .iastore, 0, 0) := rfl
theorem te_93_259 : (pT M_93).find? (fun e => e.1 == 259) = some (259, .iinc 4 1, 0, 0) := rfl
theorem te_93_262 : (pT M_93).find? (fun e => e.1 == 262) = some (262, .goto (-91), 0, 0) := rfl
theorem te_93_265 : (pT M_93).find? (fun e => e.1 == 265) = some (265, .aload_n 0, 0, 0) := rfl
theorem te_93_266 : (pT M_93).find? (fun e => e.1 == 266) = some (266, .getfield 42, 6, 15) := rfl
theorem te_93_269 : (pT M_93).find? (fun e => e.1 == 269) = some (269, .iload_n 3, 0, 0) := rfl
theorem te_93_270 : (pT M_93).find? (fun e => e.1 == 270) = some (270, .iaload, 0, 0) := rfl
theorem te_93_271 : (pT M_93).find? (fun e => e.1 == 271) = some (271, .aload_n 0, 0, 0) := rfl
theorem te_93_272 : (pT M_93).find? (fun e => e.1 == 272) = some (272, .getfield 45, 6, 16) := rfl
theorem te_93_275 : (pT M_93).find? (fun e => e.1 == 275) = some (275, .iload_n 3, 0, 0) := rfl
theorem te_93_276 : (pT M_93).find? (fun e => e.1 == 276) = some (276, .iaload, 0, 0) := rfl
theorem te_93_277 : (pT M_93).find? (fun e => e.1 == 277) = some (277, .iadd, 0, 0) := rfl
theorem te_93_278 : (pT M_93).find? (fun e => e.1 == 278) = some (278, .ifCond .le 5, 0, 0) := rfl
theorem te_93_281 : (pT M_93).find? (fun e => e.1 == 281) = some (281, .iconst 0, 0, 0) := rfl
theorem te_93_282 : (pT M_93).find? (fun e => e.1 == 282) = some (282, .ireturn, 0, 0) := rfl
theorem te_93_283 : (pT M_93).find? (fun e => e.1 == 283) = some (283, .iinc 3 1, 0, 0) := rfl
theorem te_93_286 : (pT M_93).find? (fun e => e.1 == 286) = some (286, .goto (-142), 0, 0) := rfl
theorem te_93_289 : (pT M_93).find? (fun e => e.1 == 289) = some (289, .iconst 1, 0, 0) := rfl
theorem te_93_290 : (pT M_93).find? (fun e => e.1 == 290) = some (290, .ireturn, 0, 0) := rfl
theorem te_95_0 : (pT M_95).find? (fun e => e.1 == 0) = some (0, .iconst 0, 0, 0) := rfl
theorem te_95_1 : (pT M_95).find? (fun e => e.1 == 1) = some (1, .istore_n 2, 0, 0) := rfl
theorem te_95_2 : (pT M_95).find? (fun e => e.1 == 2) = some (2, .iload_n 2, 0, 0) := rfl
theorem te_95_3 : (pT M_95).find? (fun e => e.1 == 3) = some (3, .aload_n 0, 0, 0) := rfl
theorem te_95_4 : (pT M_95).find? (fun e => e.1 == 4) = some (4, .getfield 70, 6, 0) := rfl
theorem te_95_7 : (pT M_95).find? (fun e => e.1 == 7) = some (7, .if_icmp .ge 131, 0, 0) := rfl
theorem te_95_10 : (pT M_95).find? (fun e => e.1 == 10) = some (10, .aload_n 0, 0, 0) := rfl
theorem te_95_11 : (pT M_95).find? (fun e => e.1 == 11) = some (11, .getfield 48, 6, 17) := rfl
theorem te_95_14 : (pT M_95).find? (fun e => e.1 == 14) = some (14, .iload_n 1, 0, 0) := rfl
theorem te_95_15 : (pT M_95).find? (fun e => e.1 == 15) = some (15, .iaload, 0, 0) := rfl
theorem te_95_16 : (pT M_95).find? (fun e => e.1 == 16) = some (16, .iconst 1, 0, 0) := rfl
theorem te_95_17 : (pT M_95).find? (fun e => e.1 == 17) = some (17, .iload_n 2, 0, 0) := rfl
theorem te_95_18 : (pT M_95).find? (fun e => e.1 == 18) = some (18, .ishl, 0, 0) := rfl
theorem te_95_19 : (pT M_95).find? (fun e => e.1 == 19) = some (19, .iand, 0, 0) := rfl
theorem te_95_20 : (pT M_95).find? (fun e => e.1 == 20) = some (20, .ifCond .ne 6, 0, 0) := rfl
theorem te_95_23 : (pT M_95).find? (fun e => e.1 == 23) = some (23, .goto 109, 0, 0) := rfl
theorem te_95_26 : (pT M_95).find? (fun e => e.1 == 26) = some (26, .aload_n 0, 0, 0) := rfl
theorem te_95_27 : (pT M_95).find? (fun e => e.1 == 27) = some (27, .getfield 36, 6, 13) := rfl
theorem te_95_30 : (pT M_95).find? (fun e => e.1 == 30) = some (30, .iload_n 2, 0, 0) := rfl
theorem te_95_31 : (pT M_95).find? (fun e => e.1 == 31) = some (31, .bipush 8, 0, 0) := rfl
theorem te_95_33 : (pT M_95).find? (fun e => e.1 == 33) = some (33, .imul, 0, 0) := rfl
theorem te_95_34 : (pT M_95).find? (fun e => e.1 == 34) = some (34, .iload_n 1, 0, 0) := rfl
theorem te_95_35 : (pT M_95).find? (fun e => e.1 == 35) = some (35, .iadd, 0, 0) := rfl
theorem te_95_36 : (pT M_95).find? (fun e => e.1 == 36) = some (36, .aload_n 0, 0, 0) := rfl
theorem te_95_37 : (pT M_95).find? (fun e => e.1 == 37) = some (37, .getfield 42, 6, 15) := rfl
theorem te_95_40 : (pT M_95).find? (fun e => e.1 == 40) = some (40, .iload_n 2, 0, 0) := rfl
theorem te_95_41 : (pT M_95).find? (fun e => e.1 == 41) = some (41, .iaload, 0, 0) := rfl
theorem te_95_42 : (pT M_95).find? (fun e => e.1 == 42) = some (42, .iastore, 0, 0) := rfl
theorem te_95_43 : (pT M_95).find? (fun e => e.1 == 43) = some (43, .aload_n 0, 0, 0) := rfl
theorem te_95_44 : (pT M_95).find? (fun e => e.1 == 44) = some (44, .getfield 36, 6, 13) := rfl
theorem te_95_47 : (pT M_95).find? (fun e => e.1 == 47) = some (47, .iload_n 1, 0, 0) := rfl
theorem te_95_48 : (pT M_95).find? (fun e => e.1 == 48) = some (48, .bipush 8, 0, 0) := rfl
theorem te_95_50 : (pT M_95).find? (fun e => e.1 == 50) = some (50, .imul, 0, 0) := rfl
theorem te_95_51 : (pT M_95).find? (fun e => e.1 == 51) = some (51, .iload_n 2, 0, 0) := rfl
theorem te_95_52 : (pT M_95).find? (fun e => e.1 == 52) = some (52, .iadd, 0, 0) := rfl
theorem te_95_53 : (pT M_95).find? (fun e => e.1 == 53) = some (53, .aload_n 0, 0, 0) := rfl
theorem te_95_54 : (pT M_95).find? (fun e => e.1 == 54) = some (54, .getfield 45, 6, 16) := rfl
theorem te_95_57 : (pT M_95).find? (fun e => e.1 == 57) = some (57, .iload_n 2, 0, 0) := rfl
theorem te_95_58 : (pT M_95).find? (fun e => e.1 == 58) = some (58, .iaload, 0, 0) := rfl
theorem te_95_59 : (pT M_95).find? (fun e => e.1 == 59) = some (59, .iastore, 0, 0) := rfl
theorem te_95_60 : (pT M_95).find? (fun e => e.1 == 60) = some (60, .iconst 0, 0, 0) := rfl
theorem te_95_61 : (pT M_95).find? (fun e => e.1 == 61) = some (61, .istore_n 3, 0, 0) := rfl
theorem te_95_62 : (pT M_95).find? (fun e => e.1 == 62) = some (62, .iload_n 3, 0, 0) := rfl
theorem te_95_63 : (pT M_95).find? (fun e => e.1 == 63) = some (63, .aload_n 0, 0, 0) := rfl
theorem te_95_64 : (pT M_95).find? (fun e => e.1 == 64) = some (64, .getfield 70, 6, 0) := rfl
theorem te_95_67 : (pT M_95).find? (fun e => e.1 == 67) = some (67, .if_icmp .ge 65, 0, 0) := rfl
theorem te_95_70 : (pT M_95).find? (fun e => e.1 == 70) = some (70, .iload_n 3, 0, 0) := rfl
theorem te_95_71 : (pT M_95).find? (fun e => e.1 == 71) = some (71, .iload_n 2, 0, 0) := rfl
theorem te_95_72 : (pT M_95).find? (fun e => e.1 == 72) = some (72, .if_icmp .eq 54, 0, 0) := rfl
theorem te_95_75 : (pT M_95).find? (fun e => e.1 == 75) = some (75, .aload_n 0, 0, 0) := rfl
theorem te_95_76 : (pT M_95).find? (fun e => e.1 == 76) = some (76, .getfield 48, 6, 17) := rfl
theorem te_95_79 : (pT M_95).find? (fun e => e.1 == 79) = some (79, .iload_n 1, 0, 0) := rfl
theorem te_95_80 : (pT M_95).find? (fun e => e.1 == 80) = some (80, .iaload, 0, 0) := rfl
theorem te_95_81 : (pT M_95).find? (fun e => e.1 == 81) = some (81, .iconst 1, 0, 0) := rfl
theorem te_95_82 : (pT M_95).find? (fun e => e.1 == 82) = some (82, .iload_n 3, 0, 0) := rfl
theorem te_95_83 : (pT M_95).find? (fun e => e.1 == 83) = some (83, .ishl, 0, 0) := rfl
theorem te_95_84 : (pT M_95).find? (fun e => e.1 == 84) = some (84, .iand, 0, 0) := rfl
theorem te_95_85 : (pT M_95).find? (fun e => e.1 == 85) = some (85, .ifCond .eq 41, 0, 0) := rfl
theorem te_95_88 : (pT M_95).find? (fun e => e.1 == 88) = some (88, .iload_n 2, 0, 0) := rfl
theorem te_95_89 : (pT M_95).find? (fun e => e.1 == 89) = some (89, .bipush 8, 0, 0) := rfl
theorem te_95_91 : (pT M_95).find? (fun e => e.1 == 91) = some (91, .imul, 0, 0) := rfl
theorem te_95_92 : (pT M_95).find? (fun e => e.1 == 92) = some (92, .iload_n 3, 0, 0) := rfl
theorem te_95_93 : (pT M_95).find? (fun e => e.1 == 93) = some (93, .iadd, 0, 0) := rfl
theorem te_95_94 : (pT M_95).find? (fun e => e.1 == 94) = some (94, .istore 4, 0, 0) := rfl
theorem te_95_96 : (pT M_95).find? (fun e => e.1 == 96) = some (96, .aload_n 0, 0, 0) := rfl
theorem te_95_97 : (pT M_95).find? (fun e => e.1 == 97) = some (97, .getfield 36, 6, 13) := rfl
theorem te_95_100 : (pT M_95).find? (fun e => e.1 == 100) = some (100, .iload 4, 0, 0) := rfl
theorem te_95_102 : (pT M_95).find? (fun e => e.1 == 102) = some (102, .aload_n 0, 0, 0) := rfl
theorem te_95_103 : (pT M_95).find? (fun e => e.1 == 103) = some (103, .getfield 36, 6, 13) := rfl
theorem te_95_106 : (pT M_95).find? (fun e => e.1 == 106) = some (106, .iload 4, 0, 0) := rfl
theorem te_95_108 : (pT M_95).find? (fun e => e.1 == 108) = some (108, .iaload, 0, 0) := rfl
theorem te_95_109 : (pT M_95).find? (fun e => e.1 == 109) = some (109, .aload_n 0, 0, 0) := rfl
theorem te_95_110 : (pT M_95).find? (fun e => e.1 == 110) = some (110, .getfield 42, 6, 15) := rfl
theorem te_95_113 : (pT M_95).find? (fun e => e.1 == 113) = some (113, .iload_n 2, 0, 0) := rfl
theorem te_95_114 : (pT M_95).find? (fun e => e.1 == 114) = some (114, .iaload, 0, 0) := rfl
theorem te_95_115 : (pT M_95).find? (fun e => e.1 == 115) = some (115, .aload_n 0, 0, 0) := rfl
theorem te_95_116 : (pT M_95).find? (fun e => e.1 == 116) = some (116, .getfield 45, 6, 16) := rfl
theorem te_95_119 : (pT M_95).find? (fun e => e.1 == 119) = some (119, .iload_n 3, 0, 0) := rfl
theorem te_95_120 : (pT M_95).find? (fun e => e.1 == 120) = some (120, .iaload, 0, 0) := rfl
theorem te_95_121 : (pT M_95).find? (fun e => e.1 == 121) = some (121, .iadd, 0, 0) := rfl
theorem te_95_122 : (pT M_95).find? (fun e => e.1 == 122) = some (122, .invokestatic 168, 40, 2) := rfl
theorem te_95_125 : (pT M_95).find? (fun e => e.1 == 125) = some (125, .iastore, 0, 0) := rfl
theorem te_95_126 : (pT M_95).find? (fun e => e.1 == 126) = some (126, .iinc 3 1, 0, 0) := rfl
theorem te_95_129 : (pT M_95).find? (fun e => e.1 == 129) = some (129, .goto (-67), 0, 0) := rfl
theorem te_95_132 : (pT M_95).find? (fun e => e.1 == 132) = some (132, .iinc 2 1, 0, 0) := rfl
theorem te_95_135 : (pT M_95).find? (fun e => e.1 == 135) = some (135, .goto (-133), 0, 0) := rfl
theorem te_95_138 : (pT M_95).find? (fun e => e.1 == 138) = some (138, .return_, 0, 0) := rfl
theorem te_97_0 : (pT M_97).find? (fun e => e.1 == 0) = some (0, .aload_n 0, 0, 0) := rfl
theorem te_97_1 : (pT M_97).find? (fun e => e.1 == 1) = some (1, .getfield 109, 6, 2) := rfl
theorem te_97_4 : (pT M_97).find? (fun e => e.1 == 4) = some (4, .istore_n 2, 0, 0) := rfl
theorem te_97_5 : (pT M_97).find? (fun e => e.1 == 5) = some (5, .aload_n 0, 0, 0) := rfl
theorem te_97_6 : (pT M_97).find? (fun e => e.1 == 6) = some (6, .getfield 18, 6, 7) := rfl
theorem te_97_9 : (pT M_97).find? (fun e => e.1 == 9) = some (9, .iload_n 1, 0, 0) := rfl
theorem te_97_10 : (pT M_97).find? (fun e => e.1 == 10) = some (10, .iaload, 0, 0) := rfl
theorem te_97_11 : (pT M_97).find? (fun e => e.1 == 11) = some (11, .istore_n 3, 0, 0) := rfl
theorem te_97_12 : (pT M_97).find? (fun e => e.1 == 12) = some (12, .iconst 0, 0, 0) := rfl
theorem te_97_13 : (pT M_97).find? (fun e => e.1 == 13) = some (13, .istore 4, 0, 0) := rfl
theorem te_97_15 : (pT M_97).find? (fun e => e.1 == 15) = some (15, .iload 4, 0, 0) := rfl
theorem te_97_17 : (pT M_97).find? (fun e => e.1 == 17) = some (17, .iconst 4, 0, 0) := rfl
theorem te_97_18 : (pT M_97).find? (fun e => e.1 == 18) = some (18, .if_icmp .ge 63, 0, 0) := rfl
theorem te_97_21 : (pT M_97).find? (fun e => e.1 == 21) = some (21, .aload_n 0, 0, 0) := rfl
theorem te_97_22 : (pT M_97).find? (fun e => e.1 == 22) = some (22, .getfield 27, 6, 10) := rfl
theorem te_97_25 : (pT M_97).find? (fun e => e.1 == 25) = some (25, .iload_n 1, 0, 0) := rfl
theorem te_97_26 : (pT M_97).find? (fun e => e.1 == 26) = some (26, .iconst 4, 0, 0) := rfl
theorem te_97_27 : (pT M_97).find? (fun e => e.1 == 27) = some (27, .imul, 0, 0) := rfl
theorem te_97_28 : (pT M_97).find? (fun e => e.1 == 28) = some (28, .iload 4, 0, 0) := rfl
theorem te_97_30 : (pT M_97).find? (fun e => e.1 == 30) = some (30, .iadd, 0, 0) := rfl
theorem te_97_31 : (pT M_97).find? (fun e => e.1 == 31) = some (31, .iaload, 0, 0) := rfl
theorem te_97_32 : (pT M_97).find? (fun e => e.1 == 32) = some (32, .istore 5, 0, 0) := rfl
theorem te_97_34 : (pT M_97).find? (fun e => e.1 == 34) = some (34, .iload 5, 0, 0) := rfl
theorem te_97_36 : (pT M_97).find? (fun e => e.1 == 36) = some (36, .ifCond .le 39, 0, 0) := rfl
theorem te_97_39 : (pT M_97).find? (fun e => e.1 == 39) = some (39, .iload_n 2, 0, 0) := rfl
theorem te_97_40 : (pT M_97).find? (fun e => e.1 == 40) = some (40, .aload_n 0, 0, 0) := rfl
theorem te_97_41 : (pT M_97).find? (fun e => e.1 == 41) = some (41, .aload_n 0, 0, 0) := rfl
theorem te_97_42 : (pT M_97).find? (fun e => e.1 == 42) = some (42, .getfield 30, 6, 11) := rfl
theorem te_97_45 : (pT M_97).find? (fun e => e.1 == 45) = some (45, .iload_n 3, 0, 0) := rfl
theorem te_97_46 : (pT M_97).find? (fun e => e.1 == 46) = some (46, .iconst 4, 0, 0) := rfl
theorem te_97_47 : (pT M_97).find? (fun e => e.1 == 47) = some (47, .imul, 0, 0) := rfl
theorem te_97_48 : (pT M_97).find? (fun e => e.1 == 48) = some (48, .aload_n 0, 0, 0) := rfl
theorem te_97_49 : (pT M_97).find? (fun e => e.1 == 49) = some (49, .getfield 21, 6, 8) := rfl
theorem te_97_52 : (pT M_97).find? (fun e => e.1 == 52) = some (52, .iload_n 3, 0, 0) := rfl
theorem te_97_53 : (pT M_97).find? (fun e => e.1 == 53) = some (53, .iaload, 0, 0) := rfl
theorem te_97_54 : (pT M_97).find? (fun e => e.1 == 54) = some (54, .iadd, 0, 0) := rfl
theorem te_97_55 : (pT M_97).find? (fun e => e.1 == 55) = some (55, .iload 5, 0, 0) := rfl
theorem te_97_57 : (pT M_97).find? (fun e => e.1 == 57) = some (57, .isub, 0, 0) := rfl
theorem te_97_58 : (pT M_97).find? (fun e => e.1 == 58) = some (58, .iconst 1, 0, 0) := rfl
theorem te_97_59 : (pT M_97).find? (fun e => e.1 == 59) = some (59, .iadd, 0, 0) := rfl
theorem te_97_60 : (pT M_97).find? (fun e => e.1 == 60) = some (60, .iaload, 0, 0) := rfl
theorem te_97_61 : (pT M_97).find? (fun e => e.1 == 61) = some (61, .aload_n 0, 0, 0) := rfl
theorem te_97_62 : (pT M_97).find? (fun e => e.1 == 62) = some (62, .getfield 103, 6, 1) := rfl
theorem te_97_65 : (pT M_97).find? (fun e => e.1 == 65) = some (65, .iload 4, 0, 0) := rfl
theorem te_97_67 : (pT M_97).find? (fun e => e.1 == 67) = some (67, .isub, 0, 0) := rfl
theorem te_97_68 : (pT M_97).find? (fun e => e.1 == 68) = some (68, .invokevirtual 147, 98, 0) := rfl
theorem te_97_71 : (pT M_97).find? (fun e => e.1 == 71) = some (71, .iconst (-1), 0, 0) := rfl
theorem te_97_72 : (pT M_97).find? (fun e => e.1 == 72) = some (72, .ixor, 0, 0) := rfl
theorem te_97_73 : (pT M_97).find? (fun e => e.1 == 73) = some (73, .iand, 0, 0) := rfl
theorem te_97_74 : (pT M_97).find? (fun e => e.1 == 74) = some (74, .istore_n 2, 0, 0) := rfl
theorem te_97_75 : (pT M_97).find? (fun e => e.1 == 75) = some (75, .iinc 4 1, 0, 0) := rfl
theorem te_97_78 : (pT M_97).find? (fun e => e.1 == 78) = some (78, .goto (-63), 0, 0) := rfl
theorem te_97_81 : (pT M_97).find? (fun e => e.1 == 81) = some (81, .aload_n 0, 0, 0) := rfl
theorem te_97_82 : (pT M_97).find? (fun e => e.1 == 82) = some (82, .getfield 48, 6, 17) := rfl
theorem te_97_85 : (pT M_97).find? (fun e => e.1 == 85) = some (85, .iload_n 1, 0, 0) := rfl
theorem te_97_86 : (pT M_97).find? (fun e => e.1 == 86) = some (86, .iaload, 0, 0) := rfl
theorem te_97_87 : (pT M_97).find? (fun e => e.1 == 87) = some (87, .aload_n 0, 0, 0) := rfl
theorem te_97_88 : (pT M_97).find? (fun e => e.1 == 88) = some (88, .getfield 51, 6, 18) := rfl
theorem te_97_91 : (pT M_97).find? (fun e => e.1 == 91) = some (91, .iload_n 1, 0, 0) := rfl
theorem te_97_92 : (pT M_97).find? (fun e => e.1 == 92) = some (92, .iaload, 0, 0) := rfl
theorem te_97_93 : (pT M_97).find? (fun e => e.1 == 93) = some (93, .ior, 0, 0) := rfl
theorem te_97_94 : (pT M_97).find? (fun e => e.1 == 94) = some (94, .aload_n 0, 0, 0) := rfl
theorem te_97_95 : (pT M_97).find? (fun e => e.1 == 95) = some (95, .getfield 97, 6, 4) := rfl
theorem te_97_98 : (pT M_97).find? (fun e => e.1 == 98) = some (98, .iand, 0, 0) := rfl
theorem te_97_99 : (pT M_97).find? (fun e => e.1 == 99) = some (99, .istore 4, 0, 0) := rfl
theorem te_97_101 : (pT M_97).find? (fun e => e.1 == 101) = some (101, .iconst 0, 0, 0) := rfl
theorem te_97_102 : (pT M_97).find? (fun e => e.1 == 102) = some (102, .istore 5, 0, 0) := rfl
theorem te_97_104 : (pT M_97).find? (fun e => e.1 == 104) = some (104, .iload 5, 0, 0) := rfl
theorem te_97_106 : (pT M_97).find? (fun e => e.1 == 106) = some (106, .aload_n 0, 0, 0) := rfl
theorem te_97_107 : (pT M_97).find? (fun e => e.1 == 107) = some (107, .getfield 70, 6, 0) := rfl
theorem te_97_110 : (pT M_97).find? (fun e => e.1 == 110) = some (110, .if_icmp .ge 96, 0, 0) := rfl
theorem te_97_113 : (pT M_97).find? (fun e => e.1 == 113) = some (113, .iload 4, 0, 0) := rfl
theorem te_97_115 : (pT M_97).find? (fun e => e.1 == 115) = some (115, .ifCond .eq 91, 0, 0) := rfl
theorem te_97_118 : (pT M_97).find? (fun e => e.1 == 118) = some (118, .iload_n 2, 0, 0) := rfl
theorem te_97_119 : (pT M_97).find? (fun e => e.1 == 119) = some (119, .ifCond .eq 87, 0, 0) := rfl
theorem te_97_122 : (pT M_97).find? (fun e => e.1 == 122) = some (122, .iload 4, 0, 0) := rfl
theorem te_97_124 : (pT M_97).find? (fun e => e.1 == 124) = some (124, .iconst 1, 0, 0) := rfl
theorem te_97_125 : (pT M_97).find? (fun e => e.1 == 125) = some (125, .iload 5, 0, 0) := rfl
theorem te_97_127 : (pT M_97).find? (fun e => e.1 == 127) = some (127, .ishl, 0, 0) := rfl
theorem te_97_128 : (pT M_97).find? (fun e => e.1 == 128) = some (128, .iand, 0, 0) := rfl
theorem te_97_129 : (pT M_97).find? (fun e => e.1 == 129) = some (129, .ifCond .ne 6, 0, 0) := rfl
theorem te_97_132 : (pT M_97).find? (fun e => e.1 == 132) = some (132, .goto 68, 0, 0) := rfl
theorem te_97_135 : (pT M_97).find? (fun e => e.1 == 135) = some (135, .aload_n 0, 0, 0) := rfl
theorem te_97_136 : (pT M_97).find? (fun e => e.1 == 136) = some (136, .getfield 48, 6, 17) := rfl
theorem te_97_139 : (pT M_97).find? (fun e => e.1 == 139) = some (139, .iload_n 1, 0, 0) := rfl
theorem te_97_140 : (pT M_97).find? (fun e => e.1 == 140) = some (140, .iaload, 0, 0) := rfl
theorem te_97_141 : (pT M_97).find? (fun e => e.1 == 141) = some (141, .iconst 1, 0, 0) := rfl
theorem te_97_142 : (pT M_97).find? (fun e => e.1 == 142) = some (142, .iload 5, 0, 0) := rfl
theorem te_97_144 : (pT M_97).find? (fun e => e.1 == 144) = some (144, .ishl, 0, 0) := rfl
theorem te_97_145 : (pT M_97).find? (fun e => e.1 == 145) = some (145, .iand, 0, 0) := rfl
theorem te_97_146 : (pT M_97).find? (fun e => e.1 == 146) = some (146, .ifCond .eq 16, 0, 0) := rfl
theorem te_97_149 : (pT M_97).find? (fun e => e.1 == 149) = some (149, .iload_n 2, 0, 0) := rfl
theorem te_97_150 : (pT M_97).find? (fun e => e.1 == 150) = some (150, .aload_n 0, 0, 0) := rfl
theorem te_97_151 : (pT M_97).find? (fun e => e.1 == 151) = some (151, .iload_n 1, 0, 0) := rfl
theorem te_97_152 : (pT M_97).find? (fun e => e.1 == 152) = some (152, .iload 5, 0, 0) := rfl
theorem te_97_154 : (pT M_97).find? (fun e => e.1 == 154) = some (154, .invokevirtual 151, 99, 0) := rfl
theorem te_97_157 : (pT M_97).find? (fun e => e.1 == 157) = some (157, .iand, 0, 0) := rfl
theorem te_97_158 : (pT M_97).find? (fun e => e.1 == 158) = some (158, .istore_n 2, 0, 0) := rfl
theorem te_97_159 : (pT M_97).find? (fun e => e.1 == 159) = some (159, .goto 41, 0, 0) := rfl
theorem te_97_162 : (pT M_97).find? (fun e => e.1 == 162) = some (162, .iload 5, 0, 0) := rfl
theorem te_97_164 : (pT M_97).find? (fun e => e.1 == 164) = some (164, .iload_n 1, 0, 0) := rfl
theorem te_97_165 : (pT M_97).find? (fun e => e.1 == 165) = some (165, .if_icmp .ge 21, 0, 0) := rfl
theorem te_97_168 : (pT M_97).find? (fun e => e.1 == 168) = some (168, .iload_n 2, 0, 0) := rfl
theorem te_97_169 : (pT M_97).find? (fun e => e.1 == 169) = some (169, .aload_n 0, 0, 0) := rfl
theorem te_97_170 : (pT M_97).find? (fun e => e.1 == 170) = some (170, .getfield 109, 6, 2) := rfl
theorem te_97_173 : (pT M_97).find? (fun e => e.1 == 173) = some (173, .aload_n 0, 0, 0) := rfl
theorem te_97_174 : (pT M_97).find? (fun e => e.1 == 174) = some (174, .getfield 9, 6, 5) := rfl
theorem te_97_177 : (pT M_97).find? (fun e => e.1 == 177) = some (177, .iload 5, 0, 0) := rfl
theorem te_97_179 : (pT M_97).find? (fun e => e.1 == 179) = some (179, .iaload, 0, 0) := rfl
theorem te_97_180 : (pT M_97).find? (fun e => e.1 == 180) = some (180, .ishl, 0, 0) := rfl
theorem te_97_181 : (pT M_97).find? (fun e => e.1 == 181) = some (181, .iand, 0, 0) := rfl
theorem te_97_182 : (pT M_97).find? (fun e => e.1 == 182) = some (182, .istore_n 2, 0, 0) := rfl
theorem te_97_183 : (pT M_97).find? (fun e => e.1 == 183) = some (183, .goto 17, 0, 0) := rfl
theorem te_97_186 : (pT M_97).find? (fun e => e.1 == 186) = some (186, .iload_n 2, 0, 0) := rfl
theorem te_97_187 : (pT M_97).find? (fun e => e.1 == 187) = some (187, .iconst 2, 0, 0) := rfl
theorem te_97_188 : (pT M_97).find? (fun e => e.1 == 188) = some (188, .aload_n 0, 0, 0) := rfl
theorem te_97_189 : (pT M_97).find? (fun e => e.1 == 189) = some (189, .getfield 9, 6, 5) := rfl
theorem te_97_192 : (pT M_97).find? (fun e => e.1 == 192) = some (192, .iload 5, 0, 0) := rfl
theorem te_97_194 : (pT M_97).find? (fun e => e.1 == 194) = some (194, .iaload, 0, 0) := rfl
theorem te_97_195 : (pT M_97).find? (fun e => e.1 == 195) = some (195, .ishl, 0, 0) := rfl
theorem te_97_196 : (pT M_97).find? (fun e => e.1 == 196) = some (196, .iconst 1, 0, 0) := rfl
theorem te_97_197 : (pT M_97).find? (fun e => e.1 == 197) = some (197, .isub, 0, 0) := rfl
theorem te_97_198 : (pT M_97).find? (fun e => e.1 == 198) = some (198, .iand, 0, 0) := rfl
theorem te_97_199 : (pT M_97).find? (fun e => e.1 == 199) = some (199, .istore_n 2, 0, 0) := rfl
theorem te_97_200 : (pT M_97).find? (fun e => e.1 == 200) = some (200, .iinc 5 1, 0, 0) := rfl
theorem te_97_203 : (pT M_97).find? (fun e => e.1 == 203) = some (203, .goto (-99), 0, 0) := rfl
theorem te_97_206 : (pT M_97).find? (fun e => e.1 == 206) = some (206, .iload_n 2, 0, 0) := rfl
theorem te_97_207 : (pT M_97).find? (fun e => e.1 == 207) = some (207, .ireturn, 0, 0) := rfl
theorem te_98_0 : (pT M_98).find? (fun e => e.1 == 0) = some (0, .iload_n 1, 0, 0) := rfl
theorem te_98_1 : (pT M_98).find? (fun e => e.1 == 1) = some (1, .iload_n 2, 0, 0) := rfl
theorem te_98_2 : (pT M_98).find? (fun e => e.1 == 2) = some (2, .ishl, 0, 0) := rfl
theorem te_98_3 : (pT M_98).find? (fun e => e.1 == 3) = some (3, .iload_n 1, 0, 0) := rfl
theorem te_98_4 : (pT M_98).find? (fun e => e.1 == 4) = some (4, .aload_n 0, 0, 0) := rfl
theorem te_98_5 : (pT M_98).find? (fun e => e.1 == 5) = some (5, .getfield 103, 6, 1) := rfl
theorem te_98_8 : (pT M_98).find? (fun e => e.1 == 8) = some (8, .iload_n 2, 0, 0) := rfl
theorem te_98_9 : (pT M_98).find? (fun e => e.1 == 9) = some (9, .isub, 0, 0) := rfl
theorem te_98_10 : (pT M_98).find? (fun e => e.1 == 10) = some (10, .ishr, 0, 0) := rfl
theorem te_98_11 : (pT M_98).find? (fun e => e.1 == 11) = some (11, .ior, 0, 0) := rfl
theorem te_98_12 : (pT M_98).find? (fun e => e.1 == 12) = some (12, .aload_n 0, 0, 0) := rfl
theorem te_98_13 : (pT M_98).find? (fun e => e.1 == 13) = some (13, .getfield 109, 6, 2) := rfl
theorem te_98_16 : (pT M_98).find? (fun e => e.1 == 16) = some (16, .iand, 0, 0) := rfl
theorem te_98_17 : (pT M_98).find? (fun e => e.1 == 17) = some (17, .ireturn, 0, 0) := rfl
theorem te_99_0 : (pT M_99).find? (fun e => e.1 == 0) = some (0, .aload_n 0, 0, 0) := rfl
theorem te_99_1 : (pT M_99).find? (fun e => e.1 == 1) = some (1, .getfield 36, 6, 13) := rfl
theorem te_99_4 : (pT M_99).find? (fun e => e.1 == 4) = some (4, .iload_n 2, 0, 0) := rfl
theorem te_99_5 : (pT M_99).find? (fun e => e.1 == 5) = some (5, .bipush 8, 0, 0) := rfl
theorem te_99_7 : (pT M_99).find? (fun e => e.1 == 7) = some (7, .imul, 0, 0) := rfl
theorem te_99_8 : (pT M_99).find? (fun e => e.1 == 8) = some (8, .iload_n 1, 0, 0) := rfl
theorem te_99_9 : (pT M_99).find? (fun e => e.1 == 9) = some (9, .iadd, 0, 0) := rfl
theorem te_99_10 : (pT M_99).find? (fun e => e.1 == 10) = some (10, .iaload, 0, 0) := rfl
theorem te_99_11 : (pT M_99).find? (fun e => e.1 == 11) = some (11, .istore_n 3, 0, 0) := rfl
theorem te_99_12 : (pT M_99).find? (fun e => e.1 == 12) = some (12, .iconst 1, 0, 0) := rfl
theorem te_99_13 : (pT M_99).find? (fun e => e.1 == 13) = some (13, .aload_n 0, 0, 0) := rfl
theorem te_99_14 : (pT M_99).find? (fun e => e.1 == 14) = some (14, .getfield 36, 6, 13) := rfl
theorem te_99_17 : (pT M_99).find? (fun e => e.1 == 17) = some (17, .iload_n 1, 0, 0) := rfl
theorem te_99_18 : (pT M_99).find? (fun e => e.1 == 18) = some (18, .bipush 8, 0, 0) := rfl
theorem te_99_20 : (pT M_99).find? (fun e => e.1 == 20) = some (20, .imul, 0, 0) := rfl
theorem te_99_21 : (pT M_99).find? (fun e => e.1 == 21) = some (21, .iload_n 2, 0, 0) := rfl
theorem te_99_22 : (pT M_99).find? (fun e => e.1 == 22) = some (22, .iadd, 0, 0) := rfl
theorem te_99_23 : (pT M_99).find? (fun e => e.1 == 23) = some (23, .iaload, 0, 0) := rfl
theorem te_99_24 : (pT M_99).find? (fun e => e.1 == 24) = some (24, .isub, 0, 0) := rfl
theorem te_99_25 : (pT M_99).find? (fun e => e.1 == 25) = some (25, .iload_n 3, 0, 0) := rfl
theorem te_99_26 : (pT M_99).find? (fun e => e.1 == 26) = some (26, .isub, 0, 0) := rfl
theorem te_99_27 : (pT M_99).find? (fun e => e.1 == 27) = some (27, .istore 4, 0, 0) := rfl
theorem te_99_29 : (pT M_99).find? (fun e => e.1 == 29) = some (29, .iload 4, 0, 0) := rfl
theorem te_99_31 : (pT M_99).find? (fun e => e.1 == 31) = some (31, .aload_n 0, 0, 0) := rfl
theorem te_99_32 : (pT M_99).find? (fun e => e.1 == 32) = some (32, .getfield 103, 6, 1) := rfl
theorem te_99_35 : (pT M_99).find? (fun e => e.1 == 35) = some (35, .if_icmp .lt 8, 0, 0) := rfl
theorem te_99_38 : (pT M_99).find? (fun e => e.1 == 38) = some (38, .aload_n 0, 0, 0) := rfl
theorem te_99_39 : (pT M_99).find? (fun e => e.1 == 39) = some (39, .getfield 109, 6, 2) := rfl
theorem te_99_42 : (pT M_99).find? (fun e => e.1 == 42) = some (42, .ireturn, 0, 0) := rfl
theorem te_99_43 : (pT M_99).find? (fun e => e.1 == 43) = some (43, .aload_n 0, 0, 0) := rfl
theorem te_99_44 : (pT M_99).find? (fun e => e.1 == 44) = some (44, .getfield 9, 6, 5) := rfl
theorem te_99_47 : (pT M_99).find? (fun e => e.1 == 47) = some (47, .iload_n 2, 0, 0) := rfl
theorem te_99_48 : (pT M_99).find? (fun e => e.1 == 48) = some (48, .iaload, 0, 0) := rfl
theorem te_99_49 : (pT M_99).find? (fun e => e.1 == 49) = some (49, .iload_n 3, 0, 0) := rfl
theorem te_99_50 : (pT M_99).find? (fun e => e.1 == 50) = some (50, .iadd, 0, 0) := rfl
theorem te_99_51 : (pT M_99).find? (fun e => e.1 == 51) = some (51, .aload_n 0, 0, 0) := rfl
theorem te_99_52 : (pT M_99).find? (fun e => e.1 == 52) = some (52, .getfield 103, 6, 1) := rfl
theorem te_99_55 : (pT M_99).find? (fun e => e.1 == 55) = some (55, .invokestatic 154, 94, 2) := rfl
theorem te_99_58 : (pT M_99).find? (fun e => e.1 == 58) = some (58, .istore 5, 0, 0) := rfl
theorem te_99_60 : (pT M_99).find? (fun e => e.1 == 60) = some (60, .iload 4, 0, 0) := rfl
theorem te_99_62 : (pT M_99).find? (fun e => e.1 == 62) = some (62, .ifCond .gt 7, 0, 0) := rfl
theorem te_99_65 : (pT M_99).find? (fun e => e.1 == 65) = some (65, .iconst 0, 0, 0) := rfl
theorem te_99_66 : (pT M_99).find? (fun e => e.1 == 66) = some (66, .goto 9, 0, 0) := rfl
theorem te_99_69 : (pT M_99).find? (fun e => e.1 == 69) = some (69, .iconst 1, 0, 0) := rfl
theorem te_99_70 : (pT M_99).find? (fun e => e.1 == 70) = some (70, .iload 4, 0, 0) := rfl
theorem te_99_72 : (pT M_99).find? (fun e => e.1 == 72) = some (72, .ishl, 0, 0) := rfl
theorem te_99_73 : (pT M_99).find? (fun e => e.1 == 73) = some (73, .iconst 1, 0, 0) := rfl
theorem te_99_74 : (pT M_99).find? (fun e => e.1 == 74) = some (74, .isub, 0, 0) := rfl
theorem te_99_75 : (pT M_99).find? (fun e => e.1 == 75) = some (75, .istore 6, 0, 0) := rfl
theorem te_99_77 : (pT M_99).find? (fun e => e.1 == 77) = some (77, .iload 6, 0, 0) := rfl
theorem te_99_79 : (pT M_99).find? (fun e => e.1 == 79) = some (79, .iload 5, 0, 0) := rfl
theorem te_99_81 : (pT M_99).find? (fun e => e.1 == 81) = some (81, .ishl, 0, 0) := rfl
theorem te_99_82 : (pT M_99).find? (fun e => e.1 == 82) = some (82, .iload 6, 0, 0) := rfl
theorem te_99_84 : (pT M_99).find? (fun e => e.1 == 84) = some (84, .aload_n 0, 0, 0) := rfl
theorem te_99_85 : (pT M_99).find? (fun e => e.1 == 85) = some (85, .getfield 103, 6, 1) := rfl
theorem te_99_88 : (pT M_99).find? (fun e => e.1 == 88) = some (88, .iload 5, 0, 0) := rfl
theorem te_99_90 : (pT M_99).find? (fun e => e.1 == 90) = some (90, .isub, 0, 0) := rfl
theorem te_99_91 : (pT M_99).find? (fun e => e.1 == 91) = some (91, .ishr, 0, 0) := rfl
theorem te_99_92 : (pT M_99).find? (fun e => e.1 == 92) = some (92, .ior, 0, 0) := rfl
theorem te_99_93 : (pT M_99).find? (fun e => e.1 == 93) = some (93, .aload_n 0, 0, 0) := rfl
theorem te_99_94 : (pT M_99).find? (fun e => e.1 == 94) = some (94, .getfield 109, 6, 2) := rfl
theorem te_99_97 : (pT M_99).find? (fun e => e.1 == 97) = some (97, .iand, 0, 0) := rfl
theorem te_99_98 : (pT M_99).find? (fun e => e.1 == 98) = some (98, .ireturn, 0, 0) := rfl
theorem te_100_0 : (pT M_100).find? (fun e => e.1 == 0) = some (0, .iload_n 2, 0, 0) := rfl
theorem te_100_1 : (pT M_100).find? (fun e => e.1 == 1) = some (1, .invokestatic 142, 39, 2) := rfl
theorem te_100_4 : (pT M_100).find? (fun e => e.1 == 4) = some (4, .aload_n 0, 0, 0) := rfl
theorem te_100_5 : (pT M_100).find? (fun e => e.1 == 5) = some (5, .getfield 54, 6, 19) := rfl
theorem te_100_8 : (pT M_100).find? (fun e => e.1 == 8) = some (8, .iload_n 3, 0, 0) := rfl
theorem te_100_9 : (pT M_100).find? (fun e => e.1 == 9) = some (9, .iaload, 0, 0) := rfl
theorem te_100_10 : (pT M_100).find? (fun e => e.1 == 10) = some (10, .imul, 0, 0) := rfl
theorem te_100_11 : (pT M_100).find? (fun e => e.1 == 11) = some (11, .iload 4, 0, 0) := rfl
theorem te_100_13 : (pT M_100).find? (fun e => e.1 == 13) = some (13, .invokestatic 142, 39, 2) := rfl
theorem te_100_16 : (pT M_100).find? (fun e => e.1 == 16) = some (16, .aload_n 0, 0, 0) := rfl
theorem te_100_17 : (pT M_100).find? (fun e => e.1 == 17) = some (17, .getfield 54, 6, 19) := rfl
theorem te_100_20 : (pT M_100).find? (fun e => e.1 == 20) = some (20, .iload_n 1, 0, 0) := rfl
theorem te_100_21 : (pT M_100).find? (fun e => e.1 == 21) = some (21, .iaload, 0, 0) := rfl
theorem te_100_22 : (pT M_100).find? (fun e => e.1 == 22) = some (22, .imul, 0, 0) := rfl
theorem te_100_23 : (pT M_100).find? (fun e => e.1 == 23) = some (23, .if_icmp .ge 7, 0, 0) := rfl
theorem te_100_26 : (pT M_100).find? (fun e => e.1 == 26) = some (26, .iconst 1, 0, 0) := rfl
theorem te_100_27 : (pT M_100).find? (fun e => e.1 == 27) = some (27, .goto 4, 0, 0) := rfl
theorem te_100_30 : (pT M_100).find? (fun e => e.1 == 30) = some (30, .iconst 0, 0, 0) := rfl
theorem te_100_31 : (pT M_100).find? (fun e => e.1 == 31) = some (31, .ireturn, 0, 0) := rfl
theorem te_101_0 : (pT M_101).find? (fun e => e.1 == 0) = some (0, .iconst 0, 0, 0) := rfl
theorem te_101_1 : (pT M_101).find? (fun e => e.1 == 1) = some (1, .istore_n 1, 0, 0) := rfl
theorem te_101_2 : (pT M_101).find? (fun e => e.1 == 2) = some (2, .iload_n 1, 0, 0) := rfl
theorem te_101_3 : (pT M_101).find? (fun e => e.1 == 3) = some (3, .aload_n 0, 0, 0) := rfl
theorem te_101_4 : (pT M_101).find? (fun e => e.1 == 4) = some (4, .getfield 70, 6, 0) := rfl
theorem te_101_7 : (pT M_101).find? (fun e => e.1 == 7) = some (7, .if_icmp .ge 32, 0, 0) := rfl
theorem te_101_10 : (pT M_101).find? (fun e => e.1 == 10) = some (10, .aload_n 0, 0, 0) := rfl
theorem te_101_11 : (pT M_101).find? (fun e => e.1 == 11) = some (11, .getfield 74, 6, 3) := rfl
theorem te_101_14 : (pT M_101).find? (fun e => e.1 == 14) = some (14, .iconst 1, 0, 0) := rfl
theorem te_101_15 : (pT M_101).find? (fun e => e.1 == 15) = some (15, .iload_n 1, 0, 0) := rfl
theorem te_101_16 : (pT M_101).find? (fun e => e.1 == 16) = some (16, .ishl, 0, 0) := rfl
theorem te_101_17 : (pT M_101).find? (fun e => e.1 == 17) = some (17, .iand, 0, 0) := rfl
theorem te_101_18 : (pT M_101).find? (fun e => e.1 == 18) = some (18, .ifCond .eq 15, 0, 0) := rfl
theorem te_101_21 : (pT M_101).find? (fun e => e.1 == 21) = some (21, .aload_n 0, 0, 0) := rfl
theorem te_101_22 : (pT M_101).find? (fun e => e.1 == 22) = some (22, .getfield 15, 6, 6) := rfl
theorem te_101_25 : (pT M_101).find? (fun e => e.1 == 25) = some (25, .iload_n 1, 0, 0) := rfl
theorem te_101_26 : (pT M_101).find? (fun e => e.1 == 26) = some (26, .aload_n 0, 0, 0) := rfl
theorem te_101_27 : (pT M_101).find? (fun e => e.1 == 27) = some (27, .getfield 9, 6, 5) := rfl
theorem te_101_30 : (pT M_101).find? (fun e => e.1 == 30) = some (30, .iload_n 1, 0, 0) := rfl
theorem te_101_31 : (pT M_101).find? (fun e => e.1 == 31) = some (31, .iaload, 0, 0) := rfl
theorem te_101_32 : (pT M_101).find? (fun e => e.1 == 32) = some (32, .iastore, 0, 0) := rfl
theorem te_101_33 : (pT M_101).find? (fun e => e.1 == 33) = some (33, .iinc 1 1, 0, 0) := rfl
theorem te_101_36 : (pT M_101).find? (fun e => e.1 == 36) = some (36, .goto (-34), 0, 0) := rfl
theorem te_101_39 : (pT M_101).find? (fun e => e.1 == 39) = some (39, .return_, 0, 0) := rfl
theorem te_102_0 : (pT M_102).find? (fun e => e.1 == 0) = some (0, .aload_n 0, 0, 0) := rfl
theorem te_102_1 : (pT M_102).find? (fun e => e.1 == 1) = some (1, .getfield 33, 6, 12) := rfl
theorem te_102_4 : (pT M_102).find? (fun e => e.1 == 4) = some (4, .iload_n 1, 0, 0) := rfl
theorem te_102_5 : (pT M_102).find? (fun e => e.1 == 5) = some (5, .iconst 4, 0, 0) := rfl
theorem te_102_6 : (pT M_102).find? (fun e => e.1 == 6) = some (6, .imul, 0, 0) := rfl
theorem te_102_7 : (pT M_102).find? (fun e => e.1 == 7) = some (7, .aload_n 0, 0, 0) := rfl
theorem te_102_8 : (pT M_102).find? (fun e => e.1 == 8) = some (8, .getfield 30, 6, 11) := rfl
theorem te_102_11 : (pT M_102).find? (fun e => e.1 == 11) = some (11, .aload_n 0, 0, 0) := rfl
theorem te_102_12 : (pT M_102).find? (fun e => e.1 == 12) = some (12, .getfield 18, 6, 7) := rfl
theorem te_102_15 : (pT M_102).find? (fun e => e.1 == 15) = some (15, .iload_n 1, 0, 0) := rfl
theorem te_102_16 : (pT M_102).find? (fun e => e.1 == 16) = some (16, .iaload, 0, 0) := rfl
theorem te_102_17 : (pT M_102).find? (fun e => e.1 == 17) = some (17, .iconst 4, 0, 0) := rfl
theorem te_102_18 : (pT M_102).find? (fun e => e.1 == 18) = some (18, .imul, 0, 0) := rfl
theorem te_102_19 : (pT M_102).find? (fun e => e.1 == 19) = some (19, .iconst 4, 0, 0) := rfl
theorem te_102_20 : (pT M_102).find? (fun e => e.1 == 20) = some (20, .invokestatic 125, 0, 7) := rfl
theorem te_102_23 : (pT M_102).find? (fun e => e.1 == 23) = some (23, .aload_n 0, 0, 0) := rfl
theorem te_102_24 : (pT M_102).find? (fun e => e.1 == 24) = some (24, .dup, 0, 0) := rfl
theorem te_102_25 : (pT M_102).find? (fun e => e.1 == 25) = some (25, .getfield 97, 6, 4) := rfl
theorem te_102_28 : (pT M_102).find? (fun e => e.1 == 28) = some (28, .iconst 1, 0, 0) := rfl
theorem te_102_29 : (pT M_102).find? (fun e => e.1 == 29) = some (29, .iload_n 1, 0, 0) := rfl
theorem te_102_30 : (pT M_102).find? (fun e => e.1 == 30) = some (30, .ishl, 0, 0) := rfl
theorem te_102_31 : (pT M_102).find? (fun e => e.1 == 31) = some (31, .iconst (-1), 0, 0) := rfl
theorem te_102_32 : (pT M_102).find? (fun e => e.1 == 32) = some (32, .ixor, 0, 0) := rfl
theorem te_102_33 : (pT M_102).find? (fun e => e.1 == 33) = some (33, .iand, 0, 0) := rfl
theorem te_102_34 : (pT M_102).find? (fun e => e.1 == 34) = some (34, .putfield 97, 6, 4) := rfl
theorem te_102_37 : (pT M_102).find? (fun e => e.1 == 37) = some (37, .aload_n 0, 0, 0) := rfl
theorem te_102_38 : (pT M_102).find? (fun e => e.1 == 38) = some (38, .iload_n 1, 0, 0) := rfl
theorem te_102_39 : (pT M_102).find? (fun e => e.1 == 39) = some (39, .invokevirtual 159, 92, 0) := rfl
theorem te_102_42 : (pT M_102).find? (fun e => e.1 == 42) = some (42, .ifCond .eq 21, 0, 0) := rfl
theorem te_102_45 : (pT M_102).find? (fun e => e.1 == 45) = some (45, .aload_n 0, 0, 0) := rfl
theorem te_102_46 : (pT M_102).find? (fun e => e.1 == 46) = some (46, .getfield 39, 6, 14) := rfl
theorem te_102_49 : (pT M_102).find? (fun e => e.1 == 49) = some (49, .iload_n 1, 0, 0) := rfl
theorem te_102_50 : (pT M_102).find? (fun e => e.1 == 50) = some (50, .bipush 64, 0, 0) := rfl
theorem te_102_52 : (pT M_102).find? (fun e => e.1 == 52) = some (52, .imul, 0, 0) := rfl
theorem te_102_53 : (pT M_102).find? (fun e => e.1 == 53) = some (53, .aload_n 0, 0, 0) := rfl
theorem te_102_54 : (pT M_102).find? (fun e => e.1 == 54) = some (54, .getfield 36, 6, 13) := rfl
theorem te_102_57 : (pT M_102).find? (fun e => e.1 == 57) = some (57, .iconst 0, 0, 0) := rfl
theorem te_102_58 : (pT M_102).find? (fun e => e.1 == 58) = some (58, .bipush 64, 0, 0) := rfl
theorem te_102_60 : (pT M_102).find? (fun e => e.1 == 60) = some (60, .invokestatic 125, 0, 7) := rfl
theorem te_102_63 : (pT M_102).find? (fun e => e.1 == 63) = some (63, .return_, 0, 0) := rfl
theorem te_104_0 : (pT M_104).find? (fun e => e.1 == 0) = some (0, .aload_n 1, 0, 0) := rfl
theorem te_104_1 : (pT M_104).find? (fun e => e.1 == 1) = some (1, .iconst 0, 0, 0) := rfl
theorem te_104_2 : (pT M_104).find? (fun e => e.1 == 2) = some (2, .aload_n 0, 0, 0) := rfl
theorem te_104_3 : (pT M_104).find? (fun e => e.1 == 3) = some (3, .getfield 36, 6, 13) := rfl
theorem te_104_6 : (pT M_104).find? (fun e => e.1 == 6) = some (6, .iconst 0, 0, 0) := rfl
theorem te_104_7 : (pT M_104).find? (fun e => e.1 == 7) = some (7, .bipush 64, 0, 0) := rfl
theorem te_104_9 : (pT M_104).find? (fun e => e.1 == 9) = some (9, .invokestatic 125, 0, 7) := rfl
theorem te_104_12 : (pT M_104).find? (fun e => e.1 == 12) = some (12, .iconst 0, 0, 0) := rfl
theorem te_104_13 : (pT M_104).find? (fun e => e.1 == 13) = some (13, .istore_n 2, 0, 0) := rfl
theorem te_104_14 : (pT M_104).find? (fun e => e.1 == 14) = some (14, .iload_n 2, 0, 0) := rfl
theorem te_104_15 : (pT M_104).find? (fun e => e.1 == 15) = some (15, .aload_n 0, 0, 0) := rfl
theorem te_104_16 : (pT M_104).find? (fun e => e.1 == 16) = some (16, .getfield 70, 6, 0) := rfl
theorem te_104_19 : (pT M_104).find? (fun e => e.1 == 19) = some (19, .if_icmp .ge 93, 0, 0) := rfl
theorem te_104_22 : (pT M_104).find? (fun e => e.1 == 22) = some (22, .aload_n 0, 0, 0) := rfl
theorem te_104_23 : (pT M_104).find? (fun e => e.1 == 23) = some (23, .getfield 48, 6, 17) := rfl
theorem te_104_26 : (pT M_104).find? (fun e => e.1 == 26) = some (26, .iload_n 2, 0, 0) := rfl
theorem te_104_27 : (pT M_104).find? (fun e => e.1 == 27) = some (27, .iconst 0, 0, 0) := rfl
theorem te_104_28 : (pT M_104).find? (fun e => e.1 == 28) = some (28, .iastore, 0, 0) := rfl
theorem te_104_29 : (pT M_104).find? (fun e => e.1 == 29) = some (29, .iconst 0, 0, 0) := rfl
theorem te_104_30 : (pT M_104).find? (fun e => e.1 == 30) = some (30, .istore_n 3, 0, 0) := rfl
theorem te_104_31 : (pT M_104).find? (fun e => e.1 == 31) = some (31, .iload_n 3, 0, 0) := rfl
theorem te_104_32 : (pT M_104).find? (fun e => e.1 == 32) = some (32, .aload_n 0, 0, 0) := rfl
theorem te_104_33 : (pT M_104).find? (fun e => e.1 == 33) = some (33, .getfield 70, 6, 0) := rfl
theorem te_104_36 : (pT M_104).find? (fun e => e.1 == 36) = some (36, .if_icmp .ge 70, 0, 0) := rfl
theorem te_104_39 : (pT M_104).find? (fun e => e.1 == 39) = some (39, .aload_n 0, 0, 0) := rfl
theorem te_104_40 : (pT M_104).find? (fun e => e.1 == 40) = some (40, .getfield 36, 6, 13) := rfl
theorem te_104_43 : (pT M_104).find? (fun e => e.1 == 43) = some (43, .iload_n 2, 0, 0) := rfl
theorem te_104_44 : (pT M_104).find? (fun e => e.1 == 44) = some (44, .bipush 8, 0, 0) := rfl
theorem te_104_46 : (pT M_104).find? (fun e => e.1 == 46) = some (46, .imul, 0, 0) := rfl
theorem te_104_47 : (pT M_104).find? (fun e => e.1 == 47) = some (47, .iload_n 3, 0, 0) := rfl
theorem te_104_48 : (pT M_104).find? (fun e => e.1 == 48) = some (48, .iadd, 0, 0) := rfl
theorem te_104_49 : (pT M_104).find? (fun e => e.1 == 49) = some (49, .iaload, 0, 0) := rfl
theorem te_104_50 : (pT M_104).find? (fun e => e.1 == 50) = some (50, .ldc 131, 5, 0) := rfl
theorem te_104_52 : (pT M_104).find? (fun e => e.1 == 52) = some (52, .if_icmp .eq 7, 0, 0) := rfl
theorem te_104_55 : (pT M_104).find? (fun e => e.1 == 55) = some (55, .iconst 1, 0, 0) := rfl
theorem te_104_56 : (pT M_104).find? (fun e => e.1 == 56) = some (56, .goto 4, 0, 0) := rfl
theorem te_104_59 : (pT M_104).find? (fun e => e.1 == 59) = some (59, .iconst 0, 0, 0) := rfl
theorem te_104_60 : (pT M_104).find? (fun e => e.1 == 60) = some (60, .istore 4, 0, 0) := rfl
theorem te_104_62 : (pT M_104).find? (fun e => e.1 == 62) = some (62, .iload_n 3, 0, 0) := rfl
theorem te_104_63 : (pT M_104).find? (fun e => e.1 == 63) = some (63, .iload_n 2, 0, 0) := rfl
theorem te_104_64 : (pT M_104).find? (fun e => e.1 == 64) = some (64, .if_icmp .eq 36, 0, 0) := rfl
theorem te_104_67 : (pT M_104).find? (fun e => e.1 == 67) = some (67, .iload 4, 0, 0) := rfl
theorem te_104_69 : (pT M_104).find? (fun e => e.1 == 69) = some (69, .ifCond .eq 31, 0, 0) := rfl
theorem te_104_72 : (pT M_104).find? (fun e => e.1 == 72) = some (72, .aload_n 0, 0, 0) := rfl
theorem te_104_73 : (pT M_104).find? (fun e => e.1 == 73) = some (73, .getfield 36, 6, 13) := rfl
theorem te_104_76 : (pT M_104).find? (fun e => e.1 == 76) = some (76, .iload_n 3, 0, 0) := rfl
theorem te_104_77 : (pT M_104).find? (fun e => e.1 == 77) = some (77, .bipush 8, 0, 0) := rfl
theorem te_104_79 : (pT M_104).find? (fun e => e.1 == 79) = some (79, .imul, 0, 0) := rfl
theorem te_104_80 : (pT M_104).find? (fun e => e.1 == 80) = some (80, .iload_n 2, 0, 0) := rfl
theorem te_104_81 : (pT M_104).find? (fun e => e.1 == 81) = some (81, .iadd, 0, 0) := rfl
theorem te_104_82 : (pT M_104).find? (fun e => e.1 == 82) = some (82, .iaload, 0, 0) := rfl
theorem te_104_83 : (pT M_104).find? (fun e => e.1 == 83) = some (83, .ldc 131, 5, 0) := rfl
theorem te_104_85 : (pT M_104).find? (fun e => e.1 == 85) = some (85, .if_icmp .eq 15, 0, 0) := rfl
theorem te_104_88 : (pT M_104).find? (fun e => e.1 == 88) = some (88, .aload_n 0, 0, 0) := rfl
theorem te_104_89 : (pT M_104).find? (fun e => e.1 == 89) = some (89, .getfield 48, 6, 17) := rfl
theorem te_104_92 : (pT M_104).find? (fun e => e.1 == 92) = some (92, .iload_n 2, 0, 0) := rfl
theorem te_104_93 : (pT M_104).find? (fun e => e.1 == 93) = some (93, .dup2, 0, 0) := rfl
theorem te_104_94 : (pT M_104).find? (fun e => e.1 == 94) = some (94, .iaload, 0, 0) := rfl
theorem te_104_95 : (pT M_104).find? (fun e => e.1 == 95) = some (95, .iconst 1, 0, 0) := rfl
theorem te_104_96 : (pT M_104).find? (fun e => e.1 == 96) = some (96, .iload_n 3, 0, 0) := rfl
theorem te_104_97 : (pT M_104).find? (fun e => e.1 == 97) = some (97, .ishl, 0, 0) := rfl
theorem te_104_98 : (pT M_104).find? (fun e => e.1 == 98) = some (98, .ior, 0, 0) := rfl
theorem te_104_99 : (pT M_104).find? (fun e => e.1 == 99) = some (99, .iastore, 0, 0) := rfl
theorem te_104_100 : (pT M_104).find? (fun e => e.1 == 100) = some (100, .iinc 3 1, 0, 0) := rfl
theorem te_104_103 : (pT M_104).find? (fun e => e.1 == 103) = some (103, .goto (-72), 0, 0) := rfl
theorem te_104_106 : (pT M_104).find? (fun e => e.1 == 106) = some (106, .iinc 2 1, 0, 0) := rfl
theorem te_104_109 : (pT M_104).find? (fun e => e.1 == 109) = some (109, .goto (-95), 0, 0) := rfl
theorem te_104_112 : (pT M_104).find? (fun e => e.1 == 112) = some (112, .return_, 0, 0) := rfl
theorem te_105_0 : (pT M_105).find? (fun e => e.1 == 0) = some (0, .iconst 1, 0, 0) := rfl
theorem te_105_1 : (pT M_105).find? (fun e => e.1 == 1) = some (1, .iload_n 1, 0, 0) := rfl
theorem te_105_2 : (pT M_105).find? (fun e => e.1 == 2) = some (2, .ishl, 0, 0) := rfl
theorem te_105_3 : (pT M_105).find? (fun e => e.1 == 3) = some (3, .istore_n 2, 0, 0) := rfl
theorem te_105_4 : (pT M_105).find? (fun e => e.1 == 4) = some (4, .iconst 0, 0, 0) := rfl
theorem te_105_5 : (pT M_105).find? (fun e => e.1 == 5) = some (5, .istore_n 3, 0, 0) := rfl
theorem te_105_6 : (pT M_105).find? (fun e => e.1 == 6) = some (6, .iconst 0, 0, 0) := rfl
theorem te_105_7 : (pT M_105).find? (fun e => e.1 == 7) = some (7, .istore 4, 0, 0) := rfl
theorem te_105_9 : (pT M_105).find? (fun e => e.1 == 9) = some (9, .iload 4, 0, 0) := rfl
theorem te_105_11 : (pT M_105).find? (fun e => e.1 == 11) = some (11, .bipush 8, 0, 0) := rfl
theorem te_105_13 : (pT M_105).find? (fun e => e.1 == 13) = some (13, .if_icmp .ge 66, 0, 0) := rfl
theorem te_105_16 : (pT M_105).find? (fun e => e.1 == 16) = some (16, .iload_n 2, 0, 0) := rfl
theorem te_105_17 : (pT M_105).find? (fun e => e.1 == 17) = some (17, .iload_n 3, 0, 0) := rfl
theorem te_105_18 : (pT M_105).find? (fun e => e.1 == 18) = some (18, .if_icmp .eq 61, 0, 0) := rfl
theorem te_105_21 : (pT M_105).find? (fun e => e.1 == 21) = some (21, .iload_n 2, 0, 0) := rfl
theorem te_105_22 : (pT M_105).find? (fun e => e.1 == 22) = some (22, .istore_n 3, 0, 0) := rfl
theorem te_105_23 : (pT M_105).find? (fun e => e.1 == 23) = some (23, .iconst 0, 0, 0) := rfl
theorem te_105_24 : (pT M_105).find? (fun e => e.1 == 24) = some (24, .istore 5, 0, 0) := rfl
theorem te_105_26 : (pT M_105).find? (fun e => e.1 == 26) = some (26, .iload 5, 0, 0) := rfl
theorem te_105_28 : (pT M_105).find? (fun e => e.1 == 28) = some (28, .aload_n 0, 0, 0) := rfl
theorem te_105_29 : (pT M_105).find? (fun e => e.1 == 29) = some (29, .getfield 70, 6, 0) := rfl
theorem te_105_32 : (pT M_105).find? (fun e => e.1 == 32) = some (32, .if_icmp .ge 41, 0, 0) := rfl
theorem te_105_35 : (pT M_105).find? (fun e => e.1 == 35) = some (35, .iload_n 2, 0, 0) := rfl
theorem te_105_36 : (pT M_105).find? (fun e => e.1 == 36) = some (36, .iconst 1, 0, 0) := rfl
theorem te_105_37 : (pT M_105).find? (fun e => e.1 == 37) = some (37, .iload 5, 0, 0) := rfl
theorem te_105_39 : (pT M_105).find? (fun e => e.1 == 39) = some (39, .ishl, 0, 0) := rfl
theorem te_105_40 : (pT M_105).find? (fun e => e.1 == 40) = some (40, .iand, 0, 0) := rfl
theorem te_105_41 : (pT M_105).find? (fun e => e.1 == 41) = some (41, .ifCond .eq 26, 0, 0) := rfl
theorem te_105_44 : (pT M_105).find? (fun e => e.1 == 44) = some (44, .iload_n 2, 0, 0) := rfl
theorem te_105_45 : (pT M_105).find? (fun e => e.1 == 45) = some (45, .aload_n 0, 0, 0) := rfl
theorem te_105_46 : (pT M_105).find? (fun e => e.1 == 46) = some (46, .getfield 48, 6, 17) := rfl
theorem te_105_49 : (pT M_105).find? (fun e => e.1 == 49) = some (49, .iload 5, 0, 0) := rfl
theorem te_105_51 : (pT M_105).find? (fun e => e.1 == 51) = some (51, .iaload, 0, 0) := rfl
theorem te_105_52 : (pT M_105).find? (fun e => e.1 == 52) = some (52, .aload_n 0, 0, 0) := rfl
theorem te_105_53 : (pT M_105).find? (fun e => e.1 == 53) = some (53, .getfield 24, 6, 9) := rfl
theorem te_105_56 : (pT M_105).find? (fun e => e.1 == 56) = some (56, .aload_n 0, 0, 0) := rfl
theorem te_105_57 : (pT M_105).find? (fun e => e.1 == 57) = some (57, .getfield 18, 6, 7) := rfl
theorem te_105_60 : (pT M_105).find? (fun e => e.1 == 60) = some (60, .iload 5, 0, 0) := rfl
theorem te_105_62 : (pT M_105).find? (fun e => e.1 == 62) = some (62, .iaload, 0, 0) := rfl
theorem te_105_63 : (pT M_105).find? (fun e => e.1 == 63) = some (63, .iaload, 0, 0) := rfl
theorem te_105_64 : (pT M_105).find? (fun e => e.1 == 64) = some (64, .ior, 0, 0) := rfl
theorem te_105_65 : (pT M_105).find? (fun e => e.1 == 65) = some (65, .ior, 0, 0) := rfl
theorem te_105_66 : (pT M_105).find? (fun e => e.1 == 66) = some (66, .istore_n 2, 0, 0) := rfl
theorem te_105_67 : (pT M_105).find? (fun e => e.1 == 67) = some (67, .iinc 5 1, 0, 0) := rfl
theorem te_105_70 : (pT M_105).find? (fun e => e.1 == 70) = some (70, .goto (-44), 0, 0) := rfl
theorem te_105_73 : (pT M_105).find? (fun e => e.1 == 73) = some (73, .iinc 4 1, 0, 0) := rfl
theorem te_105_76 : (pT M_105).find? (fun e => e.1 == 76) = some (76, .goto (-67), 0, 0) := rfl
theorem te_105_79 : (pT M_105).find? (fun e => e.1 == 79) = some (79, .iload_n 2, 0, 0) := rfl
theorem te_105_80 : (pT M_105).find? (fun e => e.1 == 80) = some (80, .ireturn, 0, 0) := rfl
theorem f_100 {S : Nat × (Nat → Int32)} {n : Nat} {mem : MM} {K : Int → MM → Prop} {E : Nat → MM → Prop} {a x b y : Int} (ha : 0 ≤ a ∧ a < 8) (hb : 0 ≤ b ∧ b < 8) (H : ∀ r, r = 0 ∨ r = 1 → K r mem) : CQI (Ex S (n + 2)) 100 [.inr 21, .inl a, .inl x, .inl b, .inl y] mem K E := by
  refine CY.of (k := 0) mt_100 rfl rfl (fun hv => ?_)
  have hC := Ex.mono S (n + 1)
  have ii_a : InI a := hv (.inl a) (by simp)
  unfold InI at ii_a
  have ii_x : InI x := hv (.inl x) (by simp)
  unfold InI at ii_x
  have ii_b : InI b := hv (.inl b) (by simp)
  unfold InI at ii_b
  have ii_y : InI y := hv (.inl y) (by simp)
  unfold InI at ii_y
  clear hv
  show Tx (Ex S (n + 1)) S M_100 (kI K E) 0 0 0 [some (.inr 21), some (.inl a), some (.inl x), some (.inl b), some (.inl y)] [] mem
  refine Tx.iload_n hC te_100_0 rfl ?_
  refine Tx.statI hC te_100_1 (by decide) mt_39 (args := [.inl x]) (rest := []) (c' := 0) (s' := 0) rfl rfl rfl rfl rfl rfl rfl ?_
  refine f_39 (fun r1 r1i => ?_)
  unfold InI at r1i
  refine Tx.aload_n hC te_100_4 rfl ?_
  refine Tx.getR hC te_100_5 rfl rfl rfl ?_
  refine Tx.iload_n hC te_100_8 rfl ?_
  refine Tx.iald hC te_100_9 rfl (by omega) (fun v4 v4e v4i => ?_)
  unfold InI at v4i
  refine Tx.imulW hC te_100_10 (fun z5 z5i z5e => ?_)
  unfold InI at z5i z5e
  first | replace z5e := z5e (by omega) | clear z5e
  refine Tx.iload hC te_100_11 rfl ?_
  refine Tx.statI hC te_100_13 (by decide) mt_39 (args := [.inl y]) (rest := [.inl z5]) (c' := 0) (s' := 0) rfl rfl rfl rfl rfl rfl rfl ?_
  refine f_39 (fun r6 r6i => ?_)
  unfold InI at r6i
  refine Tx.aload_n hC te_100_16 rfl ?_
  refine Tx.getR hC te_100_17 rfl rfl rfl ?_
  refine Tx.iload_n hC te_100_20 rfl ?_
  refine Tx.iald hC te_100_21 rfl (by omega) (fun v9 v9e v9i => ?_)
  unfold InI at v9i
  refine Tx.imulW hC te_100_22 (fun z10 z10i z10e => ?_)
  unfold InI at z10i z10e
  first | replace z10e := z10e (by omega) | clear z10e
  refine Tx.icmp hC (t := 30) te_100_23 (by decide) (fun q11 => ?_) (fun q11 => ?_)
  · replace q11 : z10 ≤ (z5 : Int) := q11
    refine Tx.iconst hC te_100_30 rfl ?_
    exact Tx.bret hC te_100_31 rfl (by omega) (show K 0 mem from H _ (by omega))
  · replace q11 : ¬ (z10 ≤ (z5 : Int)) := q11
    refine Tx.iconst hC te_100_26 rfl ?_
    refine Tx.goto hC (t := 31) te_100_27 (by decide) ?_
    exact Tx.bret hC te_100_31 rfl (by omega) (show K 1 mem from H _ (by omega))
end
section
/-! laid by wip/hand/tg.py: the seeker: settle -/
set_option maxRecDepth 100000 in
theorem mt_96 : MT[96]? = some M_96 := rfl
theorem te_96_0 : (pT M_96).find? (fun e => e.1 == 0) = some (0, .iconst (-1), 0, 0) := rfl
theorem te_96_1 : (pT M_96).find? (fun e => e.1 == 1) = some (1, .istore_n 2, 0, 0) := rfl
theorem te_96_2 : (pT M_96).find? (fun e => e.1 == 2) = some (2, .aload_n 0, 0, 0) := rfl
theorem te_96_3 : (pT M_96).find? (fun e => e.1 == 3) = some (3, .getfield 109, 6, 2) := rfl
theorem te_96_6 : (pT M_96).find? (fun e => e.1 == 6) = some (6, .istore_n 3, 0, 0) := rfl
theorem te_96_7 : (pT M_96).find? (fun e => e.1 == 7) = some (7, .iconst 0, 0, 0) := rfl
theorem te_96_8 : (pT M_96).find? (fun e => e.1 == 8) = some (8, .istore 4, 0, 0) := rfl
theorem te_96_10 : (pT M_96).find? (fun e => e.1 == 10) = some (10, .iload 4, 0, 0) := rfl
theorem te_96_12 : (pT M_96).find? (fun e => e.1 == 12) = some (12, .aload_n 0, 0, 0) := rfl
theorem te_96_13 : (pT M_96).find? (fun e => e.1 == 13) = some (13, .getfield 70, 6, 0) := rfl
theorem te_96_16 : (pT M_96).find? (fun e => e.1 == 16) = some (16, .if_icmp .ge 69, 0, 0) := rfl
theorem te_96_19 : (pT M_96).find? (fun e => e.1 == 19) = some (19, .iload_n 3, 0, 0) := rfl
theorem te_96_20 : (pT M_96).find? (fun e => e.1 == 20) = some (20, .ifCond .eq 65, 0, 0) := rfl
theorem te_96_23 : (pT M_96).find? (fun e => e.1 == 23) = some (23, .aload_n 0, 0, 0) := rfl
theorem te_96_24 : (pT M_96).find? (fun e => e.1 == 24) = some (24, .getfield 74, 6, 3) := rfl
theorem te_96_27 : (pT M_96).find? (fun e => e.1 == 27) = some (27, .aload_n 0, 0, 0) := rfl
theorem te_96_28 : (pT M_96).find? (fun e => e.1 == 28) = some (28, .getfield 97, 6, 4) := rfl
theorem te_96_31 : (pT M_96).find? (fun e => e.1 == 31) = some (31, .iconst (-1), 0, 0) := rfl
theorem te_96_32 : (pT M_96).find? (fun e => e.1 == 32) = some (32, .ixor, 0, 0) := rfl
theorem te_96_33 : (pT M_96).find? (fun e => e.1 == 33) = some (33, .iand, 0, 0) := rfl
theorem te_96_34 : (pT M_96).find? (fun e => e.1 == 34) = some (34, .iconst 1, 0, 0) := rfl
theorem te_96_35 : (pT M_96).find? (fun e => e.1 == 35) = some (35, .iload 4, 0, 0) := rfl
theorem te_96_37 : (pT M_96).find? (fun e => e.1 == 37) = some (37, .ishl, 0, 0) := rfl
theorem te_96_38 : (pT M_96).find? (fun e => e.1 == 38) = some (38, .iand, 0, 0) := rfl
theorem te_96_39 : (pT M_96).find? (fun e => e.1 == 39) = some (39, .ifCond .eq 40, 0, 0) := rfl
theorem te_96_42 : (pT M_96).find? (fun e => e.1 == 42) = some (42, .aload_n 0, 0, 0) := rfl
theorem te_96_43 : (pT M_96).find? (fun e => e.1 == 43) = some (43, .iload 4, 0, 0) := rfl
theorem te_96_45 : (pT M_96).find? (fun e => e.1 == 45) = some (45, .invokevirtual 100, 97, 0) := rfl
theorem te_96_48 : (pT M_96).find? (fun e => e.1 == 48) = some (48, .istore 5, 0, 0) := rfl
theorem te_96_50 : (pT M_96).find? (fun e => e.1 == 50) = some (50, .iload_n 2, 0, 0) := rfl
theorem te_96_51 : (pT M_96).find? (fun e => e.1 == 51) = some (51, .iconst (-1), 0, 0) := rfl
theorem te_96_52 : (pT M_96).find? (fun e => e.1 == 52) = some (52, .if_icmp .eq 21, 0, 0) := rfl
theorem te_96_55 : (pT M_96).find? (fun e => e.1 == 55) = some (55, .iload 5, 0, 0) := rfl
theorem te_96_57 : (pT M_96).find? (fun e => e.1 == 57) = some (57, .ifCond .eq 16, 0, 0) := rfl
theorem te_96_60 : (pT M_96).find? (fun e => e.1 == 60) = some (60, .aload_n 0, 0, 0) := rfl
theorem te_96_61 : (pT M_96).find? (fun e => e.1 == 61) = some (61, .iload 4, 0, 0) := rfl
theorem te_96_63 : (pT M_96).find? (fun e => e.1 == 63) = some (63, .iload 5, 0, 0) := rfl
theorem te_96_65 : (pT M_96).find? (fun e => e.1 == 65) = some (65, .iload_n 2, 0, 0) := rfl
theorem te_96_66 : (pT M_96).find? (fun e => e.1 == 66) = some (66, .iload_n 3, 0, 0) := rfl
theorem te_96_67 : (pT M_96).find? (fun e => e.1 == 67) = some (67, .invokevirtual 135, 100, 0) := rfl
theorem te_96_70 : (pT M_96).find? (fun e => e.1 == 70) = some (70, .ifCond .eq 9, 0, 0) := rfl
theorem te_96_73 : (pT M_96).find? (fun e => e.1 == 73) = some (73, .iload 4, 0, 0) := rfl
theorem te_96_75 : (pT M_96).find? (fun e => e.1 == 75) = some (75, .istore_n 2, 0, 0) := rfl
theorem te_96_76 : (pT M_96).find? (fun e => e.1 == 76) = some (76, .iload 5, 0, 0) := rfl
theorem te_96_78 : (pT M_96).find? (fun e => e.1 == 78) = some (78, .istore_n 3, 0, 0) := rfl
theorem te_96_79 : (pT M_96).find? (fun e => e.1 == 79) = some (79, .iinc 4 1, 0, 0) := rfl
theorem te_96_82 : (pT M_96).find? (fun e => e.1 == 82) = some (82, .goto (-72), 0, 0) := rfl
theorem te_96_85 : (pT M_96).find? (fun e => e.1 == 85) = some (85, .iload_n 2, 0, 0) := rfl
theorem te_96_86 : (pT M_96).find? (fun e => e.1 == 86) = some (86, .iconst (-1), 0, 0) := rfl
theorem te_96_87 : (pT M_96).find? (fun e => e.1 == 87) = some (87, .if_icmp .ne 9, 0, 0) := rfl
theorem te_96_90 : (pT M_96).find? (fun e => e.1 == 90) = some (90, .aload_n 0, 0, 0) := rfl
theorem te_96_91 : (pT M_96).find? (fun e => e.1 == 91) = some (91, .invokevirtual 139, 101, 0) := rfl
theorem te_96_94 : (pT M_96).find? (fun e => e.1 == 94) = some (94, .iconst 1, 0, 0) := rfl
theorem te_96_95 : (pT M_96).find? (fun e => e.1 == 95) = some (95, .ireturn, 0, 0) := rfl
theorem te_96_96 : (pT M_96).find? (fun e => e.1 == 96) = some (96, .iload_n 3, 0, 0) := rfl
theorem te_96_97 : (pT M_96).find? (fun e => e.1 == 97) = some (97, .ifCond .ne 13, 0, 0) := rfl
theorem te_96_100 : (pT M_96).find? (fun e => e.1 == 100) = some (100, .aload_n 0, 0, 0) := rfl
theorem te_96_101 : (pT M_96).find? (fun e => e.1 == 101) = some (101, .getfield 54, 6, 19) := rfl
theorem te_96_104 : (pT M_96).find? (fun e => e.1 == 104) = some (104, .iload_n 2, 0, 0) := rfl
theorem te_96_105 : (pT M_96).find? (fun e => e.1 == 105) = some (105, .dup2, 0, 0) := rfl
theorem te_96_106 : (pT M_96).find? (fun e => e.1 == 106) = some (106, .iaload, 0, 0) := rfl
theorem te_96_107 : (pT M_96).find? (fun e => e.1 == 107) = some (107, .iconst 1, 0, 0) := rfl
theorem te_96_108 : (pT M_96).find? (fun e => e.1 == 108) = some (108, .iadd, 0, 0) := rfl
theorem te_96_109 : (pT M_96).find? (fun e => e.1 == 109) = some (109, .iastore, 0, 0) := rfl
theorem te_96_110 : (pT M_96).find? (fun e => e.1 == 110) = some (110, .iload_n 1, 0, 0) := rfl
theorem te_96_111 : (pT M_96).find? (fun e => e.1 == 111) = some (111, .bipush 8, 0, 0) := rfl
theorem te_96_113 : (pT M_96).find? (fun e => e.1 == 113) = some (113, .if_icmp .le 5, 0, 0) := rfl
theorem te_96_116 : (pT M_96).find? (fun e => e.1 == 116) = some (116, .iconst 0, 0, 0) := rfl
theorem te_96_117 : (pT M_96).find? (fun e => e.1 == 117) = some (117, .ireturn, 0, 0) := rfl
theorem te_96_118 : (pT M_96).find? (fun e => e.1 == 118) = some (118, .iconst 0, 0, 0) := rfl
theorem te_96_119 : (pT M_96).find? (fun e => e.1 == 119) = some (119, .istore 4, 0, 0) := rfl
theorem te_96_121 : (pT M_96).find? (fun e => e.1 == 121) = some (121, .iconst 0, 0, 0) := rfl
theorem te_96_122 : (pT M_96).find? (fun e => e.1 == 122) = some (122, .istore 5, 0, 0) := rfl
theorem te_96_124 : (pT M_96).find? (fun e => e.1 == 124) = some (124, .iload 5, 0, 0) := rfl
theorem te_96_126 : (pT M_96).find? (fun e => e.1 == 126) = some (126, .aload_n 0, 0, 0) := rfl
theorem te_96_127 : (pT M_96).find? (fun e => e.1 == 127) = some (127, .getfield 103, 6, 1) := rfl
theorem te_96_130 : (pT M_96).find? (fun e => e.1 == 130) = some (130, .if_icmp .ge 55, 0, 0) := rfl
theorem te_96_133 : (pT M_96).find? (fun e => e.1 == 133) = some (133, .iload 4, 0, 0) := rfl
theorem te_96_135 : (pT M_96).find? (fun e => e.1 == 135) = some (135, .ifCond .ne 50, 0, 0) := rfl
theorem te_96_138 : (pT M_96).find? (fun e => e.1 == 138) = some (138, .iload_n 3, 0, 0) := rfl
theorem te_96_139 : (pT M_96).find? (fun e => e.1 == 139) = some (139, .iconst 1, 0, 0) := rfl
theorem te_96_140 : (pT M_96).find? (fun e => e.1 == 140) = some (140, .iload 5, 0, 0) := rfl
theorem te_96_142 : (pT M_96).find? (fun e => e.1 == 142) = some (142, .ishl, 0, 0) := rfl
theorem te_96_143 : (pT M_96).find? (fun e => e.1 == 143) = some (143, .iand, 0, 0) := rfl
theorem te_96_144 : (pT M_96).find? (fun e => e.1 == 144) = some (144, .ifCond .eq 35, 0, 0) := rfl
theorem te_96_147 : (pT M_96).find? (fun e => e.1 == 147) = some (147, .aload_n 0, 0, 0) := rfl
theorem te_96_148 : (pT M_96).find? (fun e => e.1 == 148) = some (148, .iload_n 2, 0, 0) := rfl
theorem te_96_149 : (pT M_96).find? (fun e => e.1 == 149) = some (149, .iload 5, 0, 0) := rfl
theorem te_96_151 : (pT M_96).find? (fun e => e.1 == 151) = some (151, .invokevirtual 77, 91, 0) := rfl
theorem te_96_154 : (pT M_96).find? (fun e => e.1 == 154) = some (154, .ifCond .eq 17, 0, 0) := rfl
theorem te_96_157 : (pT M_96).find? (fun e => e.1 == 157) = some (157, .aload_n 0, 0, 0) := rfl
theorem te_96_158 : (pT M_96).find? (fun e => e.1 == 158) = some (158, .iload_n 1, 0, 0) := rfl
theorem te_96_159 : (pT M_96).find? (fun e => e.1 == 159) = some (159, .iconst 1, 0, 0) := rfl
theorem te_96_160 : (pT M_96).find? (fun e => e.1 == 160) = some (160, .iadd, 0, 0) := rfl
theorem te_96_161 : (pT M_96).find? (fun e => e.1 == 161) = some (161, .invokevirtual 81, 96, 0) := rfl
theorem te_96_164 : (pT M_96).find? (fun e => e.1 == 164) = some (164, .ifCond .eq 7, 0, 0) := rfl
theorem te_96_167 : (pT M_96).find? (fun e => e.1 == 167) = some (167, .iconst 1, 0, 0) := rfl
theorem te_96_168 : (pT M_96).find? (fun e => e.1 == 168) = some (168, .goto 4, 0, 0) := rfl
theorem te_96_171 : (pT M_96).find? (fun e => e.1 == 171) = some (171, .iconst 0, 0, 0) := rfl
theorem te_96_172 : (pT M_96).find? (fun e => e.1 == 172) = some (172, .istore 4, 0, 0) := rfl
theorem te_96_174 : (pT M_96).find? (fun e => e.1 == 174) = some (174, .aload_n 0, 0, 0) := rfl
theorem te_96_175 : (pT M_96).find? (fun e => e.1 == 175) = some (175, .iload_n 2, 0, 0) := rfl
theorem te_96_176 : (pT M_96).find? (fun e => e.1 == 176) = some (176, .invokevirtual 85, 102, 0) := rfl
theorem te_96_179 : (pT M_96).find? (fun e => e.1 == 179) = some (179, .iinc 5 1, 0, 0) := rfl
theorem te_96_182 : (pT M_96).find? (fun e => e.1 == 182) = some (182, .goto (-58), 0, 0) := rfl
theorem te_96_185 : (pT M_96).find? (fun e => e.1 == 185) = some (185, .iload 4, 0, 0) := rfl
theorem te_96_187 : (pT M_96).find? (fun e => e.1 == 187) = some (187, .ireturn, 0, 0) := rfl
end
section
/-! settle by its depth; take: what stands at its heads -/
theorem upm_rg {m : MM} {A i B j : Nat} {x lo hi : Int} (h1 : B = A ∧ j = i → lo ≤ x ∧ x ≤ hi) (h2 : ¬ (B = A ∧ j = i) → lo ≤ m B j ∧ m B j ≤ hi) : lo ≤ upm m A i x B j ∧ upm m A i x B j ≤ hi := by
  by_cases q : B = A ∧ j = i
  · rw [q.1, q.2, upm_eq]; exact h1 q
  · rw [upm_ne q]; exact h2 q
def pBz (o : Int) (A i : Nat) : Prop := A = 27 ∧ 4 * o.toNat ≤ i ∧ i < 4 * o.toNat + 4
def pK7 (A _i : Nat) : Prop := A = 21 ∨ (24 ≤ A ∧ A ≤ 28)
def TkI (mem m : MM) (d c x : Int) : Prop := (m 21 0 = mem 1 0 ∧ m 21 1 = d) ∧ (∀ o, o < 8 → 0 ≤ m 24 o ∧ m 24 o ≤ 2) ∧ (∀ u : Nat, (u : Int) < c → 1 ≤ m 25 u ∧ m 25 u ≤ 3) ∧ ∀ o r : Nat, (o : Int) < x → r < 4 → 0 ≤ m 27 (4 * o + r) ∧ m 27 (4 * o + r) ≤ m 25 (m 24 o).toNat
theorem TkI.le {mem m : MM} {d c x c' x' : Int} (h : TkI mem m d c x) (h1 : c' ≤ c) (h2 : x' ≤ x) : TkI mem m d c' x' := ⟨h.1, h.2.1, fun u hu => h.2.2.1 u (by omega), fun o r ho hr => h.2.2.2 o r (by omega) hr⟩
theorem TkI.up0 {mem m : MM} {d c x v : Int} {A i : Nat} (h : TkI mem m d c x) (q : ¬ (A = 21 ∧ i < 2) ∧ ¬ A = 24 ∧ ¬ A = 25 ∧ ¬ A = 27) : TkI mem (upm m A i v) d c x := by
  refine ⟨?_, fun o ho => ?_, fun u hu => ?_, fun o r ho hr => ?_⟩
  · rw [upm_ne (by omega), upm_ne (by omega)]; exact h.1
  · rw [upm_ne (by omega)]; exact h.2.1 o ho
  · rw [upm_ne (by omega)]; exact h.2.2.1 u hu
  · rw [upm_ne (by omega), upm_ne (A := A) (B := 24) (by omega), upm_ne (by omega)]; exact h.2.2.2 o r ho hr
theorem TkI.up24 {mem m : MM} {d c x v : Int} {i : Nat} (h : TkI mem m d c x) (hv : 0 ≤ v ∧ v ≤ 2) (hi : x = (i : Int)) : TkI mem (upm m 24 i v) d c x := by
  refine ⟨?_, fun o ho => ?_, fun u hu => ?_, fun o r ho hr => ?_⟩
  · rw [upm_ne (by omega), upm_ne (by omega)]; exact h.1
  · exact upm_rg (fun _ => hv) (fun q => h.2.1 o ho)
  · rw [upm_ne (by omega)]; exact h.2.2.1 u hu
  · rw [upm_ne (by omega), upm_ne (A := 24) (B := 24) (by omega), upm_ne (by omega)]; exact h.2.2.2 o r ho hr
end
section
/-! laid by wip/hand/tg.py: the seeker: sk3 -/
def pT6 (A _i : Nat) : Prop := 21 ≤ A ∧ A ≤ 36
set_option maxRecDepth 100000 in
theorem mt_86 : MT[86]? = some M_86 := rfl
set_option maxRecDepth 100000 in
theorem mt_87 : MT[87]? = some M_87 := rfl
set_option maxRecDepth 100000 in
theorem mt_88 : MT[88]? = some M_88 := rfl
set_option maxRecDepth 100000 in
theorem mt_103 : MT[103]? = some M_103 := rfl
theorem te_86_0 : (pT M_86).find? (fun e => e.1 == 0) = some (0, .aload_n 0, 0, 0) := rfl
theorem te_86_1 : (pT M_86).find? (fun e => e.1 == 1) = some (1, .aload_n 1, 0, 0) := rfl
theorem te_86_2 : (pT M_86).find? (fun e => e.1 == 2) = some (2, .iload_n 2, 0, 0) := rfl
theorem te_86_3 : (pT M_86).find? (fun e => e.1 == 3) = some (3, .invokevirtual 57, 87, 0) := rfl
theorem te_86_6 : (pT M_86).find? (fun e => e.1 == 6) = some (6, .ifCond .ne 5, 0, 0) := rfl
theorem te_86_9 : (pT M_86).find? (fun e => e.1 == 9) = some (9, .iconst 0, 0, 0) := rfl
theorem te_86_10 : (pT M_86).find? (fun e => e.1 == 10) = some (10, .ireturn, 0, 0) := rfl
theorem te_86_11 : (pT M_86).find? (fun e => e.1 == 11) = some (11, .aload_n 0, 0, 0) := rfl
theorem te_86_12 : (pT M_86).find? (fun e => e.1 == 12) = some (12, .getfield 48, 6, 17) := rfl
theorem te_86_15 : (pT M_86).find? (fun e => e.1 == 15) = some (15, .iconst 0, 0, 0) := rfl
theorem te_86_16 : (pT M_86).find? (fun e => e.1 == 16) = some (16, .invokestatic 61, 76, 2) := rfl
theorem te_86_19 : (pT M_86).find? (fun e => e.1 == 19) = some (19, .aload_n 0, 0, 0) := rfl
theorem te_86_20 : (pT M_86).find? (fun e => e.1 == 20) = some (20, .getfield 54, 6, 19) := rfl
theorem te_86_23 : (pT M_86).find? (fun e => e.1 == 23) = some (23, .iconst 1, 0, 0) := rfl
theorem te_86_24 : (pT M_86).find? (fun e => e.1 == 24) = some (24, .invokestatic 61, 76, 2) := rfl
theorem te_86_27 : (pT M_86).find? (fun e => e.1 == 27) = some (27, .aload_n 0, 0, 0) := rfl
theorem te_86_28 : (pT M_86).find? (fun e => e.1 == 28) = some (28, .invokevirtual 67, 89, 0) := rfl
theorem te_86_31 : (pT M_86).find? (fun e => e.1 == 31) = some (31, .iconst 0, 0, 0) := rfl
theorem te_86_32 : (pT M_86).find? (fun e => e.1 == 32) = some (32, .istore_n 3, 0, 0) := rfl
theorem te_86_33 : (pT M_86).find? (fun e => e.1 == 33) = some (33, .iconst 0, 0, 0) := rfl
theorem te_86_34 : (pT M_86).find? (fun e => e.1 == 34) = some (34, .istore 4, 0, 0) := rfl
theorem te_86_36 : (pT M_86).find? (fun e => e.1 == 36) = some (36, .iload 4, 0, 0) := rfl
theorem te_86_38 : (pT M_86).find? (fun e => e.1 == 38) = some (38, .aload_n 0, 0, 0) := rfl
theorem te_86_39 : (pT M_86).find? (fun e => e.1 == 39) = some (39, .getfield 70, 6, 0) := rfl
theorem te_86_42 : (pT M_86).find? (fun e => e.1 == 42) = some (42, .if_icmp .ge 79, 0, 0) := rfl
theorem te_86_45 : (pT M_86).find? (fun e => e.1 == 45) = some (45, .iload_n 3, 0, 0) := rfl
theorem te_86_46 : (pT M_86).find? (fun e => e.1 == 46) = some (46, .iconst 1, 0, 0) := rfl
theorem te_86_47 : (pT M_86).find? (fun e => e.1 == 47) = some (47, .iload 4, 0, 0) := rfl
theorem te_86_49 : (pT M_86).find? (fun e => e.1 == 49) = some (49, .ishl, 0, 0) := rfl
theorem te_86_50 : (pT M_86).find? (fun e => e.1 == 50) = some (50, .iand, 0, 0) := rfl
theorem te_86_51 : (pT M_86).find? (fun e => e.1 == 51) = some (51, .ifCond .ne 64, 0, 0) := rfl
theorem te_86_54 : (pT M_86).find? (fun e => e.1 == 54) = some (54, .aload_n 0, 0, 0) := rfl
theorem te_86_55 : (pT M_86).find? (fun e => e.1 == 55) = some (55, .aload_n 0, 0, 0) := rfl
theorem te_86_56 : (pT M_86).find? (fun e => e.1 == 56) = some (56, .getfield 24, 6, 9) := rfl
theorem te_86_59 : (pT M_86).find? (fun e => e.1 == 59) = some (59, .aload_n 0, 0, 0) := rfl
theorem te_86_60 : (pT M_86).find? (fun e => e.1 == 60) = some (60, .getfield 18, 6, 7) := rfl
theorem te_86_63 : (pT M_86).find? (fun e => e.1 == 63) = some (63, .iload 4, 0, 0) := rfl
theorem te_86_65 : (pT M_86).find? (fun e => e.1 == 65) = some (65, .iaload, 0, 0) := rfl
theorem te_86_66 : (pT M_86).find? (fun e => e.1 == 66) = some (66, .iaload, 0, 0) := rfl
theorem te_86_67 : (pT M_86).find? (fun e => e.1 == 67) = some (67, .putfield 74, 6, 3) := rfl
theorem te_86_70 : (pT M_86).find? (fun e => e.1 == 70) = some (70, .iload_n 3, 0, 0) := rfl
theorem te_86_71 : (pT M_86).find? (fun e => e.1 == 71) = some (71, .aload_n 0, 0, 0) := rfl
theorem te_86_72 : (pT M_86).find? (fun e => e.1 == 72) = some (72, .getfield 74, 6, 3) := rfl
theorem te_86_75 : (pT M_86).find? (fun e => e.1 == 75) = some (75, .ior, 0, 0) := rfl
theorem te_86_76 : (pT M_86).find? (fun e => e.1 == 76) = some (76, .istore_n 3, 0, 0) := rfl
theorem te_86_77 : (pT M_86).find? (fun e => e.1 == 77) = some (77, .aload_n 0, 0, 0) := rfl
theorem te_86_78 : (pT M_86).find? (fun e => e.1 == 78) = some (78, .iload 4, 0, 0) := rfl
theorem te_86_80 : (pT M_86).find? (fun e => e.1 == 80) = some (80, .iconst 0, 0, 0) := rfl
theorem te_86_81 : (pT M_86).find? (fun e => e.1 == 81) = some (81, .invokevirtual 77, 91, 0) := rfl
theorem te_86_84 : (pT M_86).find? (fun e => e.1 == 84) = some (84, .ifCond .eq 15, 0, 0) := rfl
theorem te_86_87 : (pT M_86).find? (fun e => e.1 == 87) = some (87, .aload_n 0, 0, 0) := rfl
theorem te_86_88 : (pT M_86).find? (fun e => e.1 == 88) = some (88, .iconst 0, 0, 0) := rfl
theorem te_86_89 : (pT M_86).find? (fun e => e.1 == 89) = some (89, .invokevirtual 81, 96, 0) := rfl
theorem te_86_92 : (pT M_86).find? (fun e => e.1 == 92) = some (92, .ifCond .eq 7, 0, 0) := rfl
theorem te_86_95 : (pT M_86).find? (fun e => e.1 == 95) = some (95, .iconst 1, 0, 0) := rfl
theorem te_86_96 : (pT M_86).find? (fun e => e.1 == 96) = some (96, .goto 4, 0, 0) := rfl
theorem te_86_99 : (pT M_86).find? (fun e => e.1 == 99) = some (99, .iconst 0, 0, 0) := rfl
theorem te_86_100 : (pT M_86).find? (fun e => e.1 == 100) = some (100, .istore 5, 0, 0) := rfl
theorem te_86_102 : (pT M_86).find? (fun e => e.1 == 102) = some (102, .aload_n 0, 0, 0) := rfl
theorem te_86_103 : (pT M_86).find? (fun e => e.1 == 103) = some (103, .iload 4, 0, 0) := rfl
theorem te_86_105 : (pT M_86).find? (fun e => e.1 == 105) = some (105, .invokevirtual 85, 102, 0) := rfl
theorem te_86_108 : (pT M_86).find? (fun e => e.1 == 108) = some (108, .iload 5, 0, 0) := rfl
theorem te_86_110 : (pT M_86).find? (fun e => e.1 == 110) = some (110, .ifCond .ne 5, 0, 0) := rfl
theorem te_86_113 : (pT M_86).find? (fun e => e.1 == 113) = some (113, .iconst 0, 0, 0) := rfl
theorem te_86_114 : (pT M_86).find? (fun e => e.1 == 114) = some (114, .ireturn, 0, 0) := rfl
theorem te_86_115 : (pT M_86).find? (fun e => e.1 == 115) = some (115, .iinc 4 1, 0, 0) := rfl
theorem te_86_118 : (pT M_86).find? (fun e => e.1 == 118) = some (118, .goto (-82), 0, 0) := rfl
theorem te_86_121 : (pT M_86).find? (fun e => e.1 == 121) = some (121, .iconst 1, 0, 0) := rfl
theorem te_86_122 : (pT M_86).find? (fun e => e.1 == 122) = some (122, .ireturn, 0, 0) := rfl
theorem te_87_0 : (pT M_87).find? (fun e => e.1 == 0) = some (0, .aload_n 0, 0, 0) := rfl
theorem te_87_1 : (pT M_87).find? (fun e => e.1 == 1) = some (1, .aload_n 1, 0, 0) := rfl
theorem te_87_2 : (pT M_87).find? (fun e => e.1 == 2) = some (2, .getfield 106, 0, 0) := rfl
theorem te_87_5 : (pT M_87).find? (fun e => e.1 == 5) = some (5, .putfield 70, 6, 0) := rfl
theorem te_87_8 : (pT M_87).find? (fun e => e.1 == 8) = some (8, .aload_n 0, 0, 0) := rfl
theorem te_87_9 : (pT M_87).find? (fun e => e.1 == 9) = some (9, .iload_n 2, 0, 0) := rfl
theorem te_87_10 : (pT M_87).find? (fun e => e.1 == 10) = some (10, .putfield 103, 6, 1) := rfl
theorem te_87_13 : (pT M_87).find? (fun e => e.1 == 13) = some (13, .aload_n 0, 0, 0) := rfl
theorem te_87_14 : (pT M_87).find? (fun e => e.1 == 14) = some (14, .iconst 1, 0, 0) := rfl
theorem te_87_15 : (pT M_87).find? (fun e => e.1 == 15) = some (15, .iload_n 2, 0, 0) := rfl
theorem te_87_16 : (pT M_87).find? (fun e => e.1 == 16) = some (16, .ishl, 0, 0) := rfl
theorem te_87_17 : (pT M_87).find? (fun e => e.1 == 17) = some (17, .iconst 1, 0, 0) := rfl
theorem te_87_18 : (pT M_87).find? (fun e => e.1 == 18) = some (18, .isub, 0, 0) := rfl
theorem te_87_19 : (pT M_87).find? (fun e => e.1 == 19) = some (19, .putfield 109, 6, 2) := rfl
theorem te_87_22 : (pT M_87).find? (fun e => e.1 == 22) = some (22, .aload_n 0, 0, 0) := rfl
theorem te_87_23 : (pT M_87).find? (fun e => e.1 == 23) = some (23, .iconst 0, 0, 0) := rfl
theorem te_87_24 : (pT M_87).find? (fun e => e.1 == 24) = some (24, .putfield 97, 6, 4) := rfl
theorem te_87_27 : (pT M_87).find? (fun e => e.1 == 27) = some (27, .iconst 0, 0, 0) := rfl
theorem te_87_28 : (pT M_87).find? (fun e => e.1 == 28) = some (28, .istore_n 3, 0, 0) := rfl
theorem te_87_29 : (pT M_87).find? (fun e => e.1 == 29) = some (29, .iload_n 3, 0, 0) := rfl
theorem te_87_30 : (pT M_87).find? (fun e => e.1 == 30) = some (30, .iconst 3, 0, 0) := rfl
theorem te_87_31 : (pT M_87).find? (fun e => e.1 == 31) = some (31, .if_icmp .ge 91, 0, 0) := rfl
theorem te_87_34 : (pT M_87).find? (fun e => e.1 == 34) = some (34, .aload_n 0, 0, 0) := rfl
theorem te_87_35 : (pT M_87).find? (fun e => e.1 == 35) = some (35, .getfield 21, 6, 8) := rfl
theorem te_87_38 : (pT M_87).find? (fun e => e.1 == 38) = some (38, .iload_n 3, 0, 0) := rfl
theorem te_87_39 : (pT M_87).find? (fun e => e.1 == 39) = some (39, .aload_n 1, 0, 0) := rfl
theorem te_87_40 : (pT M_87).find? (fun e => e.1 == 40) = some (40, .getfield 112, 0, 7) := rfl
theorem te_87_43 : (pT M_87).find? (fun e => e.1 == 43) = some (43, .iload_n 3, 0, 0) := rfl
theorem te_87_44 : (pT M_87).find? (fun e => e.1 == 44) = some (44, .iaload, 0, 0) := rfl
theorem te_87_45 : (pT M_87).find? (fun e => e.1 == 45) = some (45, .iastore, 0, 0) := rfl
theorem te_87_46 : (pT M_87).find? (fun e => e.1 == 46) = some (46, .aload_n 1, 0, 0) := rfl
theorem te_87_47 : (pT M_87).find? (fun e => e.1 == 47) = some (47, .iload_n 3, 0, 0) := rfl
theorem te_87_48 : (pT M_87).find? (fun e => e.1 == 48) = some (48, .invokevirtual 113, 36, 1) := rfl
theorem te_87_51 : (pT M_87).find? (fun e => e.1 == 51) = some (51, .iload_n 2, 0, 0) := rfl
theorem te_87_52 : (pT M_87).find? (fun e => e.1 == 52) = some (52, .aload_n 0, 0, 0) := rfl
theorem te_87_53 : (pT M_87).find? (fun e => e.1 == 53) = some (53, .getfield 21, 6, 8) := rfl
theorem te_87_56 : (pT M_87).find? (fun e => e.1 == 56) = some (56, .iload_n 3, 0, 0) := rfl
theorem te_87_57 : (pT M_87).find? (fun e => e.1 == 57) = some (57, .iaload, 0, 0) := rfl
theorem te_87_58 : (pT M_87).find? (fun e => e.1 == 58) = some (58, .imul, 0, 0) := rfl
theorem te_87_59 : (pT M_87).find? (fun e => e.1 == 59) = some (59, .if_icmp .le 5, 0, 0) := rfl
theorem te_87_62 : (pT M_87).find? (fun e => e.1 == 62) = some (62, .iconst 0, 0, 0) := rfl
theorem te_87_63 : (pT M_87).find? (fun e => e.1 == 63) = some (63, .ireturn, 0, 0) := rfl
theorem te_87_64 : (pT M_87).find? (fun e => e.1 == 64) = some (64, .aload_n 0, 0, 0) := rfl
theorem te_87_65 : (pT M_87).find? (fun e => e.1 == 65) = some (65, .getfield 24, 6, 9) := rfl
theorem te_87_68 : (pT M_87).find? (fun e => e.1 == 68) = some (68, .iload_n 3, 0, 0) := rfl
theorem te_87_69 : (pT M_87).find? (fun e => e.1 == 69) = some (69, .iconst 0, 0, 0) := rfl
theorem te_87_70 : (pT M_87).find? (fun e => e.1 == 70) = some (70, .iastore, 0, 0) := rfl
theorem te_87_71 : (pT M_87).find? (fun e => e.1 == 71) = some (71, .aload_n 0, 0, 0) := rfl
theorem te_87_72 : (pT M_87).find? (fun e => e.1 == 72) = some (72, .getfield 30, 6, 11) := rfl
theorem te_87_75 : (pT M_87).find? (fun e => e.1 == 75) = some (75, .iload_n 3, 0, 0) := rfl
theorem te_87_76 : (pT M_87).find? (fun e => e.1 == 76) = some (76, .iconst 4, 0, 0) := rfl
theorem te_87_77 : (pT M_87).find? (fun e => e.1 == 77) = some (77, .imul, 0, 0) := rfl
theorem te_87_78 : (pT M_87).find? (fun e => e.1 == 78) = some (78, .aload_n 0, 0, 0) := rfl
theorem te_87_79 : (pT M_87).find? (fun e => e.1 == 79) = some (79, .getfield 109, 6, 2) := rfl
theorem te_87_82 : (pT M_87).find? (fun e => e.1 == 82) = some (82, .iastore, 0, 0) := rfl
theorem te_87_83 : (pT M_87).find? (fun e => e.1 == 83) = some (83, .aload_n 0, 0, 0) := rfl
theorem te_87_84 : (pT M_87).find? (fun e => e.1 == 84) = some (84, .getfield 30, 6, 11) := rfl
theorem te_87_87 : (pT M_87).find? (fun e => e.1 == 87) = some (87, .iload_n 3, 0, 0) := rfl
theorem te_87_88 : (pT M_87).find? (fun e => e.1 == 88) = some (88, .iconst 4, 0, 0) := rfl
theorem te_87_89 : (pT M_87).find? (fun e => e.1 == 89) = some (89, .imul, 0, 0) := rfl
theorem te_87_90 : (pT M_87).find? (fun e => e.1 == 90) = some (90, .iconst 1, 0, 0) := rfl
theorem te_87_91 : (pT M_87).find? (fun e => e.1 == 91) = some (91, .iadd, 0, 0) := rfl
theorem te_87_92 : (pT M_87).find? (fun e => e.1 == 92) = some (92, .iconst 0, 0, 0) := rfl
theorem te_87_93 : (pT M_87).find? (fun e => e.1 == 93) = some (93, .iastore, 0, 0) := rfl
theorem te_87_94 : (pT M_87).find? (fun e => e.1 == 94) = some (94, .aload_n 0, 0, 0) := rfl
theorem te_87_95 : (pT M_87).find? (fun e => e.1 == 95) = some (95, .getfield 30, 6, 11) := rfl
theorem te_87_98 : (pT M_87).find? (fun e => e.1 == 98) = some (98, .iload_n 3, 0, 0) := rfl
theorem te_87_99 : (pT M_87).find? (fun e => e.1 == 99) = some (99, .iconst 4, 0, 0) := rfl
theorem te_87_100 : (pT M_87).find? (fun e => e.1 == 100) = some (100, .imul, 0, 0) := rfl
theorem te_87_101 : (pT M_87).find? (fun e => e.1 == 101) = some (101, .iconst 2, 0, 0) := rfl
theorem te_87_102 : (pT M_87).find? (fun e => e.1 == 102) = some (102, .iadd, 0, 0) := rfl
theorem te_87_103 : (pT M_87).find? (fun e => e.1 == 103) = some (103, .iconst 0, 0, 0) := rfl
theorem te_87_104 : (pT M_87).find? (fun e => e.1 == 104) = some (104, .iastore, 0, 0) := rfl
theorem te_87_105 : (pT M_87).find? (fun e => e.1 == 105) = some (105, .aload_n 0, 0, 0) := rfl
theorem te_87_106 : (pT M_87).find? (fun e => e.1 == 106) = some (106, .getfield 30, 6, 11) := rfl
theorem te_87_109 : (pT M_87).find? (fun e => e.1 == 109) = some (109, .iload_n 3, 0, 0) := rfl
theorem te_87_110 : (pT M_87).find? (fun e => e.1 == 110) = some (110, .iconst 4, 0, 0) := rfl
theorem te_87_111 : (pT M_87).find? (fun e => e.1 == 111) = some (111, .imul, 0, 0) := rfl
theorem te_87_112 : (pT M_87).find? (fun e => e.1 == 112) = some (112, .iconst 3, 0, 0) := rfl
theorem te_87_113 : (pT M_87).find? (fun e => e.1 == 113) = some (113, .iadd, 0, 0) := rfl
theorem te_87_114 : (pT M_87).find? (fun e => e.1 == 114) = some (114, .iconst 0, 0, 0) := rfl
theorem te_87_115 : (pT M_87).find? (fun e => e.1 == 115) = some (115, .iastore, 0, 0) := rfl
theorem te_87_116 : (pT M_87).find? (fun e => e.1 == 116) = some (116, .iinc 3 1, 0, 0) := rfl
theorem te_87_119 : (pT M_87).find? (fun e => e.1 == 119) = some (119, .goto (-90), 0, 0) := rfl
theorem te_87_122 : (pT M_87).find? (fun e => e.1 == 122) = some (122, .iconst 0, 0, 0) := rfl
theorem te_87_123 : (pT M_87).find? (fun e => e.1 == 123) = some (123, .istore_n 3, 0, 0) := rfl
theorem te_87_124 : (pT M_87).find? (fun e => e.1 == 124) = some (124, .iload_n 3, 0, 0) := rfl
theorem te_87_125 : (pT M_87).find? (fun e => e.1 == 125) = some (125, .aload_n 0, 0, 0) := rfl
theorem te_87_126 : (pT M_87).find? (fun e => e.1 == 126) = some (126, .getfield 70, 6, 0) := rfl
theorem te_87_129 : (pT M_87).find? (fun e => e.1 == 129) = some (129, .if_icmp .ge 52, 0, 0) := rfl
theorem te_87_132 : (pT M_87).find? (fun e => e.1 == 132) = some (132, .aload_n 0, 0, 0) := rfl
theorem te_87_133 : (pT M_87).find? (fun e => e.1 == 133) = some (133, .getfield 18, 6, 7) := rfl
theorem te_87_136 : (pT M_87).find? (fun e => e.1 == 136) = some (136, .iload_n 3, 0, 0) := rfl
theorem te_87_137 : (pT M_87).find? (fun e => e.1 == 137) = some (137, .aload_n 1, 0, 0) := rfl
theorem te_87_138 : (pT M_87).find? (fun e => e.1 == 138) = some (138, .iload_n 3, 0, 0) := rfl
theorem te_87_139 : (pT M_87).find? (fun e => e.1 == 139) = some (139, .invokevirtual 116, 37, 1) := rfl
theorem te_87_142 : (pT M_87).find? (fun e => e.1 == 142) = some (142, .iastore, 0, 0) := rfl
theorem te_87_143 : (pT M_87).find? (fun e => e.1 == 143) = some (143, .aload_n 0, 0, 0) := rfl
theorem te_87_144 : (pT M_87).find? (fun e => e.1 == 144) = some (144, .getfield 24, 6, 9) := rfl
theorem te_87_147 : (pT M_87).find? (fun e => e.1 == 147) = some (147, .aload_n 0, 0, 0) := rfl
theorem te_87_148 : (pT M_87).find? (fun e => e.1 == 148) = some (148, .getfield 18, 6, 7) := rfl
theorem te_87_151 : (pT M_87).find? (fun e => e.1 == 151) = some (151, .iload_n 3, 0, 0) := rfl
theorem te_87_152 : (pT M_87).find? (fun e => e.1 == 152) = some (152, .iaload, 0, 0) := rfl
theorem te_87_153 : (pT M_87).find? (fun e => e.1 == 153) = some (153, .dup2, 0, 0) := rfl
theorem te_87_154 : (pT M_87).find? (fun e => e.1 == 154) = some (154, .iaload, 0, 0) := rfl
theorem te_87_155 : (pT M_87).find? (fun e => e.1 == 155) = some (155, .iconst 1, 0, 0) := rfl
theorem te_87_156 : (pT M_87).find? (fun e => e.1 == 156) = some (156, .iload_n 3, 0, 0) := rfl
theorem te_87_157 : (pT M_87).find? (fun e => e.1 == 157) = some (157, .ishl, 0, 0) := rfl
theorem te_87_158 : (pT M_87).find? (fun e => e.1 == 158) = some (158, .ior, 0, 0) := rfl
theorem te_87_159 : (pT M_87).find? (fun e => e.1 == 159) = some (159, .iastore, 0, 0) := rfl
theorem te_87_160 : (pT M_87).find? (fun e => e.1 == 160) = some (160, .aload_n 0, 0, 0) := rfl
theorem te_87_161 : (pT M_87).find? (fun e => e.1 == 161) = some (161, .iload_n 3, 0, 0) := rfl
theorem te_87_162 : (pT M_87).find? (fun e => e.1 == 162) = some (162, .aload_n 1, 0, 0) := rfl
theorem te_87_163 : (pT M_87).find? (fun e => e.1 == 163) = some (163, .iload_n 3, 0, 0) := rfl
theorem te_87_164 : (pT M_87).find? (fun e => e.1 == 164) = some (164, .invokevirtual 119, 38, 1) := rfl
theorem te_87_167 : (pT M_87).find? (fun e => e.1 == 167) = some (167, .invokevirtual 122, 88, 0) := rfl
theorem te_87_170 : (pT M_87).find? (fun e => e.1 == 170) = some (170, .ifCond .ne 5, 0, 0) := rfl
theorem te_87_173 : (pT M_87).find? (fun e => e.1 == 173) = some (173, .iconst 0, 0, 0) := rfl
theorem te_87_174 : (pT M_87).find? (fun e => e.1 == 174) = some (174, .ireturn, 0, 0) := rfl
theorem te_87_175 : (pT M_87).find? (fun e => e.1 == 175) = some (175, .iinc 3 1, 0, 0) := rfl
theorem te_87_178 : (pT M_87).find? (fun e => e.1 == 178) = some (178, .goto (-54), 0, 0) := rfl
theorem te_87_181 : (pT M_87).find? (fun e => e.1 == 181) = some (181, .iconst 1, 0, 0) := rfl
theorem te_87_182 : (pT M_87).find? (fun e => e.1 == 182) = some (182, .ireturn, 0, 0) := rfl
theorem te_88_0 : (pT M_88).find? (fun e => e.1 == 0) = some (0, .iconst 0, 0, 0) := rfl
theorem te_88_1 : (pT M_88).find? (fun e => e.1 == 1) = some (1, .istore_n 3, 0, 0) := rfl
theorem te_88_2 : (pT M_88).find? (fun e => e.1 == 2) = some (2, .iload_n 3, 0, 0) := rfl
theorem te_88_3 : (pT M_88).find? (fun e => e.1 == 3) = some (3, .iconst 4, 0, 0) := rfl
theorem te_88_4 : (pT M_88).find? (fun e => e.1 == 4) = some (4, .if_icmp .ge 20, 0, 0) := rfl
theorem te_88_7 : (pT M_88).find? (fun e => e.1 == 7) = some (7, .aload_n 0, 0, 0) := rfl
theorem te_88_8 : (pT M_88).find? (fun e => e.1 == 8) = some (8, .getfield 27, 6, 10) := rfl
theorem te_88_11 : (pT M_88).find? (fun e => e.1 == 11) = some (11, .iload_n 1, 0, 0) := rfl
theorem te_88_12 : (pT M_88).find? (fun e => e.1 == 12) = some (12, .iconst 4, 0, 0) := rfl
theorem te_88_13 : (pT M_88).find? (fun e => e.1 == 13) = some (13, .imul, 0, 0) := rfl
theorem te_88_14 : (pT M_88).find? (fun e => e.1 == 14) = some (14, .iload_n 3, 0, 0) := rfl
theorem te_88_15 : (pT M_88).find? (fun e => e.1 == 15) = some (15, .iadd, 0, 0) := rfl
theorem te_88_16 : (pT M_88).find? (fun e => e.1 == 16) = some (16, .iconst 0, 0, 0) := rfl
theorem te_88_17 : (pT M_88).find? (fun e => e.1 == 17) = some (17, .iastore, 0, 0) := rfl
theorem te_88_18 : (pT M_88).find? (fun e => e.1 == 18) = some (18, .iinc 3 1, 0, 0) := rfl
theorem te_88_21 : (pT M_88).find? (fun e => e.1 == 21) = some (21, .goto (-19), 0, 0) := rfl
theorem te_88_24 : (pT M_88).find? (fun e => e.1 == 24) = some (24, .iconst 0, 0, 0) := rfl
theorem te_88_25 : (pT M_88).find? (fun e => e.1 == 25) = some (25, .istore_n 3, 0, 0) := rfl
theorem te_88_26 : (pT M_88).find? (fun e => e.1 == 26) = some (26, .iload_n 3, 0, 0) := rfl
theorem te_88_27 : (pT M_88).find? (fun e => e.1 == 27) = some (27, .iconst 4, 0, 0) := rfl
theorem te_88_28 : (pT M_88).find? (fun e => e.1 == 28) = some (28, .if_icmp .ge 63, 0, 0) := rfl
theorem te_88_31 : (pT M_88).find? (fun e => e.1 == 31) = some (31, .iload_n 2, 0, 0) := rfl
theorem te_88_32 : (pT M_88).find? (fun e => e.1 == 32) = some (32, .iconst 1, 0, 0) := rfl
theorem te_88_33 : (pT M_88).find? (fun e => e.1 == 33) = some (33, .iload_n 3, 0, 0) := rfl
theorem te_88_34 : (pT M_88).find? (fun e => e.1 == 34) = some (34, .ishl, 0, 0) := rfl
theorem te_88_35 : (pT M_88).find? (fun e => e.1 == 35) = some (35, .iand, 0, 0) := rfl
theorem te_88_36 : (pT M_88).find? (fun e => e.1 == 36) = some (36, .ifCond .eq 49, 0, 0) := rfl
theorem te_88_39 : (pT M_88).find? (fun e => e.1 == 39) = some (39, .iload_n 1, 0, 0) := rfl
theorem te_88_40 : (pT M_88).find? (fun e => e.1 == 40) = some (40, .iconst 4, 0, 0) := rfl
theorem te_88_41 : (pT M_88).find? (fun e => e.1 == 41) = some (41, .imul, 0, 0) := rfl
theorem te_88_42 : (pT M_88).find? (fun e => e.1 == 42) = some (42, .iload_n 3, 0, 0) := rfl
theorem te_88_43 : (pT M_88).find? (fun e => e.1 == 43) = some (43, .aload_n 0, 0, 0) := rfl
theorem te_88_44 : (pT M_88).find? (fun e => e.1 == 44) = some (44, .getfield 103, 6, 1) := rfl
theorem te_88_47 : (pT M_88).find? (fun e => e.1 == 47) = some (47, .irem, 0, 0) := rfl
theorem te_88_48 : (pT M_88).find? (fun e => e.1 == 48) = some (48, .iadd, 0, 0) := rfl
theorem te_88_49 : (pT M_88).find? (fun e => e.1 == 49) = some (49, .istore 4, 0, 0) := rfl
theorem te_88_51 : (pT M_88).find? (fun e => e.1 == 51) = some (51, .aload_n 0, 0, 0) := rfl
theorem te_88_52 : (pT M_88).find? (fun e => e.1 == 52) = some (52, .getfield 27, 6, 10) := rfl
theorem te_88_55 : (pT M_88).find? (fun e => e.1 == 55) = some (55, .iload 4, 0, 0) := rfl
theorem te_88_57 : (pT M_88).find? (fun e => e.1 == 57) = some (57, .dup2, 0, 0) := rfl
theorem te_88_58 : (pT M_88).find? (fun e => e.1 == 58) = some (58, .iaload, 0, 0) := rfl
theorem te_88_59 : (pT M_88).find? (fun e => e.1 == 59) = some (59, .iconst 1, 0, 0) := rfl
theorem te_88_60 : (pT M_88).find? (fun e => e.1 == 60) = some (60, .iadd, 0, 0) := rfl
theorem te_88_61 : (pT M_88).find? (fun e => e.1 == 61) = some (61, .iastore, 0, 0) := rfl
theorem te_88_62 : (pT M_88).find? (fun e => e.1 == 62) = some (62, .aload_n 0, 0, 0) := rfl
theorem te_88_63 : (pT M_88).find? (fun e => e.1 == 63) = some (63, .getfield 27, 6, 10) := rfl
theorem te_88_66 : (pT M_88).find? (fun e => e.1 == 66) = some (66, .iload 4, 0, 0) := rfl
theorem te_88_68 : (pT M_88).find? (fun e => e.1 == 68) = some (68, .iaload, 0, 0) := rfl
theorem te_88_69 : (pT M_88).find? (fun e => e.1 == 69) = some (69, .aload_n 0, 0, 0) := rfl
theorem te_88_70 : (pT M_88).find? (fun e => e.1 == 70) = some (70, .getfield 21, 6, 8) := rfl
theorem te_88_73 : (pT M_88).find? (fun e => e.1 == 73) = some (73, .aload_n 0, 0, 0) := rfl
theorem te_88_74 : (pT M_88).find? (fun e => e.1 == 74) = some (74, .getfield 18, 6, 7) := rfl
theorem te_88_77 : (pT M_88).find? (fun e => e.1 == 77) = some (77, .iload_n 1, 0, 0) := rfl
theorem te_88_78 : (pT M_88).find? (fun e => e.1 == 78) = some (78, .iaload, 0, 0) := rfl
theorem te_88_79 : (pT M_88).find? (fun e => e.1 == 79) = some (79, .iaload, 0, 0) := rfl
theorem te_88_80 : (pT M_88).find? (fun e => e.1 == 80) = some (80, .if_icmp .le 5, 0, 0) := rfl
theorem te_88_83 : (pT M_88).find? (fun e => e.1 == 83) = some (83, .iconst 0, 0, 0) := rfl
theorem te_88_84 : (pT M_88).find? (fun e => e.1 == 84) = some (84, .ireturn, 0, 0) := rfl
theorem te_88_85 : (pT M_88).find? (fun e => e.1 == 85) = some (85, .iinc 3 1, 0, 0) := rfl
theorem te_88_88 : (pT M_88).find? (fun e => e.1 == 88) = some (88, .goto (-62), 0, 0) := rfl
theorem te_88_91 : (pT M_88).find? (fun e => e.1 == 91) = some (91, .iconst 1, 0, 0) := rfl
theorem te_88_92 : (pT M_88).find? (fun e => e.1 == 92) = some (92, .ireturn, 0, 0) := rfl
theorem te_103_0 : (pT M_103).find? (fun e => e.1 == 0) = some (0, .aload_n 0, 0, 0) := rfl
theorem te_103_1 : (pT M_103).find? (fun e => e.1 == 1) = some (1, .aload_n 1, 0, 0) := rfl
theorem te_103_2 : (pT M_103).find? (fun e => e.1 == 2) = some (2, .invokevirtual 89, 104, 0) := rfl
theorem te_103_5 : (pT M_103).find? (fun e => e.1 == 5) = some (5, .aload_n 0, 0, 0) := rfl
theorem te_103_6 : (pT M_103).find? (fun e => e.1 == 6) = some (6, .invokevirtual 67, 89, 0) := rfl
theorem te_103_9 : (pT M_103).find? (fun e => e.1 == 9) = some (9, .iconst 0, 0, 0) := rfl
theorem te_103_10 : (pT M_103).find? (fun e => e.1 == 10) = some (10, .istore_n 2, 0, 0) := rfl
theorem te_103_11 : (pT M_103).find? (fun e => e.1 == 11) = some (11, .iload_n 2, 0, 0) := rfl
theorem te_103_12 : (pT M_103).find? (fun e => e.1 == 12) = some (12, .aload_n 0, 0, 0) := rfl
theorem te_103_13 : (pT M_103).find? (fun e => e.1 == 13) = some (13, .getfield 70, 6, 0) := rfl
theorem te_103_16 : (pT M_103).find? (fun e => e.1 == 16) = some (16, .if_icmp .ge 156, 0, 0) := rfl
theorem te_103_19 : (pT M_103).find? (fun e => e.1 == 19) = some (19, .aload_n 0, 0, 0) := rfl
theorem te_103_20 : (pT M_103).find? (fun e => e.1 == 20) = some (20, .aload_n 0, 0, 0) := rfl
theorem te_103_21 : (pT M_103).find? (fun e => e.1 == 21) = some (21, .iload_n 2, 0, 0) := rfl
theorem te_103_22 : (pT M_103).find? (fun e => e.1 == 22) = some (22, .invokevirtual 93, 105, 0) := rfl
theorem te_103_25 : (pT M_103).find? (fun e => e.1 == 25) = some (25, .putfield 74, 6, 3) := rfl
theorem te_103_28 : (pT M_103).find? (fun e => e.1 == 28) = some (28, .aload_n 0, 0, 0) := rfl
theorem te_103_29 : (pT M_103).find? (fun e => e.1 == 29) = some (29, .getfield 74, 6, 3) := rfl
theorem te_103_32 : (pT M_103).find? (fun e => e.1 == 32) = some (32, .aload_n 0, 0, 0) := rfl
theorem te_103_33 : (pT M_103).find? (fun e => e.1 == 33) = some (33, .getfield 97, 6, 4) := rfl
theorem te_103_36 : (pT M_103).find? (fun e => e.1 == 36) = some (36, .iand, 0, 0) := rfl
theorem te_103_37 : (pT M_103).find? (fun e => e.1 == 37) = some (37, .ifCond .ne 7, 0, 0) := rfl
theorem te_103_40 : (pT M_103).find? (fun e => e.1 == 40) = some (40, .iconst 1, 0, 0) := rfl
theorem te_103_41 : (pT M_103).find? (fun e => e.1 == 41) = some (41, .goto 4, 0, 0) := rfl
theorem te_103_44 : (pT M_103).find? (fun e => e.1 == 44) = some (44, .iconst 0, 0, 0) := rfl
theorem te_103_45 : (pT M_103).find? (fun e => e.1 == 45) = some (45, .istore_n 3, 0, 0) := rfl
theorem te_103_46 : (pT M_103).find? (fun e => e.1 == 46) = some (46, .iload_n 3, 0, 0) := rfl
theorem te_103_47 : (pT M_103).find? (fun e => e.1 == 47) = some (47, .ifCond .eq 7, 0, 0) := rfl
theorem te_103_50 : (pT M_103).find? (fun e => e.1 == 50) = some (50, .iconst 1, 0, 0) := rfl
theorem te_103_51 : (pT M_103).find? (fun e => e.1 == 51) = some (51, .goto 8, 0, 0) := rfl
theorem te_103_54 : (pT M_103).find? (fun e => e.1 == 54) = some (54, .aload_n 0, 0, 0) := rfl
theorem te_103_55 : (pT M_103).find? (fun e => e.1 == 55) = some (55, .iload_n 2, 0, 0) := rfl
theorem te_103_56 : (pT M_103).find? (fun e => e.1 == 56) = some (56, .invokevirtual 100, 97, 0) := rfl
theorem te_103_59 : (pT M_103).find? (fun e => e.1 == 59) = some (59, .istore 4, 0, 0) := rfl
theorem te_103_61 : (pT M_103).find? (fun e => e.1 == 61) = some (61, .iconst 0, 0, 0) := rfl
theorem te_103_62 : (pT M_103).find? (fun e => e.1 == 62) = some (62, .istore 5, 0, 0) := rfl
theorem te_103_64 : (pT M_103).find? (fun e => e.1 == 64) = some (64, .iconst 0, 0, 0) := rfl
theorem te_103_65 : (pT M_103).find? (fun e => e.1 == 65) = some (65, .istore 6, 0, 0) := rfl
theorem te_103_67 : (pT M_103).find? (fun e => e.1 == 67) = some (67, .iload 6, 0, 0) := rfl
theorem te_103_69 : (pT M_103).find? (fun e => e.1 == 69) = some (69, .aload_n 0, 0, 0) := rfl
theorem te_103_70 : (pT M_103).find? (fun e => e.1 == 70) = some (70, .getfield 103, 6, 1) := rfl
theorem te_103_73 : (pT M_103).find? (fun e => e.1 == 73) = some (73, .if_icmp .ge 86, 0, 0) := rfl
theorem te_103_76 : (pT M_103).find? (fun e => e.1 == 76) = some (76, .iload 5, 0, 0) := rfl
theorem te_103_78 : (pT M_103).find? (fun e => e.1 == 78) = some (78, .ifCond .ne 81, 0, 0) := rfl
theorem te_103_81 : (pT M_103).find? (fun e => e.1 == 81) = some (81, .iload 4, 0, 0) := rfl
theorem te_103_83 : (pT M_103).find? (fun e => e.1 == 83) = some (83, .iconst 1, 0, 0) := rfl
theorem te_103_84 : (pT M_103).find? (fun e => e.1 == 84) = some (84, .iload 6, 0, 0) := rfl
theorem te_103_86 : (pT M_103).find? (fun e => e.1 == 86) = some (86, .ishl, 0, 0) := rfl
theorem te_103_87 : (pT M_103).find? (fun e => e.1 == 87) = some (87, .iand, 0, 0) := rfl
theorem te_103_88 : (pT M_103).find? (fun e => e.1 == 88) = some (88, .ifCond .eq 65, 0, 0) := rfl
theorem te_103_91 : (pT M_103).find? (fun e => e.1 == 91) = some (91, .iload_n 3, 0, 0) := rfl
theorem te_103_92 : (pT M_103).find? (fun e => e.1 == 92) = some (92, .ifCond .ne 18, 0, 0) := rfl
theorem te_103_95 : (pT M_103).find? (fun e => e.1 == 95) = some (95, .iload 6, 0, 0) := rfl
theorem te_103_97 : (pT M_103).find? (fun e => e.1 == 97) = some (97, .aload_n 0, 0, 0) := rfl
theorem te_103_98 : (pT M_103).find? (fun e => e.1 == 98) = some (98, .getfield 15, 6, 6) := rfl
theorem te_103_101 : (pT M_103).find? (fun e => e.1 == 101) = some (101, .iload_n 2, 0, 0) := rfl
theorem te_103_102 : (pT M_103).find? (fun e => e.1 == 102) = some (102, .iaload, 0, 0) := rfl
theorem te_103_103 : (pT M_103).find? (fun e => e.1 == 103) = some (103, .if_icmp .ne 7, 0, 0) := rfl
theorem te_103_106 : (pT M_103).find? (fun e => e.1 == 106) = some (106, .iconst 1, 0, 0) := rfl
theorem te_103_107 : (pT M_103).find? (fun e => e.1 == 107) = some (107, .goto 4, 0, 0) := rfl
theorem te_103_110 : (pT M_103).find? (fun e => e.1 == 110) = some (110, .iconst 0, 0, 0) := rfl
theorem te_103_111 : (pT M_103).find? (fun e => e.1 == 111) = some (111, .istore 7, 0, 0) := rfl
theorem te_103_113 : (pT M_103).find? (fun e => e.1 == 113) = some (113, .aload_n 0, 0, 0) := rfl
theorem te_103_114 : (pT M_103).find? (fun e => e.1 == 114) = some (114, .iload_n 2, 0, 0) := rfl
theorem te_103_115 : (pT M_103).find? (fun e => e.1 == 115) = some (115, .iload 6, 0, 0) := rfl
theorem te_103_117 : (pT M_103).find? (fun e => e.1 == 117) = some (117, .invokevirtual 77, 91, 0) := rfl
theorem te_103_120 : (pT M_103).find? (fun e => e.1 == 120) = some (120, .ifCond .eq 20, 0, 0) := rfl
theorem te_103_123 : (pT M_103).find? (fun e => e.1 == 123) = some (123, .iload 7, 0, 0) := rfl
theorem te_103_125 : (pT M_103).find? (fun e => e.1 == 125) = some (125, .ifCond .ne 11, 0, 0) := rfl
theorem te_103_128 : (pT M_103).find? (fun e => e.1 == 128) = some (128, .aload_n 0, 0, 0) := rfl
theorem te_103_129 : (pT M_103).find? (fun e => e.1 == 129) = some (129, .iconst 0, 0, 0) := rfl
theorem te_103_130 : (pT M_103).find? (fun e => e.1 == 130) = some (130, .invokevirtual 81, 96, 0) := rfl
theorem te_103_133 : (pT M_103).find? (fun e => e.1 == 133) = some (133, .ifCond .eq 7, 0, 0) := rfl
theorem te_103_136 : (pT M_103).find? (fun e => e.1 == 136) = some (136, .iconst 1, 0, 0) := rfl
theorem te_103_137 : (pT M_103).find? (fun e => e.1 == 137) = some (137, .goto 4, 0, 0) := rfl
theorem te_103_140 : (pT M_103).find? (fun e => e.1 == 140) = some (140, .iconst 0, 0, 0) := rfl
theorem te_103_141 : (pT M_103).find? (fun e => e.1 == 141) = some (141, .istore 5, 0, 0) := rfl
theorem te_103_143 : (pT M_103).find? (fun e => e.1 == 143) = some (143, .iload 5, 0, 0) := rfl
theorem te_103_145 : (pT M_103).find? (fun e => e.1 == 145) = some (145, .ifCond .ne 8, 0, 0) := rfl
theorem te_103_148 : (pT M_103).find? (fun e => e.1 == 148) = some (148, .aload_n 0, 0, 0) := rfl
theorem te_103_149 : (pT M_103).find? (fun e => e.1 == 149) = some (149, .iload_n 2, 0, 0) := rfl
theorem te_103_150 : (pT M_103).find? (fun e => e.1 == 150) = some (150, .invokevirtual 85, 102, 0) := rfl
theorem te_103_153 : (pT M_103).find? (fun e => e.1 == 153) = some (153, .iinc 6 1, 0, 0) := rfl
theorem te_103_156 : (pT M_103).find? (fun e => e.1 == 156) = some (156, .goto (-89), 0, 0) := rfl
theorem te_103_159 : (pT M_103).find? (fun e => e.1 == 159) = some (159, .iload 5, 0, 0) := rfl
theorem te_103_161 : (pT M_103).find? (fun e => e.1 == 161) = some (161, .ifCond .ne 5, 0, 0) := rfl
theorem te_103_164 : (pT M_103).find? (fun e => e.1 == 164) = some (164, .iconst 0, 0, 0) := rfl
theorem te_103_165 : (pT M_103).find? (fun e => e.1 == 165) = some (165, .ireturn, 0, 0) := rfl
theorem te_103_166 : (pT M_103).find? (fun e => e.1 == 166) = some (166, .iinc 2 1, 0, 0) := rfl
theorem te_103_169 : (pT M_103).find? (fun e => e.1 == 169) = some (169, .goto (-158), 0, 0) := rfl
theorem te_103_172 : (pT M_103).find? (fun e => e.1 == 172) = some (172, .iconst 1, 0, 0) := rfl
theorem te_103_173 : (pT M_103).find? (fun e => e.1 == 173) = some (173, .ireturn, 0, 0) := rfl
end
section
/-! charts, ways, rows that are run: frames -/
theorem ChSh.rg {Q : Nat} (h : ChSh Q) : 38 ≤ Q ∧ Q ≤ 122 := by
  obtain ⟨⟨k, h1, h2⟩, -⟩ := h
  omega
def p20 (A _i : Nat) : Prop := A = 20
def pRe (A _i : Nat) : Prop := A = 19 ∨ A = 20
def pTm (Q A _i : Nat) : Prop := A = Q + 2
def pLi (Q A _i : Nat) : Prop := A = Q + 4
def pNm (Q A i : Nat) : Prop := (A = Q ∧ (i = 6 ∨ i = 7)) ∨ A = Q + 5 ∨ A = Q + 6
def pCh (Q A _i : Nat) : Prop := Q ≤ A ∧ A ≤ Q + 6
def pPl (A _i : Nat) : Prop := 136 ≤ A ∧ A ≤ 138
def pPa (A _i : Nat) : Prop := A = 141 ∨ A = 142
def p14 (A i : Nat) : Prop := (14 < A ∧ A ≤ 18) ∨ (A = 14 ∧ i = 0)
theorem csN_1 {m : MM} {o : Nat} (h : ¬ m 2 o = 4) : 1 ≤ csN m o := by
  unfold csN
  rw [if_neg h]
  split <;> omega
theorem csN_2 {m : MM} {o : Nat} (h : ¬ m 2 o = 4) (h5 : ¬ m 2 o = 5) : csN m o = 2 := by
  unfold csN
  rw [if_neg h, if_neg h5]
def DT (m : MM) (Q : Nat) (s c : Int) : Prop := ∀ o, o < 8 → (0 ≤ m (Q + 2) o ∧ m (Q + 2) o ≤ 11000) ∧ ((o : Int) < s → m (Q + 2) o ≤ c)
theorem DT.up {m : MM} {Q i : Nat} {s c c' x : Int} (h : DT m Q s c) (hx : 0 ≤ x ∧ x ≤ c') (h1 : c ≤ c') (h2 : c' ≤ 11000) : DT (upm m (Q + 2) i x) Q s c' := fun o ho => by
  have := h o ho
  by_cases q : o = i
  · rw [q, upm_eq]; exact ⟨by omega, fun _ => by omega⟩
  · rw [upm_ne (by omega)]; exact ⟨this.1, fun z => by have := this.2 z; omega⟩
theorem DT.up1 {m : MM} {Q i : Nat} {s x : Int} (h : DT m Q s 11) (hx : 0 ≤ x ∧ x ≤ 11) (hi : s = (i : Int)) : DT (upm m (Q + 2) i x) Q (s + 1) 11 := fun o ho => by
  have := h o ho
  by_cases q : o = i
  · rw [q, upm_eq]; exact ⟨by omega, fun _ => by omega⟩
  · rw [upm_ne (by omega)]; exact ⟨this.1, fun z => this.2 (by omega)⟩
theorem DT.le {m : MM} {Q : Nat} {s c s' c' : Int} (h : DT m Q s c) (h1 : s' ≤ s) (h2 : c ≤ c') : DT m Q s' c' := fun o ho => ⟨(h o ho).1, fun z => by have := (h o ho).2 (by omega); omega⟩
end
