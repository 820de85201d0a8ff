section
/-! laid by wip/hand/tg.py: public methods that change the ops -/
def putM (mem : MM) (n : Nat) (k a b c e : Int) : MM := upm (upm (upm (upm (upm (upm (upm mem 2 n k) 3 (4 * n) a) 3 (4 * n + 1) b) 3 (4 * n + 2) c) 3 (4 * n + 3) e) 4 n 0) 1 0 (mem 1 0 + 1)
theorem putM_ne {mem : MM} {n A i : Nat} {k a b c e : Int} (h : ¬ (A = 1 ∧ i = 0) ∧ ¬ (A = 2 ∧ i = n) ∧ ¬ (A = 3 ∧ 4 * n ≤ i ∧ i < 4 * n + 4) ∧ ¬ (A = 4 ∧ i = n)) : putM mem n k a b c e A i = mem A i := by
  unfold putM
  rw [upm_ne (by omega), upm_ne (by omega), upm_ne (by omega), upm_ne (by omega), upm_ne (by omega), upm_ne (by omega), upm_ne (by omega)]
theorem putM_at {mem : MM} {n : Nat} {k a b c e : Int} : putM mem n k a b c e 2 n = k ∧ putM mem n k a b c e 3 (4 * n) = a ∧ putM mem n k a b c e 3 (4 * n + 1) = b ∧ putM mem n k a b c e 3 (4 * n + 2) = c ∧ putM mem n k a b c e 3 (4 * n + 3) = e ∧ putM mem n k a b c e 4 n = 0 ∧ putM mem n k a b c e 1 0 = mem 1 0 + 1 := by
  unfold putM
  refine ⟨?_, ?_, ?_, ?_, ?_, ?_, upm_eq⟩
  · rw [upm_ne (by omega), upm_ne (by omega), upm_ne (by omega), upm_ne (by omega), upm_ne (by omega), upm_ne (by omega), upm_eq]
  · rw [upm_ne (by omega), upm_ne (by omega), upm_ne (by omega), upm_ne (by omega), upm_ne (by omega), upm_eq]
  · rw [upm_ne (by omega), upm_ne (by omega), upm_ne (by omega), upm_ne (by omega), upm_eq]
  · rw [upm_ne (by omega), upm_ne (by omega), upm_ne (by omega), upm_eq]
  · rw [upm_ne (by omega), upm_ne (by omega), upm_eq]
  · rw [upm_ne (by omega), upm_eq]
theorem putM_ok {mem : MM} {n : Nat} {k a b c e : Int} (hB : BodyOK mem) (h8 : mem 1 0 < 8) (hn : (n : Int) = mem 1 0) (hk : 0 ≤ k ∧ k ≤ 5) (h3 : k ≤ 3 → srcOK a b ∧ srcOK c e) (h4 : k = 4 → 0 ≤ a ∧ a ≤ 1 ∧ 0 ≤ b ∧ b ≤ 7) (h5 : k = 5 → srcOK a b ∧ 0 ≤ c ∧ c ≤ 1 ∧ 0 ≤ e ∧ e ≤ 7) : BodyOK (putM mem n k a b c e) := by
  obtain ⟨b1, b2, b3, b4, b5, b6⟩ := hB
  obtain ⟨g1, g2, g3, g4, g5, -, g7⟩ := putM_at (mem := mem) (n := n) (k := k) (a := a) (b := b) (c := c) (e := e)
  refine ⟨by omega, fun o ho => ?_, fun j hj => by rw [putM_ne (by omega)]; exact b3 j hj, fun j hj => by rw [putM_ne (by omega)]; exact b4 j hj, fun j hj => by rw [putM_ne (by omega)]; exact b5 j hj, fun j hj => by rw [putM_ne (by omega)]; exact b6 j hj⟩
  unfold BOp
  by_cases q : o = n
  · subst q
    rw [g1, g2, g3, g4, g5]
    exact ⟨hk, h3, h4, h5⟩
  · rw [putM_ne (by omega), putM_ne (by omega), putM_ne (by omega), putM_ne (by omega), putM_ne (by omega)]; exact b2 o ho
theorem BodyOK.sz {m : MM} {z : Int} (h : BodyOK m) (hz : 0 ≤ z ∧ z ≤ 8) : BodyOK (upm m 1 0 z) := by
  obtain ⟨b1, b2, b3, b4, b5, b6⟩ := h
  refine ⟨by rw [upm_eq]; exact hz, fun o ho => ?_, fun j hj => by rw [upm_ne (by omega)]; exact b3 j hj, fun j hj => by rw [upm_ne (by omega)]; exact b4 j hj, fun j hj => by rw [upm_ne (by omega)]; exact b5 j hj, fun j hj => by rw [upm_ne (by omega)]; exact b6 j hj⟩
  unfold BOp
  rw [upm_ne (by omega), upm_ne (by omega), upm_ne (by omega), upm_ne (by omega), upm_ne (by omega)]; exact b2 o ho
theorem BodyOK.up {m : MM} {A i : Nat} {x : Int} (h : BodyOK m) (q : (A = 5 ∧ 0 ≤ x ∧ x ≤ 2) ∨ (A = 6 ∧ 1 ≤ x ∧ x ≤ 6) ∨ (A = 7 ∧ 1 ≤ x ∧ x ≤ 15) ∨ (A = 8 ∧ 1 ≤ x ∧ x ≤ 3) ∨ A = 0) : BodyOK (upm m A i x) := by
  obtain ⟨b1, b2, b3, b4, b5, b6⟩ := h
  refine ⟨by rw [upm_ne (by omega)]; exact b1, fun o ho => ?_, fun j hj => upm_rg (fun z => by omega) (fun _ => b3 j hj), fun j hj => upm_rg (fun z => by omega) (fun _ => b4 j hj), fun j hj => upm_rg (fun z => by omega) (fun _ => b5 j hj), fun j hj => upm_rg (fun z => by omega) (fun _ => b6 j hj)⟩
  unfold BOp
  rw [upm_ne (by omega), upm_ne (by omega), upm_ne (by omega), upm_ne (by omega), upm_ne (by omega)]; exact b2 o ho
def pBp (A _i : Nat) : Prop := A = 2 ∨ A = 3 ∨ A = 4
set_option maxRecDepth 100000 in
theorem mt_44 : MT[44]? = some M_44 := rfl
set_option maxRecDepth 100000 in
theorem mt_46 : MT[46]? = some M_46 := rfl
set_option maxRecDepth 100000 in
theorem mt_47 : MT[47]? = some M_47 := rfl
set_option maxRecDepth 100000 in
theorem mt_49 : MT[49]? = some M_49 := rfl
set_option maxRecDepth 100000 in
theorem mt_52 : MT[52]? = some M_52 := rfl
set_option maxRecDepth 100000 in
theorem mt_54 : MT[54]? = some M_54 := rfl
set_option maxRecDepth 100000 in
theorem mt_56 : MT[56]? = some M_56 := rfl
set_option maxRecDepth 100000 in
theorem mt_59 : MT[59]? = some M_59 := rfl
set_option maxRecDepth 100000 in
theorem mt_62 : MT[62]? = some M_62 := rfl
theorem te_44_0 : (pT M_44).find? (fun e => e.1 == 0) = some (0, .iload_n 1, 0, 0) := rfl
theorem te_44_1 : (pT M_44).find? (fun e => e.1 == 1) = some (1, .ifCond .lt 26, 0, 0) := rfl
theorem te_44_4 : (pT M_44).find? (fun e => e.1 == 4) = some (4, .iload_n 1, 0, 0) := rfl
theorem te_44_5 : (pT M_44).find? (fun e => e.1 == 5) = some (5, .iconst 4, 0, 0) := rfl
theorem te_44_6 : (pT M_44).find? (fun e => e.1 == 6) = some (6, .if_icmp .ge 21, 0, 0) := rfl
theorem te_44_9 : (pT M_44).find? (fun e => e.1 == 9) = some (9, .iload_n 2, 0, 0) := rfl
theorem te_44_10 : (pT M_44).find? (fun e => e.1 == 10) = some (10, .iload_n 3, 0, 0) := rfl
theorem te_44_11 : (pT M_44).find? (fun e => e.1 == 11) = some (11, .invokestatic 79, 45, 2) := rfl
theorem te_44_14 : (pT M_44).find? (fun e => e.1 == 14) = some (14, .ifCond .eq 13, 0, 0) := rfl
theorem te_44_17 : (pT M_44).find? (fun e => e.1 == 17) = some (17, .iload 4, 0, 0) := rfl
theorem te_44_19 : (pT M_44).find? (fun e => e.1 == 19) = some (19, .iload 5, 0, 0) := rfl
theorem te_44_21 : (pT M_44).find? (fun e => e.1 == 21) = some (21, .invokestatic 79, 45, 2) := rfl
theorem te_44_24 : (pT M_44).find? (fun e => e.1 == 24) = some (24, .ifCond .ne 13, 0, 0) := rfl
theorem te_44_27 : (pT M_44).find? (fun e => e.1 == 27) = some (27, .new 83, 0, 1) := rfl
theorem te_44_37 : (pT M_44).find? (fun e => e.1 == 37) = some (37, .aload_n 0, 0, 0) := rfl
theorem te_44_38 : (pT M_44).find? (fun e => e.1 == 38) = some (38, .iload_n 1, 0, 0) := rfl
theorem te_44_39 : (pT M_44).find? (fun e => e.1 == 39) = some (39, .iload_n 2, 0, 0) := rfl
theorem te_44_40 : (pT M_44).find? (fun e => e.1 == 40) = some (40, .iload_n 3, 0, 0) := rfl
theorem te_44_41 : (pT M_44).find? (fun e => e.1 == 41) = some (41, .iload 4, 0, 0) := rfl
theorem te_44_43 : (pT M_44).find? (fun e => e.1 == 43) = some (43, .iload 5, 0, 0) := rfl
theorem te_44_45 : (pT M_44).find? (fun e => e.1 == 45) = some (45, .invokevirtual 90, 46, 0) := rfl
theorem te_44_48 : (pT M_44).find? (fun e => e.1 == 48) = some (48, .ireturn, 0, 0) := rfl
theorem te_46_0 : (pT M_46).find? (fun e => e.1 == 0) = some (0, .aload_n 0, 0, 0) := rfl
theorem te_46_1 : (pT M_46).find? (fun e => e.1 == 1) = some (1, .getfield 12, 9, 0) := rfl
theorem te_46_4 : (pT M_46).find? (fun e => e.1 == 4) = some (4, .getfield 101, 0, 0) := rfl
theorem te_46_7 : (pT M_46).find? (fun e => e.1 == 7) = some (7, .bipush 8, 0, 0) := rfl
theorem te_46_9 : (pT M_46).find? (fun e => e.1 == 9) = some (9, .if_icmp .lt 14, 0, 0) := rfl
theorem te_46_12 : (pT M_46).find? (fun e => e.1 == 12) = some (12, .new 105, 19, 1) := rfl
theorem te_46_23 : (pT M_46).find? (fun e => e.1 == 23) = some (23, .aload_n 0, 0, 0) := rfl
theorem te_46_24 : (pT M_46).find? (fun e => e.1 == 24) = some (24, .getfield 12, 9, 0) := rfl
theorem te_46_27 : (pT M_46).find? (fun e => e.1 == 27) = some (27, .iload_n 1, 0, 0) := rfl
theorem te_46_28 : (pT M_46).find? (fun e => e.1 == 28) = some (28, .iload_n 2, 0, 0) := rfl
theorem te_46_29 : (pT M_46).find? (fun e => e.1 == 29) = some (29, .iload_n 3, 0, 0) := rfl
theorem te_46_30 : (pT M_46).find? (fun e => e.1 == 30) = some (30, .iload 4, 0, 0) := rfl
theorem te_46_32 : (pT M_46).find? (fun e => e.1 == 32) = some (32, .iload 5, 0, 0) := rfl
theorem te_46_34 : (pT M_46).find? (fun e => e.1 == 34) = some (34, .invokevirtual 389, 47, 1) := rfl
theorem te_46_37 : (pT M_46).find? (fun e => e.1 == 37) = some (37, .aload_n 0, 0, 0) := rfl
theorem te_46_38 : (pT M_46).find? (fun e => e.1 == 38) = some (38, .iconst 1, 0, 0) := rfl
theorem te_46_39 : (pT M_46).find? (fun e => e.1 == 39) = some (39, .putfield 75, 9, 11) := rfl
theorem te_46_42 : (pT M_46).find? (fun e => e.1 == 42) = some (42, .aload_n 0, 0, 0) := rfl
theorem te_46_43 : (pT M_46).find? (fun e => e.1 == 43) = some (43, .getfield 12, 9, 0) := rfl
theorem te_46_46 : (pT M_46).find? (fun e => e.1 == 46) = some (46, .getfield 101, 0, 0) := rfl
theorem te_46_49 : (pT M_46).find? (fun e => e.1 == 49) = some (49, .iconst 1, 0, 0) := rfl
theorem te_46_50 : (pT M_46).find? (fun e => e.1 == 50) = some (50, .isub, 0, 0) := rfl
theorem te_46_51 : (pT M_46).find? (fun e => e.1 == 51) = some (51, .ireturn, 0, 0) := rfl
theorem te_47_0 : (pT M_47).find? (fun e => e.1 == 0) = some (0, .aload_n 0, 0, 0) := rfl
theorem te_47_1 : (pT M_47).find? (fun e => e.1 == 1) = some (1, .getfield 9, 0, 1) := rfl
theorem te_47_4 : (pT M_47).find? (fun e => e.1 == 4) = some (4, .aload_n 0, 0, 0) := rfl
theorem te_47_5 : (pT M_47).find? (fun e => e.1 == 5) = some (5, .getfield 33, 0, 0) := rfl
theorem te_47_8 : (pT M_47).find? (fun e => e.1 == 8) = some (8, .iload_n 1, 0, 0) := rfl
theorem te_47_9 : (pT M_47).find? (fun e => e.1 == 9) = some (9, .iastore, 0, 0) := rfl
theorem te_47_10 : (pT M_47).find? (fun e => e.1 == 10) = some (10, .aload_n 0, 0, 0) := rfl
theorem te_47_11 : (pT M_47).find? (fun e => e.1 == 11) = some (11, .getfield 15, 0, 2) := rfl
theorem te_47_14 : (pT M_47).find? (fun e => e.1 == 14) = some (14, .aload_n 0, 0, 0) := rfl
theorem te_47_15 : (pT M_47).find? (fun e => e.1 == 15) = some (15, .getfield 33, 0, 0) := rfl
theorem te_47_18 : (pT M_47).find? (fun e => e.1 == 18) = some (18, .iconst 4, 0, 0) := rfl
theorem te_47_19 : (pT M_47).find? (fun e => e.1 == 19) = some (19, .imul, 0, 0) := rfl
theorem te_47_20 : (pT M_47).find? (fun e => e.1 == 20) = some (20, .iload_n 2, 0, 0) := rfl
theorem te_47_21 : (pT M_47).find? (fun e => e.1 == 21) = some (21, .iastore, 0, 0) := rfl
theorem te_47_22 : (pT M_47).find? (fun e => e.1 == 22) = some (22, .aload_n 0, 0, 0) := rfl
theorem te_47_23 : (pT M_47).find? (fun e => e.1 == 23) = some (23, .getfield 15, 0, 2) := rfl
theorem te_47_26 : (pT M_47).find? (fun e => e.1 == 26) = some (26, .aload_n 0, 0, 0) := rfl
theorem te_47_27 : (pT M_47).find? (fun e => e.1 == 27) = some (27, .getfield 33, 0, 0) := rfl
theorem te_47_30 : (pT M_47).find? (fun e => e.1 == 30) = some (30, .iconst 4, 0, 0) := rfl
theorem te_47_31 : (pT M_47).find? (fun e => e.1 == 31) = some (31, .imul, 0, 0) := rfl
theorem te_47_32 : (pT M_47).find? (fun e => e.1 == 32) = some (32, .iconst 1, 0, 0) := rfl
theorem te_47_33 : (pT M_47).find? (fun e => e.1 == 33) = some (33, .iadd, 0, 0) := rfl
theorem te_47_34 : (pT M_47).find? (fun e => e.1 == 34) = some (34, .iload_n 3, 0, 0) := rfl
theorem te_47_35 : (pT M_47).find? (fun e => e.1 == 35) = some (35, .iastore, 0, 0) := rfl
theorem te_47_36 : (pT M_47).find? (fun e => e.1 == 36) = some (36, .aload_n 0, 0, 0) := rfl
theorem te_47_37 : (pT M_47).find? (fun e => e.1 == 37) = some (37, .getfield 15, 0, 2) := rfl
theorem te_47_40 : (pT M_47).find? (fun e => e.1 == 40) = some (40, .aload_n 0, 0, 0) := rfl
theorem te_47_41 : (pT M_47).find? (fun e => e.1 == 41) = some (41, .getfield 33, 0, 0) := rfl
theorem te_47_44 : (pT M_47).find? (fun e => e.1 == 44) = some (44, .iconst 4, 0, 0) := rfl
theorem te_47_45 : (pT M_47).find? (fun e => e.1 == 45) = some (45, .imul, 0, 0) := rfl
theorem te_47_46 : (pT M_47).find? (fun e => e.1 == 46) = some (46, .iconst 2, 0, 0) := rfl
theorem te_47_47 : (pT M_47).find? (fun e => e.1 == 47) = some (47, .iadd, 0, 0) := rfl
theorem te_47_48 : (pT M_47).find? (fun e => e.1 == 48) = some (48, .iload 4, 0, 0) := rfl
theorem te_47_50 : (pT M_47).find? (fun e => e.1 == 50) = some (50, .iastore, 0, 0) := rfl
theorem te_47_51 : (pT M_47).find? (fun e => e.1 == 51) = some (51, .aload_n 0, 0, 0) := rfl
theorem te_47_52 : (pT M_47).find? (fun e => e.1 == 52) = some (52, .getfield 15, 0, 2) := rfl
theorem te_47_55 : (pT M_47).find? (fun e => e.1 == 55) = some (55, .aload_n 0, 0, 0) := rfl
theorem te_47_56 : (pT M_47).find? (fun e => e.1 == 56) = some (56, .getfield 33, 0, 0) := rfl
theorem te_47_59 : (pT M_47).find? (fun e => e.1 == 59) = some (59, .iconst 4, 0, 0) := rfl
theorem te_47_60 : (pT M_47).find? (fun e => e.1 == 60) = some (60, .imul, 0, 0) := rfl
theorem te_47_61 : (pT M_47).find? (fun e => e.1 == 61) = some (61, .iconst 3, 0, 0) := rfl
theorem te_47_62 : (pT M_47).find? (fun e => e.1 == 62) = some (62, .iadd, 0, 0) := rfl
theorem te_47_63 : (pT M_47).find? (fun e => e.1 == 63) = some (63, .iload 5, 0, 0) := rfl
theorem te_47_65 : (pT M_47).find? (fun e => e.1 == 65) = some (65, .iastore, 0, 0) := rfl
theorem te_47_66 : (pT M_47).find? (fun e => e.1 == 66) = some (66, .aload_n 0, 0, 0) := rfl
theorem te_47_67 : (pT M_47).find? (fun e => e.1 == 67) = some (67, .getfield 18, 0, 3) := rfl
theorem te_47_70 : (pT M_47).find? (fun e => e.1 == 70) = some (70, .aload_n 0, 0, 0) := rfl
theorem te_47_71 : (pT M_47).find? (fun e => e.1 == 71) = some (71, .getfield 33, 0, 0) := rfl
theorem te_47_74 : (pT M_47).find? (fun e => e.1 == 74) = some (74, .iconst 0, 0, 0) := rfl
theorem te_47_75 : (pT M_47).find? (fun e => e.1 == 75) = some (75, .iastore, 0, 0) := rfl
theorem te_47_76 : (pT M_47).find? (fun e => e.1 == 76) = some (76, .aload_n 0, 0, 0) := rfl
theorem te_47_77 : (pT M_47).find? (fun e => e.1 == 77) = some (77, .dup, 0, 0) := rfl
theorem te_47_78 : (pT M_47).find? (fun e => e.1 == 78) = some (78, .getfield 33, 0, 0) := rfl
theorem te_47_81 : (pT M_47).find? (fun e => e.1 == 81) = some (81, .iconst 1, 0, 0) := rfl
theorem te_47_82 : (pT M_47).find? (fun e => e.1 == 82) = some (82, .iadd, 0, 0) := rfl
theorem te_47_83 : (pT M_47).find? (fun e => e.1 == 83) = some (83, .putfield 33, 0, 0) := rfl
theorem te_47_86 : (pT M_47).find? (fun e => e.1 == 86) = some (86, .return_, 0, 0) := rfl
theorem te_49_0 : (pT M_49).find? (fun e => e.1 == 0) = some (0, .iload_n 1, 0, 0) := rfl
theorem te_49_1 : (pT M_49).find? (fun e => e.1 == 1) = some (1, .iload_n 2, 0, 0) := rfl
theorem te_49_2 : (pT M_49).find? (fun e => e.1 == 2) = some (2, .invokestatic 94, 50, 2) := rfl
theorem te_49_5 : (pT M_49).find? (fun e => e.1 == 5) = some (5, .ifCond .ne 13, 0, 0) := rfl
theorem te_49_8 : (pT M_49).find? (fun e => e.1 == 8) = some (8, .new 83, 1, 1) := rfl
theorem te_49_18 : (pT M_49).find? (fun e => e.1 == 18) = some (18, .aload_n 0, 0, 0) := rfl
theorem te_49_19 : (pT M_49).find? (fun e => e.1 == 19) = some (19, .iconst 4, 0, 0) := rfl
theorem te_49_20 : (pT M_49).find? (fun e => e.1 == 20) = some (20, .iload_n 1, 0, 0) := rfl
theorem te_49_21 : (pT M_49).find? (fun e => e.1 == 21) = some (21, .iload_n 2, 0, 0) := rfl
theorem te_49_22 : (pT M_49).find? (fun e => e.1 == 22) = some (22, .iconst 0, 0, 0) := rfl
theorem te_49_23 : (pT M_49).find? (fun e => e.1 == 23) = some (23, .iconst 0, 0, 0) := rfl
theorem te_49_24 : (pT M_49).find? (fun e => e.1 == 24) = some (24, .invokevirtual 90, 46, 0) := rfl
theorem te_49_27 : (pT M_49).find? (fun e => e.1 == 27) = some (27, .ireturn, 0, 0) := rfl
theorem te_52_0 : (pT M_52).find? (fun e => e.1 == 0) = some (0, .iload_n 1, 0, 0) := rfl
theorem te_52_1 : (pT M_52).find? (fun e => e.1 == 1) = some (1, .iload_n 2, 0, 0) := rfl
theorem te_52_2 : (pT M_52).find? (fun e => e.1 == 2) = some (2, .invokestatic 79, 45, 2) := rfl
theorem te_52_5 : (pT M_52).find? (fun e => e.1 == 5) = some (5, .ifCond .eq 12, 0, 0) := rfl
theorem te_52_8 : (pT M_52).find? (fun e => e.1 == 8) = some (8, .iload_n 3, 0, 0) := rfl
theorem te_52_9 : (pT M_52).find? (fun e => e.1 == 9) = some (9, .iload 4, 0, 0) := rfl
theorem te_52_11 : (pT M_52).find? (fun e => e.1 == 11) = some (11, .invokestatic 94, 50, 2) := rfl
theorem te_52_14 : (pT M_52).find? (fun e => e.1 == 14) = some (14, .ifCond .ne 13, 0, 0) := rfl
theorem te_52_17 : (pT M_52).find? (fun e => e.1 == 17) = some (17, .new 83, 2, 1) := rfl
theorem te_52_27 : (pT M_52).find? (fun e => e.1 == 27) = some (27, .aload_n 0, 0, 0) := rfl
theorem te_52_28 : (pT M_52).find? (fun e => e.1 == 28) = some (28, .iconst 5, 0, 0) := rfl
theorem te_52_29 : (pT M_52).find? (fun e => e.1 == 29) = some (29, .iload_n 1, 0, 0) := rfl
theorem te_52_30 : (pT M_52).find? (fun e => e.1 == 30) = some (30, .iload_n 2, 0, 0) := rfl
theorem te_52_31 : (pT M_52).find? (fun e => e.1 == 31) = some (31, .iload_n 3, 0, 0) := rfl
theorem te_52_32 : (pT M_52).find? (fun e => e.1 == 32) = some (32, .iload 4, 0, 0) := rfl
theorem te_52_34 : (pT M_52).find? (fun e => e.1 == 34) = some (34, .invokevirtual 90, 46, 0) := rfl
theorem te_52_37 : (pT M_52).find? (fun e => e.1 == 37) = some (37, .ireturn, 0, 0) := rfl
theorem te_54_0 : (pT M_54).find? (fun e => e.1 == 0) = some (0, .aload_n 0, 0, 0) := rfl
theorem te_54_1 : (pT M_54).find? (fun e => e.1 == 1) = some (1, .getfield 12, 9, 0) := rfl
theorem te_54_4 : (pT M_54).find? (fun e => e.1 == 4) = some (4, .getfield 101, 0, 0) := rfl
theorem te_54_7 : (pT M_54).find? (fun e => e.1 == 7) = some (7, .ifCond .ne 13, 0, 0) := rfl
theorem te_54_10 : (pT M_54).find? (fun e => e.1 == 10) = some (10, .new 105, 17, 1) := rfl
theorem te_54_20 : (pT M_54).find? (fun e => e.1 == 20) = some (20, .aload_n 0, 0, 0) := rfl
theorem te_54_21 : (pT M_54).find? (fun e => e.1 == 21) = some (21, .getfield 12, 9, 0) := rfl
theorem te_54_24 : (pT M_54).find? (fun e => e.1 == 24) = some (24, .dup, 0, 0) := rfl
theorem te_54_25 : (pT M_54).find? (fun e => e.1 == 25) = some (25, .getfield 101, 0, 0) := rfl
theorem te_54_28 : (pT M_54).find? (fun e => e.1 == 28) = some (28, .iconst 1, 0, 0) := rfl
theorem te_54_29 : (pT M_54).find? (fun e => e.1 == 29) = some (29, .isub, 0, 0) := rfl
theorem te_54_30 : (pT M_54).find? (fun e => e.1 == 30) = some (30, .putfield 101, 0, 0) := rfl
theorem te_54_33 : (pT M_54).find? (fun e => e.1 == 33) = some (33, .aload_n 0, 0, 0) := rfl
theorem te_54_34 : (pT M_54).find? (fun e => e.1 == 34) = some (34, .iconst 1, 0, 0) := rfl
theorem te_54_35 : (pT M_54).find? (fun e => e.1 == 35) = some (35, .putfield 75, 9, 11) := rfl
theorem te_54_38 : (pT M_54).find? (fun e => e.1 == 38) = some (38, .aload_n 0, 0, 0) := rfl
theorem te_54_39 : (pT M_54).find? (fun e => e.1 == 39) = some (39, .getfield 12, 9, 0) := rfl
theorem te_54_42 : (pT M_54).find? (fun e => e.1 == 42) = some (42, .getfield 101, 0, 0) := rfl
theorem te_54_45 : (pT M_54).find? (fun e => e.1 == 45) = some (45, .ireturn, 0, 0) := rfl
theorem te_56_0 : (pT M_56).find? (fun e => e.1 == 0) = some (0, .aload_n 0, 0, 0) := rfl
theorem te_56_1 : (pT M_56).find? (fun e => e.1 == 1) = some (1, .iload_n 1, 0, 0) := rfl
theorem te_56_2 : (pT M_56).find? (fun e => e.1 == 2) = some (2, .invokevirtual 110, 57, 0) := rfl
theorem te_56_5 : (pT M_56).find? (fun e => e.1 == 5) = some (5, .iload_n 2, 0, 0) := rfl
theorem te_56_6 : (pT M_56).find? (fun e => e.1 == 6) = some (6, .sipush (-9999), 0, 0) := rfl
theorem te_56_9 : (pT M_56).find? (fun e => e.1 == 9) = some (9, .if_icmp .lt 10, 0, 0) := rfl
theorem te_56_12 : (pT M_56).find? (fun e => e.1 == 12) = some (12, .iload_n 2, 0, 0) := rfl
theorem te_56_13 : (pT M_56).find? (fun e => e.1 == 13) = some (13, .sipush 9999, 0, 0) := rfl
theorem te_56_16 : (pT M_56).find? (fun e => e.1 == 16) = some (16, .if_icmp .le 13, 0, 0) := rfl
theorem te_56_19 : (pT M_56).find? (fun e => e.1 == 19) = some (19, .new 83, 3, 1) := rfl
theorem te_56_29 : (pT M_56).find? (fun e => e.1 == 29) = some (29, .aload_n 0, 0, 0) := rfl
theorem te_56_30 : (pT M_56).find? (fun e => e.1 == 30) = some (30, .getfield 12, 9, 0) := rfl
theorem te_56_33 : (pT M_56).find? (fun e => e.1 == 33) = some (33, .getfield 116, 0, 3) := rfl
theorem te_56_36 : (pT M_56).find? (fun e => e.1 == 36) = some (36, .iload_n 1, 0, 0) := rfl
theorem te_56_37 : (pT M_56).find? (fun e => e.1 == 37) = some (37, .iaload, 0, 0) := rfl
theorem te_56_38 : (pT M_56).find? (fun e => e.1 == 38) = some (38, .istore_n 3, 0, 0) := rfl
theorem te_56_39 : (pT M_56).find? (fun e => e.1 == 39) = some (39, .aload_n 0, 0, 0) := rfl
theorem te_56_40 : (pT M_56).find? (fun e => e.1 == 40) = some (40, .getfield 12, 9, 0) := rfl
theorem te_56_43 : (pT M_56).find? (fun e => e.1 == 43) = some (43, .getfield 116, 0, 3) := rfl
theorem te_56_46 : (pT M_56).find? (fun e => e.1 == 46) = some (46, .iload_n 1, 0, 0) := rfl
theorem te_56_47 : (pT M_56).find? (fun e => e.1 == 47) = some (47, .iload_n 2, 0, 0) := rfl
theorem te_56_48 : (pT M_56).find? (fun e => e.1 == 48) = some (48, .iastore, 0, 0) := rfl
theorem te_56_49 : (pT M_56).find? (fun e => e.1 == 49) = some (49, .iload_n 3, 0, 0) := rfl
theorem te_56_50 : (pT M_56).find? (fun e => e.1 == 50) = some (50, .ireturn, 0, 0) := rfl
theorem te_59_0 : (pT M_59).find? (fun e => e.1 == 0) = some (0, .aload_n 0, 0, 0) := rfl
theorem te_59_1 : (pT M_59).find? (fun e => e.1 == 1) = some (1, .iload_n 1, 0, 0) := rfl
theorem te_59_2 : (pT M_59).find? (fun e => e.1 == 2) = some (2, .invokevirtual 120, 60, 0) := rfl
theorem te_59_5 : (pT M_59).find? (fun e => e.1 == 5) = some (5, .iload_n 2, 0, 0) := rfl
theorem te_59_6 : (pT M_59).find? (fun e => e.1 == 6) = some (6, .ifCond .lt 23, 0, 0) := rfl
theorem te_59_9 : (pT M_59).find? (fun e => e.1 == 9) = some (9, .iload_n 2, 0, 0) := rfl
theorem te_59_10 : (pT M_59).find? (fun e => e.1 == 10) = some (10, .iconst 3, 0, 0) := rfl
theorem te_59_11 : (pT M_59).find? (fun e => e.1 == 11) = some (11, .if_icmp .ge 18, 0, 0) := rfl
theorem te_59_14 : (pT M_59).find? (fun e => e.1 == 14) = some (14, .iload_n 3, 0, 0) := rfl
theorem te_59_15 : (pT M_59).find? (fun e => e.1 == 15) = some (15, .iconst 1, 0, 0) := rfl
theorem te_59_16 : (pT M_59).find? (fun e => e.1 == 16) = some (16, .if_icmp .lt 13, 0, 0) := rfl
theorem te_59_19 : (pT M_59).find? (fun e => e.1 == 19) = some (19, .iload_n 3, 0, 0) := rfl
theorem te_59_20 : (pT M_59).find? (fun e => e.1 == 20) = some (20, .bipush 6, 0, 0) := rfl
theorem te_59_22 : (pT M_59).find? (fun e => e.1 == 22) = some (22, .if_icmp .gt 7, 0, 0) := rfl
theorem te_59_25 : (pT M_59).find? (fun e => e.1 == 25) = some (25, .iconst 1, 0, 0) := rfl
theorem te_59_26 : (pT M_59).find? (fun e => e.1 == 26) = some (26, .goto 4, 0, 0) := rfl
theorem te_59_29 : (pT M_59).find? (fun e => e.1 == 29) = some (29, .iconst 0, 0, 0) := rfl
theorem te_59_30 : (pT M_59).find? (fun e => e.1 == 30) = some (30, .istore 5, 0, 0) := rfl
theorem te_59_32 : (pT M_59).find? (fun e => e.1 == 32) = some (32, .iload 5, 0, 0) := rfl
theorem te_59_34 : (pT M_59).find? (fun e => e.1 == 34) = some (34, .ifCond .eq 16, 0, 0) := rfl
theorem te_59_37 : (pT M_59).find? (fun e => e.1 == 37) = some (37, .iload 4, 0, 0) := rfl
theorem te_59_39 : (pT M_59).find? (fun e => e.1 == 39) = some (39, .iconst 1, 0, 0) := rfl
theorem te_59_40 : (pT M_59).find? (fun e => e.1 == 40) = some (40, .if_icmp .lt 10, 0, 0) := rfl
theorem te_59_43 : (pT M_59).find? (fun e => e.1 == 43) = some (43, .iload 4, 0, 0) := rfl
theorem te_59_45 : (pT M_59).find? (fun e => e.1 == 45) = some (45, .bipush 15, 0, 0) := rfl
theorem te_59_47 : (pT M_59).find? (fun e => e.1 == 47) = some (47, .if_icmp .le 13, 0, 0) := rfl
theorem te_59_50 : (pT M_59).find? (fun e => e.1 == 50) = some (50, .new 83, 4, 1) := rfl
theorem te_59_60 : (pT M_59).find? (fun e => e.1 == 60) = some (60, .aload_n 0, 0, 0) := rfl
theorem te_59_61 : (pT M_59).find? (fun e => e.1 == 61) = some (61, .getfield 12, 9, 0) := rfl
theorem te_59_64 : (pT M_59).find? (fun e => e.1 == 64) = some (64, .getfield 125, 0, 4) := rfl
theorem te_59_67 : (pT M_59).find? (fun e => e.1 == 67) = some (67, .iload_n 1, 0, 0) := rfl
theorem te_59_68 : (pT M_59).find? (fun e => e.1 == 68) = some (68, .iload_n 2, 0, 0) := rfl
theorem te_59_69 : (pT M_59).find? (fun e => e.1 == 69) = some (69, .iastore, 0, 0) := rfl
theorem te_59_70 : (pT M_59).find? (fun e => e.1 == 70) = some (70, .aload_n 0, 0, 0) := rfl
theorem te_59_71 : (pT M_59).find? (fun e => e.1 == 71) = some (71, .getfield 12, 9, 0) := rfl
theorem te_59_74 : (pT M_59).find? (fun e => e.1 == 74) = some (74, .getfield 128, 0, 5) := rfl
theorem te_59_77 : (pT M_59).find? (fun e => e.1 == 77) = some (77, .iload_n 1, 0, 0) := rfl
theorem te_59_78 : (pT M_59).find? (fun e => e.1 == 78) = some (78, .iload_n 3, 0, 0) := rfl
theorem te_59_79 : (pT M_59).find? (fun e => e.1 == 79) = some (79, .iastore, 0, 0) := rfl
theorem te_59_80 : (pT M_59).find? (fun e => e.1 == 80) = some (80, .aload_n 0, 0, 0) := rfl
theorem te_59_81 : (pT M_59).find? (fun e => e.1 == 81) = some (81, .getfield 12, 9, 0) := rfl
theorem te_59_84 : (pT M_59).find? (fun e => e.1 == 84) = some (84, .getfield 131, 0, 6) := rfl
theorem te_59_87 : (pT M_59).find? (fun e => e.1 == 87) = some (87, .iload_n 1, 0, 0) := rfl
theorem te_59_88 : (pT M_59).find? (fun e => e.1 == 88) = some (88, .iload 4, 0, 0) := rfl
theorem te_59_90 : (pT M_59).find? (fun e => e.1 == 90) = some (90, .iastore, 0, 0) := rfl
theorem te_59_91 : (pT M_59).find? (fun e => e.1 == 91) = some (91, .aload_n 0, 0, 0) := rfl
theorem te_59_92 : (pT M_59).find? (fun e => e.1 == 92) = some (92, .iconst 1, 0, 0) := rfl
theorem te_59_93 : (pT M_59).find? (fun e => e.1 == 93) = some (93, .putfield 75, 9, 11) := rfl
theorem te_59_96 : (pT M_59).find? (fun e => e.1 == 96) = some (96, .return_, 0, 0) := rfl
theorem te_62_0 : (pT M_62).find? (fun e => e.1 == 0) = some (0, .aload_n 0, 0, 0) := rfl
theorem te_62_1 : (pT M_62).find? (fun e => e.1 == 1) = some (1, .iload_n 1, 0, 0) := rfl
theorem te_62_2 : (pT M_62).find? (fun e => e.1 == 2) = some (2, .invokevirtual 134, 63, 0) := rfl
theorem te_62_5 : (pT M_62).find? (fun e => e.1 == 5) = some (5, .iload_n 2, 0, 0) := rfl
theorem te_62_6 : (pT M_62).find? (fun e => e.1 == 6) = some (6, .iconst 1, 0, 0) := rfl
theorem te_62_7 : (pT M_62).find? (fun e => e.1 == 7) = some (7, .if_icmp .lt 8, 0, 0) := rfl
theorem te_62_10 : (pT M_62).find? (fun e => e.1 == 10) = some (10, .iload_n 2, 0, 0) := rfl
theorem te_62_11 : (pT M_62).find? (fun e => e.1 == 11) = some (11, .iconst 3, 0, 0) := rfl
theorem te_62_12 : (pT M_62).find? (fun e => e.1 == 12) = some (12, .if_icmp .le 13, 0, 0) := rfl
theorem te_62_15 : (pT M_62).find? (fun e => e.1 == 15) = some (15, .new 83, 5, 1) := rfl
theorem te_62_25 : (pT M_62).find? (fun e => e.1 == 25) = some (25, .aload_n 0, 0, 0) := rfl
theorem te_62_26 : (pT M_62).find? (fun e => e.1 == 26) = some (26, .getfield 12, 9, 0) := rfl
theorem te_62_29 : (pT M_62).find? (fun e => e.1 == 29) = some (29, .getfield 139, 0, 7) := rfl
theorem te_62_32 : (pT M_62).find? (fun e => e.1 == 32) = some (32, .iload_n 1, 0, 0) := rfl
theorem te_62_33 : (pT M_62).find? (fun e => e.1 == 33) = some (33, .iaload, 0, 0) := rfl
theorem te_62_34 : (pT M_62).find? (fun e => e.1 == 34) = some (34, .istore_n 3, 0, 0) := rfl
theorem te_62_35 : (pT M_62).find? (fun e => e.1 == 35) = some (35, .aload_n 0, 0, 0) := rfl
theorem te_62_36 : (pT M_62).find? (fun e => e.1 == 36) = some (36, .getfield 12, 9, 0) := rfl
theorem te_62_39 : (pT M_62).find? (fun e => e.1 == 39) = some (39, .getfield 139, 0, 7) := rfl
theorem te_62_42 : (pT M_62).find? (fun e => e.1 == 42) = some (42, .iload_n 1, 0, 0) := rfl
theorem te_62_43 : (pT M_62).find? (fun e => e.1 == 43) = some (43, .iload_n 2, 0, 0) := rfl
theorem te_62_44 : (pT M_62).find? (fun e => e.1 == 44) = some (44, .iastore, 0, 0) := rfl
theorem te_62_45 : (pT M_62).find? (fun e => e.1 == 45) = some (45, .aload_n 0, 0, 0) := rfl
theorem te_62_46 : (pT M_62).find? (fun e => e.1 == 46) = some (46, .iconst 1, 0, 0) := rfl
theorem te_62_47 : (pT M_62).find? (fun e => e.1 == 47) = some (47, .putfield 75, 9, 11) := rfl
theorem te_62_50 : (pT M_62).find? (fun e => e.1 == 50) = some (50, .iload_n 3, 0, 0) := rfl
theorem te_62_51 : (pT M_62).find? (fun e => e.1 == 51) = some (51, .ireturn, 0, 0) := rfl
theorem f_60n {S : Nat × (Nat → Int32)} {n : Nat} {mem : MM} {K : MM → Prop} {E : Nat → MM → Prop} {o : Int} (H : 0 ≤ o → o < 6 → K mem) (HE : ¬ (0 ≤ o ∧ o < 6) → E 2 mem) : CQV (Ex S (n + 1)) 60 [.inr 0, .inl o] mem K E := by
  refine CY.of (k := 0) mt_60 rfl rfl (fun hv => ?_)
  have hC := Ex.mono S n
  have ii_o : InI o := hv (.inl o) (by simp)
  unfold InI at ii_o
  clear hv
  show Tx (Ex S n) S M_60 (kV K E) 0 0 0 [some (.inr 0), some (.inl o)] [] mem
  refine Tx.iload_n hC te_60_0 rfl ?_
  refine Tx.ifc hC (t := 10) te_60_1 (by decide) (fun q1 => ?_) (fun q1 => ?_)
  · replace q1 : (o : Int) < 0 := q1
    exact Tx.thr hC te_60_10 rfl rfl rfl rfl rfl (show E 2 mem from HE (by omega))
  · replace q1 : ¬ ((o : Int) < 0) := q1
    refine Tx.iload_n hC te_60_4 rfl ?_
    refine Tx.bipush hC te_60_5 rfl rfl ?_
    refine Tx.icmp hC (t := 21) te_60_7 (by decide) (fun q2 => ?_) (fun q2 => ?_)
    · replace q2 : (o : Int) < 6 := q2
      exact Tx.vret hC te_60_21 rfl (show K mem from H (by omega) (by omega))
    · replace q2 : ¬ ((o : Int) < 6) := q2
      exact Tx.thr hC te_60_10 rfl rfl rfl rfl rfl (show E 2 mem from HE (by omega))
theorem f_47 {S : Nat × (Nat → Int32)} {n : Nat} {mem : MM} {K : MM → Prop} {E : Nat → MM → Prop} {k a b c e : Int} (hs : 0 ≤ mem 1 0 ∧ mem 1 0 < 8) (H : K (putM mem (mem 1 0).toNat k a b c e)) : CQV (Ex S (n + 1)) 47 [.inr 1, .inl k, .inl a, .inl b, .inl c, .inl e] mem K E := by
  refine CY.of (k := 0) mt_47 rfl rfl (fun hv => ?_)
  have hC := Ex.mono S n
  have ii_k : InI k := hv (.inl k) (by simp)
  unfold InI at ii_k
  have ii_a : InI a := hv (.inl a) (by simp)
  unfold InI at ii_a
  have ii_b : InI b := hv (.inl b) (by simp)
  unfold InI at ii_b
  have ii_c : InI c := hv (.inl c) (by simp)
  unfold InI at ii_c
  have ii_e : InI e := hv (.inl e) (by simp)
  unfold InI at ii_e
  clear hv
  obtain ⟨nn, hn⟩ : ∃ nn : Nat, nn = (mem 1 0).toNat := ⟨_, rfl⟩
  rw [← hn] at H
  show Tx (Ex S n) S M_47 (kV K E) 0 0 0 [some (.inr 1), some (.inl k), some (.inl a), some (.inl b), some (.inl c), some (.inl e)] [] mem
  refine Tx.aload_n hC te_47_0 rfl ?_
  refine Tx.getR hC te_47_1 rfl rfl rfl ?_
  refine Tx.aload_n hC te_47_4 rfl ?_
  refine Tx.getI hC te_47_5 rfl rfl rfl (fun v1 v1e v1i => ?_)
  unfold InI at v1i
  refine Tx.iload_n hC te_47_8 rfl ?_
  refine Tx.iast hC te_47_9 rfl (by omega) ?_
  rw [show (Int.toNat v1) = (nn) by omega]
  have hF3 : Frm pBp mem (upm mem 2 (nn) k) := Frm.up Frm.rf (by unfold pBp; omega)
  refine Tx.aload_n hC te_47_10 rfl ?_
  refine Tx.getR hC te_47_11 rfl rfl rfl ?_
  refine Tx.aload_n hC te_47_14 rfl ?_
  refine Tx.getI hC te_47_15 rfl rfl rfl (fun v4 v4e v4i => ?_)
  unfold InI at v4i
  rw [hF3 1 _ (by unfold pBp; omega)] at v4e
  refine Tx.iconst hC te_47_18 rfl ?_
  refine Tx.imulW hC te_47_19 (fun z5 z5i z5e => ?_)
  unfold InI at z5i z5e
  first | replace z5e := z5e (by omega) | clear z5e
  refine Tx.iload_n hC te_47_20 rfl ?_
  refine Tx.iast hC te_47_21 rfl (by omega) ?_
  rw [show (Int.toNat z5) = (4 * nn) by omega]
  have hF7 : Frm pBp mem (upm (upm mem 2 (nn) k) 3 (4 * nn) a) := Frm.up hF3 (by unfold pBp; omega)
  refine Tx.aload_n hC te_47_22 rfl ?_
  refine Tx.getR hC te_47_23 rfl rfl rfl ?_
  refine Tx.aload_n hC te_47_26 rfl ?_
  refine Tx.getI hC te_47_27 rfl rfl rfl (fun v8 v8e v8i => ?_)
  unfold InI at v8i
  rw [hF7 1 _ (by unfold pBp; omega)] at v8e
  refine Tx.iconst hC te_47_30 rfl ?_
  refine Tx.imulW hC te_47_31 (fun z9 z9i z9e => ?_)
  unfold InI at z9i z9e
  first | replace z9e := z9e (by omega) | clear z9e
  refine Tx.iconst hC te_47_32 rfl ?_
  refine Tx.iaddW hC te_47_33 (fun z10 z10i z10e => ?_)
  unfold InI at z10i z10e
  first | replace z10e := z10e (by omega) | clear z10e
  refine Tx.iload_n hC te_47_34 rfl ?_
  refine Tx.iast hC te_47_35 rfl (by omega) ?_
  rw [show (Int.toNat z10) = (4 * nn + 1) by omega]
  have hF12 : Frm pBp mem (upm (upm (upm mem 2 (nn) k) 3 (4 * nn) a) 3 (4 * nn + 1) b) := Frm.up hF7 (by unfold pBp; omega)
  refine Tx.aload_n hC te_47_36 rfl ?_
  refine Tx.getR hC te_47_37 rfl rfl rfl ?_
  refine Tx.aload_n hC te_47_40 rfl ?_
  refine Tx.getI hC te_47_41 rfl rfl rfl (fun v13 v13e v13i => ?_)
  unfold InI at v13i
  rw [hF12 1 _ (by unfold pBp; omega)] at v13e
  refine Tx.iconst hC te_47_44 rfl ?_
  refine Tx.imulW hC te_47_45 (fun z14 z14i z14e => ?_)
  unfold InI at z14i z14e
  first | replace z14e := z14e (by omega) | clear z14e
  refine Tx.iconst hC te_47_46 rfl ?_
  refine Tx.iaddW hC te_47_47 (fun z15 z15i z15e => ?_)
  unfold InI at z15i z15e
  first | replace z15e := z15e (by omega) | clear z15e
  refine Tx.iload hC te_47_48 rfl ?_
  refine Tx.iast hC te_47_50 rfl (by omega) ?_
  rw [show (Int.toNat z15) = (4 * nn + 2) by omega]
  have hF17 : Frm pBp mem (upm (upm (upm (upm mem 2 (nn) k) 3 (4 * nn) a) 3 (4 * nn + 1) b) 3 (4 * nn + 2) c) := Frm.up hF12 (by unfold pBp; omega)
  refine Tx.aload_n hC te_47_51 rfl ?_
  refine Tx.getR hC te_47_52 rfl rfl rfl ?_
  refine Tx.aload_n hC te_47_55 rfl ?_
  refine Tx.getI hC te_47_56 rfl rfl rfl (fun v18 v18e v18i => ?_)
  unfold InI at v18i
  rw [hF17 1 _ (by unfold pBp; omega)] at v18e
  refine Tx.iconst hC te_47_59 rfl ?_
  refine Tx.imulW hC te_47_60 (fun z19 z19i z19e => ?_)
  unfold InI at z19i z19e
  first | replace z19e := z19e (by omega) | clear z19e
  refine Tx.iconst hC te_47_61 rfl ?_
  refine Tx.iaddW hC te_47_62 (fun z20 z20i z20e => ?_)
  unfold InI at z20i z20e
  first | replace z20e := z20e (by omega) | clear z20e
  refine Tx.iload hC te_47_63 rfl ?_
  refine Tx.iast hC te_47_65 rfl (by omega) ?_
  rw [show (Int.toNat z20) = (4 * nn + 3) by omega]
  have hF22 : Frm pBp mem (upm (upm (upm (upm (upm mem 2 (nn) k) 3 (4 * nn) a) 3 (4 * nn + 1) b) 3 (4 * nn + 2) c) 3 (4 * nn + 3) e) := Frm.up hF17 (by unfold pBp; omega)
  refine Tx.aload_n hC te_47_66 rfl ?_
  refine Tx.getR hC te_47_67 rfl rfl rfl ?_
  refine Tx.aload_n hC te_47_70 rfl ?_
  refine Tx.getI hC te_47_71 rfl rfl rfl (fun v23 v23e v23i => ?_)
  unfold InI at v23i
  rw [hF22 1 _ (by unfold pBp; omega)] at v23e
  refine Tx.iconst hC te_47_74 rfl ?_
  refine Tx.iast hC te_47_75 rfl (by omega) ?_
  rw [show (Int.toNat v23) = (nn) by omega]
  have hF25 : Frm pBp mem (upm (upm (upm (upm (upm (upm mem 2 (nn) k) 3 (4 * nn) a) 3 (4 * nn + 1) b) 3 (4 * nn + 2) c) 3 (4 * nn + 3) e) 4 (nn) 0) := Frm.up hF22 (by unfold pBp; omega)
  refine Tx.aload_n hC te_47_76 rfl ?_
  refine Tx.dup hC te_47_77 ?_
  refine Tx.getI hC te_47_78 rfl rfl rfl (fun v26 v26e v26i => ?_)
  unfold InI at v26i
  rw [hF25 1 _ (by unfold pBp; omega)] at v26e
  refine Tx.iconst hC te_47_81 rfl ?_
  refine Tx.iaddW hC te_47_82 (fun z27 z27i z27e => ?_)
  unfold InI at z27i z27e
  first | replace z27e := z27e (by omega) | clear z27e
  refine Tx.putI hC te_47_83 rfl rfl rfl rfl ?_
  have ez : z27 = mem 1 0 + 1 := by omega
  rw [ez]
  exact Tx.vret hC te_47_86 rfl (show K (upm (upm (upm (upm (upm (upm (upm mem 2 (nn) k) 3 (4 * nn) a) 3 (4 * nn + 1) b) 3 (4 * nn + 2) c) 3 (4 * nn + 3) e) 4 (nn) 0) 1 0 (mem 1 0 + 1)) from H)
end
section
/-! laid by wip/hand/tg.py: the seven that change the ops, exactly -/
def srcX (a b : Int) : Prop := a = -1 ∨ (a = -2 ∧ -99 ≤ b ∧ b ≤ 99) ∨ (0 ≤ a ∧ a ≤ 7 ∧ 0 ≤ b ∧ b ≤ 3)
def rowX (a b : Int) : Prop := (0 ≤ a ∧ a ≤ 1) ∧ 0 ≤ b ∧ b ≤ 7
theorem rowX.w {a b : Int} (h : rowX a b) : 0 ≤ a ∧ a ≤ 1 ∧ 0 ≤ b ∧ b ≤ 7 := by unfold rowX at h; omega
theorem srcX.ok {a b : Int} (h : srcX a b) : srcOK a b := by unfold srcX at h; unfold srcOK; omega
def addM (mem : MM) (n : Nat) (k a b c e : Int) : MM := upm (upm (upm (upm (upm (upm (upm mem 144 n k) 145 n a) 146 n b) 147 n c) 148 n e) 149 n 0) 143 1 (mem 143 1 + 1)
theorem addM_ne {mem : MM} {n A i : Nat} {k a b c e : Int} (h : ¬ (A = 143 ∧ i = 1) ∧ ¬ (144 ≤ A ∧ A ≤ 149 ∧ i = n)) : addM mem n k a b c e A i = mem A i := by
  unfold addM
  rw [upm_ne (by omega), upm_ne (by omega), upm_ne (by omega), upm_ne (by omega), upm_ne (by omega), upm_ne (by omega), upm_ne (by omega)]
theorem addM_at {mem : MM} {n : Nat} {k a b c e : Int} : addM mem n k a b c e 144 n = k ∧ addM mem n k a b c e 145 n = a ∧ addM mem n k a b c e 146 n = b ∧ addM mem n k a b c e 147 n = c ∧ addM mem n k a b c e 148 n = e ∧ addM mem n k a b c e 149 n = 0 ∧ addM mem n k a b c e 143 1 = mem 143 1 + 1 := by
  unfold addM
  refine ⟨?_, ?_, ?_, ?_, ?_, ?_, upm_eq⟩
  · rw [upm_ne (by omega), upm_ne (by omega), upm_ne (by omega), upm_ne (by omega), upm_ne (by omega), upm_ne (by omega), upm_eq]
  · rw [upm_ne (by omega), upm_ne (by omega), upm_ne (by omega), upm_ne (by omega), upm_ne (by omega), upm_eq]
  · rw [upm_ne (by omega), upm_ne (by omega), upm_ne (by omega), upm_ne (by omega), upm_eq]
  · rw [upm_ne (by omega), upm_ne (by omega), upm_ne (by omega), upm_eq]
  · rw [upm_ne (by omega), upm_ne (by omega), upm_eq]
  · rw [upm_ne (by omega), upm_eq]
def pAd (A _i : Nat) : Prop := 144 ≤ A ∧ A ≤ 149
theorem f_45x {S : Nat × (Nat → Int32)} {n : Nat} {mem : MM} {K : Int → MM → Prop} {E : Nat → MM → Prop} {a b : Int} (H1 : srcX a b → K 1 mem) (H0 : ¬ (srcX a b) → K 0 mem) : CQI (Ex S (n + 1)) 45 [.inl a, .inl b] mem K E := by
  refine CY.of (k := 0) mt_45 rfl rfl (fun hv => ?_)
  have hC := Ex.mono S n
  have ii_a : InI a := hv (.inl a) (by simp)
  unfold InI at ii_a
  have ii_b : InI b := hv (.inl b) (by simp)
  unfold InI at ii_b
  clear hv
  show Tx (Ex S n) S M_45 (kI K E) 0 0 0 [some (.inl a), some (.inl b)] [] mem
  refine Tx.iload_n hC te_45_0 rfl ?_
  refine Tx.iconst hC te_45_1 rfl ?_
  refine Tx.icmp hC (t := 7) te_45_2 (by decide) (fun q1 => ?_) (fun q1 => ?_)
  · replace q1 : ¬ (a : Int) = (-1) := q1
    refine Tx.iload_n hC te_45_7 rfl ?_
    refine Tx.bipush hC te_45_8 rfl rfl ?_
    refine Tx.icmp hC (t := 31) te_45_10 (by decide) (fun q2 => ?_) (fun q2 => ?_)
    · replace q2 : ¬ (a : Int) = (-2) := q2
      refine Tx.iload_n hC te_45_31 rfl ?_
      refine Tx.ifc hC (t := 54) te_45_32 (by decide) (fun q3 => ?_) (fun q3 => ?_)
      · replace q3 : (a : Int) < 0 := q3
        refine Tx.iconst hC te_45_54 rfl ?_
        exact Tx.bret hC te_45_55 rfl (by omega) (show K 0 mem from H0 (by unfold srcX; omega))
      · replace q3 : ¬ ((a : Int) < 0) := q3
        refine Tx.iload_n hC te_45_35 rfl ?_
        refine Tx.bipush hC te_45_36 rfl rfl ?_
        refine Tx.icmp hC (t := 54) te_45_38 (by decide) (fun q4 => ?_) (fun q4 => ?_)
        · replace q4 : 8 ≤ (a : Int) := q4
          refine Tx.iconst hC te_45_54 rfl ?_
          exact Tx.bret hC te_45_55 rfl (by omega) (show K 0 mem from H0 (by unfold srcX; omega))
        · replace q4 : ¬ (8 ≤ (a : Int)) := q4
          refine Tx.iload_n hC te_45_41 rfl ?_
          refine Tx.ifc hC (t := 54) te_45_42 (by decide) (fun q5 => ?_) (fun q5 => ?_)
          · replace q5 : (b : Int) < 0 := q5
            refine Tx.iconst hC te_45_54 rfl ?_
            exact Tx.bret hC te_45_55 rfl (by omega) (show K 0 mem from H0 (by unfold srcX; omega))
          · replace q5 : ¬ ((b : Int) < 0) := q5
            refine Tx.iload_n hC te_45_45 rfl ?_
            refine Tx.iconst hC te_45_46 rfl ?_
            refine Tx.icmp hC (t := 54) te_45_47 (by decide) (fun q6 => ?_) (fun q6 => ?_)
            · replace q6 : 3 < (b : Int) := q6
              refine Tx.iconst hC te_45_54 rfl ?_
              exact Tx.bret hC te_45_55 rfl (by omega) (show K 0 mem from H0 (by unfold srcX; omega))
            · replace q6 : ¬ (3 < (b : Int)) := q6
              refine Tx.iconst hC te_45_50 rfl ?_
              refine Tx.goto hC (t := 55) te_45_51 (by decide) ?_
              exact Tx.bret hC te_45_55 rfl (by omega) (show K 1 mem from H1 (by unfold srcX; omega))
    · replace q2 : ¬ (¬ (a : Int) = (-2)) := q2
      refine Tx.iload_n hC te_45_13 rfl ?_
      refine Tx.bipush hC te_45_14 rfl rfl ?_
      refine Tx.icmp hC (t := 29) te_45_16 (by decide) (fun q7 => ?_) (fun q7 => ?_)
      · replace q7 : (b : Int) < (-99) := q7
        refine Tx.iconst hC te_45_29 rfl ?_
        exact Tx.bret hC te_45_30 rfl (by omega) (show K 0 mem from H0 (by unfold srcX; omega))
      · replace q7 : ¬ ((b : Int) < (-99)) := q7
        refine Tx.iload_n hC te_45_19 rfl ?_
        refine Tx.bipush hC te_45_20 rfl rfl ?_
        refine Tx.icmp hC (t := 29) te_45_22 (by decide) (fun q8 => ?_) (fun q8 => ?_)
        · replace q8 : 99 < (b : Int) := q8
          refine Tx.iconst hC te_45_29 rfl ?_
          exact Tx.bret hC te_45_30 rfl (by omega) (show K 0 mem from H0 (by unfold srcX; omega))
        · replace q8 : ¬ (99 < (b : Int)) := q8
          refine Tx.iconst hC te_45_25 rfl ?_
          refine Tx.goto hC (t := 30) te_45_26 (by decide) ?_
          exact Tx.bret hC te_45_30 rfl (by omega) (show K 1 mem from H1 (by unfold srcX; omega))
  · replace q1 : ¬ (¬ (a : Int) = (-1)) := q1
    refine Tx.iconst hC te_45_5 rfl ?_
    exact Tx.bret hC te_45_6 rfl (by omega) (show K 1 mem from H1 (by unfold srcX; omega))
theorem f_50x {S : Nat × (Nat → Int32)} {n : Nat} {mem : MM} {K : Int → MM → Prop} {E : Nat → MM → Prop} {a b : Int} (H1 : rowX a b → K 1 mem) (H0 : ¬ (rowX a b) → K 0 mem) : CQI (Ex S (n + 1)) 50 [.inl a, .inl b] mem K E := by
  refine CY.of (k := 0) mt_50 rfl rfl (fun hv => ?_)
  have hC := Ex.mono S n
  have ii_a : InI a := hv (.inl a) (by simp)
  unfold InI at ii_a
  have ii_b : InI b := hv (.inl b) (by simp)
  unfold InI at ii_b
  clear hv
  show Tx (Ex S n) S M_50 (kI K E) 0 0 0 [some (.inl a), some (.inl b)] [] mem
  refine Tx.iload_n hC te_50_0 rfl ?_
  refine Tx.ifc hC (t := 23) te_50_1 (by decide) (fun q1 => ?_) (fun q1 => ?_)
  · replace q1 : (a : Int) < 0 := q1
    refine Tx.iconst hC te_50_23 rfl ?_
    exact Tx.bret hC te_50_24 rfl (by omega) (show K 0 mem from H0 (by unfold rowX; omega))
  · replace q1 : ¬ ((a : Int) < 0) := q1
    refine Tx.iload_n hC te_50_4 rfl ?_
    refine Tx.iconst hC te_50_5 rfl ?_
    refine Tx.icmp hC (t := 23) te_50_6 (by decide) (fun q2 => ?_) (fun q2 => ?_)
    · replace q2 : 1 < (a : Int) := q2
      refine Tx.iconst hC te_50_23 rfl ?_
      exact Tx.bret hC te_50_24 rfl (by omega) (show K 0 mem from H0 (by unfold rowX; omega))
    · replace q2 : ¬ (1 < (a : Int)) := q2
      refine Tx.iload_n hC te_50_9 rfl ?_
      refine Tx.ifc hC (t := 23) te_50_10 (by decide) (fun q3 => ?_) (fun q3 => ?_)
      · replace q3 : (b : Int) < 0 := q3
        refine Tx.iconst hC te_50_23 rfl ?_
        exact Tx.bret hC te_50_24 rfl (by omega) (show K 0 mem from H0 (by unfold rowX; omega))
      · replace q3 : ¬ ((b : Int) < 0) := q3
        refine Tx.iload_n hC te_50_13 rfl ?_
        refine Tx.bipush hC te_50_14 rfl rfl ?_
        refine Tx.icmp hC (t := 23) te_50_16 (by decide) (fun q4 => ?_) (fun q4 => ?_)
        · replace q4 : 7 < (b : Int) := q4
          refine Tx.iconst hC te_50_23 rfl ?_
          exact Tx.bret hC te_50_24 rfl (by omega) (show K 0 mem from H0 (by unfold rowX; omega))
        · replace q4 : ¬ (7 < (b : Int)) := q4
          refine Tx.iconst hC te_50_19 rfl ?_
          refine Tx.goto hC (t := 24) te_50_20 (by decide) ?_
          exact Tx.bret hC te_50_24 rfl (by omega) (show K 1 mem from H1 (by unfold rowX; omega))
theorem f_228x {S : Nat × (Nat → Int32)} {n : Nat} {mem : MM} {K : Int → MM → Prop} {E : Nat → MM → Prop} {a b : Int} (H1 : srcX a b → K 1 mem) (H0 : ¬ (srcX a b) → K 0 mem) : CQI (Ex S (n + 2)) 228 [.inl a, .inl b] mem K E := by
  refine CY.of (k := 0) mt_228 rfl rfl (fun hv => ?_)
  have hC := Ex.mono S (n + 1)
  have ii_a : InI a := hv (.inl a) (by simp)
  unfold InI at ii_a
  have ii_b : InI b := hv (.inl b) (by simp)
  unfold InI at ii_b
  clear hv
  show Tx (Ex S (n + 1)) S M_228 (kI K E) 0 0 0 [some (.inl a), some (.inl b)] [] mem
  refine Tx.iload_n hC te_228_0 rfl ?_
  refine Tx.bipush hC te_228_1 rfl rfl ?_
  refine Tx.icmp hC (t := 17) te_228_3 (by decide) (fun q1 => ?_) (fun q1 => ?_)
  · replace q1 : ¬ (a : Int) = (-2) := q1
    refine Tx.iload_n hC te_228_17 rfl ?_
    refine Tx.iconst hC te_228_18 rfl ?_
    refine Tx.icmp hC (t := 41) te_228_19 (by decide) (fun q2 => ?_) (fun q2 => ?_)
    · replace q2 : (a : Int) = (-1) := q2
      refine Tx.iconst hC te_228_41 rfl ?_
      refine Tx.goto hC (t := 46) te_228_42 (by decide) ?_
      exact Tx.bret hC te_228_46 rfl (by omega) (show K 1 mem from H1 (by unfold srcX; omega))
    · replace q2 : ¬ ((a : Int) = (-1)) := q2
      refine Tx.iload_n hC te_228_22 rfl ?_
      refine Tx.iconst hC te_228_23 rfl ?_
      refine Tx.bipush hC te_228_24 rfl rfl ?_
      refine Tx.statI hC te_228_26 (by decide) mt_227 (args := [.inl a, .inl 0, .inl 7]) (rest := []) (c' := 0) (s' := 0) rfl rfl rfl rfl rfl rfl rfl ?_
      refine CWI.q hC (f_227 (fun r3a r3b r3i => ?_) (fun r3q r3i => ?_))
      · skip
        refine Tx.ifc hC (t := 45) te_228_29 (by decide) (fun q => absurd q (show ¬ ((1 : Int) = 0) by decide)) (fun q => ?_)
        refine Tx.iload_n hC te_228_32 rfl ?_
        refine Tx.iconst hC te_228_33 rfl ?_
        refine Tx.iconst hC te_228_34 rfl ?_
        refine Tx.statI hC te_228_35 (by decide) mt_227 (args := [.inl b, .inl 0, .inl 3]) (rest := []) (c' := 0) (s' := 0) rfl rfl rfl rfl rfl rfl rfl ?_
        refine CWI.q hC (f_227 (fun r6a r6b r6i => ?_) (fun r6q r6i => ?_))
        · skip
          refine Tx.ifc hC (t := 45) te_228_38 (by decide) (fun q => absurd q (show ¬ ((1 : Int) = 0) by decide)) (fun q => ?_)
          refine Tx.iconst hC te_228_41 rfl ?_
          refine Tx.goto hC (t := 46) te_228_42 (by decide) ?_
          exact Tx.bret hC te_228_46 rfl (by omega) (show K 1 mem from H1 (by unfold srcX; omega))
        · skip
          refine Tx.ifc hC (t := 45) te_228_38 (by decide) (fun q => ?_) (fun q => absurd (show (0 : Int) = 0 by decide) q)
          refine Tx.iconst hC te_228_45 rfl ?_
          exact Tx.bret hC te_228_46 rfl (by omega) (show K 0 mem from H0 (by unfold srcX; omega))
      · skip
        refine Tx.ifc hC (t := 45) te_228_29 (by decide) (fun q => ?_) (fun q => absurd (show (0 : Int) = 0 by decide) q)
        refine Tx.iconst hC te_228_45 rfl ?_
        exact Tx.bret hC te_228_46 rfl (by omega) (show K 0 mem from H0 (by unfold srcX; omega))
  · replace q1 : ¬ (¬ (a : Int) = (-2)) := q1
    refine Tx.iload_n hC te_228_6 rfl ?_
    refine Tx.bipush hC te_228_7 rfl rfl ?_
    refine Tx.bipush hC te_228_9 rfl rfl ?_
    refine Tx.statI hC te_228_11 (by decide) mt_227 (args := [.inl b, .inl (-99), .inl 99]) (rest := []) (c' := 0) (s' := 0) rfl rfl rfl rfl rfl rfl rfl ?_
    refine CWI.q hC (f_227 (fun r9a r9b r9i => ?_) (fun r9q r9i => ?_))
    · skip
      refine Tx.goto hC (t := 46) te_228_14 (by decide) ?_
      exact Tx.bret hC te_228_46 rfl (by omega) (show K 1 mem from H1 (by unfold srcX; omega))
    · skip
      refine Tx.goto hC (t := 46) te_228_14 (by decide) ?_
      exact Tx.bret hC te_228_46 rfl (by omega) (show K 0 mem from H0 (by unfold srcX; omega))
theorem f_231x {S : Nat × (Nat → Int32)} {n : Nat} {mem : MM} {K : Int → MM → Prop} {E : Nat → MM → Prop} {a b : Int} (H1 : rowX a b → K 1 mem) (H0 : ¬ (rowX a b) → K 0 mem) : CQI (Ex S (n + 2)) 231 [.inl a, .inl b] mem K E := by
  refine CY.of (k := 0) mt_231 rfl rfl (fun hv => ?_)
  have hC := Ex.mono S (n + 1)
  have ii_a : InI a := hv (.inl a) (by simp)
  unfold InI at ii_a
  have ii_b : InI b := hv (.inl b) (by simp)
  unfold InI at ii_b
  clear hv
  show Tx (Ex S (n + 1)) S M_231 (kI K E) 0 0 0 [some (.inl a), some (.inl b)] [] mem
  refine Tx.iload_n hC te_231_0 rfl ?_
  refine Tx.iconst hC te_231_1 rfl ?_
  refine Tx.iconst hC te_231_2 rfl ?_
  refine Tx.statI hC te_231_3 (by decide) mt_227 (args := [.inl a, .inl 0, .inl 1]) (rest := []) (c' := 0) (s' := 0) rfl rfl rfl rfl rfl rfl rfl ?_
  refine CWI.q hC (f_227 (fun r1a r1b r1i => ?_) (fun r1q r1i => ?_))
  · skip
    refine Tx.ifc hC (t := 23) te_231_6 (by decide) (fun q => absurd q (show ¬ ((1 : Int) = 0) by decide)) (fun q => ?_)
    refine Tx.iload_n hC te_231_9 rfl ?_
    refine Tx.iconst hC te_231_10 rfl ?_
    refine Tx.bipush hC te_231_11 rfl rfl ?_
    refine Tx.statI hC te_231_13 (by decide) mt_227 (args := [.inl b, .inl 0, .inl 7]) (rest := []) (c' := 0) (s' := 0) rfl rfl rfl rfl rfl rfl rfl ?_
    refine CWI.q hC (f_227 (fun r4a r4b r4i => ?_) (fun r4q r4i => ?_))
    · skip
      refine Tx.ifc hC (t := 23) te_231_16 (by decide) (fun q => absurd q (show ¬ ((1 : Int) = 0) by decide)) (fun q => ?_)
      refine Tx.iconst hC te_231_19 rfl ?_
      refine Tx.goto hC (t := 24) te_231_20 (by decide) ?_
      exact Tx.bret hC te_231_24 rfl (by omega) (show K 1 mem from H1 (by unfold rowX; omega))
    · skip
      refine Tx.ifc hC (t := 23) te_231_16 (by decide) (fun q => ?_) (fun q => absurd (show (0 : Int) = 0 by decide) q)
      refine Tx.iconst hC te_231_23 rfl ?_
      exact Tx.bret hC te_231_24 rfl (by omega) (show K 0 mem from H0 (by unfold rowX; omega))
  · skip
    refine Tx.ifc hC (t := 23) te_231_6 (by decide) (fun q => ?_) (fun q => absurd (show (0 : Int) = 0 by decide) q)
    refine Tx.iconst hC te_231_23 rfl ?_
    exact Tx.bret hC te_231_24 rfl (by omega) (show K 0 mem from H0 (by unfold rowX; omega))
theorem f_46x {S : Nat × (Nat → Int32)} {n : Nat} {mem : MM} {K : Int → MM → Prop} {E : Nat → MM → Prop} (hI : ClS mem) {k a b c e : Int} (hk : 0 ≤ k ∧ k ≤ 5) (h3 : k ≤ 3 → srcOK a b ∧ srcOK c e) (h4 : k = 4 → 0 ≤ a ∧ a ≤ 1 ∧ 0 ≤ b ∧ b ≤ 7) (h5 : k = 5 → srcOK a b ∧ 0 ≤ c ∧ c ≤ 1 ∧ 0 ≤ e ∧ e ≤ 7) (H : mem 1 0 < 8 → ∀ r m', r = mem 1 0 → ClS m' → m' = upm (putM mem (mem 1 0).toNat k a b c e) 0 11 1 → K r m') (HE : ¬ mem 1 0 < 8 → E 1 mem) : CQI (Ex S (n + 2)) 46 [.inr 0, .inl k, .inl a, .inl b, .inl c, .inl e] mem K E := by
  refine CY.of (k := 0) mt_46 rfl rfl (fun hv => ?_)
  have hC := Ex.mono S (n + 1)
  have ii_k : InI k := hv (.inl k) (by simp)
  unfold InI at ii_k
  have ii_a : InI a := hv (.inl a) (by simp)
  unfold InI at ii_a
  have ii_b : InI b := hv (.inl b) (by simp)
  unfold InI at ii_b
  have ii_c : InI c := hv (.inl c) (by simp)
  unfold InI at ii_c
  have ii_e : InI e := hv (.inl e) (by simp)
  unfold InI at ii_e
  clear hv
  have h8 := hI.1.b.1
  show Tx (Ex S (n + 1)) S M_46 (kI K E) 0 0 0 [some (.inr 0), some (.inl k), some (.inl a), some (.inl b), some (.inl c), some (.inl e)] [] mem
  refine Tx.aload_n hC te_46_0 rfl ?_
  refine Tx.getR hC te_46_1 rfl rfl rfl ?_
  refine Tx.getI hC te_46_4 rfl rfl rfl (fun v1 v1e v1i => ?_)
  unfold InI at v1i
  first | rw [upm_ne (by omega), putM_at.2.2.2.2.2.2] at v1e | skip
  refine Tx.bipush hC te_46_7 rfl rfl ?_
  refine Tx.icmp hC (t := 23) te_46_9 (by decide) (fun q3 => ?_) (fun q3 => ?_)
  · replace q3 : (v1 : Int) < 8 := q3
    refine Tx.aload_n hC te_46_23 rfl ?_
    refine Tx.getR hC te_46_24 rfl rfl rfl ?_
    refine Tx.iload_n hC te_46_27 rfl ?_
    refine Tx.iload_n hC te_46_28 rfl ?_
    refine Tx.iload_n hC te_46_29 rfl ?_
    refine Tx.iload hC te_46_30 rfl ?_
    refine Tx.iload hC te_46_32 rfl ?_
    refine Tx.virtV hC te_46_34 mt_47 (args := [.inr 1, .inl k, .inl a, .inl b, .inl c, .inl e]) (rest := []) (c' := 0) (s' := 0) rfl rfl rfl rfl rfl rfl rfl rfl rfl rfl ?_
    refine f_47 (by omega) ?_
    have r4b := putM_ok (n := (mem 1 0).toNat) hI.1.b (by omega) (by omega) hk h3 h4 h5
    have r4f : Frm pBd mem (putM mem (mem 1 0).toNat k a b c e) := fun A i q => putM_ne (by unfold pBd at q; omega)
    refine Tx.aload_n hC te_46_37 rfl ?_
    refine Tx.iconst hC te_46_38 rfl ?_
    refine Tx.putB hC te_46_39 rfl rfl rfl rfl (by omega) ?_
    have hC_9 : ClS (upm (putM mem (mem 1 0).toNat k a b c e) 0 11 1) := ClS.bd hI (Frm.up r4f (by unfold pBd; omega)) (BodyOK.up r4b (by omega)) upm_eq
    refine Tx.aload_n hC te_46_42 rfl ?_
    refine Tx.getR hC te_46_43 rfl rfl rfl ?_
    refine Tx.getI hC te_46_46 rfl rfl rfl (fun v10 v10e v10i => ?_)
    unfold InI at v10i
    first | rw [upm_ne (by omega), putM_at.2.2.2.2.2.2] at v10e | skip
    refine Tx.iconst hC te_46_49 rfl ?_
    refine Tx.isubW hC te_46_50 (fun z12 z12i z12e => ?_)
    unfold InI at z12i z12e
    first | replace z12e := z12e (by omega) | clear z12e
    exact Tx.ireturn hC te_46_51 rfl (fun hr => show K z12 (upm (putM mem (mem 1 0).toNat k a b c e) 0 11 1) from H (by omega) _ _ (by omega) hC_9 rfl)
  · replace q3 : ¬ ((v1 : Int) < 8) := q3
    exact Tx.thr hC te_46_12 rfl rfl rfl rfl rfl (show E 1 mem from HE (by omega))
theorem f_44x {S : Nat × (Nat → Int32)} {n : Nat} {mem : MM} {K : Int → MM → Prop} {E : Nat → MM → Prop} (hI : ClS mem) {p0 p1 p2 p3 p4 : Int} (H : (0 ≤ p0 ∧ p0 < 4) ∧ srcX p1 p2 ∧ srcX p3 p4 → mem 1 0 < 8 → ∀ r m', r = mem 1 0 → ClS m' → m' = upm (putM mem (mem 1 0).toNat p0 p1 p2 p3 p4) 0 11 1 → K r m') (HE0 : ¬ ((0 ≤ p0 ∧ p0 < 4) ∧ srcX p1 p2 ∧ srcX p3 p4) → E 0 mem) (HE1 : (0 ≤ p0 ∧ p0 < 4) ∧ srcX p1 p2 ∧ srcX p3 p4 → ¬ mem 1 0 < 8 → E 1 mem) : CQI (Ex S (n + 3)) 44 [.inr 0, .inl p0, .inl p1, .inl p2, .inl p3, .inl p4] mem K E := by
  refine CY.of (k := 0) mt_44 rfl rfl (fun hv => ?_)
  have hC := Ex.mono S (n + 2)
  have ii_p0 : InI p0 := hv (.inl p0) (by simp)
  unfold InI at ii_p0
  have ii_p1 : InI p1 := hv (.inl p1) (by simp)
  unfold InI at ii_p1
  have ii_p2 : InI p2 := hv (.inl p2) (by simp)
  unfold InI at ii_p2
  have ii_p3 : InI p3 := hv (.inl p3) (by simp)
  unfold InI at ii_p3
  have ii_p4 : InI p4 := hv (.inl p4) (by simp)
  unfold InI at ii_p4
  clear hv
  have h8 := hI.1.b.1
  show Tx (Ex S (n + 2)) S M_44 (kI K E) 0 0 0 [some (.inr 0), some (.inl p0), some (.inl p1), some (.inl p2), some (.inl p3), some (.inl p4)] [] mem
  refine Tx.iload_n hC te_44_0 rfl ?_
  refine Tx.ifc hC (t := 27) te_44_1 (by decide) (fun q1 => ?_) (fun q1 => ?_)
  · replace q1 : (p0 : Int) < 0 := q1
    exact Tx.thr hC te_44_27 rfl rfl rfl rfl rfl (show E 0 mem from HE0 (by intro w; first | (have := w.1; omega) | exact absurd w (by assumption) | exact absurd w.1 (by assumption) | exact absurd w.2 (by assumption) | exact absurd w.2.1 (by assumption) | exact absurd w.2.2 (by assumption)))
  · replace q1 : ¬ ((p0 : Int) < 0) := q1
    refine Tx.iload_n hC te_44_4 rfl ?_
    refine Tx.iconst hC te_44_5 rfl ?_
    refine Tx.icmp hC (t := 27) te_44_6 (by decide) (fun q2 => ?_) (fun q2 => ?_)
    · replace q2 : 4 ≤ (p0 : Int) := q2
      exact Tx.thr hC te_44_27 rfl rfl rfl rfl rfl (show E 0 mem from HE0 (by intro w; first | (have := w.1; omega) | exact absurd w (by assumption) | exact absurd w.1 (by assumption) | exact absurd w.2 (by assumption) | exact absurd w.2.1 (by assumption) | exact absurd w.2.2 (by assumption)))
    · replace q2 : ¬ (4 ≤ (p0 : Int)) := q2
      refine Tx.iload_n hC te_44_9 rfl ?_
      refine Tx.iload_n hC te_44_10 rfl ?_
      refine Tx.statI hC te_44_11 (by decide) mt_45 (args := [.inl p1, .inl p2]) (rest := []) (c' := 0) (s' := 0) rfl rfl rfl rfl rfl rfl rfl ?_
      refine f_45x (fun r3s r3i => ?_) (fun r3s r3i => ?_)
      · skip
        refine Tx.ifc hC (t := 27) te_44_14 (by decide) (fun q => absurd q (show ¬ ((1 : Int) = 0) by decide)) (fun q => ?_)
        refine Tx.iload hC te_44_17 rfl ?_
        refine Tx.iload hC te_44_19 rfl ?_
        refine Tx.statI hC te_44_21 (by decide) mt_45 (args := [.inl p3, .inl p4]) (rest := []) (c' := 0) (s' := 0) rfl rfl rfl rfl rfl rfl rfl ?_
        refine f_45x (fun r6s r6i => ?_) (fun r6s r6i => ?_)
        · skip
          refine Tx.ifc hC (t := 37) te_44_24 (by decide) (fun q => ?_) (fun q => absurd (show ¬ (1 : Int) = 0 by decide) q)
          refine Tx.aload_n hC te_44_37 rfl ?_
          refine Tx.iload_n hC te_44_38 rfl ?_
          refine Tx.iload_n hC te_44_39 rfl ?_
          refine Tx.iload_n hC te_44_40 rfl ?_
          refine Tx.iload hC te_44_41 rfl ?_
          refine Tx.iload hC te_44_43 rfl ?_
          refine Tx.virtI hC te_44_45 mt_46 (args := [.inr 0, .inl p0, .inl p1, .inl p2, .inl p3, .inl p4]) (rest := []) (c' := 1) (s' := 6) rfl rfl rfl rfl rfl rfl rfl rfl rfl rfl ?_
          refine f_46x hI (by omega) (fun z => ⟨srcX.ok (by assumption), srcX.ok (by assumption)⟩) (fun z => absurd z (by omega)) (fun z => absurd z (by omega)) (fun r9h r9 m10 r9e r9C r9m r9i => ?_) (fun r9h => HE1 (by exact ⟨⟨by omega, by omega⟩, by assumption, by assumption⟩) r9h)
          have hF11n : Frm pCl mem m10 := by rw [r9m]; exact fun A i q => by rw [upm_ne (by unfold pCl at q; omega), putM_ne (by unfold pCl at q; omega)]
          unfold InI at r9i
          exact Tx.ireturn hC te_44_48 rfl (fun hr => show K r9 m10 from H (by exact ⟨⟨by omega, by omega⟩, by assumption, by assumption⟩) r9h _ _ r9e r9C r9m)
        · skip
          refine Tx.ifc hC (t := 37) te_44_24 (by decide) (fun q => absurd q (show ¬ (¬ (0 : Int) = 0) by decide)) (fun q => ?_)
          exact Tx.thr hC te_44_27 rfl rfl rfl rfl rfl (show E 0 mem from HE0 (by intro w; first | (have := w.1; omega) | exact absurd w (by assumption) | exact absurd w.1 (by assumption) | exact absurd w.2 (by assumption) | exact absurd w.2.1 (by assumption) | exact absurd w.2.2 (by assumption)))
      · skip
        refine Tx.ifc hC (t := 27) te_44_14 (by decide) (fun q => ?_) (fun q => absurd (show (0 : Int) = 0 by decide) q)
        exact Tx.thr hC te_44_27 rfl rfl rfl rfl rfl (show E 0 mem from HE0 (by intro w; first | (have := w.1; omega) | exact absurd w (by assumption) | exact absurd w.1 (by assumption) | exact absurd w.2 (by assumption) | exact absurd w.2.1 (by assumption) | exact absurd w.2.2 (by assumption)))
theorem f_49x {S : Nat × (Nat → Int32)} {n : Nat} {mem : MM} {K : Int → MM → Prop} {E : Nat → MM → Prop} (hI : ClS mem) {p0 p1 : Int} (H : rowX p0 p1 → mem 1 0 < 8 → ∀ r m', r = mem 1 0 → ClS m' → m' = upm (putM mem (mem 1 0).toNat 4 p0 p1 0 0) 0 11 1 → K r m') (HE0 : ¬ (rowX p0 p1) → E 0 mem) (HE1 : rowX p0 p1 → ¬ mem 1 0 < 8 → E 1 mem) : CQI (Ex S (n + 3)) 49 [.inr 0, .inl p0, .inl p1] mem K E := by
  refine CY.of (k := 0) mt_49 rfl rfl (fun hv => ?_)
  have hC := Ex.mono S (n + 2)
  have ii_p0 : InI p0 := hv (.inl p0) (by simp)
  unfold InI at ii_p0
  have ii_p1 : InI p1 := hv (.inl p1) (by simp)
  unfold InI at ii_p1
  clear hv
  have h8 := hI.1.b.1
  show Tx (Ex S (n + 2)) S M_49 (kI K E) 0 0 0 [some (.inr 0), some (.inl p0), some (.inl p1)] [] mem
  refine Tx.iload_n hC te_49_0 rfl ?_
  refine Tx.iload_n hC te_49_1 rfl ?_
  refine Tx.statI hC te_49_2 (by decide) mt_50 (args := [.inl p0, .inl p1]) (rest := []) (c' := 0) (s' := 0) rfl rfl rfl rfl rfl rfl rfl ?_
  refine f_50x (fun r1s r1i => ?_) (fun r1s r1i => ?_)
  · skip
    refine Tx.ifc hC (t := 18) te_49_5 (by decide) (fun q => ?_) (fun q => absurd (show ¬ (1 : Int) = 0 by decide) q)
    refine Tx.aload_n hC te_49_18 rfl ?_
    refine Tx.iconst hC te_49_19 rfl ?_
    refine Tx.iload_n hC te_49_20 rfl ?_
    refine Tx.iload_n hC te_49_21 rfl ?_
    refine Tx.iconst hC te_49_22 rfl ?_
    refine Tx.iconst hC te_49_23 rfl ?_
    refine Tx.virtI hC te_49_24 mt_46 (args := [.inr 0, .inl 4, .inl p0, .inl p1, .inl 0, .inl 0]) (rest := []) (c' := 1) (s' := 6) rfl rfl rfl rfl rfl rfl rfl rfl rfl rfl ?_
    refine f_46x hI (by omega) (fun z => absurd z (by omega)) (fun z => rowX.w (by assumption)) (fun z => absurd z (by omega)) (fun r4h r4 m5 r4e r4C r4m r4i => ?_) (fun r4h => HE1 (by assumption) r4h)
    have hF6n : Frm pCl mem m5 := by rw [r4m]; exact fun A i q => by rw [upm_ne (by unfold pCl at q; omega), putM_ne (by unfold pCl at q; omega)]
    unfold InI at r4i
    exact Tx.ireturn hC te_49_27 rfl (fun hr => show K r4 m5 from H (by assumption) r4h _ _ r4e r4C r4m)
  · skip
    refine Tx.ifc hC (t := 18) te_49_5 (by decide) (fun q => absurd q (show ¬ (¬ (0 : Int) = 0) by decide)) (fun q => ?_)
    exact Tx.thr hC te_49_8 rfl rfl rfl rfl rfl (show E 0 mem from HE0 (by intro w; first | (have := w.1; omega) | exact absurd w (by assumption) | exact absurd w.1 (by assumption) | exact absurd w.2 (by assumption) | exact absurd w.2.1 (by assumption) | exact absurd w.2.2 (by assumption)))
theorem f_52x {S : Nat × (Nat → Int32)} {n : Nat} {mem : MM} {K : Int → MM → Prop} {E : Nat → MM → Prop} (hI : ClS mem) {p0 p1 p2 p3 : Int} (H : srcX p0 p1 ∧ rowX p2 p3 → mem 1 0 < 8 → ∀ r m', r = mem 1 0 → ClS m' → m' = upm (putM mem (mem 1 0).toNat 5 p0 p1 p2 p3) 0 11 1 → K r m') (HE0 : ¬ (srcX p0 p1 ∧ rowX p2 p3) → E 0 mem) (HE1 : srcX p0 p1 ∧ rowX p2 p3 → ¬ mem 1 0 < 8 → E 1 mem) : CQI (Ex S (n + 3)) 52 [.inr 0, .inl p0, .inl p1, .inl p2, .inl p3] mem K E := by
  refine CY.of (k := 0) mt_52 rfl rfl (fun hv => ?_)
  have hC := Ex.mono S (n + 2)
  have ii_p0 : InI p0 := hv (.inl p0) (by simp)
  unfold InI at ii_p0
  have ii_p1 : InI p1 := hv (.inl p1) (by simp)
  unfold InI at ii_p1
  have ii_p2 : InI p2 := hv (.inl p2) (by simp)
  unfold InI at ii_p2
  have ii_p3 : InI p3 := hv (.inl p3) (by simp)
  unfold InI at ii_p3
  clear hv
  have h8 := hI.1.b.1
  show Tx (Ex S (n + 2)) S M_52 (kI K E) 0 0 0 [some (.inr 0), some (.inl p0), some (.inl p1), some (.inl p2), some (.inl p3)] [] mem
  refine Tx.iload_n hC te_52_0 rfl ?_
  refine Tx.iload_n hC te_52_1 rfl ?_
  refine Tx.statI hC te_52_2 (by decide) mt_45 (args := [.inl p0, .inl p1]) (rest := []) (c' := 0) (s' := 0) rfl rfl rfl rfl rfl rfl rfl ?_
  refine f_45x (fun r1s r1i => ?_) (fun r1s r1i => ?_)
  · skip
    refine Tx.ifc hC (t := 17) te_52_5 (by decide) (fun q => absurd q (show ¬ ((1 : Int) = 0) by decide)) (fun q => ?_)
    refine Tx.iload_n hC te_52_8 rfl ?_
    refine Tx.iload hC te_52_9 rfl ?_
    refine Tx.statI hC te_52_11 (by decide) mt_50 (args := [.inl p2, .inl p3]) (rest := []) (c' := 0) (s' := 0) rfl rfl rfl rfl rfl rfl rfl ?_
    refine f_50x (fun r4s r4i => ?_) (fun r4s r4i => ?_)
    · skip
      refine Tx.ifc hC (t := 27) te_52_14 (by decide) (fun q => ?_) (fun q => absurd (show ¬ (1 : Int) = 0 by decide) q)
      refine Tx.aload_n hC te_52_27 rfl ?_
      refine Tx.iconst hC te_52_28 rfl ?_
      refine Tx.iload_n hC te_52_29 rfl ?_
      refine Tx.iload_n hC te_52_30 rfl ?_
      refine Tx.iload_n hC te_52_31 rfl ?_
      refine Tx.iload hC te_52_32 rfl ?_
      refine Tx.virtI hC te_52_34 mt_46 (args := [.inr 0, .inl 5, .inl p0, .inl p1, .inl p2, .inl p3]) (rest := []) (c' := 1) (s' := 6) rfl rfl rfl rfl rfl rfl rfl rfl rfl rfl ?_
      refine f_46x hI (by omega) (fun z => absurd z (by omega)) (fun z => absurd z (by omega)) (fun z => ⟨srcX.ok (by assumption), rowX.w (by assumption)⟩) (fun r7h r7 m8 r7e r7C r7m r7i => ?_) (fun r7h => HE1 (by exact ⟨by assumption, by assumption⟩) r7h)
      have hF9n : Frm pCl mem m8 := by rw [r7m]; exact fun A i q => by rw [upm_ne (by unfold pCl at q; omega), putM_ne (by unfold pCl at q; omega)]
      unfold InI at r7i
      exact Tx.ireturn hC te_52_37 rfl (fun hr => show K r7 m8 from H (by exact ⟨by assumption, by assumption⟩) r7h _ _ r7e r7C r7m)
    · skip
      refine Tx.ifc hC (t := 27) te_52_14 (by decide) (fun q => absurd q (show ¬ (¬ (0 : Int) = 0) by decide)) (fun q => ?_)
      exact Tx.thr hC te_52_17 rfl rfl rfl rfl rfl (show E 0 mem from HE0 (by intro w; first | (have := w.1; omega) | exact absurd w (by assumption) | exact absurd w.1 (by assumption) | exact absurd w.2 (by assumption) | exact absurd w.2.1 (by assumption) | exact absurd w.2.2 (by assumption)))
  · skip
    refine Tx.ifc hC (t := 17) te_52_5 (by decide) (fun q => ?_) (fun q => absurd (show (0 : Int) = 0 by decide) q)
    exact Tx.thr hC te_52_17 rfl rfl rfl rfl rfl (show E 0 mem from HE0 (by intro w; first | (have := w.1; omega) | exact absurd w (by assumption) | exact absurd w.1 (by assumption) | exact absurd w.2 (by assumption) | exact absurd w.2.1 (by assumption) | exact absurd w.2.2 (by assumption)))
end
section
/-! laid by wip/hand/tg.py: the seven that change the ops, exactly, second part -/
theorem f_57n {S : Nat × (Nat → Int32)} {n : Nat} {mem : MM} {K : MM → Prop} {E : Nat → MM → Prop} {o : Int} (H : 0 ≤ o ∧ o < mem 1 0 → K mem) (HE : ¬ (0 ≤ o ∧ o < mem 1 0) → E 2 mem) : CQV (Ex S (n + 1)) 57 [.inr 0, .inl o] mem K E := by
  refine CY.of (k := 0) mt_57 rfl rfl (fun hv => ?_)
  have hC := Ex.mono S n
  have ii_o : InI o := hv (.inl o) (by simp)
  unfold InI at ii_o
  clear hv
  show Tx (Ex S n) S M_57 (kV K E) 0 0 0 [some (.inr 0), some (.inl o)] [] mem
  refine Tx.iload_n hC te_57_0 rfl ?_
  refine Tx.ifc hC (t := 15) te_57_1 (by decide) (fun q1 => ?_) (fun q1 => ?_)
  · replace q1 : (o : Int) < 0 := q1
    exact Tx.thr hC te_57_15 rfl rfl rfl rfl rfl (show E 2 mem from HE (by omega))
  · replace q1 : ¬ ((o : Int) < 0) := q1
    refine Tx.iload_n hC te_57_4 rfl ?_
    refine Tx.aload_n hC te_57_5 rfl ?_
    refine Tx.getR hC te_57_6 rfl rfl rfl ?_
    refine Tx.getI hC te_57_9 rfl rfl rfl (fun v2 v2e v2i => ?_)
    unfold InI at v2i
    refine Tx.icmp hC (t := 26) te_57_12 (by decide) (fun q3 => ?_) (fun q3 => ?_)
    · replace q3 : (o : Int) < v2 := q3
      exact Tx.vret hC te_57_26 rfl (show K mem from H (by omega))
    · replace q3 : ¬ ((o : Int) < v2) := q3
      exact Tx.thr hC te_57_15 rfl rfl rfl rfl rfl (show E 2 mem from HE (by omega))
theorem f_63n {S : Nat × (Nat → Int32)} {n : Nat} {mem : MM} {K : MM → Prop} {E : Nat → MM → Prop} {o : Int} (H : 0 ≤ o ∧ o < 3 → K mem) (HE : ¬ (0 ≤ o ∧ o < 3) → E 2 mem) : CQV (Ex S (n + 1)) 63 [.inr 0, .inl o] mem K E := by
  refine CY.of (k := 0) mt_63 rfl rfl (fun hv => ?_)
  have hC := Ex.mono S n
  have ii_o : InI o := hv (.inl o) (by simp)
  unfold InI at ii_o
  clear hv
  show Tx (Ex S n) S M_63 (kV K E) 0 0 0 [some (.inr 0), some (.inl o)] [] mem
  refine Tx.iload_n hC te_63_0 rfl ?_
  refine Tx.ifc hC (t := 9) te_63_1 (by decide) (fun q1 => ?_) (fun q1 => ?_)
  · replace q1 : (o : Int) < 0 := q1
    exact Tx.thr hC te_63_9 rfl rfl rfl rfl rfl (show E 2 mem from HE (by omega))
  · replace q1 : ¬ ((o : Int) < 0) := q1
    refine Tx.iload_n hC te_63_4 rfl ?_
    refine Tx.iconst hC te_63_5 rfl ?_
    refine Tx.icmp hC (t := 20) te_63_6 (by decide) (fun q2 => ?_) (fun q2 => ?_)
    · replace q2 : (o : Int) < 3 := q2
      exact Tx.vret hC te_63_20 rfl (show K mem from H (by omega))
    · replace q2 : ¬ ((o : Int) < 3) := q2
      exact Tx.thr hC te_63_9 rfl rfl rfl rfl rfl (show E 2 mem from HE (by omega))
theorem f_54x {S : Nat × (Nat → Int32)} {n : Nat} {mem : MM} {K : Int → MM → Prop} {E : Nat → MM → Prop} (hI : ClS mem) (H : 0 < mem 1 0 → ∀ r m', r = mem 1 0 - 1 → ClS m' → m' = upm (upm mem 1 0 (mem 1 0 - 1)) 0 11 1 → K r m') (HE1 : ¬ 0 < mem 1 0 → E 1 mem) : CQI (Ex S (n + 2)) 54 [.inr 0] mem K E := by
  refine CY.of (k := 0) mt_54 rfl rfl (fun hv => ?_)
  have hC := Ex.mono S (n + 1)
  clear hv
  have h8 := hI.1.b.1
  show Tx (Ex S (n + 1)) S M_54 (kI K E) 0 0 0 [some (.inr 0)] [] mem
  refine Tx.aload_n hC te_54_0 rfl ?_
  refine Tx.getR hC te_54_1 rfl rfl rfl ?_
  refine Tx.getI hC te_54_4 rfl rfl rfl (fun v1 v1e v1i => ?_)
  unfold InI at v1i
  first | rw [upm_ne (by omega), upm_eq] at v1e | skip
  refine Tx.ifc hC (t := 20) te_54_7 (by decide) (fun q3 => ?_) (fun q3 => ?_)
  · replace q3 : ¬ (v1 : Int) = 0 := q3
    refine Tx.aload_n hC te_54_20 rfl ?_
    refine Tx.getR hC te_54_21 rfl rfl rfl ?_
    refine Tx.dup hC te_54_24 ?_
    refine Tx.getI hC te_54_25 rfl rfl rfl (fun v4 v4e v4i => ?_)
    unfold InI at v4i
    first | rw [upm_ne (by omega), upm_eq] at v4e | skip
    refine Tx.iconst hC te_54_28 rfl ?_
    refine Tx.isubW hC te_54_29 (fun z6 z6i z6e => ?_)
    unfold InI at z6i z6e
    first | replace z6e := z6e (by omega) | clear z6e
    refine Tx.putI hC te_54_30 rfl rfl rfl rfl ?_
    have ez : z6 = mem 1 0 - 1 := by omega
    rw [ez]
    have hb8 : BodyOK (upm mem 1 0 (mem 1 0 - 1)) := BodyOK.sz hI.1.b (by omega)
    have hf9 : Frm pBd mem (upm mem 1 0 (mem 1 0 - 1)) := Frm.up Frm.rf (by unfold pBd; omega)
    refine Tx.aload_n hC te_54_33 rfl ?_
    refine Tx.iconst hC te_54_34 rfl ?_
    refine Tx.putB hC te_54_35 rfl rfl rfl rfl (by omega) ?_
    have hb11 : BodyOK (upm (upm mem 1 0 (mem 1 0 - 1)) 0 11 1) := BodyOK.up hb8 (by omega)
    have hf12 : Frm pBd mem (upm (upm mem 1 0 (mem 1 0 - 1)) 0 11 1) := Frm.up hf9 (by unfold pBd; omega)
    have hC_13 : ClS (upm (upm mem 1 0 (mem 1 0 - 1)) 0 11 1) := ClS.bd hI hf12 hb11 upm_eq
    refine Tx.aload_n hC te_54_38 rfl ?_
    refine Tx.getR hC te_54_39 rfl rfl rfl ?_
    refine Tx.getI hC te_54_42 rfl rfl rfl (fun v14 v14e v14i => ?_)
    unfold InI at v14i
    first | rw [upm_ne (by omega), upm_eq] at v14e | skip
    exact Tx.ireturn hC te_54_45 rfl (fun hr => show K v14 (upm (upm mem 1 0 (mem 1 0 - 1)) 0 11 1) from H (by omega) _ _ (by omega) hC_13 rfl)
  · replace q3 : ¬ (¬ (v1 : Int) = 0) := q3
    exact Tx.thr hC te_54_10 rfl rfl rfl rfl rfl (show E 1 mem from HE1 (by omega))
theorem f_56x {S : Nat × (Nat → Int32)} {n : Nat} {mem : MM} {K : Int → MM → Prop} {E : Nat → MM → Prop} (hI : ClS mem) {p0 p1 : Int} (H : 0 ≤ p0 ∧ p0 < mem 1 0 → -9999 ≤ p1 ∧ p1 ≤ 9999 → ∀ r m', r = mem 4 p0.toNat → ClS m' → m' = upm mem 4 p0.toNat p1 → K r m') (HE2 : ¬ (0 ≤ p0 ∧ p0 < mem 1 0) → E 2 mem) (HE0 : 0 ≤ p0 ∧ p0 < mem 1 0 → ¬ (-9999 ≤ p1 ∧ p1 ≤ 9999) → E 0 mem) : CQI (Ex S (n + 2)) 56 [.inr 0, .inl p0, .inl p1] mem K E := by
  refine CY.of (k := 1) mt_56 rfl rfl (fun hv => ?_)
  have hC := Ex.mono S (n + 1)
  have ii_p0 : InI p0 := hv (.inl p0) (by simp)
  unfold InI at ii_p0
  have ii_p1 : InI p1 := hv (.inl p1) (by simp)
  unfold InI at ii_p1
  clear hv
  have h8 := hI.1.b.1
  show Tx (Ex S (n + 1)) S M_56 (kI K E) 0 0 0 [some (.inr 0), some (.inl p0), some (.inl p1), none] [] mem
  refine Tx.aload_n hC te_56_0 rfl ?_
  refine Tx.iload_n hC te_56_1 rfl ?_
  refine Tx.virtV hC te_56_2 mt_57 (args := [.inr 0, .inl p0]) (rest := []) (c' := 1) (s' := 6) rfl rfl rfl rfl rfl rfl rfl rfl rfl rfl ?_
  refine f_57n (fun r1a => ?_) (fun r1n => HE2 r1n)
  refine Tx.iload_n hC te_56_5 rfl ?_
  refine Tx.sipush hC te_56_6 rfl rfl ?_
  refine Tx.icmp hC (t := 19) te_56_9 (by decide) (fun q4 => ?_) (fun q4 => ?_)
  · replace q4 : (p1 : Int) < (-9999) := q4
    exact Tx.thr hC te_56_19 rfl rfl rfl rfl rfl (show E 0 mem from HE0 (by omega) (by omega))
  · replace q4 : ¬ ((p1 : Int) < (-9999)) := q4
    refine Tx.iload_n hC te_56_12 rfl ?_
    refine Tx.sipush hC te_56_13 rfl rfl ?_
    refine Tx.icmp hC (t := 29) te_56_16 (by decide) (fun q5 => ?_) (fun q5 => ?_)
    · replace q5 : (p1 : Int) ≤ 9999 := q5
      refine Tx.aload_n hC te_56_29 rfl ?_
      refine Tx.getR hC te_56_30 rfl rfl rfl ?_
      refine Tx.getR hC te_56_33 rfl rfl rfl ?_
      refine Tx.iload_n hC te_56_36 rfl ?_
      refine Tx.iald hC te_56_37 rfl (by omega) (fun v6 v6e v6i => ?_)
      unfold InI at v6i
      refine Tx.istore_n hC te_56_38 rfl ?_
      refine Tx.aload_n hC te_56_39 rfl ?_
      refine Tx.getR hC te_56_40 rfl rfl rfl ?_
      refine Tx.getR hC te_56_43 rfl rfl rfl ?_
      refine Tx.iload_n hC te_56_46 rfl ?_
      refine Tx.iload_n hC te_56_47 rfl ?_
      refine Tx.iast hC te_56_48 rfl (by omega) ?_
      have hC_10 : ClS (upm mem 4 (Int.toNat p0) p1) := ClS.fi hI (up1F (by unfold p4f; omega))
      refine Tx.iload_n hC te_56_49 rfl ?_
      exact Tx.ireturn hC te_56_50 rfl (fun hr => show K v6 (upm mem 4 (Int.toNat p0) p1) from H (by omega) (by omega) _ _ (by assumption) hC_10 rfl)
    · replace q5 : ¬ ((p1 : Int) ≤ 9999) := q5
      exact Tx.thr hC te_56_19 rfl rfl rfl rfl rfl (show E 0 mem from HE0 (by omega) (by omega))
theorem f_62x {S : Nat × (Nat → Int32)} {n : Nat} {mem : MM} {K : Int → MM → Prop} {E : Nat → MM → Prop} (hI : ClS mem) {p0 p1 : Int} (H : 0 ≤ p0 ∧ p0 < 3 → 1 ≤ p1 ∧ p1 ≤ 3 → ∀ r m', r = mem 8 p0.toNat → ClS m' → m' = upm (upm mem 8 p0.toNat p1) 0 11 1 → K r m') (HE2 : ¬ (0 ≤ p0 ∧ p0 < 3) → E 2 mem) (HE0 : 0 ≤ p0 ∧ p0 < 3 → ¬ (1 ≤ p1 ∧ p1 ≤ 3) → E 0 mem) : CQI (Ex S (n + 2)) 62 [.inr 0, .inl p0, .inl p1] mem K E := by
  refine CY.of (k := 1) mt_62 rfl rfl (fun hv => ?_)
  have hC := Ex.mono S (n + 1)
  have ii_p0 : InI p0 := hv (.inl p0) (by simp)
  unfold InI at ii_p0
  have ii_p1 : InI p1 := hv (.inl p1) (by simp)
  unfold InI at ii_p1
  clear hv
  have h8 := hI.1.b.1
  show Tx (Ex S (n + 1)) S M_62 (kI K E) 0 0 0 [some (.inr 0), some (.inl p0), some (.inl p1), none] [] mem
  refine Tx.aload_n hC te_62_0 rfl ?_
  refine Tx.iload_n hC te_62_1 rfl ?_
  refine Tx.virtV hC te_62_2 mt_63 (args := [.inr 0, .inl p0]) (rest := []) (c' := 1) (s' := 6) rfl rfl rfl rfl rfl rfl rfl rfl rfl rfl ?_
  refine f_63n (fun r1a => ?_) (fun r1n => HE2 r1n)
  refine Tx.iload_n hC te_62_5 rfl ?_
  refine Tx.iconst hC te_62_6 rfl ?_
  refine Tx.icmp hC (t := 15) te_62_7 (by decide) (fun q4 => ?_) (fun q4 => ?_)
  · replace q4 : (p1 : Int) < 1 := q4
    exact Tx.thr hC te_62_15 rfl rfl rfl rfl rfl (show E 0 mem from HE0 (by omega) (by omega))
  · replace q4 : ¬ ((p1 : Int) < 1) := q4
    refine Tx.iload_n hC te_62_10 rfl ?_
    refine Tx.iconst hC te_62_11 rfl ?_
    refine Tx.icmp hC (t := 25) te_62_12 (by decide) (fun q5 => ?_) (fun q5 => ?_)
    · replace q5 : (p1 : Int) ≤ 3 := q5
      refine Tx.aload_n hC te_62_25 rfl ?_
      refine Tx.getR hC te_62_26 rfl rfl rfl ?_
      refine Tx.getR hC te_62_29 rfl rfl rfl ?_
      refine Tx.iload_n hC te_62_32 rfl ?_
      refine Tx.iald hC te_62_33 rfl (by omega) (fun v6 v6e v6i => ?_)
      unfold InI at v6i
      refine Tx.istore_n hC te_62_34 rfl ?_
      refine Tx.aload_n hC te_62_35 rfl ?_
      refine Tx.getR hC te_62_36 rfl rfl rfl ?_
      refine Tx.getR hC te_62_39 rfl rfl rfl ?_
      refine Tx.iload_n hC te_62_42 rfl ?_
      refine Tx.iload_n hC te_62_43 rfl ?_
      refine Tx.iast hC te_62_44 rfl (by omega) ?_
      have hb8 : BodyOK (upm mem 8 (Int.toNat p0) p1) := BodyOK.up hI.1.b (by omega)
      have hf9 : Frm pBd mem (upm mem 8 (Int.toNat p0) p1) := Frm.up Frm.rf (by unfold pBd; omega)
      refine Tx.aload_n hC te_62_45 rfl ?_
      refine Tx.iconst hC te_62_46 rfl ?_
      refine Tx.putB hC te_62_47 rfl rfl rfl rfl (by omega) ?_
      have hb11 : BodyOK (upm (upm mem 8 (Int.toNat p0) p1) 0 11 1) := BodyOK.up hb8 (by omega)
      have hf12 : Frm pBd mem (upm (upm mem 8 (Int.toNat p0) p1) 0 11 1) := Frm.up hf9 (by unfold pBd; omega)
      have hC_13 : ClS (upm (upm mem 8 (Int.toNat p0) p1) 0 11 1) := ClS.bd hI hf12 hb11 upm_eq
      refine Tx.iload_n hC te_62_50 rfl ?_
      exact Tx.ireturn hC te_62_51 rfl (fun hr => show K v6 (upm (upm mem 8 (Int.toNat p0) p1) 0 11 1) from H (by omega) (by omega) _ _ (by assumption) hC_13 rfl)
    · replace q5 : ¬ ((p1 : Int) ≤ 3) := q5
      exact Tx.thr hC te_62_15 rfl rfl rfl rfl rfl (show E 0 mem from HE0 (by omega) (by omega))
theorem f_59x {S : Nat × (Nat → Int32)} {n : Nat} {mem : MM} {K : MM → Prop} {E : Nat → MM → Prop} (hI : ClS mem) {p0 p1 p2 p3 : Int} (H : 0 ≤ p0 ∧ p0 < 6 → (0 ≤ p1 ∧ p1 < 3) ∧ (1 ≤ p2 ∧ p2 ≤ 6) ∧ 1 ≤ p3 ∧ p3 ≤ 15 → ∀ m', ClS m' → m' = upm (upm (upm (upm mem 5 p0.toNat p1) 6 p0.toNat p2) 7 p0.toNat p3) 0 11 1 → K m') (HE2 : ¬ (0 ≤ p0 ∧ p0 < 6) → E 2 mem) (HE0 : 0 ≤ p0 ∧ p0 < 6 → ¬ ((0 ≤ p1 ∧ p1 < 3) ∧ (1 ≤ p2 ∧ p2 ≤ 6) ∧ 1 ≤ p3 ∧ p3 ≤ 15) → E 0 mem) : CQV (Ex S (n + 2)) 59 [.inr 0, .inl p0, .inl p1, .inl p2, .inl p3] mem K E := by
  refine CY.of (k := 1) mt_59 rfl rfl (fun hv => ?_)
  have hC := Ex.mono S (n + 1)
  have ii_p0 : InI p0 := hv (.inl p0) (by simp)
  unfold InI at ii_p0
  have ii_p1 : InI p1 := hv (.inl p1) (by simp)
  unfold InI at ii_p1
  have ii_p2 : InI p2 := hv (.inl p2) (by simp)
  unfold InI at ii_p2
  have ii_p3 : InI p3 := hv (.inl p3) (by simp)
  unfold InI at ii_p3
  clear hv
  have h8 := hI.1.b.1
  show Tx (Ex S (n + 1)) S M_59 (kV K E) 0 0 0 [some (.inr 0), some (.inl p0), some (.inl p1), some (.inl p2), some (.inl p3), none] [] mem
  refine Tx.aload_n hC te_59_0 rfl ?_
  refine Tx.iload_n hC te_59_1 rfl ?_
  refine Tx.virtV hC te_59_2 mt_60 (args := [.inr 0, .inl p0]) (rest := []) (c' := 1) (s' := 6) rfl rfl rfl rfl rfl rfl rfl rfl rfl rfl ?_
  refine f_60n (fun r1a r1b => ?_) (fun r1n => HE2 r1n)
  refine Tx.iload_n hC te_59_5 rfl ?_
  refine Tx.ifc hC (t := 29) te_59_6 (by decide) (fun q4 => ?_) (fun q4 => ?_)
  · replace q4 : (p1 : Int) < 0 := q4
    refine Tx.iconst hC te_59_29 rfl ?_
    refine Tx.istore hC te_59_30 rfl ?_
    refine Tx.iload hC te_59_32 rfl ?_
    refine Tx.ifc hC (t := 50) te_59_34 (by decide) (fun q => ?_) (fun q => absurd (show (0 : Int) = 0 by decide) q)
    exact Tx.thr hC te_59_50 rfl rfl rfl rfl rfl (show E 0 mem from HE0 (by omega) (by omega))
  · replace q4 : ¬ ((p1 : Int) < 0) := q4
    refine Tx.iload_n hC te_59_9 rfl ?_
    refine Tx.iconst hC te_59_10 rfl ?_
    refine Tx.icmp hC (t := 29) te_59_11 (by decide) (fun q5 => ?_) (fun q5 => ?_)
    · replace q5 : 3 ≤ (p1 : Int) := q5
      refine Tx.iconst hC te_59_29 rfl ?_
      refine Tx.istore hC te_59_30 rfl ?_
      refine Tx.iload hC te_59_32 rfl ?_
      refine Tx.ifc hC (t := 50) te_59_34 (by decide) (fun q => ?_) (fun q => absurd (show (0 : Int) = 0 by decide) q)
      exact Tx.thr hC te_59_50 rfl rfl rfl rfl rfl (show E 0 mem from HE0 (by omega) (by omega))
    · replace q5 : ¬ (3 ≤ (p1 : Int)) := q5
      refine Tx.iload_n hC te_59_14 rfl ?_
      refine Tx.iconst hC te_59_15 rfl ?_
      refine Tx.icmp hC (t := 29) te_59_16 (by decide) (fun q6 => ?_) (fun q6 => ?_)
      · replace q6 : (p2 : Int) < 1 := q6
        refine Tx.iconst hC te_59_29 rfl ?_
        refine Tx.istore hC te_59_30 rfl ?_
        refine Tx.iload hC te_59_32 rfl ?_
        refine Tx.ifc hC (t := 50) te_59_34 (by decide) (fun q => ?_) (fun q => absurd (show (0 : Int) = 0 by decide) q)
        exact Tx.thr hC te_59_50 rfl rfl rfl rfl rfl (show E 0 mem from HE0 (by omega) (by omega))
      · replace q6 : ¬ ((p2 : Int) < 1) := q6
        refine Tx.iload_n hC te_59_19 rfl ?_
        refine Tx.bipush hC te_59_20 rfl rfl ?_
        refine Tx.icmp hC (t := 29) te_59_22 (by decide) (fun q7 => ?_) (fun q7 => ?_)
        · replace q7 : 6 < (p2 : Int) := q7
          refine Tx.iconst hC te_59_29 rfl ?_
          refine Tx.istore hC te_59_30 rfl ?_
          refine Tx.iload hC te_59_32 rfl ?_
          refine Tx.ifc hC (t := 50) te_59_34 (by decide) (fun q => ?_) (fun q => absurd (show (0 : Int) = 0 by decide) q)
          exact Tx.thr hC te_59_50 rfl rfl rfl rfl rfl (show E 0 mem from HE0 (by omega) (by omega))
        · replace q7 : ¬ (6 < (p2 : Int)) := q7
          refine Tx.iconst hC te_59_25 rfl ?_
          refine Tx.goto hC (t := 30) te_59_26 (by decide) ?_
          refine Tx.istore hC te_59_30 rfl ?_
          refine Tx.iload hC te_59_32 rfl ?_
          refine Tx.ifc hC (t := 50) te_59_34 (by decide) (fun q => absurd q (show ¬ ((1 : Int) = 0) by decide)) (fun q => ?_)
          refine Tx.iload hC te_59_37 rfl ?_
          refine Tx.iconst hC te_59_39 rfl ?_
          refine Tx.icmp hC (t := 50) te_59_40 (by decide) (fun q8 => ?_) (fun q8 => ?_)
          · replace q8 : (p3 : Int) < 1 := q8
            exact Tx.thr hC te_59_50 rfl rfl rfl rfl rfl (show E 0 mem from HE0 (by omega) (by omega))
          · replace q8 : ¬ ((p3 : Int) < 1) := q8
            refine Tx.iload hC te_59_43 rfl ?_
            refine Tx.bipush hC te_59_45 rfl rfl ?_
            refine Tx.icmp hC (t := 60) te_59_47 (by decide) (fun q9 => ?_) (fun q9 => ?_)
            · replace q9 : (p3 : Int) ≤ 15 := q9
              refine Tx.aload_n hC te_59_60 rfl ?_
              refine Tx.getR hC te_59_61 rfl rfl rfl ?_
              refine Tx.getR hC te_59_64 rfl rfl rfl ?_
              refine Tx.iload_n hC te_59_67 rfl ?_
              refine Tx.iload_n hC te_59_68 rfl ?_
              refine Tx.iast hC te_59_69 rfl (by omega) ?_
              have hb11 : BodyOK (upm mem 5 (Int.toNat p0) p1) := BodyOK.up hI.1.b (by omega)
              have hf12 : Frm pBd mem (upm mem 5 (Int.toNat p0) p1) := Frm.up Frm.rf (by unfold pBd; omega)
              refine Tx.aload_n hC te_59_70 rfl ?_
              refine Tx.getR hC te_59_71 rfl rfl rfl ?_
              refine Tx.getR hC te_59_74 rfl rfl rfl ?_
              refine Tx.iload_n hC te_59_77 rfl ?_
              refine Tx.iload_n hC te_59_78 rfl ?_
              refine Tx.iast hC te_59_79 rfl (by omega) ?_
              have hb14 : BodyOK (upm (upm mem 5 (Int.toNat p0) p1) 6 (Int.toNat p0) p2) := BodyOK.up hb11 (by omega)
              have hf15 : Frm pBd mem (upm (upm mem 5 (Int.toNat p0) p1) 6 (Int.toNat p0) p2) := Frm.up hf12 (by unfold pBd; omega)
              refine Tx.aload_n hC te_59_80 rfl ?_
              refine Tx.getR hC te_59_81 rfl rfl rfl ?_
              refine Tx.getR hC te_59_84 rfl rfl rfl ?_
              refine Tx.iload_n hC te_59_87 rfl ?_
              refine Tx.iload hC te_59_88 rfl ?_
              refine Tx.iast hC te_59_90 rfl (by omega) ?_
              have hb17 : BodyOK (upm (upm (upm mem 5 (Int.toNat p0) p1) 6 (Int.toNat p0) p2) 7 (Int.toNat p0) p3) := BodyOK.up hb14 (by omega)
              have hf18 : Frm pBd mem (upm (upm (upm mem 5 (Int.toNat p0) p1) 6 (Int.toNat p0) p2) 7 (Int.toNat p0) p3) := Frm.up hf15 (by unfold pBd; omega)
              refine Tx.aload_n hC te_59_91 rfl ?_
              refine Tx.iconst hC te_59_92 rfl ?_
              refine Tx.putB hC te_59_93 rfl rfl rfl rfl (by omega) ?_
              have hb20 : BodyOK (upm (upm (upm (upm mem 5 (Int.toNat p0) p1) 6 (Int.toNat p0) p2) 7 (Int.toNat p0) p3) 0 11 1) := BodyOK.up hb17 (by omega)
              have hf21 : Frm pBd mem (upm (upm (upm (upm mem 5 (Int.toNat p0) p1) 6 (Int.toNat p0) p2) 7 (Int.toNat p0) p3) 0 11 1) := Frm.up hf18 (by unfold pBd; omega)
              have hC_22 : ClS (upm (upm (upm (upm mem 5 (Int.toNat p0) p1) 6 (Int.toNat p0) p2) 7 (Int.toNat p0) p3) 0 11 1) := ClS.bd hI hf21 hb20 upm_eq
              exact Tx.vret hC te_59_96 rfl (show K (upm (upm (upm (upm mem 5 (Int.toNat p0) p1) 6 (Int.toNat p0) p2) 7 (Int.toNat p0) p3) 0 11 1) from H (by omega) (by omega) _ hC_22 rfl)
            · replace q9 : ¬ ((p3 : Int) ≤ 15) := q9
              exact Tx.thr hC te_59_50 rfl rfl rfl rfl rfl (show E 0 mem from HE0 (by omega) (by omega))
theorem f_229x {S : Nat × (Nat → Int32)} {n : Nat} {mem : MM} {K : Int → MM → Prop} {E : Nat → MM → Prop} {k a b c e : Int} (hs : 0 ≤ mem 143 1 ∧ mem 143 1 < 8) (H : ∀ r m', r = mem 143 1 → m' = addM mem (mem 143 1).toNat k a b c e → K r m') : CQI (Ex S (n + 1)) 229 [.inr 143, .inl k, .inl a, .inl b, .inl c, .inl e] mem K E := by
  refine CY.of (k := 0) mt_229 rfl rfl (fun hv => ?_)
  have hC := Ex.mono S n
  have ii_k : InI k := hv (.inl k) (by simp)
  unfold InI at ii_k
  have ii_a : InI a := hv (.inl a) (by simp)
  unfold InI at ii_a
  have ii_b : InI b := hv (.inl b) (by simp)
  unfold InI at ii_b
  have ii_c : InI c := hv (.inl c) (by simp)
  unfold InI at ii_c
  have ii_e : InI e := hv (.inl e) (by simp)
  unfold InI at ii_e
  clear hv
  obtain ⟨nn, hn⟩ : ∃ nn : Nat, nn = (mem 143 1).toNat := ⟨_, rfl⟩
  rw [← hn] at H
  show Tx (Ex S n) S M_229 (kI K E) 0 0 0 [some (.inr 143), some (.inl k), some (.inl a), some (.inl b), some (.inl c), some (.inl e)] [] mem
  refine Tx.aload_n hC te_229_0 rfl ?_
  refine Tx.getR hC te_229_1 rfl rfl rfl ?_
  refine Tx.aload_n hC te_229_4 rfl ?_
  refine Tx.getI hC te_229_5 rfl rfl rfl (fun v1 v1e v1i => ?_)
  unfold InI at v1i
  refine Tx.iload_n hC te_229_8 rfl ?_
  refine Tx.iast hC te_229_9 rfl (by omega) ?_
  rw [show (Int.toNat v1) = nn by omega]
  have hF3 : Frm pAd mem (upm mem 144 nn k) := Frm.up Frm.rf (by unfold pAd; omega)
  refine Tx.aload_n hC te_229_10 rfl ?_
  refine Tx.getR hC te_229_11 rfl rfl rfl ?_
  refine Tx.aload_n hC te_229_14 rfl ?_
  refine Tx.getI hC te_229_15 rfl rfl rfl (fun v4 v4e v4i => ?_)
  unfold InI at v4i
  rw [hF3 143 _ (by unfold pAd; omega)] at v4e
  refine Tx.iload_n hC te_229_18 rfl ?_
  refine Tx.iast hC te_229_19 rfl (by omega) ?_
  rw [show (Int.toNat v4) = nn by omega]
  have hF6 : Frm pAd mem (upm (upm mem 144 nn k) 145 nn a) := Frm.up hF3 (by unfold pAd; omega)
  refine Tx.aload_n hC te_229_20 rfl ?_
  refine Tx.getR hC te_229_21 rfl rfl rfl ?_
  refine Tx.aload_n hC te_229_24 rfl ?_
  refine Tx.getI hC te_229_25 rfl rfl rfl (fun v7 v7e v7i => ?_)
  unfold InI at v7i
  rw [hF6 143 _ (by unfold pAd; omega)] at v7e
  refine Tx.iload_n hC te_229_28 rfl ?_
  refine Tx.iast hC te_229_29 rfl (by omega) ?_
  rw [show (Int.toNat v7) = nn by omega]
  have hF9 : Frm pAd mem (upm (upm (upm mem 144 nn k) 145 nn a) 146 nn b) := Frm.up hF6 (by unfold pAd; omega)
  refine Tx.aload_n hC te_229_30 rfl ?_
  refine Tx.getR hC te_229_31 rfl rfl rfl ?_
  refine Tx.aload_n hC te_229_34 rfl ?_
  refine Tx.getI hC te_229_35 rfl rfl rfl (fun v10 v10e v10i => ?_)
  unfold InI at v10i
  rw [hF9 143 _ (by unfold pAd; omega)] at v10e
  refine Tx.iload hC te_229_38 rfl ?_
  refine Tx.iast hC te_229_40 rfl (by omega) ?_
  rw [show (Int.toNat v10) = nn by omega]
  have hF12 : Frm pAd mem (upm (upm (upm (upm mem 144 nn k) 145 nn a) 146 nn b) 147 nn c) := Frm.up hF9 (by unfold pAd; omega)
  refine Tx.aload_n hC te_229_41 rfl ?_
  refine Tx.getR hC te_229_42 rfl rfl rfl ?_
  refine Tx.aload_n hC te_229_45 rfl ?_
  refine Tx.getI hC te_229_46 rfl rfl rfl (fun v13 v13e v13i => ?_)
  unfold InI at v13i
  rw [hF12 143 _ (by unfold pAd; omega)] at v13e
  refine Tx.iload hC te_229_49 rfl ?_
  refine Tx.iast hC te_229_51 rfl (by omega) ?_
  rw [show (Int.toNat v13) = nn by omega]
  have hF15 : Frm pAd mem (upm (upm (upm (upm (upm mem 144 nn k) 145 nn a) 146 nn b) 147 nn c) 148 nn e) := Frm.up hF12 (by unfold pAd; omega)
  refine Tx.aload_n hC te_229_52 rfl ?_
  refine Tx.getR hC te_229_53 rfl rfl rfl ?_
  refine Tx.aload_n hC te_229_56 rfl ?_
  refine Tx.getI hC te_229_57 rfl rfl rfl (fun v16 v16e v16i => ?_)
  unfold InI at v16i
  rw [hF15 143 _ (by unfold pAd; omega)] at v16e
  refine Tx.iconst hC te_229_60 rfl ?_
  refine Tx.iast hC te_229_61 rfl (by omega) ?_
  rw [show (Int.toNat v16) = nn by omega]
  have hF18 : Frm pAd mem (upm (upm (upm (upm (upm (upm mem 144 nn k) 145 nn a) 146 nn b) 147 nn c) 148 nn e) 149 nn 0) := Frm.up hF15 (by unfold pAd; omega)
  refine Tx.aload_n hC te_229_62 rfl ?_
  refine Tx.dup hC te_229_63 ?_
  refine Tx.getI hC te_229_64 rfl rfl rfl (fun v19 v19e v19i => ?_)
  unfold InI at v19i
  rw [hF18 143 _ (by unfold pAd; omega)] at v19e
  refine Tx.iconst hC te_229_67 rfl ?_
  refine Tx.iaddW hC te_229_68 (fun z20 z20i z20e => ?_)
  unfold InI at z20i z20e
  first | replace z20e := z20e (by omega) | clear z20e
  refine Tx.putI hC te_229_69 rfl rfl rfl rfl ?_
  have ez : z20 = mem 143 1 + 1 := by omega
  rw [ez]
  refine Tx.aload_n hC te_229_72 rfl ?_
  refine Tx.getI hC te_229_73 rfl rfl rfl (fun v22 v22e v22i => ?_)
  unfold InI at v22i
  rw [upm_eq] at v22e
  refine Tx.iconst hC te_229_76 rfl ?_
  refine Tx.isubW hC te_229_77 (fun z23 z23i z23e => ?_)
  unfold InI at z23i z23e
  first | replace z23e := z23e (by omega) | clear z23e
  exact Tx.ireturn hC te_229_78 rfl (fun hr => show K z23 (upm (upm (upm (upm (upm (upm (upm mem 144 nn k) 145 nn a) 146 nn b) 147 nn c) 148 nn e) 149 nn 0) 143 1 (mem 143 1 + 1)) from H _ _ (by omega) rfl)
theorem f_226x {S : Nat × (Nat → Int32)} {n : Nat} {mem : MM} {K : Int → MM → Prop} {E : Nat → MM → Prop} (h8 : 0 ≤ mem 143 1 ∧ mem 143 1 ≤ 8) {p0 p1 p2 p3 p4 : Int} (H0 : (0 ≤ p0 ∧ p0 < 4) ∧ srcX p1 p2 ∧ srcX p3 p4 → mem 143 1 < 8 → ∀ r m', r = mem 143 1 → m' = addM (upm mem 143 0 0) (mem 143 1).toNat p0 p1 p2 p3 p4 → K r m') (H1 : ¬ ((0 ≤ p0 ∧ p0 < 4) ∧ srcX p1 p2 ∧ srcX p3 p4) → K 0 (upm mem 143 0 1)) (H2 : (0 ≤ p0 ∧ p0 < 4) ∧ srcX p1 p2 ∧ srcX p3 p4 → ¬ mem 143 1 < 8 → K 0 (upm mem 143 0 2)) : CQI (Ex S (n + 3)) 226 [.inr 143, .inl p0, .inl p1, .inl p2, .inl p3, .inl p4] mem K E := by
  refine CY.of (k := 0) mt_226 rfl rfl (fun hv => ?_)
  have hC := Ex.mono S (n + 2)
  have ii_p0 : InI p0 := hv (.inl p0) (by simp)
  unfold InI at ii_p0
  have ii_p1 : InI p1 := hv (.inl p1) (by simp)
  unfold InI at ii_p1
  have ii_p2 : InI p2 := hv (.inl p2) (by simp)
  unfold InI at ii_p2
  have ii_p3 : InI p3 := hv (.inl p3) (by simp)
  unfold InI at ii_p3
  have ii_p4 : InI p4 := hv (.inl p4) (by simp)
  unfold InI at ii_p4
  clear hv
  show Tx (Ex S (n + 2)) S M_226 (kI K E) 0 0 0 [some (.inr 143), some (.inl p0), some (.inl p1), some (.inl p2), some (.inl p3), some (.inl p4)] [] mem
  refine Tx.aload_n hC te_226_0 rfl ?_
  refine Tx.iload_n hC te_226_1 rfl ?_
  refine Tx.iconst hC te_226_2 rfl ?_
  refine Tx.iconst hC te_226_3 rfl ?_
  refine Tx.statI hC te_226_4 (by decide) mt_227 (args := [.inl p0, .inl 0, .inl 3]) (rest := [.inr 143]) (c' := 0) (s' := 0) rfl rfl rfl rfl rfl rfl rfl ?_
  refine CWI.q hC (f_227 (fun r1a r1b r1i => ?_) (fun r1q r1i => ?_))
  · skip
    refine Tx.ifc hC (t := 28) te_226_7 (by decide) (fun q => absurd q (show ¬ ((1 : Int) = 0) by decide)) (fun q => ?_)
    refine Tx.iload_n hC te_226_10 rfl ?_
    refine Tx.iload_n hC te_226_11 rfl ?_
    refine Tx.statI hC te_226_12 (by decide) mt_228 (args := [.inl p1, .inl p2]) (rest := [.inr 143]) (c' := 0) (s' := 0) rfl rfl rfl rfl rfl rfl rfl ?_
    refine f_228x (fun r4s r4i => ?_) (fun r4s r4i => ?_)
    · skip
      refine Tx.ifc hC (t := 28) te_226_15 (by decide) (fun q => absurd q (show ¬ ((1 : Int) = 0) by decide)) (fun q => ?_)
      refine Tx.iload hC te_226_18 rfl ?_
      refine Tx.iload hC te_226_20 rfl ?_
      refine Tx.statI hC te_226_22 (by decide) mt_228 (args := [.inl p3, .inl p4]) (rest := [.inr 143]) (c' := 0) (s' := 0) rfl rfl rfl rfl rfl rfl rfl ?_
      refine f_228x (fun r7s r7i => ?_) (fun r7s r7i => ?_)
      · skip
        refine Tx.ifc hC (t := 32) te_226_25 (by decide) (fun q => ?_) (fun q => absurd (show ¬ (1 : Int) = 0 by decide) q)
        refine Tx.aload_n hC te_226_32 rfl ?_
        refine Tx.getI hC te_226_33 rfl rfl rfl (fun v10 v10e v10i => ?_)
        unfold InI at v10i
        refine Tx.bipush hC te_226_36 rfl rfl ?_
        refine Tx.icmp hC (t := 45) te_226_38 (by decide) (fun q11 => ?_) (fun q11 => ?_)
        · replace q11 : ¬ (v10 : Int) = 8 := q11
          refine Tx.iconst hC te_226_45 rfl ?_
          refine Tx.putI hC te_226_46 rfl rfl rfl rfl ?_
          refine Tx.aload_n hC te_226_49 rfl ?_
          refine Tx.getI hC te_226_50 rfl rfl rfl (fun v13 v13e v13i => ?_)
          rw [upm_eq] at v13e
          subst v13e
          clear v13i
          refine Tx.ifc hC (t := 60) te_226_53 (by decide) (fun q => ?_) (fun q => absurd (show (0 : Int) ≤ 0 by decide) q)
          refine Tx.aload_n hC te_226_60 rfl ?_
          refine Tx.iload_n hC te_226_61 rfl ?_
          refine Tx.iload_n hC te_226_62 rfl ?_
          refine Tx.iload_n hC te_226_63 rfl ?_
          refine Tx.iload hC te_226_64 rfl ?_
          refine Tx.iload hC te_226_66 rfl ?_
          refine Tx.virtI hC te_226_68 mt_229 (args := [.inr 143, .inl p0, .inl p1, .inl p2, .inl p3, .inl p4]) (rest := []) (c' := 0) (s' := 0) rfl rfl rfl rfl rfl rfl rfl rfl rfl rfl ?_
          refine f_229x (by rw [upm_ne (by omega)]; omega) (fun r14 m15 r14e r14m r14i => ?_)
          rw [upm_ne (by omega)] at r14e r14m
          unfold InI at r14i
          exact Tx.ireturn hC te_226_71 rfl (fun hr => show K r14 m15 from H0 ⟨⟨by omega, by omega⟩, by assumption, by assumption⟩ (by omega) _ _ r14e r14m)
        · replace q11 : ¬ (¬ (v10 : Int) = 8) := q11
          refine Tx.iconst hC te_226_41 rfl ?_
          refine Tx.goto hC (t := 46) te_226_42 (by decide) ?_
          refine Tx.putI hC te_226_46 rfl rfl rfl rfl ?_
          refine Tx.aload_n hC te_226_49 rfl ?_
          refine Tx.getI hC te_226_50 rfl rfl rfl (fun v18 v18e v18i => ?_)
          rw [upm_eq] at v18e
          subst v18e
          clear v18i
          refine Tx.ifc hC (t := 60) te_226_53 (by decide) (fun q => absurd q (show ¬ ((2 : Int) ≤ 0) by decide)) (fun q => ?_)
          refine Tx.iconst hC te_226_56 rfl ?_
          refine Tx.goto hC (t := 71) te_226_57 (by decide) ?_
          exact Tx.ireturn hC te_226_71 rfl (fun hr => show K 0 (upm mem 143 0 2) from H2 ⟨⟨by omega, by omega⟩, by assumption, by assumption⟩ (by omega))
      · skip
        refine Tx.ifc hC (t := 32) te_226_25 (by decide) (fun q => absurd q (show ¬ (¬ (0 : Int) = 0) by decide)) (fun q => ?_)
        refine Tx.iconst hC te_226_28 rfl ?_
        refine Tx.goto hC (t := 46) te_226_29 (by decide) ?_
        refine Tx.putI hC te_226_46 rfl rfl rfl rfl ?_
        refine Tx.aload_n hC te_226_49 rfl ?_
        refine Tx.getI hC te_226_50 rfl rfl rfl (fun v20 v20e v20i => ?_)
        rw [upm_eq] at v20e
        subst v20e
        clear v20i
        refine Tx.ifc hC (t := 60) te_226_53 (by decide) (fun q => absurd q (show ¬ ((1 : Int) ≤ 0) by decide)) (fun q => ?_)
        refine Tx.iconst hC te_226_56 rfl ?_
        refine Tx.goto hC (t := 71) te_226_57 (by decide) ?_
        exact Tx.ireturn hC te_226_71 rfl (fun hr => show K 0 (upm mem 143 0 1) from H1 (by intro w; first | (have := w.1; omega) | omega | exact absurd w (by assumption) | exact absurd w.1 (by assumption) | exact absurd w.2 (by assumption) | exact absurd w.2.1 (by assumption) | exact absurd w.2.2 (by assumption)))
    · skip
      refine Tx.ifc hC (t := 28) te_226_15 (by decide) (fun q => ?_) (fun q => absurd (show (0 : Int) = 0 by decide) q)
      refine Tx.iconst hC te_226_28 rfl ?_
      refine Tx.goto hC (t := 46) te_226_29 (by decide) ?_
      refine Tx.putI hC te_226_46 rfl rfl rfl rfl ?_
      refine Tx.aload_n hC te_226_49 rfl ?_
      refine Tx.getI hC te_226_50 rfl rfl rfl (fun v22 v22e v22i => ?_)
      rw [upm_eq] at v22e
      subst v22e
      clear v22i
      refine Tx.ifc hC (t := 60) te_226_53 (by decide) (fun q => absurd q (show ¬ ((1 : Int) ≤ 0) by decide)) (fun q => ?_)
      refine Tx.iconst hC te_226_56 rfl ?_
      refine Tx.goto hC (t := 71) te_226_57 (by decide) ?_
      exact Tx.ireturn hC te_226_71 rfl (fun hr => show K 0 (upm mem 143 0 1) from H1 (by intro w; first | (have := w.1; omega) | omega | exact absurd w (by assumption) | exact absurd w.1 (by assumption) | exact absurd w.2 (by assumption) | exact absurd w.2.1 (by assumption) | exact absurd w.2.2 (by assumption)))
  · skip
    refine Tx.ifc hC (t := 28) te_226_7 (by decide) (fun q => ?_) (fun q => absurd (show (0 : Int) = 0 by decide) q)
    refine Tx.iconst hC te_226_28 rfl ?_
    refine Tx.goto hC (t := 46) te_226_29 (by decide) ?_
    refine Tx.putI hC te_226_46 rfl rfl rfl rfl ?_
    refine Tx.aload_n hC te_226_49 rfl ?_
    refine Tx.getI hC te_226_50 rfl rfl rfl (fun v24 v24e v24i => ?_)
    rw [upm_eq] at v24e
    subst v24e
    clear v24i
    refine Tx.ifc hC (t := 60) te_226_53 (by decide) (fun q => absurd q (show ¬ ((1 : Int) ≤ 0) by decide)) (fun q => ?_)
    refine Tx.iconst hC te_226_56 rfl ?_
    refine Tx.goto hC (t := 71) te_226_57 (by decide) ?_
    exact Tx.ireturn hC te_226_71 rfl (fun hr => show K 0 (upm mem 143 0 1) from H1 (by intro w; first | (have := w.1; omega) | omega | exact absurd w (by assumption) | exact absurd w.1 (by assumption) | exact absurd w.2 (by assumption) | exact absurd w.2.1 (by assumption) | exact absurd w.2.2 (by assumption)))
theorem f_230x {S : Nat × (Nat → Int32)} {n : Nat} {mem : MM} {K : Int → MM → Prop} {E : Nat → MM → Prop} (h8 : 0 ≤ mem 143 1 ∧ mem 143 1 ≤ 8) {p0 p1 : Int} (H0 : rowX p0 p1 → mem 143 1 < 8 → ∀ r m', r = mem 143 1 → m' = addM (upm mem 143 0 0) (mem 143 1).toNat 4 p0 p1 0 0 → K r m') (H1 : ¬ (rowX p0 p1) → K 0 (upm mem 143 0 1)) (H2 : rowX p0 p1 → ¬ mem 143 1 < 8 → K 0 (upm mem 143 0 2)) : CQI (Ex S (n + 3)) 230 [.inr 143, .inl p0, .inl p1] mem K E := by
  refine CY.of (k := 0) mt_230 rfl rfl (fun hv => ?_)
  have hC := Ex.mono S (n + 2)
  have ii_p0 : InI p0 := hv (.inl p0) (by simp)
  unfold InI at ii_p0
  have ii_p1 : InI p1 := hv (.inl p1) (by simp)
  unfold InI at ii_p1
  clear hv
  show Tx (Ex S (n + 2)) S M_230 (kI K E) 0 0 0 [some (.inr 143), some (.inl p0), some (.inl p1)] [] mem
  refine Tx.aload_n hC te_230_0 rfl ?_
  refine Tx.iload_n hC te_230_1 rfl ?_
  refine Tx.iload_n hC te_230_2 rfl ?_
  refine Tx.statI hC te_230_3 (by decide) mt_231 (args := [.inl p0, .inl p1]) (rest := [.inr 143]) (c' := 0) (s' := 0) rfl rfl rfl rfl rfl rfl rfl ?_
  refine f_231x (fun r1s r1i => ?_) (fun r1s r1i => ?_)
  · skip
    refine Tx.ifc hC (t := 13) te_230_6 (by decide) (fun q => ?_) (fun q => absurd (show ¬ (1 : Int) = 0 by decide) q)
    refine Tx.aload_n hC te_230_13 rfl ?_
    refine Tx.getI hC te_230_14 rfl rfl rfl (fun v4 v4e v4i => ?_)
    unfold InI at v4i
    refine Tx.bipush hC te_230_17 rfl rfl ?_
    refine Tx.icmp hC (t := 26) te_230_19 (by decide) (fun q5 => ?_) (fun q5 => ?_)
    · replace q5 : ¬ (v4 : Int) = 8 := q5
      refine Tx.iconst hC te_230_26 rfl ?_
      refine Tx.putI hC te_230_27 rfl rfl rfl rfl ?_
      refine Tx.aload_n hC te_230_30 rfl ?_
      refine Tx.getI hC te_230_31 rfl rfl rfl (fun v7 v7e v7i => ?_)
      rw [upm_eq] at v7e
      subst v7e
      clear v7i
      refine Tx.ifc hC (t := 41) te_230_34 (by decide) (fun q => ?_) (fun q => absurd (show (0 : Int) ≤ 0 by decide) q)
      refine Tx.aload_n hC te_230_41 rfl ?_
      refine Tx.iconst hC te_230_42 rfl ?_
      refine Tx.iload_n hC te_230_43 rfl ?_
      refine Tx.iload_n hC te_230_44 rfl ?_
      refine Tx.iconst hC te_230_45 rfl ?_
      refine Tx.iconst hC te_230_46 rfl ?_
      refine Tx.virtI hC te_230_47 mt_229 (args := [.inr 143, .inl 4, .inl p0, .inl p1, .inl 0, .inl 0]) (rest := []) (c' := 0) (s' := 0) rfl rfl rfl rfl rfl rfl rfl rfl rfl rfl ?_
      refine f_229x (by rw [upm_ne (by omega)]; omega) (fun r8 m9 r8e r8m r8i => ?_)
      rw [upm_ne (by omega)] at r8e r8m
      unfold InI at r8i
      exact Tx.ireturn hC te_230_50 rfl (fun hr => show K r8 m9 from H0 (by assumption) (by omega) _ _ r8e r8m)
    · replace q5 : ¬ (¬ (v4 : Int) = 8) := q5
      refine Tx.iconst hC te_230_22 rfl ?_
      refine Tx.goto hC (t := 27) te_230_23 (by decide) ?_
      refine Tx.putI hC te_230_27 rfl rfl rfl rfl ?_
      refine Tx.aload_n hC te_230_30 rfl ?_
      refine Tx.getI hC te_230_31 rfl rfl rfl (fun v12 v12e v12i => ?_)
      rw [upm_eq] at v12e
      subst v12e
      clear v12i
      refine Tx.ifc hC (t := 41) te_230_34 (by decide) (fun q => absurd q (show ¬ ((2 : Int) ≤ 0) by decide)) (fun q => ?_)
      refine Tx.iconst hC te_230_37 rfl ?_
      refine Tx.goto hC (t := 50) te_230_38 (by decide) ?_
      exact Tx.ireturn hC te_230_50 rfl (fun hr => show K 0 (upm mem 143 0 2) from H2 (by assumption) (by omega))
  · skip
    refine Tx.ifc hC (t := 13) te_230_6 (by decide) (fun q => absurd q (show ¬ (¬ (0 : Int) = 0) by decide)) (fun q => ?_)
    refine Tx.iconst hC te_230_9 rfl ?_
    refine Tx.goto hC (t := 27) te_230_10 (by decide) ?_
    refine Tx.putI hC te_230_27 rfl rfl rfl rfl ?_
    refine Tx.aload_n hC te_230_30 rfl ?_
    refine Tx.getI hC te_230_31 rfl rfl rfl (fun v14 v14e v14i => ?_)
    rw [upm_eq] at v14e
    subst v14e
    clear v14i
    refine Tx.ifc hC (t := 41) te_230_34 (by decide) (fun q => absurd q (show ¬ ((1 : Int) ≤ 0) by decide)) (fun q => ?_)
    refine Tx.iconst hC te_230_37 rfl ?_
    refine Tx.goto hC (t := 50) te_230_38 (by decide) ?_
    exact Tx.ireturn hC te_230_50 rfl (fun hr => show K 0 (upm mem 143 0 1) from H1 (by intro w; first | (have := w.1; omega) | omega | exact absurd w (by assumption) | exact absurd w.1 (by assumption) | exact absurd w.2 (by assumption) | exact absurd w.2.1 (by assumption) | exact absurd w.2.2 (by assumption)))
theorem f_232x {S : Nat × (Nat → Int32)} {n : Nat} {mem : MM} {K : Int → MM → Prop} {E : Nat → MM → Prop} (h8 : 0 ≤ mem 143 1 ∧ mem 143 1 ≤ 8) {p0 p1 p2 p3 : Int} (H0 : srcX p0 p1 ∧ rowX p2 p3 → mem 143 1 < 8 → ∀ r m', r = mem 143 1 → m' = addM (upm mem 143 0 0) (mem 143 1).toNat 5 p0 p1 p2 p3 → K r m') (H1 : ¬ (srcX p0 p1 ∧ rowX p2 p3) → K 0 (upm mem 143 0 1)) (H2 : srcX p0 p1 ∧ rowX p2 p3 → ¬ mem 143 1 < 8 → K 0 (upm mem 143 0 2)) : CQI (Ex S (n + 3)) 232 [.inr 143, .inl p0, .inl p1, .inl p2, .inl p3] mem K E := by
  refine CY.of (k := 0) mt_232 rfl rfl (fun hv => ?_)
  have hC := Ex.mono S (n + 2)
  have ii_p0 : InI p0 := hv (.inl p0) (by simp)
  unfold InI at ii_p0
  have ii_p1 : InI p1 := hv (.inl p1) (by simp)
  unfold InI at ii_p1
  have ii_p2 : InI p2 := hv (.inl p2) (by simp)
  unfold InI at ii_p2
  have ii_p3 : InI p3 := hv (.inl p3) (by simp)
  unfold InI at ii_p3
  clear hv
  show Tx (Ex S (n + 2)) S M_232 (kI K E) 0 0 0 [some (.inr 143), some (.inl p0), some (.inl p1), some (.inl p2), some (.inl p3)] [] mem
  refine Tx.aload_n hC te_232_0 rfl ?_
  refine Tx.iload_n hC te_232_1 rfl ?_
  refine Tx.iload_n hC te_232_2 rfl ?_
  refine Tx.statI hC te_232_3 (by decide) mt_228 (args := [.inl p0, .inl p1]) (rest := [.inr 143]) (c' := 0) (s' := 0) rfl rfl rfl rfl rfl rfl rfl ?_
  refine f_228x (fun r1s r1i => ?_) (fun r1s r1i => ?_)
  · skip
    refine Tx.ifc hC (t := 18) te_232_6 (by decide) (fun q => absurd q (show ¬ ((1 : Int) = 0) by decide)) (fun q => ?_)
    refine Tx.iload_n hC te_232_9 rfl ?_
    refine Tx.iload hC te_232_10 rfl ?_
    refine Tx.statI hC te_232_12 (by decide) mt_231 (args := [.inl p2, .inl p3]) (rest := [.inr 143]) (c' := 0) (s' := 0) rfl rfl rfl rfl rfl rfl rfl ?_
    refine f_231x (fun r4s r4i => ?_) (fun r4s r4i => ?_)
    · skip
      refine Tx.ifc hC (t := 22) te_232_15 (by decide) (fun q => ?_) (fun q => absurd (show ¬ (1 : Int) = 0 by decide) q)
      refine Tx.aload_n hC te_232_22 rfl ?_
      refine Tx.getI hC te_232_23 rfl rfl rfl (fun v7 v7e v7i => ?_)
      unfold InI at v7i
      refine Tx.bipush hC te_232_26 rfl rfl ?_
      refine Tx.icmp hC (t := 35) te_232_28 (by decide) (fun q8 => ?_) (fun q8 => ?_)
      · replace q8 : ¬ (v7 : Int) = 8 := q8
        refine Tx.iconst hC te_232_35 rfl ?_
        refine Tx.putI hC te_232_36 rfl rfl rfl rfl ?_
        refine Tx.aload_n hC te_232_39 rfl ?_
        refine Tx.getI hC te_232_40 rfl rfl rfl (fun v10 v10e v10i => ?_)
        rw [upm_eq] at v10e
        subst v10e
        clear v10i
        refine Tx.ifc hC (t := 50) te_232_43 (by decide) (fun q => ?_) (fun q => absurd (show (0 : Int) ≤ 0 by decide) q)
        refine Tx.aload_n hC te_232_50 rfl ?_
        refine Tx.iconst hC te_232_51 rfl ?_
        refine Tx.iload_n hC te_232_52 rfl ?_
        refine Tx.iload_n hC te_232_53 rfl ?_
        refine Tx.iload_n hC te_232_54 rfl ?_
        refine Tx.iload hC te_232_55 rfl ?_
        refine Tx.virtI hC te_232_57 mt_229 (args := [.inr 143, .inl 5, .inl p0, .inl p1, .inl p2, .inl p3]) (rest := []) (c' := 0) (s' := 0) rfl rfl rfl rfl rfl rfl rfl rfl rfl rfl ?_
        refine f_229x (by rw [upm_ne (by omega)]; omega) (fun r11 m12 r11e r11m r11i => ?_)
        rw [upm_ne (by omega)] at r11e r11m
        unfold InI at r11i
        exact Tx.ireturn hC te_232_60 rfl (fun hr => show K r11 m12 from H0 ⟨by assumption, by assumption⟩ (by omega) _ _ r11e r11m)
      · replace q8 : ¬ (¬ (v7 : Int) = 8) := q8
        refine Tx.iconst hC te_232_31 rfl ?_
        refine Tx.goto hC (t := 36) te_232_32 (by decide) ?_
        refine Tx.putI hC te_232_36 rfl rfl rfl rfl ?_
        refine Tx.aload_n hC te_232_39 rfl ?_
        refine Tx.getI hC te_232_40 rfl rfl rfl (fun v15 v15e v15i => ?_)
        rw [upm_eq] at v15e
        subst v15e
        clear v15i
        refine Tx.ifc hC (t := 50) te_232_43 (by decide) (fun q => absurd q (show ¬ ((2 : Int) ≤ 0) by decide)) (fun q => ?_)
        refine Tx.iconst hC te_232_46 rfl ?_
        refine Tx.goto hC (t := 60) te_232_47 (by decide) ?_
        exact Tx.ireturn hC te_232_60 rfl (fun hr => show K 0 (upm mem 143 0 2) from H2 ⟨by assumption, by assumption⟩ (by omega))
    · skip
      refine Tx.ifc hC (t := 22) te_232_15 (by decide) (fun q => absurd q (show ¬ (¬ (0 : Int) = 0) by decide)) (fun q => ?_)
      refine Tx.iconst hC te_232_18 rfl ?_
      refine Tx.goto hC (t := 36) te_232_19 (by decide) ?_
      refine Tx.putI hC te_232_36 rfl rfl rfl rfl ?_
      refine Tx.aload_n hC te_232_39 rfl ?_
      refine Tx.getI hC te_232_40 rfl rfl rfl (fun v17 v17e v17i => ?_)
      rw [upm_eq] at v17e
      subst v17e
      clear v17i
      refine Tx.ifc hC (t := 50) te_232_43 (by decide) (fun q => absurd q (show ¬ ((1 : Int) ≤ 0) by decide)) (fun q => ?_)
      refine Tx.iconst hC te_232_46 rfl ?_
      refine Tx.goto hC (t := 60) te_232_47 (by decide) ?_
      exact Tx.ireturn hC te_232_60 rfl (fun hr => show K 0 (upm mem 143 0 1) from H1 (by intro w; first | (have := w.1; omega) | omega | exact absurd w (by assumption) | exact absurd w.1 (by assumption) | exact absurd w.2 (by assumption) | exact absurd w.2.1 (by assumption) | exact absurd w.2.2 (by assumption)))
  · skip
    refine Tx.ifc hC (t := 18) te_232_6 (by decide) (fun q => ?_) (fun q => absurd (show (0 : Int) = 0 by decide) q)
    refine Tx.iconst hC te_232_18 rfl ?_
    refine Tx.goto hC (t := 36) te_232_19 (by decide) ?_
    refine Tx.putI hC te_232_36 rfl rfl rfl rfl ?_
    refine Tx.aload_n hC te_232_39 rfl ?_
    refine Tx.getI hC te_232_40 rfl rfl rfl (fun v19 v19e v19i => ?_)
    rw [upm_eq] at v19e
    subst v19e
    clear v19i
    refine Tx.ifc hC (t := 50) te_232_43 (by decide) (fun q => absurd q (show ¬ ((1 : Int) ≤ 0) by decide)) (fun q => ?_)
    refine Tx.iconst hC te_232_46 rfl ?_
    refine Tx.goto hC (t := 60) te_232_47 (by decide) ?_
    exact Tx.ireturn hC te_232_60 rfl (fun hr => show K 0 (upm mem 143 0 1) from H1 (by intro w; first | (have := w.1; omega) | omega | exact absurd w (by assumption) | exact absurd w.1 (by assumption) | exact absurd w.2 (by assumption) | exact absurd w.2.1 (by assumption) | exact absurd w.2.2 (by assumption)))
theorem f_233x {S : Nat × (Nat → Int32)} {n : Nat} {mem : MM} {K : Int → MM → Prop} {E : Nat → MM → Prop} (h8 : 0 ≤ mem 143 1 ∧ mem 143 1 ≤ 8) (H0 : 0 < mem 143 1 → ∀ r m', r = mem 143 1 - 1 → m' = upm (upm mem 143 0 0) 143 1 (mem 143 1 - 1) → K r m') (H1 : ¬ 0 < mem 143 1 → K 0 (upm mem 143 0 1)) : CQI (Ex S (n + 3)) 233 [.inr 143] mem K E := by
  refine CY.of (k := 0) mt_233 rfl rfl (fun hv => ?_)
  have hC := Ex.mono S (n + 2)
  clear hv
  show Tx (Ex S (n + 2)) S M_233 (kI K E) 0 0 0 [some (.inr 143)] [] mem
  refine Tx.aload_n hC te_233_0 rfl ?_
  refine Tx.aload_n hC te_233_1 rfl ?_
  refine Tx.getI hC te_233_2 rfl rfl rfl (fun v1 v1e v1i => ?_)
  unfold InI at v1i
  first | rw [upm_eq] at v1e | rw [upm_ne (by omega)] at v1e | skip
  refine Tx.ifc hC (t := 12) te_233_5 (by decide) (fun q3 => ?_) (fun q3 => ?_)
  · replace q3 : ¬ (v1 : Int) = 0 := q3
    refine Tx.iconst hC te_233_12 rfl ?_
    refine Tx.putI hC te_233_13 rfl rfl rfl rfl ?_
    refine Tx.aload_n hC te_233_16 rfl ?_
    refine Tx.getI hC te_233_17 rfl rfl rfl (fun v5 v5e v5i => ?_)
    rw [upm_eq] at v5e
    subst v5e
    clear v5i
    refine Tx.ifc hC (t := 25) te_233_20 (by decide) (fun q => ?_) (fun q => absurd (show (0 : Int) ≤ 0 by decide) q)
    refine Tx.aload_n hC te_233_25 rfl ?_
    refine Tx.dup hC te_233_26 ?_
    refine Tx.getI hC te_233_27 rfl rfl rfl (fun v6 v6e v6i => ?_)
    unfold InI at v6i
    first | rw [upm_eq] at v6e | rw [upm_ne (by omega)] at v6e | skip
    refine Tx.iconst hC te_233_30 rfl ?_
    refine Tx.isubW hC te_233_31 (fun z8 z8i z8e => ?_)
    unfold InI at z8i z8e
    first | replace z8e := z8e (by omega) | clear z8e
    refine Tx.putI hC te_233_32 rfl rfl rfl rfl ?_
    have ez : z8 = mem 143 1 - 1 := by omega
    rw [ez]
    refine Tx.aload_n hC te_233_35 rfl ?_
    refine Tx.getI hC te_233_36 rfl rfl rfl (fun v10 v10e v10i => ?_)
    unfold InI at v10i
    first | rw [upm_eq] at v10e | rw [upm_ne (by omega)] at v10e | skip
    exact Tx.ireturn hC te_233_39 rfl (fun hr => show K v10 (upm (upm mem 143 0 0) 143 1 (mem 143 1 - 1)) from H0 (by omega) _ _ (by omega) rfl)
  · replace q3 : ¬ (¬ (v1 : Int) = 0) := q3
    refine Tx.iconst hC te_233_8 rfl ?_
    refine Tx.goto hC (t := 13) te_233_9 (by decide) ?_
    refine Tx.putI hC te_233_13 rfl rfl rfl rfl ?_
    refine Tx.aload_n hC te_233_16 rfl ?_
    refine Tx.getI hC te_233_17 rfl rfl rfl (fun v13 v13e v13i => ?_)
    rw [upm_eq] at v13e
    subst v13e
    clear v13i
    refine Tx.ifc hC (t := 25) te_233_20 (by decide) (fun q => absurd q (show ¬ ((1 : Int) ≤ 0) by decide)) (fun q => ?_)
    refine Tx.iconst hC te_233_23 rfl ?_
    exact Tx.ireturn hC te_233_24 rfl (fun hr => show K 0 (upm mem 143 0 1) from H1 (by omega))
theorem f_235x {S : Nat × (Nat → Int32)} {n : Nat} {mem : MM} {K : Int → MM → Prop} {E : Nat → MM → Prop} (h8 : 0 ≤ mem 143 1 ∧ mem 143 1 ≤ 8) {o : Int} (H1 : 0 ≤ o ∧ o < mem 143 1 → K 1 mem) (H0 : ¬ (0 ≤ o ∧ o < mem 143 1) → K 0 mem) : CQI (Ex S (n + 2)) 235 [.inr 143, .inl o] mem K E := by
  refine CY.of (k := 0) mt_235 rfl rfl (fun hv => ?_)
  have hC := Ex.mono S (n + 1)
  have ii_o : InI o := hv (.inl o) (by simp)
  unfold InI at ii_o
  clear hv
  show Tx (Ex S (n + 1)) S M_235 (kI K E) 0 0 0 [some (.inr 143), some (.inl o)] [] mem
  refine Tx.iload_n hC te_235_0 rfl ?_
  refine Tx.iconst hC te_235_1 rfl ?_
  refine Tx.aload_n hC te_235_2 rfl ?_
  refine Tx.getI hC te_235_3 rfl rfl rfl (fun v1 v1e v1i => ?_)
  unfold InI at v1i
  refine Tx.iconst hC te_235_6 rfl ?_
  refine Tx.isubW hC te_235_7 (fun z2 z2i z2e => ?_)
  unfold InI at z2i z2e
  first | replace z2e := z2e (by omega) | clear z2e
  refine Tx.statI hC te_235_8 (by decide) mt_227 (args := [.inl o, .inl 0, .inl z2]) (rest := []) (c' := 0) (s' := 0) rfl rfl rfl rfl rfl rfl rfl ?_
  refine CWI.q hC (f_227 (fun r3a r3b r3i => ?_) (fun r3q r3i => ?_))
  · skip
    exact Tx.bret hC te_235_11 rfl (by omega) (show K 1 mem from H1 (by omega))
  · skip
    exact Tx.bret hC te_235_11 rfl (by omega) (show K 0 mem from H0 (by omega))
theorem f_234x {S : Nat × (Nat → Int32)} {n : Nat} {mem : MM} {K : Int → MM → Prop} {E : Nat → MM → Prop} (h8 : 0 ≤ mem 143 1 ∧ mem 143 1 ≤ 8) {p0 p1 : Int} (H0 : 0 ≤ p0 ∧ p0 < mem 143 1 → -9999 ≤ p1 ∧ p1 ≤ 9999 → ∀ r m', r = mem 149 p0.toNat → m' = upm (upm mem 143 0 0) 149 p0.toNat p1 → K r m') (H1 : ¬ (0 ≤ p0 ∧ p0 < mem 143 1) → K 0 (upm mem 143 0 1)) (H2 : 0 ≤ p0 ∧ p0 < mem 143 1 → ¬ (-9999 ≤ p1 ∧ p1 ≤ 9999) → K 0 (upm mem 143 0 2)) : CQI (Ex S (n + 4)) 234 [.inr 143, .inl p0, .inl p1] mem K E := by
  refine CY.of (k := 1) mt_234 rfl rfl (fun hv => ?_)
  have hC := Ex.mono S (n + 3)
  have ii_p0 : InI p0 := hv (.inl p0) (by simp)
  unfold InI at ii_p0
  have ii_p1 : InI p1 := hv (.inl p1) (by simp)
  unfold InI at ii_p1
  clear hv
  show Tx (Ex S (n + 3)) S M_234 (kI K E) 0 0 0 [some (.inr 143), some (.inl p0), some (.inl p1), none] [] mem
  refine Tx.aload_n hC te_234_0 rfl ?_
  refine Tx.aload_n hC te_234_1 rfl ?_
  refine Tx.iload_n hC te_234_2 rfl ?_
  refine Tx.virtI hC te_234_3 mt_235 (args := [.inr 143, .inl p0]) (rest := [.inr 143]) (c' := 0) (s' := 0) rfl rfl rfl rfl rfl rfl rfl rfl rfl rfl ?_
  refine f_235x h8 (fun r1s r1i => ?_) (fun r1s r1i => ?_)
  · skip
    refine Tx.ifc hC (t := 13) te_234_6 (by decide) (fun q => ?_) (fun q => absurd (show ¬ (1 : Int) = 0 by decide) q)
    refine Tx.iload_n hC te_234_13 rfl ?_
    refine Tx.sipush hC te_234_14 rfl rfl ?_
    refine Tx.sipush hC te_234_17 rfl rfl ?_
    refine Tx.statI hC te_234_20 (by decide) mt_227 (args := [.inl p1, .inl (-9999), .inl 9999]) (rest := [.inr 143]) (c' := 0) (s' := 0) rfl rfl rfl rfl rfl rfl rfl ?_
    refine CWI.q hC (f_227 (fun r4a r4b r4i => ?_) (fun r4q r4i => ?_))
    · skip
      refine Tx.ifc hC (t := 30) te_234_23 (by decide) (fun q => ?_) (fun q => absurd (show ¬ (1 : Int) = 0 by decide) q)
      refine Tx.iconst hC te_234_30 rfl ?_
      refine Tx.putI hC te_234_31 rfl rfl rfl rfl ?_
      refine Tx.aload_n hC te_234_34 rfl ?_
      refine Tx.getI hC te_234_35 rfl rfl rfl (fun v8 v8e v8i => ?_)
      rw [upm_eq] at v8e
      subst v8e
      clear v8i
      refine Tx.ifc hC (t := 43) te_234_38 (by decide) (fun q => ?_) (fun q => absurd (show (0 : Int) ≤ 0 by decide) q)
      refine Tx.aload_n hC te_234_43 rfl ?_
      refine Tx.getR hC te_234_44 rfl rfl rfl ?_
      refine Tx.iload_n hC te_234_47 rfl ?_
      refine Tx.iald hC te_234_48 rfl (by omega) (fun v9 v9e v9i => ?_)
      unfold InI at v9i
      rw [upm_ne (by omega)] at v9e
      refine Tx.istore_n hC te_234_49 rfl ?_
      refine Tx.aload_n hC te_234_50 rfl ?_
      refine Tx.getR hC te_234_51 rfl rfl rfl ?_
      refine Tx.iload_n hC te_234_54 rfl ?_
      refine Tx.iload_n hC te_234_55 rfl ?_
      refine Tx.iast hC te_234_56 rfl (by omega) ?_
      refine Tx.iload_n hC te_234_57 rfl ?_
      exact Tx.ireturn hC te_234_58 rfl (fun hr => show K v9 (upm (upm mem 143 0 0) 149 (Int.toNat p0) p1) from H0 (by omega) (by omega) _ _ (by assumption) rfl)
    · skip
      refine Tx.ifc hC (t := 30) te_234_23 (by decide) (fun q => absurd q (show ¬ (¬ (0 : Int) = 0) by decide)) (fun q => ?_)
      refine Tx.iconst hC te_234_26 rfl ?_
      refine Tx.goto hC (t := 31) te_234_27 (by decide) ?_
      refine Tx.putI hC te_234_31 rfl rfl rfl rfl ?_
      refine Tx.aload_n hC te_234_34 rfl ?_
      refine Tx.getI hC te_234_35 rfl rfl rfl (fun v13 v13e v13i => ?_)
      rw [upm_eq] at v13e
      subst v13e
      clear v13i
      refine Tx.ifc hC (t := 43) te_234_38 (by decide) (fun q => absurd q (show ¬ ((2 : Int) ≤ 0) by decide)) (fun q => ?_)
      refine Tx.iconst hC te_234_41 rfl ?_
      exact Tx.ireturn hC te_234_42 rfl (fun hr => show K 0 (upm mem 143 0 2) from H2 (by omega) (by omega))
  · skip
    refine Tx.ifc hC (t := 13) te_234_6 (by decide) (fun q => absurd q (show ¬ (¬ (0 : Int) = 0) by decide)) (fun q => ?_)
    refine Tx.iconst hC te_234_9 rfl ?_
    refine Tx.goto hC (t := 31) te_234_10 (by decide) ?_
    refine Tx.putI hC te_234_31 rfl rfl rfl rfl ?_
    refine Tx.aload_n hC te_234_34 rfl ?_
    refine Tx.getI hC te_234_35 rfl rfl rfl (fun v15 v15e v15i => ?_)
    rw [upm_eq] at v15e
    subst v15e
    clear v15i
    refine Tx.ifc hC (t := 43) te_234_38 (by decide) (fun q => absurd q (show ¬ ((1 : Int) ≤ 0) by decide)) (fun q => ?_)
    refine Tx.iconst hC te_234_41 rfl ?_
    exact Tx.ireturn hC te_234_42 rfl (fun hr => show K 0 (upm mem 143 0 1) from H1 (by omega))
theorem f_237x {S : Nat × (Nat → Int32)} {n : Nat} {mem : MM} {K : Int → MM → Prop} {E : Nat → MM → Prop} (h8 : 0 ≤ mem 143 1 ∧ mem 143 1 ≤ 8) {p0 p1 : Int} (H0 : 0 ≤ p0 ∧ p0 < 3 → 1 ≤ p1 ∧ p1 ≤ 3 → ∀ r m', r = mem 153 p0.toNat → m' = upm (upm mem 143 0 0) 153 p0.toNat p1 → K r m') (H1 : ¬ (0 ≤ p0 ∧ p0 < 3) → K 0 (upm mem 143 0 1)) (H2 : 0 ≤ p0 ∧ p0 < 3 → ¬ (1 ≤ p1 ∧ p1 ≤ 3) → K 0 (upm mem 143 0 2)) : CQI (Ex S (n + 4)) 237 [.inr 143, .inl p0, .inl p1] mem K E := by
  refine CY.of (k := 1) mt_237 rfl rfl (fun hv => ?_)
  have hC := Ex.mono S (n + 3)
  have ii_p0 : InI p0 := hv (.inl p0) (by simp)
  unfold InI at ii_p0
  have ii_p1 : InI p1 := hv (.inl p1) (by simp)
  unfold InI at ii_p1
  clear hv
  show Tx (Ex S (n + 3)) S M_237 (kI K E) 0 0 0 [some (.inr 143), some (.inl p0), some (.inl p1), none] [] mem
  refine Tx.aload_n hC te_237_0 rfl ?_
  refine Tx.iload_n hC te_237_1 rfl ?_
  refine Tx.iconst hC te_237_2 rfl ?_
  refine Tx.iconst hC te_237_3 rfl ?_
  refine Tx.statI hC te_237_4 (by decide) mt_227 (args := [.inl p0, .inl 0, .inl 2]) (rest := [.inr 143]) (c' := 0) (s' := 0) rfl rfl rfl rfl rfl rfl rfl ?_
  refine CWI.q hC (f_227 (fun r1a r1b r1i => ?_) (fun r1q r1i => ?_))
  · skip
    refine Tx.ifc hC (t := 14) te_237_7 (by decide) (fun q => ?_) (fun q => absurd (show ¬ (1 : Int) = 0 by decide) q)
    refine Tx.iload_n hC te_237_14 rfl ?_
    refine Tx.iconst hC te_237_15 rfl ?_
    refine Tx.iconst hC te_237_16 rfl ?_
    refine Tx.statI hC te_237_17 (by decide) mt_227 (args := [.inl p1, .inl 1, .inl 3]) (rest := [.inr 143]) (c' := 0) (s' := 0) rfl rfl rfl rfl rfl rfl rfl ?_
    refine CWI.q hC (f_227 (fun r4a r4b r4i => ?_) (fun r4q r4i => ?_))
    · skip
      refine Tx.ifc hC (t := 27) te_237_20 (by decide) (fun q => ?_) (fun q => absurd (show ¬ (1 : Int) = 0 by decide) q)
      refine Tx.iconst hC te_237_27 rfl ?_
      refine Tx.putI hC te_237_28 rfl rfl rfl rfl ?_
      refine Tx.aload_n hC te_237_31 rfl ?_
      refine Tx.getI hC te_237_32 rfl rfl rfl (fun v8 v8e v8i => ?_)
      rw [upm_eq] at v8e
      subst v8e
      clear v8i
      refine Tx.ifc hC (t := 40) te_237_35 (by decide) (fun q => ?_) (fun q => absurd (show (0 : Int) ≤ 0 by decide) q)
      refine Tx.aload_n hC te_237_40 rfl ?_
      refine Tx.getR hC te_237_41 rfl rfl rfl ?_
      refine Tx.iload_n hC te_237_44 rfl ?_
      refine Tx.iald hC te_237_45 rfl (by omega) (fun v9 v9e v9i => ?_)
      unfold InI at v9i
      rw [upm_ne (by omega)] at v9e
      refine Tx.istore_n hC te_237_46 rfl ?_
      refine Tx.aload_n hC te_237_47 rfl ?_
      refine Tx.getR hC te_237_48 rfl rfl rfl ?_
      refine Tx.iload_n hC te_237_51 rfl ?_
      refine Tx.iload_n hC te_237_52 rfl ?_
      refine Tx.iast hC te_237_53 rfl (by omega) ?_
      refine Tx.iload_n hC te_237_54 rfl ?_
      exact Tx.ireturn hC te_237_55 rfl (fun hr => show K v9 (upm (upm mem 143 0 0) 153 (Int.toNat p0) p1) from H0 (by omega) (by omega) _ _ (by assumption) rfl)
    · skip
      refine Tx.ifc hC (t := 27) te_237_20 (by decide) (fun q => absurd q (show ¬ (¬ (0 : Int) = 0) by decide)) (fun q => ?_)
      refine Tx.iconst hC te_237_23 rfl ?_
      refine Tx.goto hC (t := 28) te_237_24 (by decide) ?_
      refine Tx.putI hC te_237_28 rfl rfl rfl rfl ?_
      refine Tx.aload_n hC te_237_31 rfl ?_
      refine Tx.getI hC te_237_32 rfl rfl rfl (fun v13 v13e v13i => ?_)
      rw [upm_eq] at v13e
      subst v13e
      clear v13i
      refine Tx.ifc hC (t := 40) te_237_35 (by decide) (fun q => absurd q (show ¬ ((2 : Int) ≤ 0) by decide)) (fun q => ?_)
      refine Tx.iconst hC te_237_38 rfl ?_
      exact Tx.ireturn hC te_237_39 rfl (fun hr => show K 0 (upm mem 143 0 2) from H2 (by omega) (by omega))
  · skip
    refine Tx.ifc hC (t := 14) te_237_7 (by decide) (fun q => absurd q (show ¬ (¬ (0 : Int) = 0) by decide)) (fun q => ?_)
    refine Tx.iconst hC te_237_10 rfl ?_
    refine Tx.goto hC (t := 28) te_237_11 (by decide) ?_
    refine Tx.putI hC te_237_28 rfl rfl rfl rfl ?_
    refine Tx.aload_n hC te_237_31 rfl ?_
    refine Tx.getI hC te_237_32 rfl rfl rfl (fun v15 v15e v15i => ?_)
    rw [upm_eq] at v15e
    subst v15e
    clear v15i
    refine Tx.ifc hC (t := 40) te_237_35 (by decide) (fun q => absurd q (show ¬ ((1 : Int) ≤ 0) by decide)) (fun q => ?_)
    refine Tx.iconst hC te_237_38 rfl ?_
    exact Tx.ireturn hC te_237_39 rfl (fun hr => show K 0 (upm mem 143 0 1) from H1 (by omega))
theorem f_236x {S : Nat × (Nat → Int32)} {n : Nat} {mem : MM} {K : Int → MM → Prop} {E : Nat → MM → Prop} (h8 : 0 ≤ mem 143 1 ∧ mem 143 1 ≤ 8) {p0 p1 p2 p3 : Int} (H0 : 0 ≤ p0 ∧ p0 < 6 → (0 ≤ p1 ∧ p1 < 3) ∧ (1 ≤ p2 ∧ p2 ≤ 6) ∧ 1 ≤ p3 ∧ p3 ≤ 15 → ∀ m', m' = upm (upm (upm (upm mem 143 0 0) 150 p0.toNat p1) 151 p0.toNat p2) 152 p0.toNat p3 → K 0 m') (H1 : ¬ (0 ≤ p0 ∧ p0 < 6) → K 0 (upm mem 143 0 1)) (H2 : 0 ≤ p0 ∧ p0 < 6 → ¬ ((0 ≤ p1 ∧ p1 < 3) ∧ (1 ≤ p2 ∧ p2 ≤ 6) ∧ 1 ≤ p3 ∧ p3 ≤ 15) → K 0 (upm mem 143 0 2)) : CQI (Ex S (n + 4)) 236 [.inr 143, .inl p0, .inl p1, .inl p2, .inl p3] mem K E := by
  refine CY.of (k := 0) mt_236 rfl rfl (fun hv => ?_)
  have hC := Ex.mono S (n + 3)
  have ii_p0 : InI p0 := hv (.inl p0) (by simp)
  unfold InI at ii_p0
  have ii_p1 : InI p1 := hv (.inl p1) (by simp)
  unfold InI at ii_p1
  have ii_p2 : InI p2 := hv (.inl p2) (by simp)
  unfold InI at ii_p2
  have ii_p3 : InI p3 := hv (.inl p3) (by simp)
  unfold InI at ii_p3
  clear hv
  show Tx (Ex S (n + 3)) S M_236 (kI K E) 0 0 0 [some (.inr 143), some (.inl p0), some (.inl p1), some (.inl p2), some (.inl p3)] [] mem
  refine Tx.aload_n hC te_236_0 rfl ?_
  refine Tx.iload_n hC te_236_1 rfl ?_
  refine Tx.iconst hC te_236_2 rfl ?_
  refine Tx.iconst hC te_236_3 rfl ?_
  refine Tx.statI hC te_236_4 (by decide) mt_227 (args := [.inl p0, .inl 0, .inl 5]) (rest := [.inr 143]) (c' := 0) (s' := 0) rfl rfl rfl rfl rfl rfl rfl ?_
  refine CWI.q hC (f_227 (fun r1a r1b r1i => ?_) (fun r1q r1i => ?_))
  · skip
    refine Tx.ifc hC (t := 14) te_236_7 (by decide) (fun q => ?_) (fun q => absurd (show ¬ (1 : Int) = 0 by decide) q)
    refine Tx.iload_n hC te_236_14 rfl ?_
    refine Tx.iconst hC te_236_15 rfl ?_
    refine Tx.iconst hC te_236_16 rfl ?_
    refine Tx.statI hC te_236_17 (by decide) mt_227 (args := [.inl p1, .inl 0, .inl 2]) (rest := [.inr 143]) (c' := 0) (s' := 0) rfl rfl rfl rfl rfl rfl rfl ?_
    refine CWI.q hC (f_227 (fun r4a r4b r4i => ?_) (fun r4q r4i => ?_))
    · skip
      refine Tx.ifc hC (t := 44) te_236_20 (by decide) (fun q => absurd q (show ¬ ((1 : Int) = 0) by decide)) (fun q => ?_)
      refine Tx.iload_n hC te_236_23 rfl ?_
      refine Tx.iconst hC te_236_24 rfl ?_
      refine Tx.bipush hC te_236_25 rfl rfl ?_
      refine Tx.statI hC te_236_27 (by decide) mt_227 (args := [.inl p2, .inl 1, .inl 6]) (rest := [.inr 143]) (c' := 0) (s' := 0) rfl rfl rfl rfl rfl rfl rfl ?_
      refine CWI.q hC (f_227 (fun r7a r7b r7i => ?_) (fun r7q r7i => ?_))
      · skip
        refine Tx.ifc hC (t := 44) te_236_30 (by decide) (fun q => absurd q (show ¬ ((1 : Int) = 0) by decide)) (fun q => ?_)
        refine Tx.iload hC te_236_33 rfl ?_
        refine Tx.iconst hC te_236_35 rfl ?_
        refine Tx.bipush hC te_236_36 rfl rfl ?_
        refine Tx.statI hC te_236_38 (by decide) mt_227 (args := [.inl p3, .inl 1, .inl 15]) (rest := [.inr 143]) (c' := 0) (s' := 0) rfl rfl rfl rfl rfl rfl rfl ?_
        refine CWI.q hC (f_227 (fun r10a r10b r10i => ?_) (fun r10q r10i => ?_))
        · skip
          refine Tx.ifc hC (t := 48) te_236_41 (by decide) (fun q => ?_) (fun q => absurd (show ¬ (1 : Int) = 0 by decide) q)
          refine Tx.iconst hC te_236_48 rfl ?_
          refine Tx.putI hC te_236_49 rfl rfl rfl rfl ?_
          refine Tx.aload_n hC te_236_52 rfl ?_
          refine Tx.getI hC te_236_53 rfl rfl rfl (fun v14 v14e v14i => ?_)
          rw [upm_eq] at v14e
          subst v14e
          clear v14i
          refine Tx.ifc hC (t := 61) te_236_56 (by decide) (fun q => ?_) (fun q => absurd (show (0 : Int) ≤ 0 by decide) q)
          refine Tx.aload_n hC te_236_61 rfl ?_
          refine Tx.getR hC te_236_62 rfl rfl rfl ?_
          refine Tx.iload_n hC te_236_65 rfl ?_
          refine Tx.iload_n hC te_236_66 rfl ?_
          refine Tx.iast hC te_236_67 rfl (by omega) ?_
          refine Tx.aload_n hC te_236_68 rfl ?_
          refine Tx.getR hC te_236_69 rfl rfl rfl ?_
          refine Tx.iload_n hC te_236_72 rfl ?_
          refine Tx.iload_n hC te_236_73 rfl ?_
          refine Tx.iast hC te_236_74 rfl (by omega) ?_
          refine Tx.aload_n hC te_236_75 rfl ?_
          refine Tx.getR hC te_236_76 rfl rfl rfl ?_
          refine Tx.iload_n hC te_236_79 rfl ?_
          refine Tx.iload hC te_236_80 rfl ?_
          refine Tx.iast hC te_236_82 rfl (by omega) ?_
          refine Tx.iconst hC te_236_83 rfl ?_
          exact Tx.ireturn hC te_236_84 rfl (fun hr => show K 0 (upm (upm (upm (upm mem 143 0 0) 150 (Int.toNat p0) p1) 151 (Int.toNat p0) p2) 152 (Int.toNat p0) p3) from H0 (by omega) (by omega) _ rfl)
        · skip
          refine Tx.ifc hC (t := 48) te_236_41 (by decide) (fun q => absurd q (show ¬ (¬ (0 : Int) = 0) by decide)) (fun q => ?_)
          refine Tx.iconst hC te_236_44 rfl ?_
          refine Tx.goto hC (t := 49) te_236_45 (by decide) ?_
          refine Tx.putI hC te_236_49 rfl rfl rfl rfl ?_
          refine Tx.aload_n hC te_236_52 rfl ?_
          refine Tx.getI hC te_236_53 rfl rfl rfl (fun v19 v19e v19i => ?_)
          rw [upm_eq] at v19e
          subst v19e
          clear v19i
          refine Tx.ifc hC (t := 61) te_236_56 (by decide) (fun q => absurd q (show ¬ ((2 : Int) ≤ 0) by decide)) (fun q => ?_)
          refine Tx.iconst hC te_236_59 rfl ?_
          exact Tx.ireturn hC te_236_60 rfl (fun hr => show K 0 (upm mem 143 0 2) from H2 (by omega) (by omega))
      · skip
        refine Tx.ifc hC (t := 44) te_236_30 (by decide) (fun q => ?_) (fun q => absurd (show (0 : Int) = 0 by decide) q)
        refine Tx.iconst hC te_236_44 rfl ?_
        refine Tx.goto hC (t := 49) te_236_45 (by decide) ?_
        refine Tx.putI hC te_236_49 rfl rfl rfl rfl ?_
        refine Tx.aload_n hC te_236_52 rfl ?_
        refine Tx.getI hC te_236_53 rfl rfl rfl (fun v21 v21e v21i => ?_)
        rw [upm_eq] at v21e
        subst v21e
        clear v21i
        refine Tx.ifc hC (t := 61) te_236_56 (by decide) (fun q => absurd q (show ¬ ((2 : Int) ≤ 0) by decide)) (fun q => ?_)
        refine Tx.iconst hC te_236_59 rfl ?_
        exact Tx.ireturn hC te_236_60 rfl (fun hr => show K 0 (upm mem 143 0 2) from H2 (by omega) (by omega))
    · skip
      refine Tx.ifc hC (t := 44) te_236_20 (by decide) (fun q => ?_) (fun q => absurd (show (0 : Int) = 0 by decide) q)
      refine Tx.iconst hC te_236_44 rfl ?_
      refine Tx.goto hC (t := 49) te_236_45 (by decide) ?_
      refine Tx.putI hC te_236_49 rfl rfl rfl rfl ?_
      refine Tx.aload_n hC te_236_52 rfl ?_
      refine Tx.getI hC te_236_53 rfl rfl rfl (fun v23 v23e v23i => ?_)
      rw [upm_eq] at v23e
      subst v23e
      clear v23i
      refine Tx.ifc hC (t := 61) te_236_56 (by decide) (fun q => absurd q (show ¬ ((2 : Int) ≤ 0) by decide)) (fun q => ?_)
      refine Tx.iconst hC te_236_59 rfl ?_
      exact Tx.ireturn hC te_236_60 rfl (fun hr => show K 0 (upm mem 143 0 2) from H2 (by omega) (by omega))
  · skip
    refine Tx.ifc hC (t := 14) te_236_7 (by decide) (fun q => absurd q (show ¬ (¬ (0 : Int) = 0) by decide)) (fun q => ?_)
    refine Tx.iconst hC te_236_10 rfl ?_
    refine Tx.goto hC (t := 49) te_236_11 (by decide) ?_
    refine Tx.putI hC te_236_49 rfl rfl rfl rfl ?_
    refine Tx.aload_n hC te_236_52 rfl ?_
    refine Tx.getI hC te_236_53 rfl rfl rfl (fun v25 v25e v25i => ?_)
    rw [upm_eq] at v25e
    subst v25e
    clear v25i
    refine Tx.ifc hC (t := 61) te_236_56 (by decide) (fun q => absurd q (show ¬ ((1 : Int) ≤ 0) by decide)) (fun q => ?_)
    refine Tx.iconst hC te_236_59 rfl ?_
    exact Tx.ireturn hC te_236_60 rfl (fun hr => show K 0 (upm mem 143 0 1) from H1 (by omega))
end
section
/-! ops of the class and of the reference are the same -/
def RelB (m : MM) : Prop := m 1 0 = m 143 1 ∧ (∀ o, o < 8 → m 2 o = m 144 o ∧ m 3 (4 * o) = m 145 o ∧ m 3 (4 * o + 1) = m 146 o ∧ m 3 (4 * o + 2) = m 147 o ∧ m 3 (4 * o + 3) = m 148 o ∧ m 4 o = m 149 o) ∧ (∀ k, k < 6 → m 5 k = m 150 k ∧ m 6 k = m 151 k ∧ m 7 k = m 152 k) ∧ ∀ u, u < 3 → m 8 u = m 153 u
theorem RelB.fr {m m' : MM} (h : RelB m) (e : ∀ A i, (0 < A ∧ A < 9) ∨ (A = 143 ∧ i = 1) ∨ (143 < A ∧ A < 154) → m' A i = m A i) : RelB m' := by
  refine ⟨by rw [e 1 0 (by omega), e 143 1 (by omega)]; exact h.1, fun o ho => ?_, fun k hk => ?_, fun u hu => ?_⟩
  · rw [e 2 o (by omega), e 144 o (by omega), e 3 (4 * o) (by omega), e 145 o (by omega), e 3 (4 * o + 1) (by omega), e 146 o (by omega), e 3 (4 * o + 2) (by omega), e 147 o (by omega), e 3 (4 * o + 3) (by omega), e 148 o (by omega), e 4 o (by omega), e 149 o (by omega)]; exact h.2.1 o ho
  · rw [e 5 k (by omega), e 150 k (by omega), e 6 k (by omega), e 151 k (by omega), e 7 k (by omega), e 152 k (by omega)]; exact h.2.2.1 k hk
  · rw [e 8 u (by omega), e 153 u (by omega)]; exact h.2.2.2 u hu
theorem RelB.one {m : MM} {A i : Nat} {x : Int} (h : RelB m) (q : A = 0 ∨ (A = 143 ∧ i = 0)) : RelB (upm m A i x) := h.fr (fun B j w => upm_ne (by omega))
theorem RelB.add {m m2 : MM} {n : Nat} {k a b c e : Int} (h : RelB m) (hn : (n : Int) = m 1 0) (e2 : ∀ A i, ¬ A = 0 → ¬ (A = 143 ∧ i = 0) → m2 A i = putM m n k a b c e A i) : RelB (addM m2 n k a b c e) := by
  obtain ⟨g1, g2, g3, g4, g5, g6, g7⟩ := putM_at (mem := m) (n := n) (k := k) (a := a) (b := b) (c := c) (e := e)
  obtain ⟨a1, a2, a3, a4, a5, a6, a7⟩ := addM_at (mem := m2) (n := n) (k := k) (a := a) (b := b) (c := c) (e := e)
  have f : ∀ A i, 0 < A → A < 9 → addM m2 n k a b c e A i = putM m n k a b c e A i := fun A i w1 w2 => by rw [addM_ne (by omega), e2 A i (by omega) (by omega)]
  have r : ∀ A i, ¬ (A = 143 ∧ (i = 0 ∨ i = 1)) → ¬ (144 ≤ A ∧ A ≤ 149 ∧ i = n) → 143 ≤ A → addM m2 n k a b c e A i = m A i := fun A i w1 w2 w3 => by rw [addM_ne (by omega), e2 A i (by omega) (by omega), putM_ne (by omega)]
  refine ⟨?_, fun o ho => ?_, fun j hj => ?_, fun u hu => ?_⟩
  · rw [f 1 0 (by omega) (by omega), g7, a7, e2 143 1 (by omega) (by omega), putM_ne (by omega), h.1]
  · rw [f 2 o (by omega) (by omega), f 3 (4 * o) (by omega) (by omega), f 3 (4 * o + 1) (by omega) (by omega), f 3 (4 * o + 2) (by omega) (by omega), f 3 (4 * o + 3) (by omega) (by omega), f 4 o (by omega) (by omega)]
    by_cases q : o = n
    · subst q
      rw [g1, g2, g3, g4, g5, g6, a1, a2, a3, a4, a5, a6]
      exact ⟨rfl, rfl, rfl, rfl, rfl, rfl⟩
    · rw [putM_ne (by omega), putM_ne (by omega), putM_ne (by omega), putM_ne (by omega), putM_ne (by omega), putM_ne (by omega), r 144 o (by omega) (by omega) (by omega), r 145 o (by omega) (by omega) (by omega), r 146 o (by omega) (by omega) (by omega), r 147 o (by omega) (by omega) (by omega), r 148 o (by omega) (by omega) (by omega), r 149 o (by omega) (by omega) (by omega)]
      exact h.2.1 o ho
  · rw [f 5 j (by omega) (by omega), f 6 j (by omega) (by omega), f 7 j (by omega) (by omega), putM_ne (by omega), putM_ne (by omega), putM_ne (by omega), r 150 j (by omega) (by omega) (by omega), r 151 j (by omega) (by omega) (by omega), r 152 j (by omega) (by omega) (by omega)]
    exact h.2.2.1 j hj
  · rw [f 8 u (by omega) (by omega), putM_ne (by omega), r 153 u (by omega) (by omega) (by omega)]
    exact h.2.2.2 u hu
theorem upm_two {m : MM} {A B i : Nat} {x : Int} {C j : Nat} : upm (upm m A i x) B i x C j = if C = B ∧ j = i ∨ C = A ∧ j = i then x else m C j := by
  unfold upm
  by_cases q : C = B ∧ j = i
  · rw [if_pos q, if_pos (Or.inl q)]
  · rw [if_neg q]
    by_cases w : C = A ∧ j = i
    · rw [if_pos w, if_pos (Or.inr w)]
    · rw [if_neg w, if_neg (by intro z; rcases z with z | z; exact q z; exact w z)]
theorem RelB.row {m m2 : MM} {A B i : Nat} {x : Int} (h : RelB m) (hAB : (A = 4 ∧ B = 149) ∨ (A = 5 ∧ B = 150) ∨ (A = 6 ∧ B = 151) ∨ (A = 7 ∧ B = 152) ∨ (A = 8 ∧ B = 153)) (e2 : ∀ C j, ¬ C = 0 → ¬ (C = 143 ∧ j = 0) → m2 C j = upm m A i x C j) : RelB (upm m2 B i x) := by
  have f : ∀ C j, (0 < C ∧ C < 9) ∨ (C = 143 ∧ j = 1) ∨ (143 < C ∧ C < 154) → upm m2 B i x C j = if C = B ∧ j = i ∨ C = A ∧ j = i then x else m C j := fun C j w => by
    rw [← upm_two]
    by_cases q : C = B ∧ j = i
    · rw [q.1, q.2, upm_eq, upm_eq]
    · rw [upm_ne q, upm_ne q, e2 C j (by omega) (by omega)]
  refine ⟨?_, fun o ho => ?_, fun k hk => ?_, fun u hu => ?_⟩
  · rw [f 1 0 (by omega), f 143 1 (by omega), if_neg (by omega), if_neg (by omega)]; exact h.1
  · have w := h.2.1 o ho
    rw [f 2 o (by omega), f 144 o (by omega), f 3 (4 * o) (by omega), f 145 o (by omega), f 3 (4 * o + 1) (by omega), f 146 o (by omega), f 3 (4 * o + 2) (by omega), f 147 o (by omega), f 3 (4 * o + 3) (by omega), f 148 o (by omega), f 4 o (by omega), f 149 o (by omega)]
    refine ⟨?_, ?_, ?_, ?_, ?_, ?_⟩
    · rw [if_neg (by omega), if_neg (by omega)]; exact w.1
    · rw [if_neg (by omega), if_neg (by omega)]; exact w.2.1
    · rw [if_neg (by omega), if_neg (by omega)]; exact w.2.2.1
    · rw [if_neg (by omega), if_neg (by omega)]; exact w.2.2.2.1
    · rw [if_neg (by omega), if_neg (by omega)]; exact w.2.2.2.2.1
    · by_cases q : A = 4 ∧ o = i
      · rw [if_pos (by omega), if_pos (by omega)]
      · rw [if_neg (by omega), if_neg (by omega)]; exact w.2.2.2.2.2
  · have w := h.2.2.1 k hk
    rw [f 5 k (by omega), f 150 k (by omega), f 6 k (by omega), f 151 k (by omega), f 7 k (by omega), f 152 k (by omega)]
    refine ⟨?_, ?_, ?_⟩
    · by_cases q : A = 5 ∧ k = i
      · rw [if_pos (by omega), if_pos (by omega)]
      · rw [if_neg (by omega), if_neg (by omega)]; exact w.1
    · by_cases q : A = 6 ∧ k = i
      · rw [if_pos (by omega), if_pos (by omega)]
      · rw [if_neg (by omega), if_neg (by omega)]; exact w.2.1
    · by_cases q : A = 7 ∧ k = i
      · rw [if_pos (by omega), if_pos (by omega)]
      · rw [if_neg (by omega), if_neg (by omega)]; exact w.2.2
  · rw [f 8 u (by omega), f 153 u (by omega)]
    by_cases q : A = 8 ∧ u = i
    · rw [if_pos (by omega), if_pos (by omega)]
    · rw [if_neg (by omega), if_neg (by omega)]; exact h.2.2.2 u hu
theorem RelB.size {m m' : MM} {z : Int} (h : RelB m) (h1 : m' 1 0 = z) (h2 : m' 143 1 = z) (e : ∀ A i, (1 < A ∧ A < 9) ∨ (143 < A ∧ A < 154) → m' A i = m A i) : RelB m' := by
  refine ⟨by rw [h1, h2], fun o ho => ?_, fun k hk => ?_, fun u hu => ?_⟩
  · rw [e 2 o (by omega), e 144 o (by omega), e 3 (4 * o) (by omega), e 145 o (by omega), e 3 (4 * o + 1) (by omega), e 146 o (by omega), e 3 (4 * o + 2) (by omega), e 147 o (by omega), e 3 (4 * o + 3) (by omega), e 148 o (by omega), e 4 o (by omega), e 149 o (by omega)]; exact h.2.1 o ho
  · rw [e 5 k (by omega), e 150 k (by omega), e 6 k (by omega), e 151 k (by omega), e 7 k (by omega), e 152 k (by omega)]; exact h.2.2.1 k hk
  · rw [e 8 u (by omega), e 153 u (by omega)]; exact h.2.2.2 u hu
/-! the reference stays in order -/
theorem RefOK.add {mem : MM} {n : Nat} {k a b c e : Int} (h : RefOK mem) (hn : (n : Int) = mem 143 1) (h8 : mem 143 1 < 8) (hk : 0 ≤ k ∧ k ≤ 5) (h3 : k ≤ 3 → srcOK a b ∧ srcOK c e) (h4 : k = 4 → 0 ≤ a ∧ a ≤ 1 ∧ 0 ≤ b ∧ b ≤ 7) (h5 : k = 5 → srcOK a b ∧ 0 ≤ c ∧ c ≤ 1 ∧ 0 ≤ e ∧ e ≤ 7) (hc : -2 ≤ c ∧ c ≤ 7) : RefOK (addM mem n k a b c e) := by
  obtain ⟨a1, a2, a3, a4, a5, a6, a7⟩ := addM_at (mem := mem) (n := n) (k := k) (a := a) (b := b) (c := c) (e := e)
  have ho := h.ops
  have o1 := ho.1
  have ha : -2 ≤ a ∧ a ≤ 7 := by
    by_cases k3 : k ≤ 3
    · have := (h3 k3).1; unfold srcOK at this; omega
    · by_cases k4 : k = 4
      · have := h4 k4; omega
      · have := (h5 (by omega)).1; unfold srcOK at this; omega
  refine ⟨⟨by omega, fun i hi => ?_, fun i hi => ?_⟩, fun i hi => ?_, fun i hi => ?_, fun i hi => ?_, fun i hi => ?_, fun i hi => ?_, fun i hi => ?_, ?_, fun i hi => ?_, ?_, ?_, fun i hi => ?_⟩
  · unfold OpOK
    by_cases q : i = n
    · subst q
      rw [a1, a2, a3, a4, a5]
      exact ⟨hk.1, hk.2, h3, h4, h5⟩
    · rw [addM_ne (by omega), addM_ne (by omega), addM_ne (by omega), addM_ne (by omega), addM_ne (by omega)]; exact ho.2.1 i hi
  · rw [addM_ne (by omega)]; exact ho.2.2 i hi
  · rw [addM_ne (by omega)]; exact h.un i hi
  · rw [addM_ne (by omega)]; exact h.bz i hi
  · rw [addM_ne (by omega)]; exact h.cn i hi
  · by_cases q : i = n
    · subst q; rw [a6]; omega
    · rw [addM_ne (by omega)]; exact h.fi i hi
  · by_cases q : i = n
    · subst q; rw [a2, a4]; exact ⟨ha, hc⟩
    · rw [addM_ne (by omega), addM_ne (by omega)]; exact h.ab i hi
  · rw [addM_ne (by omega)]; exact h.sl i hi
  · rw [addM_ne (by omega)]; exact h.lo
  · rw [addM_ne (by omega), addM_ne (by omega), addM_ne (by omega), addM_ne (by omega)]; exact h.r48 i hi
  · rw [addM_ne (by omega)]; exact h.nd
  · rw [addM_ne (by omega)]; exact h.th
  · rw [addM_ne (by omega)]; exact h.pa i hi
theorem RefOK.up {m : MM} {A i : Nat} {x : Int} (h : RefOK m) (q : (A = 143 ∧ i = 1 ∧ 0 ≤ x ∧ x ≤ 8) ∨ (A = 149 ∧ -9999 ≤ x ∧ x ≤ 9999) ∨ (A = 150 ∧ 0 ≤ x ∧ x ≤ 2) ∨ (A = 151 ∧ 1 ≤ x ∧ x ≤ 6) ∨ (A = 152 ∧ 1 ≤ x ∧ x ≤ 15) ∨ (A = 153 ∧ 1 ≤ x ∧ x ≤ 3)) : RefOK (upm m A i x) := by
  have ho := h.ops
  refine ⟨⟨upm_rg (fun _ => by omega) (fun _ => ho.1), fun j hj => ?_, fun j hj => upm_rg (fun _ => by omega) (fun _ => ho.2.2 j hj)⟩, fun j hj => upm_rg (fun _ => by omega) (fun _ => h.un j hj), fun j hj => upm_rg (fun _ => by omega) (fun _ => h.bz j hj), fun j hj => upm_rg (fun _ => by omega) (fun _ => h.cn j hj), fun j hj => upm_rg (fun _ => by omega) (fun _ => h.fi j hj), fun j hj => ?_, fun j hj => ?_, ?_, fun j hj => ?_, ?_, ?_, fun j hj => ?_⟩
  · unfold OpOK
    rw [upm_ne (by omega), upm_ne (by omega), upm_ne (by omega), upm_ne (by omega), upm_ne (by omega)]; exact ho.2.1 j hj
  · rw [upm_ne (by omega), upm_ne (by omega)]; exact h.ab j hj
  · rw [upm_ne (by omega)]; exact h.sl j hj
  · rw [upm_ne (by omega)]; exact h.lo
  · rw [upm_ne (by omega), upm_ne (by omega), upm_ne (by omega), upm_ne (by omega)]; exact h.r48 j hj
  · rw [upm_ne (by omega)]; exact h.nd
  · rw [upm_ne (by omega)]; exact h.th
  · rw [upm_ne (by omega)]; exact h.pa j hj
end
section
/-! laid by wip/hand/tg.py: op and uses on both sides -/
def popI (x : Int) : Int := x % 2 + x / 2 % 2 + x / 4 % 2 + x / 8 % 2
def usN (f g : Nat → Int) (u : Int) : Nat → Int
  | 0 => 0
  | n + 1 => usN f g u n + if f n = u then popI (g n) else 0
theorem usN_eq {f g f2 g2 : Nat → Int} {u : Int} : ∀ n : Nat, (∀ o, o < n → f o = f2 o ∧ g o = g2 o) → usN f g u n = usN f2 g2 u n
  | 0, _ => rfl
  | n + 1, h => by
    unfold usN
    rw [usN_eq n (fun o ho => h o (by omega)), (h n (by omega)).1, (h n (by omega)).2]
def rUn (m : MM) (o : Nat) : Int := m 150 (m 144 o).toNat
def rBu (m : MM) (o : Nat) : Int := m 152 (m 144 o).toNat
def usR (m : MM) (u : Int) : Int := usN (rUn m) (rBu m) u (m 143 1).toNat
end
section
/-! laid by wip/hand/tg.py: isSound and need of the class, exactly -/
theorem f_10x {S : Nat × (Nat → Int32)} {n : Nat} {mem : MM} {K : Int → MM → Prop} {E : Nat → MM → Prop} (hI : ClS mem) (H : ∀ r m', ClS m' → Frm pNb mem m' → (r = 0 ∨ r = 1) → (r = 1 ↔ SndX m') → K r m') : CQI (Ex S (n + 14)) 10 [.inr 0] mem K E := by
  refine CY.of (k := 0) mt_10 rfl rfl (fun hv => ?_)
  have hC := Ex.mono S (n + 13)
  clear hv
  show Tx (Ex S (n + 13)) S M_10 (kI K E) 0 0 0 [some (.inr 0)] [] mem
  refine Tx.aload_n hC te_10_0 rfl ?_
  refine Tx.virtV hC te_10_1 mt_11 (args := [.inr 0]) (rest := []) (c' := 0) (s' := 0) rfl rfl rfl rfl rfl rfl rfl rfl rfl rfl ?_
  refine f_11 hI (fun m2 r1I hF3 => ?_)
  have hF3n : Frm pNb mem m2 := Frm.rf.tr hF3
  refine Tx.aload_n hC te_10_4 rfl ?_
  refine Tx.getI hC te_10_5 rfl rfl rfl (fun v4 v4e v4i => ?_)
  unfold InI at v4i
  have f5 := r1I.1.1.so
  exact Tx.bret hC te_10_8 rfl (by omega) (show K v4 m2 from H _ _ r1I.cs hF3n (by omega) (by rw [v4e]; exact r1I.1.2.2.2))
end
section
/-! laid by wip/hand/tg.py: fold and bestFold of the class -/
def buV (f g : Nat → Int) (k : Int) : Nat → Int
  | 0 => 0
  | u + 1 => max (buV f g k u) (upV (k * f u) (g u))
end
section
/-! laid by wip/hand/tg.py: rounds, bounds, counts of the class -/
def TalI (m0 m : MM) (l x : Int) : Prop := R64 m 14 ∧ m 14 0 = (if l < x then x - 1 else x) ∧ ∀ j : Nat, (j : Int) < m 14 0 → cwq m 14 j = cwq m0 9 (if (j : Int) < l then j else j + 1)
theorem TalI.step {m0 m m2 : MM} {l x a y : Int} (h : TalI m0 m l x) (hx : 0 ≤ x) (hl : 0 ≤ l) (ne : ¬ x = l) (ha : a = m 14 0) (hy : y = a + 1) (h0 : m2 14 0 = m 14 0) (hR : R64 m2 14) (e : cwq m2 14 a.toNat = cwq m0 9 x.toNat) (o : ∀ i, ¬ i = a.toNat → cwq m2 14 i = cwq m 14 i) : TalI m0 (upm m2 14 0 y) l (x + 1) := by
  have e0 := h.2.1
  refine ⟨R64.up0 hR, ?_, fun j hj => ?_⟩
  · rw [upm_eq, hy, ha, e0]
    split <;> split <;> omega
  · have ec : cwq (upm m2 14 0 y) 14 j = cwq m2 14 j := by
      unfold cwq
      rw [upm_ne (by omega), upm_ne (by omega), upm_ne (by omega), upm_ne (by omega)]
    rw [upm_eq] at hj
    rw [ec]
    by_cases q : j = a.toNat
    · rw [q, e]
      congr 1
      rw [e0] at ha
      split at ha <;> split <;> omega
    · rw [o j q]
      refine h.2.2 j ?_
      rw [e0] at ha ⊢
      split at ha <;> omega
def TalQ (m : MM) (l : Int) : Prop := m 14 0 = m 9 0 - 1 ∧ ∀ j : Nat, (j : Int) < m 14 0 → cwq m 14 j = cwq m 9 (if (j : Int) < l then j else j + 1)
theorem TalI.q {m0 m : MM} {l : Int} (h : TalI m0 m l (m0 9 0)) (hl : l < m0 9 0) (e : ∀ A i, 9 ≤ A → A ≤ 13 → m A i = m0 A i) : TalQ m l := by
  refine ⟨by rw [h.2.1, if_pos hl, e 9 0 (by omega) (by omega)], fun j hj => ?_⟩
  rw [h.2.2 j hj]
  unfold cwq
  rw [e (9 + 1) _ (by omega) (by omega), e (9 + 2) _ (by omega) (by omega), e (9 + 3) _ (by omega) (by omega), e (9 + 4) _ (by omega) (by omega)]
theorem TalQ.fr {m m' : MM} {l : Int} (h : TalQ m l) (e : ∀ A i, (9 ≤ A ∧ A ≤ 13) ∨ (A = 14 ∧ i = 0) ∨ (15 ≤ A ∧ A ≤ 18) → m' A i = m A i) : TalQ m' l := by
  refine ⟨by rw [e 14 0 (by omega), e 9 0 (by omega)]; exact h.1, fun j hj => ?_⟩
  rw [e 14 0 (by omega)] at hj
  have w := h.2 j hj
  unfold cwq at w ⊢
  rw [e (14 + 1) _ (by omega), e (14 + 2) _ (by omega), e (14 + 3) _ (by omega), e (14 + 4) _ (by omega), e (9 + 1) _ (by omega), e (9 + 2) _ (by omega), e (9 + 3) _ (by omega), e (9 + 4) _ (by omega)]
  exact w
end
section
/-! bounds and counts of the reference, exactly -/
theorem usR.fr {m m' : MM} (e : ∀ A i, (A = 143 ∧ i = 1) ∨ A = 144 ∨ A = 150 ∨ A = 152 ∨ A = 153 → m' A i = m A i) : usR m' = usR m := funext fun u => by
  unfold usR
  rw [e 143 1 (by omega)]
  exact usN_eq _ (fun o _ => ⟨by unfold rUn; rw [e 144 o (by omega), e 150 _ (by omega)], by unfold rBu; rw [e 144 o (by omega), e 152 _ (by omega)]⟩)
def byR (m : MM) : Int := buV (fun u => usR m (u : Int)) (m 153) 1 3
theorem byR.fr {m m' : MM} (e : ∀ A i, (A = 143 ∧ i = 1) ∨ A = 144 ∨ A = 150 ∨ A = 152 ∨ A = 153 → m' A i = m A i) : byR m' = byR m := by
  unfold byR
  rw [usR.fr e, show m' 153 = m 153 from funext fun i => e 153 i (by omega)]
section RB
variable {S : Nat × (Nat → Int32)} {n : Nat} {mem : MM} {K : Int → MM → Prop}
def NdRd (m m' : MM) (r : Int) : Prop := NdsOK m' ∧ Enum (rq m') (m' 143 12).toNat (NdF m) ∧ 0 ≤ r ∧ RdsM (NdE m') r
def OfN (m m' : MM) (x r : Int) : Prop := (¬ SoundM m ∧ r = -1) ∨ (SoundM m ∧ ∃ R, NdRd m m' R ∧ (x = 1 → r = m' 143 12) ∧ (x = 2 → r = R) ∧ (x = 3 → r = byR m) ∧ (x = 4 → r = max 1 (max R (byR m))))
theorem NdRd.th {m m' : MM} {z r : Int} (h : NdRd (upm m 143 0 z) m' r) : NdRd m m' r := h
theorem OfN.th {m m' : MM} {z x r : Int} (h : OfN (upm m 143 0 z) m' x r) : OfN m m' x r := by
  have eb : byR (upm m 143 0 z) = byR m := byR.fr (fun A i q => upm_ne (by omega))
  unfold OfN at h
  rw [eb] at h
  exact h
end RB
end
section
/-! laid by wip/hand/tg.py: far, height, bare of the class -/
theorem WyV.rg {E : Nat → Nat → Int → Prop} {k : Nat} {nn w : Int} {a b : Nat} (h : WyV E nn a b w) (hE : FwH E k) : w = nn ∨ (-801 ≤ w ∧ w ≤ 54) := by
  rcases h with ⟨e, -⟩ | ⟨-, ⟨p, g⟩, u⟩
  · exact Or.inl e
  · obtain ⟨p', v', g1, -, g3, g4⟩ := Wk.red hE.2.1 p a b w g
    have r := hE.rg g1 g3
    have := u _ _ g3
    have := hE.up g
    exact Or.inr (by omega)
end
section
/-! far, height, bare of the reference, exactly -/
theorem NoUp.mono {c : Nat → Q4} {n o : Nat} {r d : Int} (ho : o ≤ 8) (hV : EdV c n o) (h : NoUp (EdQ c n r)) (hr : r ≤ d) : NoUp (EdQ c n d) := by
  refine (rings_noup ho hV).mp (fun x hx => ?_)
  have w := (rings_noup ho hV).mpr h x hx
  have q := ring_dist hV hx
  have := Int.mul_le_mul_of_nonneg_right hr (show 0 ≤ x.2.1 by omega)
  omega
def NoM (m m' : MM) (d : Int) : Prop := ¬ SoundM m ∨ (SoundM m ∧ ∃ r, NdRd m m' r ∧ d < r)
section RFW
variable {S : Nat × (Nat → Int32)} {n : Nat} {mem : MM} {K : Int → MM → Prop} {d : Int}
theorem NoM.th {m m' : MM} {z : Int} (h : NoM m m' d) : NoM m (upm m' 143 0 z) d := h
end RFW
end
section
/-! slots of the reference, exactly -/
def RPb (m : MM) (d : Int) : Prb := ((m 143 1).toNat, rUn m, rBu m, fun u => m 153 u, d, EdQ (rq m) (m 143 12).toNat d)
theorem RPb.cg {m m' : MM} {d : Int} (h : ∀ A i, (A = 143 ∧ ¬ i = 0) ∨ (144 ≤ A ∧ A ≤ 157) → m' A i = m A i) : RPb m' d = RPb m d := by
  have e1 : rUn m' = rUn m := funext fun o => by
    unfold rUn
    rw [h 144 o (by omega), h 150 _ (by omega)]
  have e2 : rBu m' = rBu m := funext fun o => by
    unfold rBu
    rw [h 144 o (by omega), h 152 _ (by omega)]
  have e3 : (fun u => m' 153 u) = fun u => m 153 u := funext fun u => h 153 u (by omega)
  have e4 : rq m' = rq m := funext fun i => by
    unfold rq
    rw [h 154 i (by omega), h 155 i (by omega), h 156 i (by omega), h 157 i (by omega)]
  unfold RPb
  rw [e1, e2, e3, e4, h 143 1 (by omega), h 143 12 (by omega)]
def WaT (W : Nat → Nat → Int) (nn : Int) (s : Nat → Int) (d : Int) (k : Nat) (t : Nat → Int) : Prop := ∀ a b, a < k → b < k → ¬ W a b = nn → s a + d * t a + W a b ≤ s b + d * t b
theorem WaT.cg {W : Nat → Nat → Int} {nn : Int} {s s' : Nat → Int} {d : Int} {k : Nat} {t : Nat → Int} (h : WaT W nn s d k t) (e : ∀ o, o < k → s o = s' o) : WaT W nn s' d k t := fun a b ha hb w => by
  rw [← e a ha, ← e b hb]; exact h a b ha hb w
def HgW (W : Nat → Nat → Int) (nn : Int) (k : Nat) : Prop := ∃ φ : Nat → Int, (∀ b, 0 ≤ φ b ∧ φ b ≤ 42) ∧ ∀ a b, a < k → b < k → ¬ W a b = nn → φ a + W a b ≤ φ b
def WyW (m : MM) (d : Int) : Prop := (∀ a b, a < (m 143 1).toNat → b < (m 143 1).toNat → -5000 ≤ WM m 158 a b ∧ WM m 158 a b ≤ 5000) ∧ HgW (WM m 158) (-1000) (m 143 1).toNat ∧ (∀ a b x, (RPb m d).E a b x → (a < (m 143 1).toNat ∧ b < (m 143 1).toNat) ∧ ¬ WM m 158 a b = -1000 ∧ x ≤ WM m 158 a b) ∧ ∀ s t, TuP (RPb m d) s t → WaT (WM m 158) (-1000) s d (m 143 1).toNat t
theorem us_cg {p : Prb} {s s' : Nat → Int} {u k : Int} {j : Nat} (h : ∀ o, o < j → s o = s' o) : p.us s u k j = p.us s' u k j := usM_cg j (fun o ho _ => ⟨Iff.rfl, fun _ => h o ho⟩)
section RSL
variable {S : Nat × (Nat → Int32)} {n : Nat} {mem : MM} {d : Int}
def UsI (p : Prb) (m : MM) (j : Nat) : Prop := ∀ u k : Nat, u < 3 → k < 12 → m 159 (12 * u + k) = p.us (m 160) u k j
def FitI (p : Prb) (m : MM) (j : Nat) : Prop := ∀ u k : Int, 0 ≤ u → u < 3 → 0 ≤ k → k < p.d → p.us (m 160) u k j ≤ p.ct u.toNat
def LexI (p : Prb) (m : MM) (j : Nat) : Prop := ∀ v, Fsb p v → ∀ i, i < j → (∀ l, l < i → v l = m 160 l) → m 160 i ≤ v i
theorem UsI.cg {p : Prb} {m m' : MM} {j : Nat} (h : UsI p m j) (e1 : ∀ i, m' 159 i = m 159 i) (e2 : ∀ o, o < j → m' 160 o = m 160 o) : UsI p m' j := fun u k hu hk => by
  rw [e1, h u k hu hk]
  exact (us_cg e2).symm
theorem FitI.cg {p : Prb} {m m' : MM} {j : Nat} (h : FitI p m j) (e2 : ∀ o, o < j → m' 160 o = m 160 o) : FitI p m' j := fun u k a b c e => by
  rw [us_cg e2]; exact h u k a b c e
theorem LexI.cg {p : Prb} {m m' : MM} {j : Nat} (h : LexI p m j) (e2 : ∀ o, o < j → m' 160 o = m 160 o) : LexI p m' j := fun v hv i hi hl => by
  rw [e2 i hi]
  exact h v hv i hi (fun l h2 => by rw [← e2 l (by omega)]; exact hl l h2)
end RSL
end
section
/-! findsSlots, laysTimes, fitsBy of the reference, exactly -/
section RFT
variable {S : Nat × (Nat → Int32)} {n : Nat} {mem : MM} {d : Int}
theorem WyW.cg {m m' : MM} (h : WyW m d) (e : ∀ A i, (A = 143 ∧ ¬ i = 0) ∨ (144 ≤ A ∧ A ≤ 158) → m' A i = m A i) : WyW m' d := by
  have e1 : RPb m' d = RPb m d := RPb.cg (fun A i q => e A i (by omega))
  have e2 : WM m' 158 = WM m 158 := funext fun a => funext fun b => e 158 _ (by omega)
  unfold WyW
  rw [e1, e2, e 143 1 (by omega)]
  exact h
end RFT
end
