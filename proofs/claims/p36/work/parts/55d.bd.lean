/-! laid by wip/hand/tg.py: public methods that change the ops -/
/-- one op more -/
def putM (mem : MM) (n : Nat) (k a b c e : Int) : MM := upm (upm (upm (upm (upm (upm (upm mem 2 n k) 3 (4 * n) a) 3 (4 * n + 1) b) 3 (4 * n + 2) c) 3 (4 * n + 3) e) 4 n 0) 1 0 (mem 1 0 + 1)
theorem putM_ne {mem : MM} {n A i : Nat} {k a b c e : Int} (h : ¬ (A = 1 ∧ i = 0) ∧ ¬ (A = 2 ∧ i = n) ∧ ¬ (A = 3 ∧ 4 * n ≤ i ∧ i < 4 * n + 4) ∧ ¬ (A = 4 ∧ i = n)) : putM mem n k a b c e A i = mem A i := by
  unfold putM
  rw [upm_ne (by omega), upm_ne (by omega), upm_ne (by omega), upm_ne (by omega), upm_ne (by omega), upm_ne (by omega), upm_ne (by omega)]
theorem putM_at {mem : MM} {n : Nat} {k a b c e : Int} : putM mem n k a b c e 2 n = k ∧ putM mem n k a b c e 3 (4 * n) = a ∧ putM mem n k a b c e 3 (4 * n + 1) = b ∧ putM mem n k a b c e 3 (4 * n + 2) = c ∧ putM mem n k a b c e 3 (4 * n + 3) = e ∧ putM mem n k a b c e 4 n = 0 ∧ putM mem n k a b c e 1 0 = mem 1 0 + 1 := by
  unfold putM
  refine ⟨?_, ?_, ?_, ?_, ?_, ?_, upm_eq⟩
  · rw [upm_ne (by omega), upm_ne (by omega), upm_ne (by omega), upm_ne (by omega), upm_ne (by omega), upm_ne (by omega), upm_eq]
  · rw [upm_ne (by omega), upm_ne (by omega), upm_ne (by omega), upm_ne (by omega), upm_ne (by omega), upm_eq]
  · rw [upm_ne (by omega), upm_ne (by omega), upm_ne (by omega), upm_ne (by omega), upm_eq]
  · rw [upm_ne (by omega), upm_ne (by omega), upm_ne (by omega), upm_eq]
  · rw [upm_ne (by omega), upm_ne (by omega), upm_eq]
  · rw [upm_ne (by omega), upm_eq]
theorem putM_ok {mem : MM} {n : Nat} {k a b c e : Int} (hB : BodyOK mem) (h8 : mem 1 0 < 8) (hn : (n : Int) = mem 1 0) (hk : 0 ≤ k ∧ k ≤ 5) (h3 : k ≤ 3 → srcOK a b ∧ srcOK c e) (h4 : k = 4 → 0 ≤ a ∧ a ≤ 1 ∧ 0 ≤ b ∧ b ≤ 7) (h5 : k = 5 → srcOK a b ∧ 0 ≤ c ∧ c ≤ 1 ∧ 0 ≤ e ∧ e ≤ 7) : BodyOK (putM mem n k a b c e) := by
  obtain ⟨b1, b2, b3, b4, b5, b6⟩ := hB
  obtain ⟨g1, g2, g3, g4, g5, -, g7⟩ := putM_at (mem := mem) (n := n) (k := k) (a := a) (b := b) (c := c) (e := e)
  refine ⟨by omega, fun o ho => ?_, fun j hj => by rw [putM_ne (by omega)]; exact b3 j hj, fun j hj => by rw [putM_ne (by omega)]; exact b4 j hj, fun j hj => by rw [putM_ne (by omega)]; exact b5 j hj, fun j hj => by rw [putM_ne (by omega)]; exact b6 j hj⟩
  unfold BOp
  by_cases q : o = n
  · subst q
    rw [g1, g2, g3, g4, g5]
    exact ⟨hk, h3, h4, h5⟩
  · rw [putM_ne (by omega), putM_ne (by omega), putM_ne (by omega), putM_ne (by omega), putM_ne (by omega)]; exact b2 o ho
theorem BodyOK.sz {m : MM} {z : Int} (h : BodyOK m) (hz : 0 ≤ z ∧ z ≤ 8) : BodyOK (upm m 1 0 z) := by
  obtain ⟨b1, b2, b3, b4, b5, b6⟩ := h
  refine ⟨by rw [upm_eq]; exact hz, fun o ho => ?_, fun j hj => by rw [upm_ne (by omega)]; exact b3 j hj, fun j hj => by rw [upm_ne (by omega)]; exact b4 j hj, fun j hj => by rw [upm_ne (by omega)]; exact b5 j hj, fun j hj => by rw [upm_ne (by omega)]; exact b6 j hj⟩
  unfold BOp
  rw [upm_ne (by omega), upm_ne (by omega), upm_ne (by omega), upm_ne (by omega), upm_ne (by omega)]; exact b2 o ho
theorem BodyOK.up {m : MM} {A i : Nat} {x : Int} (h : BodyOK m) (q : (A = 5 ∧ 0 ≤ x ∧ x ≤ 2) ∨ (A = 6 ∧ 1 ≤ x ∧ x ≤ 6) ∨ (A = 7 ∧ 1 ≤ x ∧ x ≤ 15) ∨ (A = 8 ∧ 1 ≤ x ∧ x ≤ 3) ∨ A = 0) : BodyOK (upm m A i x) := by
  obtain ⟨b1, b2, b3, b4, b5, b6⟩ := h
  refine ⟨by rw [upm_ne (by omega)]; exact b1, fun o ho => ?_, fun j hj => upm_rg (fun z => by omega) (fun _ => b3 j hj), fun j hj => upm_rg (fun z => by omega) (fun _ => b4 j hj), fun j hj => upm_rg (fun z => by omega) (fun _ => b5 j hj), fun j hj => upm_rg (fun z => by omega) (fun _ => b6 j hj)⟩
  unfold BOp
  rw [upm_ne (by omega), upm_ne (by omega), upm_ne (by omega), upm_ne (by omega), upm_ne (by omega)]; exact b2 o ho
def pBp (A _i : Nat) : Prop := A = 2 ∨ A = 3 ∨ A = 4
set_option maxRecDepth 100000 in
theorem mt_44 : MT[44]? = some M_44 := rfl
set_option maxRecDepth 100000 in
theorem mt_46 : MT[46]? = some M_46 := rfl
set_option maxRecDepth 100000 in
theorem mt_47 : MT[47]? = some M_47 := rfl
set_option maxRecDepth 100000 in
theorem mt_49 : MT[49]? = some M_49 := rfl
set_option maxRecDepth 100000 in
theorem mt_52 : MT[52]? = some M_52 := rfl
set_option maxRecDepth 100000 in
theorem mt_54 : MT[54]? = some M_54 := rfl
set_option maxRecDepth 100000 in
theorem mt_56 : MT[56]? = some M_56 := rfl
set_option maxRecDepth 100000 in
theorem mt_59 : MT[59]? = some M_59 := rfl
set_option maxRecDepth 100000 in
theorem mt_62 : MT[62]? = some M_62 := rfl
theorem te_44_0 : (pT M_44).find? (fun e => e.1 == 0) = some (0, .iload_n 1, 0, 0) := rfl
theorem te_44_1 : (pT M_44).find? (fun e => e.1 == 1) = some (1, .ifCond .lt 26, 0, 0) := rfl
theorem te_44_4 : (pT M_44).find? (fun e => e.1 == 4) = some (4, .iload_n 1, 0, 0) := rfl
theorem te_44_5 : (pT M_44).find? (fun e => e.1 == 5) = some (5, .iconst 4, 0, 0) := rfl
theorem te_44_6 : (pT M_44).find? (fun e => e.1 == 6) = some (6, .if_icmp .ge 21, 0, 0) := rfl
theorem te_44_9 : (pT M_44).find? (fun e => e.1 == 9) = some (9, .iload_n 2, 0, 0) := rfl
theorem te_44_10 : (pT M_44).find? (fun e => e.1 == 10) = some (10, .iload_n 3, 0, 0) := rfl
theorem te_44_11 : (pT M_44).find? (fun e => e.1 == 11) = some (11, .invokestatic 79, 45, 2) := rfl
theorem te_44_14 : (pT M_44).find? (fun e => e.1 == 14) = some (14, .ifCond .eq 13, 0, 0) := rfl
theorem te_44_17 : (pT M_44).find? (fun e => e.1 == 17) = some (17, .iload 4, 0, 0) := rfl
theorem te_44_19 : (pT M_44).find? (fun e => e.1 == 19) = some (19, .iload 5, 0, 0) := rfl
theorem te_44_21 : (pT M_44).find? (fun e => e.1 == 21) = some (21, .invokestatic 79, 45, 2) := rfl
theorem te_44_24 : (pT M_44).find? (fun e => e.1 == 24) = some (24, .ifCond .ne 13, 0, 0) := rfl
theorem te_44_27 : (pT M_44).find? (fun e => e.1 == 27) = some (27, .new 83, 0, 1) := rfl
theorem te_44_37 : (pT M_44).find? (fun e => e.1 == 37) = some (37, .aload_n 0, 0, 0) := rfl
theorem te_44_38 : (pT M_44).find? (fun e => e.1 == 38) = some (38, .iload_n 1, 0, 0) := rfl
theorem te_44_39 : (pT M_44).find? (fun e => e.1 == 39) = some (39, .iload_n 2, 0, 0) := rfl
theorem te_44_40 : (pT M_44).find? (fun e => e.1 == 40) = some (40, .iload_n 3, 0, 0) := rfl
theorem te_44_41 : (pT M_44).find? (fun e => e.1 == 41) = some (41, .iload 4, 0, 0) := rfl
theorem te_44_43 : (pT M_44).find? (fun e => e.1 == 43) = some (43, .iload 5, 0, 0) := rfl
theorem te_44_45 : (pT M_44).find? (fun e => e.1 == 45) = some (45, .invokevirtual 90, 46, 0) := rfl
theorem te_44_48 : (pT M_44).find? (fun e => e.1 == 48) = some (48, .ireturn, 0, 0) := rfl
theorem te_46_0 : (pT M_46).find? (fun e => e.1 == 0) = some (0, .aload_n 0, 0, 0) := rfl
theorem te_46_1 : (pT M_46).find? (fun e => e.1 == 1) = some (1, .getfield 12, 9, 0) := rfl
theorem te_46_4 : (pT M_46).find? (fun e => e.1 == 4) = some (4, .getfield 101, 0, 0) := rfl
theorem te_46_7 : (pT M_46).find? (fun e => e.1 == 7) = some (7, .bipush 8, 0, 0) := rfl
theorem te_46_9 : (pT M_46).find? (fun e => e.1 == 9) = some (9, .if_icmp .lt 14, 0, 0) := rfl
theorem te_46_12 : (pT M_46).find? (fun e => e.1 == 12) = some (12, .new 105, 19, 1) := rfl
theorem te_46_23 : (pT M_46).find? (fun e => e.1 == 23) = some (23, .aload_n 0, 0, 0) := rfl
theorem te_46_24 : (pT M_46).find? (fun e => e.1 == 24) = some (24, .getfield 12, 9, 0) := rfl
theorem te_46_27 : (pT M_46).find? (fun e => e.1 == 27) = some (27, .iload_n 1, 0, 0) := rfl
theorem te_46_28 : (pT M_46).find? (fun e => e.1 == 28) = some (28, .iload_n 2, 0, 0) := rfl
theorem te_46_29 : (pT M_46).find? (fun e => e.1 == 29) = some (29, .iload_n 3, 0, 0) := rfl
theorem te_46_30 : (pT M_46).find? (fun e => e.1 == 30) = some (30, .iload 4, 0, 0) := rfl
theorem te_46_32 : (pT M_46).find? (fun e => e.1 == 32) = some (32, .iload 5, 0, 0) := rfl
theorem te_46_34 : (pT M_46).find? (fun e => e.1 == 34) = some (34, .invokevirtual 389, 47, 1) := rfl
theorem te_46_37 : (pT M_46).find? (fun e => e.1 == 37) = some (37, .aload_n 0, 0, 0) := rfl
theorem te_46_38 : (pT M_46).find? (fun e => e.1 == 38) = some (38, .iconst 1, 0, 0) := rfl
theorem te_46_39 : (pT M_46).find? (fun e => e.1 == 39) = some (39, .putfield 75, 9, 11) := rfl
theorem te_46_42 : (pT M_46).find? (fun e => e.1 == 42) = some (42, .aload_n 0, 0, 0) := rfl
theorem te_46_43 : (pT M_46).find? (fun e => e.1 == 43) = some (43, .getfield 12, 9, 0) := rfl
theorem te_46_46 : (pT M_46).find? (fun e => e.1 == 46) = some (46, .getfield 101, 0, 0) := rfl
theorem te_46_49 : (pT M_46).find? (fun e => e.1 == 49) = some (49, .iconst 1, 0, 0) := rfl
theorem te_46_50 : (pT M_46).find? (fun e => e.1 == 50) = some (50, .isub, 0, 0) := rfl
theorem te_46_51 : (pT M_46).find? (fun e => e.1 == 51) = some (51, .ireturn, 0, 0) := rfl
theorem te_47_0 : (pT M_47).find? (fun e => e.1 == 0) = some (0, .aload_n 0, 0, 0) := rfl
theorem te_47_1 : (pT M_47).find? (fun e => e.1 == 1) = some (1, .getfield 9, 0, 1) := rfl
theorem te_47_4 : (pT M_47).find? (fun e => e.1 == 4) = some (4, .aload_n 0, 0, 0) := rfl
theorem te_47_5 : (pT M_47).find? (fun e => e.1 == 5) = some (5, .getfield 33, 0, 0) := rfl
theorem te_47_8 : (pT M_47).find? (fun e => e.1 == 8) = some (8, .iload_n 1, 0, 0) := rfl
theorem te_47_9 : (pT M_47).find? (fun e => e.1 == 9) = some (9, .iastore, 0, 0) := rfl
theorem te_47_10 : (pT M_47).find? (fun e => e.1 == 10) = some (10, .aload_n 0, 0, 0) := rfl
theorem te_47_11 : (pT M_47).find? (fun e => e.1 == 11) = some (11, .getfield 15, 0, 2) := rfl
theorem te_47_14 : (pT M_47).find? (fun e => e.1 == 14) = some (14, .aload_n 0, 0, 0) := rfl
theorem te_47_15 : (pT M_47).find? (fun e => e.1 == 15) = some (15, .getfield 33, 0, 0) := rfl
theorem te_47_18 : (pT M_47).find? (fun e => e.1 == 18) = some (18, .iconst 4, 0, 0) := rfl
theorem te_47_19 : (pT M_47).find? (fun e => e.1 == 19) = some (19, .imul, 0, 0) := rfl
theorem te_47_20 : (pT M_47).find? (fun e => e.1 == 20) = some (20, .iload_n 2, 0, 0) := rfl
theorem te_47_21 : (pT M_47).find? (fun e => e.1 == 21) = some (21, .iastore, 0, 0) := rfl
theorem te_47_22 : (pT M_47).find? (fun e => e.1 == 22) = some (22, .aload_n 0, 0, 0) := rfl
theorem te_47_23 : (pT M_47).find? (fun e => e.1 == 23) = some (23, .getfield 15, 0, 2) := rfl
theorem te_47_26 : (pT M_47).find? (fun e => e.1 == 26) = some (26, .aload_n 0, 0, 0) := rfl
theorem te_47_27 : (pT M_47).find? (fun e => e.1 == 27) = some (27, .getfield 33, 0, 0) := rfl
theorem te_47_30 : (pT M_47).find? (fun e => e.1 == 30) = some (30, .iconst 4, 0, 0) := rfl
theorem te_47_31 : (pT M_47).find? (fun e => e.1 == 31) = some (31, .imul, 0, 0) := rfl
theorem te_47_32 : (pT M_47).find? (fun e => e.1 == 32) = some (32, .iconst 1, 0, 0) := rfl
theorem te_47_33 : (pT M_47).find? (fun e => e.1 == 33) = some (33, .iadd, 0, 0) := rfl
theorem te_47_34 : (pT M_47).find? (fun e => e.1 == 34) = some (34, .iload_n 3, 0, 0) := rfl
theorem te_47_35 : (pT M_47).find? (fun e => e.1 == 35) = some (35, .iastore, 0, 0) := rfl
theorem te_47_36 : (pT M_47).find? (fun e => e.1 == 36) = some (36, .aload_n 0, 0, 0) := rfl
theorem te_47_37 : (pT M_47).find? (fun e => e.1 == 37) = some (37, .getfield 15, 0, 2) := rfl
theorem te_47_40 : (pT M_47).find? (fun e => e.1 == 40) = some (40, .aload_n 0, 0, 0) := rfl
theorem te_47_41 : (pT M_47).find? (fun e => e.1 == 41) = some (41, .getfield 33, 0, 0) := rfl
theorem te_47_44 : (pT M_47).find? (fun e => e.1 == 44) = some (44, .iconst 4, 0, 0) := rfl
theorem te_47_45 : (pT M_47).find? (fun e => e.1 == 45) = some (45, .imul, 0, 0) := rfl
theorem te_47_46 : (pT M_47).find? (fun e => e.1 == 46) = some (46, .iconst 2, 0, 0) := rfl
theorem te_47_47 : (pT M_47).find? (fun e => e.1 == 47) = some (47, .iadd, 0, 0) := rfl
theorem te_47_48 : (pT M_47).find? (fun e => e.1 == 48) = some (48, .iload 4, 0, 0) := rfl
theorem te_47_50 : (pT M_47).find? (fun e => e.1 == 50) = some (50, .iastore, 0, 0) := rfl
theorem te_47_51 : (pT M_47).find? (fun e => e.1 == 51) = some (51, .aload_n 0, 0, 0) := rfl
theorem te_47_52 : (pT M_47).find? (fun e => e.1 == 52) = some (52, .getfield 15, 0, 2) := rfl
theorem te_47_55 : (pT M_47).find? (fun e => e.1 == 55) = some (55, .aload_n 0, 0, 0) := rfl
theorem te_47_56 : (pT M_47).find? (fun e => e.1 == 56) = some (56, .getfield 33, 0, 0) := rfl
theorem te_47_59 : (pT M_47).find? (fun e => e.1 == 59) = some (59, .iconst 4, 0, 0) := rfl
theorem te_47_60 : (pT M_47).find? (fun e => e.1 == 60) = some (60, .imul, 0, 0) := rfl
theorem te_47_61 : (pT M_47).find? (fun e => e.1 == 61) = some (61, .iconst 3, 0, 0) := rfl
theorem te_47_62 : (pT M_47).find? (fun e => e.1 == 62) = some (62, .iadd, 0, 0) := rfl
theorem te_47_63 : (pT M_47).find? (fun e => e.1 == 63) = some (63, .iload 5, 0, 0) := rfl
theorem te_47_65 : (pT M_47).find? (fun e => e.1 == 65) = some (65, .iastore, 0, 0) := rfl
theorem te_47_66 : (pT M_47).find? (fun e => e.1 == 66) = some (66, .aload_n 0, 0, 0) := rfl
theorem te_47_67 : (pT M_47).find? (fun e => e.1 == 67) = some (67, .getfield 18, 0, 3) := rfl
theorem te_47_70 : (pT M_47).find? (fun e => e.1 == 70) = some (70, .aload_n 0, 0, 0) := rfl
theorem te_47_71 : (pT M_47).find? (fun e => e.1 == 71) = some (71, .getfield 33, 0, 0) := rfl
theorem te_47_74 : (pT M_47).find? (fun e => e.1 == 74) = some (74, .iconst 0, 0, 0) := rfl
theorem te_47_75 : (pT M_47).find? (fun e => e.1 == 75) = some (75, .iastore, 0, 0) := rfl
theorem te_47_76 : (pT M_47).find? (fun e => e.1 == 76) = some (76, .aload_n 0, 0, 0) := rfl
theorem te_47_77 : (pT M_47).find? (fun e => e.1 == 77) = some (77, .dup, 0, 0) := rfl
theorem te_47_78 : (pT M_47).find? (fun e => e.1 == 78) = some (78, .getfield 33, 0, 0) := rfl
theorem te_47_81 : (pT M_47).find? (fun e => e.1 == 81) = some (81, .iconst 1, 0, 0) := rfl
theorem te_47_82 : (pT M_47).find? (fun e => e.1 == 82) = some (82, .iadd, 0, 0) := rfl
theorem te_47_83 : (pT M_47).find? (fun e => e.1 == 83) = some (83, .putfield 33, 0, 0) := rfl
theorem te_47_86 : (pT M_47).find? (fun e => e.1 == 86) = some (86, .return_, 0, 0) := rfl
theorem te_49_0 : (pT M_49).find? (fun e => e.1 == 0) = some (0, .iload_n 1, 0, 0) := rfl
theorem te_49_1 : (pT M_49).find? (fun e => e.1 == 1) = some (1, .iload_n 2, 0, 0) := rfl
theorem te_49_2 : (pT M_49).find? (fun e => e.1 == 2) = some (2, .invokestatic 94, 50, 2) := rfl
theorem te_49_5 : (pT M_49).find? (fun e => e.1 == 5) = some (5, .ifCond .ne 13, 0, 0) := rfl
theorem te_49_8 : (pT M_49).find? (fun e => e.1 == 8) = some (8, .new 83, 1, 1) := rfl
theorem te_49_18 : (pT M_49).find? (fun e => e.1 == 18) = some (18, .aload_n 0, 0, 0) := rfl
theorem te_49_19 : (pT M_49).find? (fun e => e.1 == 19) = some (19, .iconst 4, 0, 0) := rfl
theorem te_49_20 : (pT M_49).find? (fun e => e.1 == 20) = some (20, .iload_n 1, 0, 0) := rfl
theorem te_49_21 : (pT M_49).find? (fun e => e.1 == 21) = some (21, .iload_n 2, 0, 0) := rfl
theorem te_49_22 : (pT M_49).find? (fun e => e.1 == 22) = some (22, .iconst 0, 0, 0) := rfl
theorem te_49_23 : (pT M_49).find? (fun e => e.1 == 23) = some (23, .iconst 0, 0, 0) := rfl
theorem te_49_24 : (pT M_49).find? (fun e => e.1 == 24) = some (24, .invokevirtual 90, 46, 0) := rfl
theorem te_49_27 : (pT M_49).find? (fun e => e.1 == 27) = some (27, .ireturn, 0, 0) := rfl
theorem te_52_0 : (pT M_52).find? (fun e => e.1 == 0) = some (0, .iload_n 1, 0, 0) := rfl
theorem te_52_1 : (pT M_52).find? (fun e => e.1 == 1) = some (1, .iload_n 2, 0, 0) := rfl
theorem te_52_2 : (pT M_52).find? (fun e => e.1 == 2) = some (2, .invokestatic 79, 45, 2) := rfl
theorem te_52_5 : (pT M_52).find? (fun e => e.1 == 5) = some (5, .ifCond .eq 12, 0, 0) := rfl
theorem te_52_8 : (pT M_52).find? (fun e => e.1 == 8) = some (8, .iload_n 3, 0, 0) := rfl
theorem te_52_9 : (pT M_52).find? (fun e => e.1 == 9) = some (9, .iload 4, 0, 0) := rfl
theorem te_52_11 : (pT M_52).find? (fun e => e.1 == 11) = some (11, .invokestatic 94, 50, 2) := rfl
theorem te_52_14 : (pT M_52).find? (fun e => e.1 == 14) = some (14, .ifCond .ne 13, 0, 0) := rfl
theorem te_52_17 : (pT M_52).find? (fun e => e.1 == 17) = some (17, .new 83, 2, 1) := rfl
theorem te_52_27 : (pT M_52).find? (fun e => e.1 == 27) = some (27, .aload_n 0, 0, 0) := rfl
theorem te_52_28 : (pT M_52).find? (fun e => e.1 == 28) = some (28, .iconst 5, 0, 0) := rfl
theorem te_52_29 : (pT M_52).find? (fun e => e.1 == 29) = some (29, .iload_n 1, 0, 0) := rfl
theorem te_52_30 : (pT M_52).find? (fun e => e.1 == 30) = some (30, .iload_n 2, 0, 0) := rfl
theorem te_52_31 : (pT M_52).find? (fun e => e.1 == 31) = some (31, .iload_n 3, 0, 0) := rfl
theorem te_52_32 : (pT M_52).find? (fun e => e.1 == 32) = some (32, .iload 4, 0, 0) := rfl
theorem te_52_34 : (pT M_52).find? (fun e => e.1 == 34) = some (34, .invokevirtual 90, 46, 0) := rfl
theorem te_52_37 : (pT M_52).find? (fun e => e.1 == 37) = some (37, .ireturn, 0, 0) := rfl
theorem te_54_0 : (pT M_54).find? (fun e => e.1 == 0) = some (0, .aload_n 0, 0, 0) := rfl
theorem te_54_1 : (pT M_54).find? (fun e => e.1 == 1) = some (1, .getfield 12, 9, 0) := rfl
theorem te_54_4 : (pT M_54).find? (fun e => e.1 == 4) = some (4, .getfield 101, 0, 0) := rfl
theorem te_54_7 : (pT M_54).find? (fun e => e.1 == 7) = some (7, .ifCond .ne 13, 0, 0) := rfl
theorem te_54_10 : (pT M_54).find? (fun e => e.1 == 10) = some (10, .new 105, 17, 1) := rfl
theorem te_54_20 : (pT M_54).find? (fun e => e.1 == 20) = some (20, .aload_n 0, 0, 0) := rfl
theorem te_54_21 : (pT M_54).find? (fun e => e.1 == 21) = some (21, .getfield 12, 9, 0) := rfl
theorem te_54_24 : (pT M_54).find? (fun e => e.1 == 24) = some (24, .dup, 0, 0) := rfl
theorem te_54_25 : (pT M_54).find? (fun e => e.1 == 25) = some (25, .getfield 101, 0, 0) := rfl
theorem te_54_28 : (pT M_54).find? (fun e => e.1 == 28) = some (28, .iconst 1, 0, 0) := rfl
theorem te_54_29 : (pT M_54).find? (fun e => e.1 == 29) = some (29, .isub, 0, 0) := rfl
theorem te_54_30 : (pT M_54).find? (fun e => e.1 == 30) = some (30, .putfield 101, 0, 0) := rfl
theorem te_54_33 : (pT M_54).find? (fun e => e.1 == 33) = some (33, .aload_n 0, 0, 0) := rfl
theorem te_54_34 : (pT M_54).find? (fun e => e.1 == 34) = some (34, .iconst 1, 0, 0) := rfl
theorem te_54_35 : (pT M_54).find? (fun e => e.1 == 35) = some (35, .putfield 75, 9, 11) := rfl
theorem te_54_38 : (pT M_54).find? (fun e => e.1 == 38) = some (38, .aload_n 0, 0, 0) := rfl
theorem te_54_39 : (pT M_54).find? (fun e => e.1 == 39) = some (39, .getfield 12, 9, 0) := rfl
theorem te_54_42 : (pT M_54).find? (fun e => e.1 == 42) = some (42, .getfield 101, 0, 0) := rfl
theorem te_54_45 : (pT M_54).find? (fun e => e.1 == 45) = some (45, .ireturn, 0, 0) := rfl
theorem te_56_0 : (pT M_56).find? (fun e => e.1 == 0) = some (0, .aload_n 0, 0, 0) := rfl
theorem te_56_1 : (pT M_56).find? (fun e => e.1 == 1) = some (1, .iload_n 1, 0, 0) := rfl
theorem te_56_2 : (pT M_56).find? (fun e => e.1 == 2) = some (2, .invokevirtual 110, 57, 0) := rfl
theorem te_56_5 : (pT M_56).find? (fun e => e.1 == 5) = some (5, .iload_n 2, 0, 0) := rfl
theorem te_56_6 : (pT M_56).find? (fun e => e.1 == 6) = some (6, .sipush (-9999), 0, 0) := rfl
theorem te_56_9 : (pT M_56).find? (fun e => e.1 == 9) = some (9, .if_icmp .lt 10, 0, 0) := rfl
theorem te_56_12 : (pT M_56).find? (fun e => e.1 == 12) = some (12, .iload_n 2, 0, 0) := rfl
theorem te_56_13 : (pT M_56).find? (fun e => e.1 == 13) = some (13, .sipush 9999, 0, 0) := rfl
theorem te_56_16 : (pT M_56).find? (fun e => e.1 == 16) = some (16, .if_icmp .le 13, 0, 0) := rfl
theorem te_56_19 : (pT M_56).find? (fun e => e.1 == 19) = some (19, .new 83, 3, 1) := rfl
theorem te_56_29 : (pT M_56).find? (fun e => e.1 == 29) = some (29, .aload_n 0, 0, 0) := rfl
theorem te_56_30 : (pT M_56).find? (fun e => e.1 == 30) = some (30, .getfield 12, 9, 0) := rfl
theorem te_56_33 : (pT M_56).find? (fun e => e.1 == 33) = some (33, .getfield 116, 0, 3) := rfl
theorem te_56_36 : (pT M_56).find? (fun e => e.1 == 36) = some (36, .iload_n 1, 0, 0) := rfl
theorem te_56_37 : (pT M_56).find? (fun e => e.1 == 37) = some (37, .iaload, 0, 0) := rfl
theorem te_56_38 : (pT M_56).find? (fun e => e.1 == 38) = some (38, .istore_n 3, 0, 0) := rfl
theorem te_56_39 : (pT M_56).find? (fun e => e.1 == 39) = some (39, .aload_n 0, 0, 0) := rfl
theorem te_56_40 : (pT M_56).find? (fun e => e.1 == 40) = some (40, .getfield 12, 9, 0) := rfl
theorem te_56_43 : (pT M_56).find? (fun e => e.1 == 43) = some (43, .getfield 116, 0, 3) := rfl
theorem te_56_46 : (pT M_56).find? (fun e => e.1 == 46) = some (46, .iload_n 1, 0, 0) := rfl
theorem te_56_47 : (pT M_56).find? (fun e => e.1 == 47) = some (47, .iload_n 2, 0, 0) := rfl
theorem te_56_48 : (pT M_56).find? (fun e => e.1 == 48) = some (48, .iastore, 0, 0) := rfl
theorem te_56_49 : (pT M_56).find? (fun e => e.1 == 49) = some (49, .iload_n 3, 0, 0) := rfl
theorem te_56_50 : (pT M_56).find? (fun e => e.1 == 50) = some (50, .ireturn, 0, 0) := rfl
theorem te_59_0 : (pT M_59).find? (fun e => e.1 == 0) = some (0, .aload_n 0, 0, 0) := rfl
theorem te_59_1 : (pT M_59).find? (fun e => e.1 == 1) = some (1, .iload_n 1, 0, 0) := rfl
theorem te_59_2 : (pT M_59).find? (fun e => e.1 == 2) = some (2, .invokevirtual 120, 60, 0) := rfl
theorem te_59_5 : (pT M_59).find? (fun e => e.1 == 5) = some (5, .iload_n 2, 0, 0) := rfl
theorem te_59_6 : (pT M_59).find? (fun e => e.1 == 6) = some (6, .ifCond .lt 23, 0, 0) := rfl
theorem te_59_9 : (pT M_59).find? (fun e => e.1 == 9) = some (9, .iload_n 2, 0, 0) := rfl
theorem te_59_10 : (pT M_59).find? (fun e => e.1 == 10) = some (10, .iconst 3, 0, 0) := rfl
theorem te_59_11 : (pT M_59).find? (fun e => e.1 == 11) = some (11, .if_icmp .ge 18, 0, 0) := rfl
theorem te_59_14 : (pT M_59).find? (fun e => e.1 == 14) = some (14, .iload_n 3, 0, 0) := rfl
theorem te_59_15 : (pT M_59).find? (fun e => e.1 == 15) = some (15, .iconst 1, 0, 0) := rfl
theorem te_59_16 : (pT M_59).find? (fun e => e.1 == 16) = some (16, .if_icmp .lt 13, 0, 0) := rfl
theorem te_59_19 : (pT M_59).find? (fun e => e.1 == 19) = some (19, .iload_n 3, 0, 0) := rfl
theorem te_59_20 : (pT M_59).find? (fun e => e.1 == 20) = some (20, .bipush 6, 0, 0) := rfl
theorem te_59_22 : (pT M_59).find? (fun e => e.1 == 22) = some (22, .if_icmp .gt 7, 0, 0) := rfl
theorem te_59_25 : (pT M_59).find? (fun e => e.1 == 25) = some (25, .iconst 1, 0, 0) := rfl
theorem te_59_26 : (pT M_59).find? (fun e => e.1 == 26) = some (26, .goto 4, 0, 0) := rfl
theorem te_59_29 : (pT M_59).find? (fun e => e.1 == 29) = some (29, .iconst 0, 0, 0) := rfl
theorem te_59_30 : (pT M_59).find? (fun e => e.1 == 30) = some (30, .istore 5, 0, 0) := rfl
theorem te_59_32 : (pT M_59).find? (fun e => e.1 == 32) = some (32, .iload 5, 0, 0) := rfl
theorem te_59_34 : (pT M_59).find? (fun e => e.1 == 34) = some (34, .ifCond .eq 16, 0, 0) := rfl
theorem te_59_37 : (pT M_59).find? (fun e => e.1 == 37) = some (37, .iload 4, 0, 0) := rfl
theorem te_59_39 : (pT M_59).find? (fun e => e.1 == 39) = some (39, .iconst 1, 0, 0) := rfl
theorem te_59_40 : (pT M_59).find? (fun e => e.1 == 40) = some (40, .if_icmp .lt 10, 0, 0) := rfl
theorem te_59_43 : (pT M_59).find? (fun e => e.1 == 43) = some (43, .iload 4, 0, 0) := rfl
theorem te_59_45 : (pT M_59).find? (fun e => e.1 == 45) = some (45, .bipush 15, 0, 0) := rfl
theorem te_59_47 : (pT M_59).find? (fun e => e.1 == 47) = some (47, .if_icmp .le 13, 0, 0) := rfl
theorem te_59_50 : (pT M_59).find? (fun e => e.1 == 50) = some (50, .new 83, 4, 1) := rfl
theorem te_59_60 : (pT M_59).find? (fun e => e.1 == 60) = some (60, .aload_n 0, 0, 0) := rfl
theorem te_59_61 : (pT M_59).find? (fun e => e.1 == 61) = some (61, .getfield 12, 9, 0) := rfl
theorem te_59_64 : (pT M_59).find? (fun e => e.1 == 64) = some (64, .getfield 125, 0, 4) := rfl
theorem te_59_67 : (pT M_59).find? (fun e => e.1 == 67) = some (67, .iload_n 1, 0, 0) := rfl
theorem te_59_68 : (pT M_59).find? (fun e => e.1 == 68) = some (68, .iload_n 2, 0, 0) := rfl
theorem te_59_69 : (pT M_59).find? (fun e => e.1 == 69) = some (69, .iastore, 0, 0) := rfl
theorem te_59_70 : (pT M_59).find? (fun e => e.1 == 70) = some (70, .aload_n 0, 0, 0) := rfl
theorem te_59_71 : (pT M_59).find? (fun e => e.1 == 71) = some (71, .getfield 12, 9, 0) := rfl
theorem te_59_74 : (pT M_59).find? (fun e => e.1 == 74) = some (74, .getfield 128, 0, 5) := rfl
theorem te_59_77 : (pT M_59).find? (fun e => e.1 == 77) = some (77, .iload_n 1, 0, 0) := rfl
theorem te_59_78 : (pT M_59).find? (fun e => e.1 == 78) = some (78, .iload_n 3, 0, 0) := rfl
theorem te_59_79 : (pT M_59).find? (fun e => e.1 == 79) = some (79, .iastore, 0, 0) := rfl
theorem te_59_80 : (pT M_59).find? (fun e => e.1 == 80) = some (80, .aload_n 0, 0, 0) := rfl
theorem te_59_81 : (pT M_59).find? (fun e => e.1 == 81) = some (81, .getfield 12, 9, 0) := rfl
theorem te_59_84 : (pT M_59).find? (fun e => e.1 == 84) = some (84, .getfield 131, 0, 6) := rfl
theorem te_59_87 : (pT M_59).find? (fun e => e.1 == 87) = some (87, .iload_n 1, 0, 0) := rfl
theorem te_59_88 : (pT M_59).find? (fun e => e.1 == 88) = some (88, .iload 4, 0, 0) := rfl
theorem te_59_90 : (pT M_59).find? (fun e => e.1 == 90) = some (90, .iastore, 0, 0) := rfl
theorem te_59_91 : (pT M_59).find? (fun e => e.1 == 91) = some (91, .aload_n 0, 0, 0) := rfl
theorem te_59_92 : (pT M_59).find? (fun e => e.1 == 92) = some (92, .iconst 1, 0, 0) := rfl
theorem te_59_93 : (pT M_59).find? (fun e => e.1 == 93) = some (93, .putfield 75, 9, 11) := rfl
theorem te_59_96 : (pT M_59).find? (fun e => e.1 == 96) = some (96, .return_, 0, 0) := rfl
theorem te_62_0 : (pT M_62).find? (fun e => e.1 == 0) = some (0, .aload_n 0, 0, 0) := rfl
theorem te_62_1 : (pT M_62).find? (fun e => e.1 == 1) = some (1, .iload_n 1, 0, 0) := rfl
theorem te_62_2 : (pT M_62).find? (fun e => e.1 == 2) = some (2, .invokevirtual 134, 63, 0) := rfl
theorem te_62_5 : (pT M_62).find? (fun e => e.1 == 5) = some (5, .iload_n 2, 0, 0) := rfl
theorem te_62_6 : (pT M_62).find? (fun e => e.1 == 6) = some (6, .iconst 1, 0, 0) := rfl
theorem te_62_7 : (pT M_62).find? (fun e => e.1 == 7) = some (7, .if_icmp .lt 8, 0, 0) := rfl
theorem te_62_10 : (pT M_62).find? (fun e => e.1 == 10) = some (10, .iload_n 2, 0, 0) := rfl
theorem te_62_11 : (pT M_62).find? (fun e => e.1 == 11) = some (11, .iconst 3, 0, 0) := rfl
theorem te_62_12 : (pT M_62).find? (fun e => e.1 == 12) = some (12, .if_icmp .le 13, 0, 0) := rfl
theorem te_62_15 : (pT M_62).find? (fun e => e.1 == 15) = some (15, .new 83, 5, 1) := rfl
theorem te_62_25 : (pT M_62).find? (fun e => e.1 == 25) = some (25, .aload_n 0, 0, 0) := rfl
theorem te_62_26 : (pT M_62).find? (fun e => e.1 == 26) = some (26, .getfield 12, 9, 0) := rfl
theorem te_62_29 : (pT M_62).find? (fun e => e.1 == 29) = some (29, .getfield 139, 0, 7) := rfl
theorem te_62_32 : (pT M_62).find? (fun e => e.1 == 32) = some (32, .iload_n 1, 0, 0) := rfl
theorem te_62_33 : (pT M_62).find? (fun e => e.1 == 33) = some (33, .iaload, 0, 0) := rfl
theorem te_62_34 : (pT M_62).find? (fun e => e.1 == 34) = some (34, .istore_n 3, 0, 0) := rfl
theorem te_62_35 : (pT M_62).find? (fun e => e.1 == 35) = some (35, .aload_n 0, 0, 0) := rfl
theorem te_62_36 : (pT M_62).find? (fun e => e.1 == 36) = some (36, .getfield 12, 9, 0) := rfl
theorem te_62_39 : (pT M_62).find? (fun e => e.1 == 39) = some (39, .getfield 139, 0, 7) := rfl
theorem te_62_42 : (pT M_62).find? (fun e => e.1 == 42) = some (42, .iload_n 1, 0, 0) := rfl
theorem te_62_43 : (pT M_62).find? (fun e => e.1 == 43) = some (43, .iload_n 2, 0, 0) := rfl
theorem te_62_44 : (pT M_62).find? (fun e => e.1 == 44) = some (44, .iastore, 0, 0) := rfl
theorem te_62_45 : (pT M_62).find? (fun e => e.1 == 45) = some (45, .aload_n 0, 0, 0) := rfl
theorem te_62_46 : (pT M_62).find? (fun e => e.1 == 46) = some (46, .iconst 1, 0, 0) := rfl
theorem te_62_47 : (pT M_62).find? (fun e => e.1 == 47) = some (47, .putfield 75, 9, 11) := rfl
theorem te_62_50 : (pT M_62).find? (fun e => e.1 == 50) = some (50, .iload_n 3, 0, 0) := rfl
theorem te_62_51 : (pT M_62).find? (fun e => e.1 == 51) = some (51, .ireturn, 0, 0) := rfl
theorem f_60n {S : Nat × (Nat → Int32)} {n : Nat} {mem : MM} {K : MM → Prop} {E : Nat → MM → Prop} {o : Int} (H : 0 ≤ o → o < 6 → K mem) (HE : ¬ (0 ≤ o ∧ o < 6) → E 2 mem) : CQV (Ex S (n + 1)) 60 [.inr 0, .inl o] mem K E := by
  refine CY.of (k := 0) mt_60 rfl rfl (fun hv => ?_)
  have hC := Ex.mono S n
  have ii_o : InI o := hv (.inl o) (by simp)
  unfold InI at ii_o
  clear hv
  show Tx (Ex S n) S M_60 (kV K E) 0 0 0 [some (.inr 0), some (.inl o)] [] mem
  refine Tx.iload_n hC te_60_0 rfl ?_
  refine Tx.ifc hC (t := 10) te_60_1 (by decide) (fun q1 => ?_) (fun q1 => ?_)
  · replace q1 : (o : Int) < 0 := q1
    exact Tx.thr hC te_60_10 rfl rfl rfl rfl rfl (show E 2 mem from HE (by omega))
  · replace q1 : ¬ ((o : Int) < 0) := q1
    refine Tx.iload_n hC te_60_4 rfl ?_
    refine Tx.bipush hC te_60_5 rfl rfl ?_
    refine Tx.icmp hC (t := 21) te_60_7 (by decide) (fun q2 => ?_) (fun q2 => ?_)
    · replace q2 : (o : Int) < 6 := q2
      exact Tx.vret hC te_60_21 rfl (show K mem from H (by omega) (by omega))
    · replace q2 : ¬ ((o : Int) < 6) := q2
      exact Tx.thr hC te_60_10 rfl rfl rfl rfl rfl (show E 2 mem from HE (by omega))
theorem f_47 {S : Nat × (Nat → Int32)} {n : Nat} {mem : MM} {K : MM → Prop} {E : Nat → MM → Prop} {k a b c e : Int} (hs : 0 ≤ mem 1 0 ∧ mem 1 0 < 8) (H : K (putM mem (mem 1 0).toNat k a b c e)) : CQV (Ex S (n + 1)) 47 [.inr 1, .inl k, .inl a, .inl b, .inl c, .inl e] mem K E := by
  refine CY.of (k := 0) mt_47 rfl rfl (fun hv => ?_)
  have hC := Ex.mono S n
  have ii_k : InI k := hv (.inl k) (by simp)
  unfold InI at ii_k
  have ii_a : InI a := hv (.inl a) (by simp)
  unfold InI at ii_a
  have ii_b : InI b := hv (.inl b) (by simp)
  unfold InI at ii_b
  have ii_c : InI c := hv (.inl c) (by simp)
  unfold InI at ii_c
  have ii_e : InI e := hv (.inl e) (by simp)
  unfold InI at ii_e
  clear hv
  obtain ⟨nn, hn⟩ : ∃ nn : Nat, nn = (mem 1 0).toNat := ⟨_, rfl⟩
  rw [← hn] at H
  show Tx (Ex S n) S M_47 (kV K E) 0 0 0 [some (.inr 1), some (.inl k), some (.inl a), some (.inl b), some (.inl c), some (.inl e)] [] mem
  refine Tx.aload_n hC te_47_0 rfl ?_
  refine Tx.getR hC te_47_1 rfl rfl rfl ?_
  refine Tx.aload_n hC te_47_4 rfl ?_
  refine Tx.getI hC te_47_5 rfl rfl rfl (fun v1 v1e v1i => ?_)
  unfold InI at v1i
  refine Tx.iload_n hC te_47_8 rfl ?_
  refine Tx.iast hC te_47_9 rfl (by omega) ?_
  rw [show (Int.toNat v1) = (nn) by omega]
  have hF3 : Frm pBp mem (upm mem 2 (nn) k) := Frm.up Frm.rf (by unfold pBp; omega)
  refine Tx.aload_n hC te_47_10 rfl ?_
  refine Tx.getR hC te_47_11 rfl rfl rfl ?_
  refine Tx.aload_n hC te_47_14 rfl ?_
  refine Tx.getI hC te_47_15 rfl rfl rfl (fun v4 v4e v4i => ?_)
  unfold InI at v4i
  rw [hF3 1 _ (by unfold pBp; omega)] at v4e
  refine Tx.iconst hC te_47_18 rfl ?_
  refine Tx.imulW hC te_47_19 (fun z5 z5i z5e => ?_)
  unfold InI at z5i z5e
  first | replace z5e := z5e (by omega) | clear z5e
  refine Tx.iload_n hC te_47_20 rfl ?_
  refine Tx.iast hC te_47_21 rfl (by omega) ?_
  rw [show (Int.toNat z5) = (4 * nn) by omega]
  have hF7 : Frm pBp mem (upm (upm mem 2 (nn) k) 3 (4 * nn) a) := Frm.up hF3 (by unfold pBp; omega)
  refine Tx.aload_n hC te_47_22 rfl ?_
  refine Tx.getR hC te_47_23 rfl rfl rfl ?_
  refine Tx.aload_n hC te_47_26 rfl ?_
  refine Tx.getI hC te_47_27 rfl rfl rfl (fun v8 v8e v8i => ?_)
  unfold InI at v8i
  rw [hF7 1 _ (by unfold pBp; omega)] at v8e
  refine Tx.iconst hC te_47_30 rfl ?_
  refine Tx.imulW hC te_47_31 (fun z9 z9i z9e => ?_)
  unfold InI at z9i z9e
  first | replace z9e := z9e (by omega) | clear z9e
  refine Tx.iconst hC te_47_32 rfl ?_
  refine Tx.iaddW hC te_47_33 (fun z10 z10i z10e => ?_)
  unfold InI at z10i z10e
  first | replace z10e := z10e (by omega) | clear z10e
  refine Tx.iload_n hC te_47_34 rfl ?_
  refine Tx.iast hC te_47_35 rfl (by omega) ?_
  rw [show (Int.toNat z10) = (4 * nn + 1) by omega]
  have hF12 : Frm pBp mem (upm (upm (upm mem 2 (nn) k) 3 (4 * nn) a) 3 (4 * nn + 1) b) := Frm.up hF7 (by unfold pBp; omega)
  refine Tx.aload_n hC te_47_36 rfl ?_
  refine Tx.getR hC te_47_37 rfl rfl rfl ?_
  refine Tx.aload_n hC te_47_40 rfl ?_
  refine Tx.getI hC te_47_41 rfl rfl rfl (fun v13 v13e v13i => ?_)
  unfold InI at v13i
  rw [hF12 1 _ (by unfold pBp; omega)] at v13e
  refine Tx.iconst hC te_47_44 rfl ?_
  refine Tx.imulW hC te_47_45 (fun z14 z14i z14e => ?_)
  unfold InI at z14i z14e
  first | replace z14e := z14e (by omega) | clear z14e
  refine Tx.iconst hC te_47_46 rfl ?_
  refine Tx.iaddW hC te_47_47 (fun z15 z15i z15e => ?_)
  unfold InI at z15i z15e
  first | replace z15e := z15e (by omega) | clear z15e
  refine Tx.iload hC te_47_48 rfl ?_
  refine Tx.iast hC te_47_50 rfl (by omega) ?_
  rw [show (Int.toNat z15) = (4 * nn + 2) by omega]
  have hF17 : Frm pBp mem (upm (upm (upm (upm mem 2 (nn) k) 3 (4 * nn) a) 3 (4 * nn + 1) b) 3 (4 * nn + 2) c) := Frm.up hF12 (by unfold pBp; omega)
  refine Tx.aload_n hC te_47_51 rfl ?_
  refine Tx.getR hC te_47_52 rfl rfl rfl ?_
  refine Tx.aload_n hC te_47_55 rfl ?_
  refine Tx.getI hC te_47_56 rfl rfl rfl (fun v18 v18e v18i => ?_)
  unfold InI at v18i
  rw [hF17 1 _ (by unfold pBp; omega)] at v18e
  refine Tx.iconst hC te_47_59 rfl ?_
  refine Tx.imulW hC te_47_60 (fun z19 z19i z19e => ?_)
  unfold InI at z19i z19e
  first | replace z19e := z19e (by omega) | clear z19e
  refine Tx.iconst hC te_47_61 rfl ?_
  refine Tx.iaddW hC te_47_62 (fun z20 z20i z20e => ?_)
  unfold InI at z20i z20e
  first | replace z20e := z20e (by omega) | clear z20e
  refine Tx.iload hC te_47_63 rfl ?_
  refine Tx.iast hC te_47_65 rfl (by omega) ?_
  rw [show (Int.toNat z20) = (4 * nn + 3) by omega]
  have hF22 : Frm pBp mem (upm (upm (upm (upm (upm mem 2 (nn) k) 3 (4 * nn) a) 3 (4 * nn + 1) b) 3 (4 * nn + 2) c) 3 (4 * nn + 3) e) := Frm.up hF17 (by unfold pBp; omega)
  refine Tx.aload_n hC te_47_66 rfl ?_
  refine Tx.getR hC te_47_67 rfl rfl rfl ?_
  refine Tx.aload_n hC te_47_70 rfl ?_
  refine Tx.getI hC te_47_71 rfl rfl rfl (fun v23 v23e v23i => ?_)
  unfold InI at v23i
  rw [hF22 1 _ (by unfold pBp; omega)] at v23e
  refine Tx.iconst hC te_47_74 rfl ?_
  refine Tx.iast hC te_47_75 rfl (by omega) ?_
  rw [show (Int.toNat v23) = (nn) by omega]
  have hF25 : Frm pBp mem (upm (upm (upm (upm (upm (upm mem 2 (nn) k) 3 (4 * nn) a) 3 (4 * nn + 1) b) 3 (4 * nn + 2) c) 3 (4 * nn + 3) e) 4 (nn) 0) := Frm.up hF22 (by unfold pBp; omega)
  refine Tx.aload_n hC te_47_76 rfl ?_
  refine Tx.dup hC te_47_77 ?_
  refine Tx.getI hC te_47_78 rfl rfl rfl (fun v26 v26e v26i => ?_)
  unfold InI at v26i
  rw [hF25 1 _ (by unfold pBp; omega)] at v26e
  refine Tx.iconst hC te_47_81 rfl ?_
  refine Tx.iaddW hC te_47_82 (fun z27 z27i z27e => ?_)
  unfold InI at z27i z27e
  first | replace z27e := z27e (by omega) | clear z27e
  refine Tx.putI hC te_47_83 rfl rfl rfl rfl ?_
  have ez : z27 = mem 1 0 + 1 := by omega
  rw [ez]
  exact Tx.vret hC te_47_86 rfl (show K (upm (upm (upm (upm (upm (upm (upm mem 2 (nn) k) 3 (4 * nn) a) 3 (4 * nn + 1) b) 3 (4 * nn + 2) c) 3 (4 * nn + 3) e) 4 (nn) 0) 1 0 (mem 1 0 + 1)) from H)
theorem f_46 {S : Nat × (Nat → Int32)} {n : Nat} {mem : MM} {K : Int → MM → Prop} {E : Nat → MM → Prop} (hI : ClS mem) {k a b c e : Int} (hk : 0 ≤ k ∧ k ≤ 5) (h3 : k ≤ 3 → srcOK a b ∧ srcOK c e) (h4 : k = 4 → 0 ≤ a ∧ a ≤ 1 ∧ 0 ≤ b ∧ b ≤ 7) (h5 : k = 5 → srcOK a b ∧ 0 ≤ c ∧ c ≤ 1 ∧ 0 ≤ e ∧ e ≤ 7) (H : ∀ r m', ClS m' → Frm pCl mem m' → K r m') (HE : ClS mem → E 1 mem) : CQI (Ex S (n + 2)) 46 [.inr 0, .inl k, .inl a, .inl b, .inl c, .inl e] mem K E := by
  refine CY.of (k := 0) mt_46 rfl rfl (fun hv => ?_)
  have hC := Ex.mono S (n + 1)
  have ii_k : InI k := hv (.inl k) (by simp)
  unfold InI at ii_k
  have ii_a : InI a := hv (.inl a) (by simp)
  unfold InI at ii_a
  have ii_b : InI b := hv (.inl b) (by simp)
  unfold InI at ii_b
  have ii_c : InI c := hv (.inl c) (by simp)
  unfold InI at ii_c
  have ii_e : InI e := hv (.inl e) (by simp)
  unfold InI at ii_e
  clear hv
  have h8 := hI.1.b.1
  show Tx (Ex S (n + 1)) S M_46 (kI K E) 0 0 0 [some (.inr 0), some (.inl k), some (.inl a), some (.inl b), some (.inl c), some (.inl e)] [] mem
  refine Tx.aload_n hC te_46_0 rfl ?_
  refine Tx.getR hC te_46_1 rfl rfl rfl ?_
  refine Tx.getI hC te_46_4 rfl rfl rfl (fun v1 v1e v1i => ?_)
  unfold InI at v1i
  refine Tx.bipush hC te_46_7 rfl rfl ?_
  refine Tx.icmp hC (t := 23) te_46_9 (by decide) (fun q2 => ?_) (fun q2 => ?_)
  · replace q2 : (v1 : Int) < 8 := q2
    refine Tx.aload_n hC te_46_23 rfl ?_
    refine Tx.getR hC te_46_24 rfl rfl rfl ?_
    refine Tx.iload_n hC te_46_27 rfl ?_
    refine Tx.iload_n hC te_46_28 rfl ?_
    refine Tx.iload_n hC te_46_29 rfl ?_
    refine Tx.iload hC te_46_30 rfl ?_
    refine Tx.iload hC te_46_32 rfl ?_
    refine Tx.virtV hC te_46_34 mt_47 (args := [.inr 1, .inl k, .inl a, .inl b, .inl c, .inl e]) (rest := []) (c' := 0) (s' := 0) rfl rfl rfl rfl rfl rfl rfl rfl rfl rfl ?_
    refine f_47 (by omega) ?_
    have r3b := putM_ok (n := (mem 1 0).toNat) hI.1.b (by omega) (by omega) hk h3 h4 h5
    have r3f : Frm pBd mem (putM mem (mem 1 0).toNat k a b c e) := fun A i q => putM_ne (by unfold pBd at q; omega)
    generalize putM mem (mem 1 0).toNat k a b c e = m4 at r3b r3f ⊢
    have hF5n : Frm pCl mem m4 := r3f.mono (fun A i q => by unfold pBd at q; unfold pCl; omega)
    refine Tx.aload_n hC te_46_37 rfl ?_
    refine Tx.iconst hC te_46_38 rfl ?_
    refine Tx.putB hC te_46_39 rfl rfl rfl rfl (by omega) ?_
    have hF7 : Frm pCl mem (upm m4 0 11 1) := Frm.up hF5n (by unfold pCl; omega)
    have hC_8 : ClS (upm m4 0 11 1) := ClS.bd hI (Frm.up r3f (by unfold pBd; omega)) (BodyOK.up r3b (by omega)) upm_eq
    generalize upm m4 0 11 1 = m6 at hF7 hC_8 ⊢
    refine Tx.aload_n hC te_46_42 rfl ?_
    refine Tx.getR hC te_46_43 rfl rfl rfl ?_
    refine Tx.getI hC te_46_46 rfl rfl rfl (fun v9 v9e v9i => ?_)
    unfold InI at v9i
    refine Tx.iconst hC te_46_49 rfl ?_
    refine Tx.isubW hC te_46_50 (fun z10 z10i z10e => ?_)
    unfold InI at z10i z10e
    first | replace z10e := z10e (by omega) | clear z10e
    exact Tx.ireturn hC te_46_51 rfl (fun hr => show K z10 m6 from H _ _ hC_8 hF7)
  · replace q2 : ¬ ((v1 : Int) < 8) := q2
    exact Tx.thr hC te_46_12 rfl rfl rfl rfl rfl (show E 1 mem from HE hI)
theorem f_44 {S : Nat × (Nat → Int32)} {n : Nat} {mem : MM} {K : Int → MM → Prop} {E : Nat → MM → Prop} (hI : ClS mem) {p0 p1 p2 p3 p4 : Int} (H : ∀ r m', ClS m' → Frm pCl mem m' → K r m') (HE : ∀ e m', (e = 0 ∨ e = 1) → ClS m' → Frm pCl mem m' → E e m') : CQI (Ex S (n + 3)) 44 [.inr 0, .inl p0, .inl p1, .inl p2, .inl p3, .inl p4] mem K E := by
  refine CY.of (k := 0) mt_44 rfl rfl (fun hv => ?_)
  have hC := Ex.mono S (n + 2)
  have ii_p0 : InI p0 := hv (.inl p0) (by simp)
  unfold InI at ii_p0
  have ii_p1 : InI p1 := hv (.inl p1) (by simp)
  unfold InI at ii_p1
  have ii_p2 : InI p2 := hv (.inl p2) (by simp)
  unfold InI at ii_p2
  have ii_p3 : InI p3 := hv (.inl p3) (by simp)
  unfold InI at ii_p3
  have ii_p4 : InI p4 := hv (.inl p4) (by simp)
  unfold InI at ii_p4
  clear hv
  have h8 := hI.1.b.1
  show Tx (Ex S (n + 2)) S M_44 (kI K E) 0 0 0 [some (.inr 0), some (.inl p0), some (.inl p1), some (.inl p2), some (.inl p3), some (.inl p4)] [] mem
  refine Tx.iload_n hC te_44_0 rfl ?_
  refine Tx.ifc hC (t := 27) te_44_1 (by decide) (fun q1 => ?_) (fun q1 => ?_)
  · replace q1 : (p0 : Int) < 0 := q1
    exact Tx.thr hC te_44_27 rfl rfl rfl rfl rfl (show E 0 mem from HE _ _ (by omega) hI Frm.rf)
  · replace q1 : ¬ ((p0 : Int) < 0) := q1
    refine Tx.iload_n hC te_44_4 rfl ?_
    refine Tx.iconst hC te_44_5 rfl ?_
    refine Tx.icmp hC (t := 27) te_44_6 (by decide) (fun q2 => ?_) (fun q2 => ?_)
    · replace q2 : 4 ≤ (p0 : Int) := q2
      exact Tx.thr hC te_44_27 rfl rfl rfl rfl rfl (show E 0 mem from HE _ _ (by omega) hI Frm.rf)
    · replace q2 : ¬ (4 ≤ (p0 : Int)) := q2
      refine Tx.iload_n hC te_44_9 rfl ?_
      refine Tx.iload_n hC te_44_10 rfl ?_
      refine Tx.statI hC te_44_11 (by decide) mt_45 (args := [.inl p1, .inl p2]) (rest := []) (c' := 0) (s' := 0) rfl rfl rfl rfl rfl rfl rfl ?_
      refine f_45 (fun r3 r3b r3s r3i => ?_)
      unfold InI at r3i
      refine Tx.ifc hC (t := 27) te_44_14 (by decide) (fun q6 => ?_) (fun q6 => ?_)
      · replace q6 : (r3 : Int) = 0 := q6
        exact Tx.thr hC te_44_27 rfl rfl rfl rfl rfl (show E 0 mem from HE _ _ (by omega) hI Frm.rf)
      · replace q6 : ¬ ((r3 : Int) = 0) := q6
        refine Tx.iload hC te_44_17 rfl ?_
        refine Tx.iload hC te_44_19 rfl ?_
        refine Tx.statI hC te_44_21 (by decide) mt_45 (args := [.inl p3, .inl p4]) (rest := []) (c' := 0) (s' := 0) rfl rfl rfl rfl rfl rfl rfl ?_
        refine f_45 (fun r7 r7b r7s r7i => ?_)
        unfold InI at r7i
        refine Tx.ifc hC (t := 37) te_44_24 (by decide) (fun q10 => ?_) (fun q10 => ?_)
        · replace q10 : ¬ (r7 : Int) = 0 := q10
          refine Tx.aload_n hC te_44_37 rfl ?_
          refine Tx.iload_n hC te_44_38 rfl ?_
          refine Tx.iload_n hC te_44_39 rfl ?_
          refine Tx.iload_n hC te_44_40 rfl ?_
          refine Tx.iload hC te_44_41 rfl ?_
          refine Tx.iload hC te_44_43 rfl ?_
          refine Tx.virtI hC te_44_45 mt_46 (args := [.inr 0, .inl p0, .inl p1, .inl p2, .inl p3, .inl p4]) (rest := []) (c' := 1) (s' := 6) rfl rfl rfl rfl rfl rfl rfl rfl rfl rfl ?_
          refine f_46 hI (by omega) (fun z => ⟨r3s (by omega), r7s (by omega)⟩) (fun z => absurd z (by omega)) (fun z => absurd z (by omega)) (fun r11 m12 r11C hF13 r11i => ?_) (fun r11C => HE 1 _ (by omega) r11C Frm.rf)
          have hF13n : Frm pCl mem m12 := hF13
          unfold InI at r11i
          exact Tx.ireturn hC te_44_48 rfl (fun hr => show K r11 m12 from H _ _ r11C hF13n)
        · replace q10 : ¬ (¬ (r7 : Int) = 0) := q10
          exact Tx.thr hC te_44_27 rfl rfl rfl rfl rfl (show E 0 mem from HE _ _ (by omega) hI Frm.rf)
theorem f_49 {S : Nat × (Nat → Int32)} {n : Nat} {mem : MM} {K : Int → MM → Prop} {E : Nat → MM → Prop} (hI : ClS mem) {p0 p1 : Int} (H : ∀ r m', ClS m' → Frm pCl mem m' → K r m') (HE : ∀ e m', (e = 0 ∨ e = 1) → ClS m' → Frm pCl mem m' → E e m') : CQI (Ex S (n + 3)) 49 [.inr 0, .inl p0, .inl p1] mem K E := by
  refine CY.of (k := 0) mt_49 rfl rfl (fun hv => ?_)
  have hC := Ex.mono S (n + 2)
  have ii_p0 : InI p0 := hv (.inl p0) (by simp)
  unfold InI at ii_p0
  have ii_p1 : InI p1 := hv (.inl p1) (by simp)
  unfold InI at ii_p1
  clear hv
  have h8 := hI.1.b.1
  show Tx (Ex S (n + 2)) S M_49 (kI K E) 0 0 0 [some (.inr 0), some (.inl p0), some (.inl p1)] [] mem
  refine Tx.iload_n hC te_49_0 rfl ?_
  refine Tx.iload_n hC te_49_1 rfl ?_
  refine Tx.statI hC te_49_2 (by decide) mt_50 (args := [.inl p0, .inl p1]) (rest := []) (c' := 0) (s' := 0) rfl rfl rfl rfl rfl rfl rfl ?_
  refine f_50 (fun r1 r1b r1s r1i => ?_)
  unfold InI at r1i
  refine Tx.ifc hC (t := 18) te_49_5 (by decide) (fun q4 => ?_) (fun q4 => ?_)
  · replace q4 : ¬ (r1 : Int) = 0 := q4
    refine Tx.aload_n hC te_49_18 rfl ?_
    refine Tx.iconst hC te_49_19 rfl ?_
    refine Tx.iload_n hC te_49_20 rfl ?_
    refine Tx.iload_n hC te_49_21 rfl ?_
    refine Tx.iconst hC te_49_22 rfl ?_
    refine Tx.iconst hC te_49_23 rfl ?_
    refine Tx.virtI hC te_49_24 mt_46 (args := [.inr 0, .inl 4, .inl p0, .inl p1, .inl 0, .inl 0]) (rest := []) (c' := 1) (s' := 6) rfl rfl rfl rfl rfl rfl rfl rfl rfl rfl ?_
    refine f_46 hI (by omega) (fun z => absurd z (by omega)) (fun z => by have := r1s (by omega); omega) (fun z => absurd z (by omega)) (fun r5 m6 r5C hF7 r5i => ?_) (fun r5C => HE 1 _ (by omega) r5C Frm.rf)
    have hF7n : Frm pCl mem m6 := hF7
    unfold InI at r5i
    exact Tx.ireturn hC te_49_27 rfl (fun hr => show K r5 m6 from H _ _ r5C hF7n)
  · replace q4 : ¬ (¬ (r1 : Int) = 0) := q4
    exact Tx.thr hC te_49_8 rfl rfl rfl rfl rfl (show E 0 mem from HE _ _ (by omega) hI Frm.rf)
theorem f_52 {S : Nat × (Nat → Int32)} {n : Nat} {mem : MM} {K : Int → MM → Prop} {E : Nat → MM → Prop} (hI : ClS mem) {p0 p1 p2 p3 : Int} (H : ∀ r m', ClS m' → Frm pCl mem m' → K r m') (HE : ∀ e m', (e = 0 ∨ e = 1) → ClS m' → Frm pCl mem m' → E e m') : CQI (Ex S (n + 3)) 52 [.inr 0, .inl p0, .inl p1, .inl p2, .inl p3] mem K E := by
  refine CY.of (k := 0) mt_52 rfl rfl (fun hv => ?_)
  have hC := Ex.mono S (n + 2)
  have ii_p0 : InI p0 := hv (.inl p0) (by simp)
  unfold InI at ii_p0
  have ii_p1 : InI p1 := hv (.inl p1) (by simp)
  unfold InI at ii_p1
  have ii_p2 : InI p2 := hv (.inl p2) (by simp)
  unfold InI at ii_p2
  have ii_p3 : InI p3 := hv (.inl p3) (by simp)
  unfold InI at ii_p3
  clear hv
  have h8 := hI.1.b.1
  show Tx (Ex S (n + 2)) S M_52 (kI K E) 0 0 0 [some (.inr 0), some (.inl p0), some (.inl p1), some (.inl p2), some (.inl p3)] [] mem
  refine Tx.iload_n hC te_52_0 rfl ?_
  refine Tx.iload_n hC te_52_1 rfl ?_
  refine Tx.statI hC te_52_2 (by decide) mt_45 (args := [.inl p0, .inl p1]) (rest := []) (c' := 0) (s' := 0) rfl rfl rfl rfl rfl rfl rfl ?_
  refine f_45 (fun r1 r1b r1s r1i => ?_)
  unfold InI at r1i
  refine Tx.ifc hC (t := 17) te_52_5 (by decide) (fun q4 => ?_) (fun q4 => ?_)
  · replace q4 : (r1 : Int) = 0 := q4
    exact Tx.thr hC te_52_17 rfl rfl rfl rfl rfl (show E 0 mem from HE _ _ (by omega) hI Frm.rf)
  · replace q4 : ¬ ((r1 : Int) = 0) := q4
    refine Tx.iload_n hC te_52_8 rfl ?_
    refine Tx.iload hC te_52_9 rfl ?_
    refine Tx.statI hC te_52_11 (by decide) mt_50 (args := [.inl p2, .inl p3]) (rest := []) (c' := 0) (s' := 0) rfl rfl rfl rfl rfl rfl rfl ?_
    refine f_50 (fun r5 r5b r5s r5i => ?_)
    unfold InI at r5i
    refine Tx.ifc hC (t := 27) te_52_14 (by decide) (fun q8 => ?_) (fun q8 => ?_)
    · replace q8 : ¬ (r5 : Int) = 0 := q8
      refine Tx.aload_n hC te_52_27 rfl ?_
      refine Tx.iconst hC te_52_28 rfl ?_
      refine Tx.iload_n hC te_52_29 rfl ?_
      refine Tx.iload_n hC te_52_30 rfl ?_
      refine Tx.iload_n hC te_52_31 rfl ?_
      refine Tx.iload hC te_52_32 rfl ?_
      refine Tx.virtI hC te_52_34 mt_46 (args := [.inr 0, .inl 5, .inl p0, .inl p1, .inl p2, .inl p3]) (rest := []) (c' := 1) (s' := 6) rfl rfl rfl rfl rfl rfl rfl rfl rfl rfl ?_
      refine f_46 hI (by omega) (fun z => absurd z (by omega)) (fun z => absurd z (by omega)) (fun z => ⟨r1s (by omega), by have := r5s (by omega); omega⟩) (fun r9 m10 r9C hF11 r9i => ?_) (fun r9C => HE 1 _ (by omega) r9C Frm.rf)
      have hF11n : Frm pCl mem m10 := hF11
      unfold InI at r9i
      exact Tx.ireturn hC te_52_37 rfl (fun hr => show K r9 m10 from H _ _ r9C hF11n)
    · replace q8 : ¬ (¬ (r5 : Int) = 0) := q8
      exact Tx.thr hC te_52_17 rfl rfl rfl rfl rfl (show E 0 mem from HE _ _ (by omega) hI Frm.rf)
theorem f_54 {S : Nat × (Nat → Int32)} {n : Nat} {mem : MM} {K : Int → MM → Prop} {E : Nat → MM → Prop} (hI : ClS mem) (H : ∀ r m', ClS m' → Frm pCl mem m' → K r m') (HE : ∀ e m', (e = 1) → ClS m' → Frm pCl mem m' → E e m') : CQI (Ex S (n + 1)) 54 [.inr 0] mem K E := by
  refine CY.of (k := 0) mt_54 rfl rfl (fun hv => ?_)
  have hC := Ex.mono S n
  clear hv
  have h8 := hI.1.b.1
  show Tx (Ex S n) S M_54 (kI K E) 0 0 0 [some (.inr 0)] [] mem
  refine Tx.aload_n hC te_54_0 rfl ?_
  refine Tx.getR hC te_54_1 rfl rfl rfl ?_
  refine Tx.getI hC te_54_4 rfl rfl rfl (fun v1 v1e v1i => ?_)
  unfold InI at v1i
  have f2 := hI.1.b.1
  refine Tx.ifc hC (t := 20) te_54_7 (by decide) (fun q3 => ?_) (fun q3 => ?_)
  · replace q3 : ¬ (v1 : Int) = 0 := q3
    refine Tx.aload_n hC te_54_20 rfl ?_
    refine Tx.getR hC te_54_21 rfl rfl rfl ?_
    refine Tx.dup hC te_54_24 ?_
    refine Tx.getI hC te_54_25 rfl rfl rfl (fun v4 v4e v4i => ?_)
    unfold InI at v4i
    have f5 := hI.1.b.1
    refine Tx.iconst hC te_54_28 rfl ?_
    refine Tx.isubW hC te_54_29 (fun z6 z6i z6e => ?_)
    unfold InI at z6i z6e
    first | replace z6e := z6e (by omega) | clear z6e
    refine Tx.putI hC te_54_30 rfl rfl rfl rfl ?_
    have hF8 : Frm pCl mem (upm mem 1 0 z6) := Frm.up Frm.rf (by unfold pCl; omega)
    have hb9 : BodyOK (upm mem 1 0 z6) := BodyOK.sz hI.1.b (by omega)
    have hf10 : Frm pBd mem (upm mem 1 0 z6) := Frm.up Frm.rf (by unfold pBd; omega)
    generalize upm mem 1 0 z6 = m7 at hF8 hb9 hf10 ⊢
    refine Tx.aload_n hC te_54_33 rfl ?_
    refine Tx.iconst hC te_54_34 rfl ?_
    refine Tx.putB hC te_54_35 rfl rfl rfl rfl (by omega) ?_
    have hF12 : Frm pCl mem (upm m7 0 11 1) := Frm.up hF8 (by unfold pCl; omega)
    have hb13 : BodyOK (upm m7 0 11 1) := BodyOK.up hb9 (by omega)
    have hf14 : Frm pBd mem (upm m7 0 11 1) := Frm.up hf10 (by unfold pBd; omega)
    have hC_15 : ClS (upm m7 0 11 1) := ClS.bd hI hf14 hb13 upm_eq
    generalize upm m7 0 11 1 = m11 at hF12 hb13 hf14 hC_15 ⊢
    refine Tx.aload_n hC te_54_38 rfl ?_
    refine Tx.getR hC te_54_39 rfl rfl rfl ?_
    refine Tx.getI hC te_54_42 rfl rfl rfl (fun v16 v16e v16i => ?_)
    unfold InI at v16i
    have f17 := hI.1.b.1
    exact Tx.ireturn hC te_54_45 rfl (fun hr => show K v16 m11 from H _ _ hC_15 hF12)
  · replace q3 : ¬ (¬ (v1 : Int) = 0) := q3
    exact Tx.thr hC te_54_10 rfl rfl rfl rfl rfl (show E 1 mem from HE _ _ (by omega) hI Frm.rf)
theorem f_56 {S : Nat × (Nat → Int32)} {n : Nat} {mem : MM} {K : Int → MM → Prop} {E : Nat → MM → Prop} (hI : ClS mem) {p0 p1 : Int} (H : ∀ r m', ClS m' → Frm pCl mem m' → K r m') (HE : ∀ e m', (e = 2 ∨ e = 0) → ClS m' → Frm pCl mem m' → E e m') : CQI (Ex S (n + 2)) 56 [.inr 0, .inl p0, .inl p1] mem K E := by
  refine CY.of (k := 1) mt_56 rfl rfl (fun hv => ?_)
  have hC := Ex.mono S (n + 1)
  have ii_p0 : InI p0 := hv (.inl p0) (by simp)
  unfold InI at ii_p0
  have ii_p1 : InI p1 := hv (.inl p1) (by simp)
  unfold InI at ii_p1
  clear hv
  have h8 := hI.1.b.1
  show Tx (Ex S (n + 1)) S M_56 (kI K E) 0 0 0 [some (.inr 0), some (.inl p0), some (.inl p1), none] [] mem
  refine Tx.aload_n hC te_56_0 rfl ?_
  refine Tx.iload_n hC te_56_1 rfl ?_
  refine Tx.virtV hC te_56_2 mt_57 (args := [.inr 0, .inl p0]) (rest := []) (c' := 1) (s' := 6) rfl rfl rfl rfl rfl rfl rfl rfl rfl rfl ?_
  refine f_57 (fun r1a r1b => ?_) (HE 2 _ (by omega) hI Frm.rf)
  refine Tx.iload_n hC te_56_5 rfl ?_
  refine Tx.sipush hC te_56_6 rfl rfl ?_
  refine Tx.icmp hC (t := 19) te_56_9 (by decide) (fun q4 => ?_) (fun q4 => ?_)
  · replace q4 : (p1 : Int) < (-9999) := q4
    exact Tx.thr hC te_56_19 rfl rfl rfl rfl rfl (show E 0 mem from HE _ _ (by omega) hI Frm.rf)
  · replace q4 : ¬ ((p1 : Int) < (-9999)) := q4
    refine Tx.iload_n hC te_56_12 rfl ?_
    refine Tx.sipush hC te_56_13 rfl rfl ?_
    refine Tx.icmp hC (t := 29) te_56_16 (by decide) (fun q5 => ?_) (fun q5 => ?_)
    · replace q5 : (p1 : Int) ≤ 9999 := q5
      refine Tx.aload_n hC te_56_29 rfl ?_
      refine Tx.getR hC te_56_30 rfl rfl rfl ?_
      refine Tx.getR hC te_56_33 rfl rfl rfl ?_
      refine Tx.iload_n hC te_56_36 rfl ?_
      refine Tx.iald hC te_56_37 rfl (by omega) (fun v6 v6e v6i => ?_)
      unfold InI at v6i
      refine Tx.istore_n hC te_56_38 rfl ?_
      refine Tx.aload_n hC te_56_39 rfl ?_
      refine Tx.getR hC te_56_40 rfl rfl rfl ?_
      refine Tx.getR hC te_56_43 rfl rfl rfl ?_
      refine Tx.iload_n hC te_56_46 rfl ?_
      refine Tx.iload_n hC te_56_47 rfl ?_
      refine Tx.iast hC te_56_48 rfl (by omega) ?_
      have hF8 : Frm pCl mem (upm mem 4 (Int.toNat p0) p1) := Frm.up Frm.rf (by unfold pCl; omega)
      have hC_11 : ClS (upm mem 4 (Int.toNat p0) p1) := ClS.fi hI (up1F (by unfold p4f; omega))
      generalize upm mem 4 (Int.toNat p0) p1 = m7 at hF8 hC_11 ⊢
      refine Tx.iload_n hC te_56_49 rfl ?_
      exact Tx.ireturn hC te_56_50 rfl (fun hr => show K v6 m7 from H _ _ hC_11 hF8)
    · replace q5 : ¬ ((p1 : Int) ≤ 9999) := q5
      exact Tx.thr hC te_56_19 rfl rfl rfl rfl rfl (show E 0 mem from HE _ _ (by omega) hI Frm.rf)
theorem f_62 {S : Nat × (Nat → Int32)} {n : Nat} {mem : MM} {K : Int → MM → Prop} {E : Nat → MM → Prop} (hI : ClS mem) {p0 p1 : Int} (H : ∀ r m', ClS m' → Frm pCl mem m' → K r m') (HE : ∀ e m', (e = 2 ∨ e = 0) → ClS m' → Frm pCl mem m' → E e m') : CQI (Ex S (n + 2)) 62 [.inr 0, .inl p0, .inl p1] mem K E := by
  refine CY.of (k := 1) mt_62 rfl rfl (fun hv => ?_)
  have hC := Ex.mono S (n + 1)
  have ii_p0 : InI p0 := hv (.inl p0) (by simp)
  unfold InI at ii_p0
  have ii_p1 : InI p1 := hv (.inl p1) (by simp)
  unfold InI at ii_p1
  clear hv
  have h8 := hI.1.b.1
  show Tx (Ex S (n + 1)) S M_62 (kI K E) 0 0 0 [some (.inr 0), some (.inl p0), some (.inl p1), none] [] mem
  refine Tx.aload_n hC te_62_0 rfl ?_
  refine Tx.iload_n hC te_62_1 rfl ?_
  refine Tx.virtV hC te_62_2 mt_63 (args := [.inr 0, .inl p0]) (rest := []) (c' := 1) (s' := 6) rfl rfl rfl rfl rfl rfl rfl rfl rfl rfl ?_
  refine f_63 (fun r1a r1b => ?_) (HE 2 _ (by omega) hI Frm.rf)
  refine Tx.iload_n hC te_62_5 rfl ?_
  refine Tx.iconst hC te_62_6 rfl ?_
  refine Tx.icmp hC (t := 15) te_62_7 (by decide) (fun q4 => ?_) (fun q4 => ?_)
  · replace q4 : (p1 : Int) < 1 := q4
    exact Tx.thr hC te_62_15 rfl rfl rfl rfl rfl (show E 0 mem from HE _ _ (by omega) hI Frm.rf)
  · replace q4 : ¬ ((p1 : Int) < 1) := q4
    refine Tx.iload_n hC te_62_10 rfl ?_
    refine Tx.iconst hC te_62_11 rfl ?_
    refine Tx.icmp hC (t := 25) te_62_12 (by decide) (fun q5 => ?_) (fun q5 => ?_)
    · replace q5 : (p1 : Int) ≤ 3 := q5
      refine Tx.aload_n hC te_62_25 rfl ?_
      refine Tx.getR hC te_62_26 rfl rfl rfl ?_
      refine Tx.getR hC te_62_29 rfl rfl rfl ?_
      refine Tx.iload_n hC te_62_32 rfl ?_
      refine Tx.iald hC te_62_33 rfl (by omega) (fun v6 v6e v6i => ?_)
      unfold InI at v6i
      refine Tx.istore_n hC te_62_34 rfl ?_
      refine Tx.aload_n hC te_62_35 rfl ?_
      refine Tx.getR hC te_62_36 rfl rfl rfl ?_
      refine Tx.getR hC te_62_39 rfl rfl rfl ?_
      refine Tx.iload_n hC te_62_42 rfl ?_
      refine Tx.iload_n hC te_62_43 rfl ?_
      refine Tx.iast hC te_62_44 rfl (by omega) ?_
      have hF8 : Frm pCl mem (upm mem 8 (Int.toNat p0) p1) := Frm.up Frm.rf (by unfold pCl; omega)
      have hb9 : BodyOK (upm mem 8 (Int.toNat p0) p1) := BodyOK.up hI.1.b (by omega)
      have hf10 : Frm pBd mem (upm mem 8 (Int.toNat p0) p1) := Frm.up Frm.rf (by unfold pBd; omega)
      generalize upm mem 8 (Int.toNat p0) p1 = m7 at hF8 hb9 hf10 ⊢
      refine Tx.aload_n hC te_62_45 rfl ?_
      refine Tx.iconst hC te_62_46 rfl ?_
      refine Tx.putB hC te_62_47 rfl rfl rfl rfl (by omega) ?_
      have hF12 : Frm pCl mem (upm m7 0 11 1) := Frm.up hF8 (by unfold pCl; omega)
      have hb13 : BodyOK (upm m7 0 11 1) := BodyOK.up hb9 (by omega)
      have hf14 : Frm pBd mem (upm m7 0 11 1) := Frm.up hf10 (by unfold pBd; omega)
      have hC_15 : ClS (upm m7 0 11 1) := ClS.bd hI hf14 hb13 upm_eq
      generalize upm m7 0 11 1 = m11 at hF12 hb13 hf14 hC_15 ⊢
      refine Tx.iload_n hC te_62_50 rfl ?_
      exact Tx.ireturn hC te_62_51 rfl (fun hr => show K v6 m11 from H _ _ hC_15 hF12)
    · replace q5 : ¬ ((p1 : Int) ≤ 3) := q5
      exact Tx.thr hC te_62_15 rfl rfl rfl rfl rfl (show E 0 mem from HE _ _ (by omega) hI Frm.rf)
theorem f_59 {S : Nat × (Nat → Int32)} {n : Nat} {mem : MM} {K : MM → Prop} {E : Nat → MM → Prop} (hI : ClS mem) {p0 p1 p2 p3 : Int} (H : 0 ≤ p0 ∧ p0 < 6 → (0 ≤ p1 ∧ p1 < 3) ∧ (1 ≤ p2 ∧ p2 ≤ 6) ∧ 1 ≤ p3 ∧ p3 ≤ 15 → ∀ m', ClS m' → Frm pCl mem m' → K m') (HE2 : ¬ (0 ≤ p0 ∧ p0 < 6) → E 2 mem) (HE0 : 0 ≤ p0 ∧ p0 < 6 → ¬ ((0 ≤ p1 ∧ p1 < 3) ∧ (1 ≤ p2 ∧ p2 ≤ 6) ∧ 1 ≤ p3 ∧ p3 ≤ 15) → E 0 mem) : CQV (Ex S (n + 2)) 59 [.inr 0, .inl p0, .inl p1, .inl p2, .inl p3] mem K E := by
  refine CY.of (k := 1) mt_59 rfl rfl (fun hv => ?_)
  have hC := Ex.mono S (n + 1)
  have ii_p0 : InI p0 := hv (.inl p0) (by simp)
  unfold InI at ii_p0
  have ii_p1 : InI p1 := hv (.inl p1) (by simp)
  unfold InI at ii_p1
  have ii_p2 : InI p2 := hv (.inl p2) (by simp)
  unfold InI at ii_p2
  have ii_p3 : InI p3 := hv (.inl p3) (by simp)
  unfold InI at ii_p3
  clear hv
  have h8 := hI.1.b.1
  show Tx (Ex S (n + 1)) S M_59 (kV K E) 0 0 0 [some (.inr 0), some (.inl p0), some (.inl p1), some (.inl p2), some (.inl p3), none] [] mem
  refine Tx.aload_n hC te_59_0 rfl ?_
  refine Tx.iload_n hC te_59_1 rfl ?_
  refine Tx.virtV hC te_59_2 mt_60 (args := [.inr 0, .inl p0]) (rest := []) (c' := 1) (s' := 6) rfl rfl rfl rfl rfl rfl rfl rfl rfl rfl ?_
  refine f_60n (fun r1a r1b => ?_) (fun r1n => HE2 r1n)
  refine Tx.iload_n hC te_59_5 rfl ?_
  refine Tx.ifc hC (t := 29) te_59_6 (by decide) (fun q4 => ?_) (fun q4 => ?_)
  · replace q4 : (p1 : Int) < 0 := q4
    refine Tx.iconst hC te_59_29 rfl ?_
    refine Tx.istore hC te_59_30 rfl ?_
    refine Tx.iload hC te_59_32 rfl ?_
    refine Tx.ifc hC (t := 50) te_59_34 (by decide) (fun q => ?_) (fun q => absurd (show (0 : Int) = 0 by decide) q)
    exact Tx.thr hC te_59_50 rfl rfl rfl rfl rfl (show E 0 mem from HE0 (by omega) (by omega))
  · replace q4 : ¬ ((p1 : Int) < 0) := q4
    refine Tx.iload_n hC te_59_9 rfl ?_
    refine Tx.iconst hC te_59_10 rfl ?_
    refine Tx.icmp hC (t := 29) te_59_11 (by decide) (fun q5 => ?_) (fun q5 => ?_)
    · replace q5 : 3 ≤ (p1 : Int) := q5
      refine Tx.iconst hC te_59_29 rfl ?_
      refine Tx.istore hC te_59_30 rfl ?_
      refine Tx.iload hC te_59_32 rfl ?_
      refine Tx.ifc hC (t := 50) te_59_34 (by decide) (fun q => ?_) (fun q => absurd (show (0 : Int) = 0 by decide) q)
      exact Tx.thr hC te_59_50 rfl rfl rfl rfl rfl (show E 0 mem from HE0 (by omega) (by omega))
    · replace q5 : ¬ (3 ≤ (p1 : Int)) := q5
      refine Tx.iload_n hC te_59_14 rfl ?_
      refine Tx.iconst hC te_59_15 rfl ?_
      refine Tx.icmp hC (t := 29) te_59_16 (by decide) (fun q6 => ?_) (fun q6 => ?_)
      · replace q6 : (p2 : Int) < 1 := q6
        refine Tx.iconst hC te_59_29 rfl ?_
        refine Tx.istore hC te_59_30 rfl ?_
        refine Tx.iload hC te_59_32 rfl ?_
        refine Tx.ifc hC (t := 50) te_59_34 (by decide) (fun q => ?_) (fun q => absurd (show (0 : Int) = 0 by decide) q)
        exact Tx.thr hC te_59_50 rfl rfl rfl rfl rfl (show E 0 mem from HE0 (by omega) (by omega))
      · replace q6 : ¬ ((p2 : Int) < 1) := q6
        refine Tx.iload_n hC te_59_19 rfl ?_
        refine Tx.bipush hC te_59_20 rfl rfl ?_
        refine Tx.icmp hC (t := 29) te_59_22 (by decide) (fun q7 => ?_) (fun q7 => ?_)
        · replace q7 : 6 < (p2 : Int) := q7
          refine Tx.iconst hC te_59_29 rfl ?_
          refine Tx.istore hC te_59_30 rfl ?_
          refine Tx.iload hC te_59_32 rfl ?_
          refine Tx.ifc hC (t := 50) te_59_34 (by decide) (fun q => ?_) (fun q => absurd (show (0 : Int) = 0 by decide) q)
          exact Tx.thr hC te_59_50 rfl rfl rfl rfl rfl (show E 0 mem from HE0 (by omega) (by omega))
        · replace q7 : ¬ (6 < (p2 : Int)) := q7
          refine Tx.iconst hC te_59_25 rfl ?_
          refine Tx.goto hC (t := 30) te_59_26 (by decide) ?_
          refine Tx.istore hC te_59_30 rfl ?_
          refine Tx.iload hC te_59_32 rfl ?_
          refine Tx.ifc hC (t := 50) te_59_34 (by decide) (fun q => absurd q (show ¬ ((1 : Int) = 0) by decide)) (fun q => ?_)
          refine Tx.iload hC te_59_37 rfl ?_
          refine Tx.iconst hC te_59_39 rfl ?_
          refine Tx.icmp hC (t := 50) te_59_40 (by decide) (fun q8 => ?_) (fun q8 => ?_)
          · replace q8 : (p3 : Int) < 1 := q8
            exact Tx.thr hC te_59_50 rfl rfl rfl rfl rfl (show E 0 mem from HE0 (by omega) (by omega))
          · replace q8 : ¬ ((p3 : Int) < 1) := q8
            refine Tx.iload hC te_59_43 rfl ?_
            refine Tx.bipush hC te_59_45 rfl rfl ?_
            refine Tx.icmp hC (t := 60) te_59_47 (by decide) (fun q9 => ?_) (fun q9 => ?_)
            · replace q9 : (p3 : Int) ≤ 15 := q9
              refine Tx.aload_n hC te_59_60 rfl ?_
              refine Tx.getR hC te_59_61 rfl rfl rfl ?_
              refine Tx.getR hC te_59_64 rfl rfl rfl ?_
              refine Tx.iload_n hC te_59_67 rfl ?_
              refine Tx.iload_n hC te_59_68 rfl ?_
              refine Tx.iast hC te_59_69 rfl (by omega) ?_
              have hF11 : Frm pCl mem (upm mem 5 (Int.toNat p0) p1) := Frm.up Frm.rf (by unfold pCl; omega)
              have hb12 : BodyOK (upm mem 5 (Int.toNat p0) p1) := BodyOK.up hI.1.b (by omega)
              have hf13 : Frm pBd mem (upm mem 5 (Int.toNat p0) p1) := Frm.up Frm.rf (by unfold pBd; omega)
              generalize upm mem 5 (Int.toNat p0) p1 = m10 at hF11 hb12 hf13 ⊢
              refine Tx.aload_n hC te_59_70 rfl ?_
              refine Tx.getR hC te_59_71 rfl rfl rfl ?_
              refine Tx.getR hC te_59_74 rfl rfl rfl ?_
              refine Tx.iload_n hC te_59_77 rfl ?_
              refine Tx.iload_n hC te_59_78 rfl ?_
              refine Tx.iast hC te_59_79 rfl (by omega) ?_
              have hF15 : Frm pCl mem (upm m10 6 (Int.toNat p0) p2) := Frm.up hF11 (by unfold pCl; omega)
              have hb16 : BodyOK (upm m10 6 (Int.toNat p0) p2) := BodyOK.up hb12 (by omega)
              have hf17 : Frm pBd mem (upm m10 6 (Int.toNat p0) p2) := Frm.up hf13 (by unfold pBd; omega)
              generalize upm m10 6 (Int.toNat p0) p2 = m14 at hF15 hb16 hf17 ⊢
              refine Tx.aload_n hC te_59_80 rfl ?_
              refine Tx.getR hC te_59_81 rfl rfl rfl ?_
              refine Tx.getR hC te_59_84 rfl rfl rfl ?_
              refine Tx.iload_n hC te_59_87 rfl ?_
              refine Tx.iload hC te_59_88 rfl ?_
              refine Tx.iast hC te_59_90 rfl (by omega) ?_
              have hF19 : Frm pCl mem (upm m14 7 (Int.toNat p0) p3) := Frm.up hF15 (by unfold pCl; omega)
              have hb20 : BodyOK (upm m14 7 (Int.toNat p0) p3) := BodyOK.up hb16 (by omega)
              have hf21 : Frm pBd mem (upm m14 7 (Int.toNat p0) p3) := Frm.up hf17 (by unfold pBd; omega)
              generalize upm m14 7 (Int.toNat p0) p3 = m18 at hF19 hb20 hf21 ⊢
              refine Tx.aload_n hC te_59_91 rfl ?_
              refine Tx.iconst hC te_59_92 rfl ?_
              refine Tx.putB hC te_59_93 rfl rfl rfl rfl (by omega) ?_
              have hF23 : Frm pCl mem (upm m18 0 11 1) := Frm.up hF19 (by unfold pCl; omega)
              have hb24 : BodyOK (upm m18 0 11 1) := BodyOK.up hb20 (by omega)
              have hf25 : Frm pBd mem (upm m18 0 11 1) := Frm.up hf21 (by unfold pBd; omega)
              have hC_26 : ClS (upm m18 0 11 1) := ClS.bd hI hf25 hb24 upm_eq
              generalize upm m18 0 11 1 = m22 at hF23 hb24 hf25 hC_26 ⊢
              exact Tx.vret hC te_59_96 rfl (show K m22 from H (by omega) (by omega) _ hC_26 hF23)
            · replace q9 : ¬ ((p3 : Int) ≤ 15) := q9
              exact Tx.thr hC te_59_50 rfl rfl rfl rfl rfl (show E 0 mem from HE0 (by omega) (by omega))
