/-! the law: its locals, its script -/
def Q1 (r : Rs) (_ : PH) : Prop := r = .inl (some (.int 1))
def LwS (lv : LV) (i : Int32) : Prop := px_g lv 0 = some (.retAddr 0) ∧ px_g lv 1 = some (.ref 0) ∧ px_g lv 2 = some (.ref 143) ∧ px_g lv 3 = some (.ref 173) ∧ px_g lv 4 = some (.int i)
theorem LwS.st {lv : LV} {i : Int32} {j : Nat} {v : Value} (hj : 4 < j) (h : LwS lv i) : LwS (px_s1 lv j v) i := ⟨pg_ne2 (by omega) h.1 (fun q => by omega), pg_ne2 (by omega) h.2.1 (fun q => by omega), pg_ne2 (by omega) h.2.2.1 (fun q => by omega), pg_ne2 (by omega) h.2.2.2.1 (fun q => by omega), pg_ne2 (by omega) h.2.2.2.2 (fun _ => rfl)⟩
theorem LwS.inc {lv : LV} {i j : Int32} (h : LwS lv i) : LwS (px_s1 lv 4 (.int j)) j := ⟨pg_ne2 (by omega) h.1 (fun q => by omega), pg_ne2 (by omega) h.2.1 (fun q => by omega), pg_ne2 (by omega) h.2.2.1 (fun q => by omega), pg_ne2 (by omega) h.2.2.2.1 (fun _ => rfl), pg_self _ _ _⟩
theorem sc_load {C : CXW} (hC : Cmono C) {S : Nat × (Nat → Int32)} {M : PM} {hd : List (Nat × Nat × Nat × Int)} {Q : Rs → PH → Prop} {pc : Nat} {lv : LV} {st : List Value} {h : PH} {c s : Nat} {i : Int32} {k : Int} (hl : LwS lv i) (t1 : (pT M).find? (fun e => e.1 == pc) = some (pc, .aload_n 0, 0, 0)) (t2 : (pT M).find? (fun e => e.1 == pc + 1) = some (pc + 1, .iload 4, 0, 0)) (t3 : (pT M).find? (fun e => e.1 == pc + 3) = some (pc + 3, .iconst k, 0, 0)) (t4 : (pT M).find? (fun e => e.1 == pc + 4) = some (pc + 4, .iadd, 0, 0)) (t5 : (pT M).find? (fun e => e.1 == pc + 5) = some (pc + 5, .iaload, 0, 0)) (hr : vp_in (i + Int32.ofInt k) S.1) (H : Vx C S M hd Q (pc + 6) lv (.int (S.2 (i + Int32.ofInt k).toNatClampNeg) :: st) h c s) : Vx C S M hd Q pc lv st h c s :=
  Vx.go hC t1 ⟨_, hl.1, ⟨0, Or.inr rfl⟩, Vx.go hC t2 ⟨_, hl.2.2.2.2, Vx.go hC t3 (Vx.go hC t4 (Vx.go hC t5 ⟨hr, H⟩))⟩⟩
theorem sc_in {S : Nat × (Nat → Int32)} {i : Int32} {k : Int} (hS : S.1 ≤ 3072) (hi : 0 ≤ i.toInt ∧ i.toInt + 5 < S.1) (hk : 0 ≤ k ∧ k ≤ 5) : vp_in (i + Int32.ofInt k) S.1 := by
  have e : (i + Int32.ofInt k).toInt = i.toInt + k := by
    rw [show i + Int32.ofInt k = Int32.ofInt (i.toInt + k) by rw [Int32.ofInt_add, Int32.ofInt_toInt]]
    exact wi (by unfold InI; omega)
  exact vp_in_iff.mpr (by rw [e]; omega)
theorem find_app {l1 l2 : List TE} {b pc : Nat} (h : l1.all (fun e => Nat.blt e.1 b) = true) (hb : Nat.ble b pc = true) : (l1 ++ l2).find? (fun e => e.1 == pc) = l2.find? (fun e => e.1 == pc) := by
  rw [List.find?_append]
  have : l1.find? (fun e => e.1 == pc) = none := by
    rw [List.find?_eq_none]
    intro x hx q
    have h1 := blt_iff.mp (List.all_eq_true.mp h x hx)
    have h2 := Nat.le_of_ble_eq_true hb
    have h3 : x.1 = pc := by simpa using q
    omega
  rw [this]
  rfl
noncomputable def tl_123 : List TE := tb_368_123
noncomputable def tl_122 : List TE := tb_368_122 ++ tl_123
noncomputable def tl_121 : List TE := tb_368_121 ++ tl_122
noncomputable def tl_120 : List TE := tb_368_120 ++ tl_121
noncomputable def tl_119 : List TE := tb_368_119 ++ tl_120
noncomputable def tl_118 : List TE := tb_368_118 ++ tl_119
noncomputable def tl_117 : List TE := tb_368_117 ++ tl_118
noncomputable def tl_116 : List TE := tb_368_116 ++ tl_117
noncomputable def tl_115 : List TE := tb_368_115 ++ tl_116
noncomputable def tl_114 : List TE := tb_368_114 ++ tl_115
noncomputable def tl_113 : List TE := tb_368_113 ++ tl_114
noncomputable def tl_112 : List TE := tb_368_112 ++ tl_113
noncomputable def tl_111 : List TE := tb_368_111 ++ tl_112
noncomputable def tl_110 : List TE := tb_368_110 ++ tl_111
noncomputable def tl_109 : List TE := tb_368_109 ++ tl_110
noncomputable def tl_108 : List TE := tb_368_108 ++ tl_109
noncomputable def tl_107 : List TE := tb_368_107 ++ tl_108
noncomputable def tl_106 : List TE := tb_368_106 ++ tl_107
noncomputable def tl_105 : List TE := tb_368_105 ++ tl_106
noncomputable def tl_104 : List TE := tb_368_104 ++ tl_105
noncomputable def tl_103 : List TE := tb_368_103 ++ tl_104
noncomputable def tl_102 : List TE := tb_368_102 ++ tl_103
noncomputable def tl_101 : List TE := tb_368_101 ++ tl_102
noncomputable def tl_100 : List TE := tb_368_100 ++ tl_101
noncomputable def tl_99 : List TE := tb_368_99 ++ tl_100
noncomputable def tl_98 : List TE := tb_368_98 ++ tl_99
noncomputable def tl_97 : List TE := tb_368_97 ++ tl_98
noncomputable def tl_96 : List TE := tb_368_96 ++ tl_97
noncomputable def tl_95 : List TE := tb_368_95 ++ tl_96
noncomputable def tl_94 : List TE := tb_368_94 ++ tl_95
noncomputable def tl_93 : List TE := tb_368_93 ++ tl_94
noncomputable def tl_92 : List TE := tb_368_92 ++ tl_93
noncomputable def tl_91 : List TE := tb_368_91 ++ tl_92
noncomputable def tl_90 : List TE := tb_368_90 ++ tl_91
noncomputable def tl_89 : List TE := tb_368_89 ++ tl_90
noncomputable def tl_88 : List TE := tb_368_88 ++ tl_89
noncomputable def tl_87 : List TE := tb_368_87 ++ tl_88
noncomputable def tl_86 : List TE := tb_368_86 ++ tl_87
noncomputable def tl_85 : List TE := tb_368_85 ++ tl_86
noncomputable def tl_84 : List TE := tb_368_84 ++ tl_85
noncomputable def tl_83 : List TE := tb_368_83 ++ tl_84
noncomputable def tl_82 : List TE := tb_368_82 ++ tl_83
noncomputable def tl_81 : List TE := tb_368_81 ++ tl_82
noncomputable def tl_80 : List TE := tb_368_80 ++ tl_81
noncomputable def tl_79 : List TE := tb_368_79 ++ tl_80
noncomputable def tl_78 : List TE := tb_368_78 ++ tl_79
noncomputable def tl_77 : List TE := tb_368_77 ++ tl_78
noncomputable def tl_76 : List TE := tb_368_76 ++ tl_77
noncomputable def tl_75 : List TE := tb_368_75 ++ tl_76
noncomputable def tl_74 : List TE := tb_368_74 ++ tl_75
noncomputable def tl_73 : List TE := tb_368_73 ++ tl_74
noncomputable def tl_72 : List TE := tb_368_72 ++ tl_73
noncomputable def tl_71 : List TE := tb_368_71 ++ tl_72
noncomputable def tl_70 : List TE := tb_368_70 ++ tl_71
noncomputable def tl_69 : List TE := tb_368_69 ++ tl_70
noncomputable def tl_68 : List TE := tb_368_68 ++ tl_69
noncomputable def tl_67 : List TE := tb_368_67 ++ tl_68
noncomputable def tl_66 : List TE := tb_368_66 ++ tl_67
noncomputable def tl_65 : List TE := tb_368_65 ++ tl_66
noncomputable def tl_64 : List TE := tb_368_64 ++ tl_65
noncomputable def tl_63 : List TE := tb_368_63 ++ tl_64
noncomputable def tl_62 : List TE := tb_368_62 ++ tl_63
noncomputable def tl_61 : List TE := tb_368_61 ++ tl_62
noncomputable def tl_60 : List TE := tb_368_60 ++ tl_61
noncomputable def tl_59 : List TE := tb_368_59 ++ tl_60
noncomputable def tl_58 : List TE := tb_368_58 ++ tl_59
noncomputable def tl_57 : List TE := tb_368_57 ++ tl_58
noncomputable def tl_56 : List TE := tb_368_56 ++ tl_57
noncomputable def tl_55 : List TE := tb_368_55 ++ tl_56
noncomputable def tl_54 : List TE := tb_368_54 ++ tl_55
noncomputable def tl_53 : List TE := tb_368_53 ++ tl_54
noncomputable def tl_52 : List TE := tb_368_52 ++ tl_53
noncomputable def tl_51 : List TE := tb_368_51 ++ tl_52
noncomputable def tl_50 : List TE := tb_368_50 ++ tl_51
noncomputable def tl_49 : List TE := tb_368_49 ++ tl_50
noncomputable def tl_48 : List TE := tb_368_48 ++ tl_49
noncomputable def tl_47 : List TE := tb_368_47 ++ tl_48
noncomputable def tl_46 : List TE := tb_368_46 ++ tl_47
noncomputable def tl_45 : List TE := tb_368_45 ++ tl_46
noncomputable def tl_44 : List TE := tb_368_44 ++ tl_45
noncomputable def tl_43 : List TE := tb_368_43 ++ tl_44
noncomputable def tl_42 : List TE := tb_368_42 ++ tl_43
noncomputable def tl_41 : List TE := tb_368_41 ++ tl_42
noncomputable def tl_40 : List TE := tb_368_40 ++ tl_41
noncomputable def tl_39 : List TE := tb_368_39 ++ tl_40
noncomputable def tl_38 : List TE := tb_368_38 ++ tl_39
noncomputable def tl_37 : List TE := tb_368_37 ++ tl_38
noncomputable def tl_36 : List TE := tb_368_36 ++ tl_37
noncomputable def tl_35 : List TE := tb_368_35 ++ tl_36
noncomputable def tl_34 : List TE := tb_368_34 ++ tl_35
noncomputable def tl_33 : List TE := tb_368_33 ++ tl_34
noncomputable def tl_32 : List TE := tb_368_32 ++ tl_33
noncomputable def tl_31 : List TE := tb_368_31 ++ tl_32
noncomputable def tl_30 : List TE := tb_368_30 ++ tl_31
noncomputable def tl_29 : List TE := tb_368_29 ++ tl_30
noncomputable def tl_28 : List TE := tb_368_28 ++ tl_29
noncomputable def tl_27 : List TE := tb_368_27 ++ tl_28
noncomputable def tl_26 : List TE := tb_368_26 ++ tl_27
noncomputable def tl_25 : List TE := tb_368_25 ++ tl_26
noncomputable def tl_24 : List TE := tb_368_24 ++ tl_25
noncomputable def tl_23 : List TE := tb_368_23 ++ tl_24
noncomputable def tl_22 : List TE := tb_368_22 ++ tl_23
noncomputable def tl_21 : List TE := tb_368_21 ++ tl_22
noncomputable def tl_20 : List TE := tb_368_20 ++ tl_21
noncomputable def tl_19 : List TE := tb_368_19 ++ tl_20
noncomputable def tl_18 : List TE := tb_368_18 ++ tl_19
noncomputable def tl_17 : List TE := tb_368_17 ++ tl_18
noncomputable def tl_16 : List TE := tb_368_16 ++ tl_17
noncomputable def tl_15 : List TE := tb_368_15 ++ tl_16
noncomputable def tl_14 : List TE := tb_368_14 ++ tl_15
noncomputable def tl_13 : List TE := tb_368_13 ++ tl_14
noncomputable def tl_12 : List TE := tb_368_12 ++ tl_13
noncomputable def tl_11 : List TE := tb_368_11 ++ tl_12
noncomputable def tl_10 : List TE := tb_368_10 ++ tl_11
noncomputable def tl_9 : List TE := tb_368_9 ++ tl_10
noncomputable def tl_8 : List TE := tb_368_8 ++ tl_9
noncomputable def tl_7 : List TE := tb_368_7 ++ tl_8
noncomputable def tl_6 : List TE := tb_368_6 ++ tl_7
noncomputable def tl_5 : List TE := tb_368_5 ++ tl_6
noncomputable def tl_4 : List TE := tb_368_4 ++ tl_5
noncomputable def tl_3 : List TE := tb_368_3 ++ tl_4
noncomputable def tl_2 : List TE := tb_368_2 ++ tl_3
noncomputable def tl_1 : List TE := tb_368_1 ++ tl_2
noncomputable def tl_0 : List TE := tb_368_0 ++ tl_1
set_option maxRecDepth 100000 in
theorem tl_eq : pT M_368 = tl_0 := by show tb_368 = tl_0; rfl
theorem sk_0 (pc : Nat) (_ : Nat.ble 0 pc = true) : (pT M_368).find? (fun e => e.1 == pc) = tl_0.find? (fun e => e.1 == pc) := by rw [tl_eq]
set_option maxRecDepth 100000 in
theorem sk_1 (pc : Nat) (h : Nat.ble 21 pc = true) : (pT M_368).find? (fun e => e.1 == pc) = tl_1.find? (fun e => e.1 == pc) := (sk_0 pc (Nat.ble_eq_true_of_le (Nat.le_trans (Nat.le_of_ble_eq_true rfl) (Nat.le_of_ble_eq_true h)))).trans (find_app (l1 := tb_368_0) (b := 21) (by decide +kernel) h)
set_option maxRecDepth 100000 in
theorem sk_2 (pc : Nat) (h : Nat.ble 40 pc = true) : (pT M_368).find? (fun e => e.1 == pc) = tl_2.find? (fun e => e.1 == pc) := (sk_1 pc (Nat.ble_eq_true_of_le (Nat.le_trans (Nat.le_of_ble_eq_true rfl) (Nat.le_of_ble_eq_true h)))).trans (find_app (l1 := tb_368_1) (b := 40) (by decide +kernel) h)
set_option maxRecDepth 100000 in
theorem sk_3 (pc : Nat) (h : Nat.ble 265 pc = true) : (pT M_368).find? (fun e => e.1 == pc) = tl_3.find? (fun e => e.1 == pc) := (sk_2 pc (Nat.ble_eq_true_of_le (Nat.le_trans (Nat.le_of_ble_eq_true rfl) (Nat.le_of_ble_eq_true h)))).trans (find_app (l1 := tb_368_2) (b := 265) (by decide +kernel) h)
set_option maxRecDepth 100000 in
theorem sk_4 (pc : Nat) (h : Nat.ble 280 pc = true) : (pT M_368).find? (fun e => e.1 == pc) = tl_4.find? (fun e => e.1 == pc) := (sk_3 pc (Nat.ble_eq_true_of_le (Nat.le_trans (Nat.le_of_ble_eq_true rfl) (Nat.le_of_ble_eq_true h)))).trans (find_app (l1 := tb_368_3) (b := 280) (by decide +kernel) h)
set_option maxRecDepth 100000 in
theorem sk_5 (pc : Nat) (h : Nat.ble 296 pc = true) : (pT M_368).find? (fun e => e.1 == pc) = tl_5.find? (fun e => e.1 == pc) := (sk_4 pc (Nat.ble_eq_true_of_le (Nat.le_trans (Nat.le_of_ble_eq_true rfl) (Nat.le_of_ble_eq_true h)))).trans (find_app (l1 := tb_368_4) (b := 296) (by decide +kernel) h)
set_option maxRecDepth 100000 in
theorem sk_6 (pc : Nat) (h : Nat.ble 311 pc = true) : (pT M_368).find? (fun e => e.1 == pc) = tl_6.find? (fun e => e.1 == pc) := (sk_5 pc (Nat.ble_eq_true_of_le (Nat.le_trans (Nat.le_of_ble_eq_true rfl) (Nat.le_of_ble_eq_true h)))).trans (find_app (l1 := tb_368_5) (b := 311) (by decide +kernel) h)
set_option maxRecDepth 100000 in
theorem sk_7 (pc : Nat) (h : Nat.ble 329 pc = true) : (pT M_368).find? (fun e => e.1 == pc) = tl_7.find? (fun e => e.1 == pc) := (sk_6 pc (Nat.ble_eq_true_of_le (Nat.le_trans (Nat.le_of_ble_eq_true rfl) (Nat.le_of_ble_eq_true h)))).trans (find_app (l1 := tb_368_6) (b := 329) (by decide +kernel) h)
set_option maxRecDepth 100000 in
theorem sk_8 (pc : Nat) (h : Nat.ble 345 pc = true) : (pT M_368).find? (fun e => e.1 == pc) = tl_8.find? (fun e => e.1 == pc) := (sk_7 pc (Nat.ble_eq_true_of_le (Nat.le_trans (Nat.le_of_ble_eq_true rfl) (Nat.le_of_ble_eq_true h)))).trans (find_app (l1 := tb_368_7) (b := 345) (by decide +kernel) h)
set_option maxRecDepth 100000 in
theorem sk_9 (pc : Nat) (h : Nat.ble 360 pc = true) : (pT M_368).find? (fun e => e.1 == pc) = tl_9.find? (fun e => e.1 == pc) := (sk_8 pc (Nat.ble_eq_true_of_le (Nat.le_trans (Nat.le_of_ble_eq_true rfl) (Nat.le_of_ble_eq_true h)))).trans (find_app (l1 := tb_368_8) (b := 360) (by decide +kernel) h)
set_option maxRecDepth 100000 in
theorem sk_10 (pc : Nat) (h : Nat.ble 379 pc = true) : (pT M_368).find? (fun e => e.1 == pc) = tl_10.find? (fun e => e.1 == pc) := (sk_9 pc (Nat.ble_eq_true_of_le (Nat.le_trans (Nat.le_of_ble_eq_true rfl) (Nat.le_of_ble_eq_true h)))).trans (find_app (l1 := tb_368_9) (b := 379) (by decide +kernel) h)
set_option maxRecDepth 100000 in
theorem sk_11 (pc : Nat) (h : Nat.ble 393 pc = true) : (pT M_368).find? (fun e => e.1 == pc) = tl_11.find? (fun e => e.1 == pc) := (sk_10 pc (Nat.ble_eq_true_of_le (Nat.le_trans (Nat.le_of_ble_eq_true rfl) (Nat.le_of_ble_eq_true h)))).trans (find_app (l1 := tb_368_10) (b := 393) (by decide +kernel) h)
set_option maxRecDepth 100000 in
theorem sk_12 (pc : Nat) (h : Nat.ble 410 pc = true) : (pT M_368).find? (fun e => e.1 == pc) = tl_12.find? (fun e => e.1 == pc) := (sk_11 pc (Nat.ble_eq_true_of_le (Nat.le_trans (Nat.le_of_ble_eq_true rfl) (Nat.le_of_ble_eq_true h)))).trans (find_app (l1 := tb_368_11) (b := 410) (by decide +kernel) h)
set_option maxRecDepth 100000 in
theorem sk_13 (pc : Nat) (h : Nat.ble 424 pc = true) : (pT M_368).find? (fun e => e.1 == pc) = tl_13.find? (fun e => e.1 == pc) := (sk_12 pc (Nat.ble_eq_true_of_le (Nat.le_trans (Nat.le_of_ble_eq_true rfl) (Nat.le_of_ble_eq_true h)))).trans (find_app (l1 := tb_368_12) (b := 424) (by decide +kernel) h)
set_option maxRecDepth 100000 in
theorem sk_14 (pc : Nat) (h : Nat.ble 449 pc = true) : (pT M_368).find? (fun e => e.1 == pc) = tl_14.find? (fun e => e.1 == pc) := (sk_13 pc (Nat.ble_eq_true_of_le (Nat.le_trans (Nat.le_of_ble_eq_true rfl) (Nat.le_of_ble_eq_true h)))).trans (find_app (l1 := tb_368_13) (b := 449) (by decide +kernel) h)
set_option maxRecDepth 100000 in
theorem sk_15 (pc : Nat) (h : Nat.ble 465 pc = true) : (pT M_368).find? (fun e => e.1 == pc) = tl_15.find? (fun e => e.1 == pc) := (sk_14 pc (Nat.ble_eq_true_of_le (Nat.le_trans (Nat.le_of_ble_eq_true rfl) (Nat.le_of_ble_eq_true h)))).trans (find_app (l1 := tb_368_14) (b := 465) (by decide +kernel) h)
set_option maxRecDepth 100000 in
theorem sk_16 (pc : Nat) (h : Nat.ble 480 pc = true) : (pT M_368).find? (fun e => e.1 == pc) = tl_16.find? (fun e => e.1 == pc) := (sk_15 pc (Nat.ble_eq_true_of_le (Nat.le_trans (Nat.le_of_ble_eq_true rfl) (Nat.le_of_ble_eq_true h)))).trans (find_app (l1 := tb_368_15) (b := 480) (by decide +kernel) h)
set_option maxRecDepth 100000 in
theorem sk_17 (pc : Nat) (h : Nat.ble 499 pc = true) : (pT M_368).find? (fun e => e.1 == pc) = tl_17.find? (fun e => e.1 == pc) := (sk_16 pc (Nat.ble_eq_true_of_le (Nat.le_trans (Nat.le_of_ble_eq_true rfl) (Nat.le_of_ble_eq_true h)))).trans (find_app (l1 := tb_368_16) (b := 499) (by decide +kernel) h)
set_option maxRecDepth 100000 in
theorem sk_18 (pc : Nat) (h : Nat.ble 513 pc = true) : (pT M_368).find? (fun e => e.1 == pc) = tl_18.find? (fun e => e.1 == pc) := (sk_17 pc (Nat.ble_eq_true_of_le (Nat.le_trans (Nat.le_of_ble_eq_true rfl) (Nat.le_of_ble_eq_true h)))).trans (find_app (l1 := tb_368_17) (b := 513) (by decide +kernel) h)
set_option maxRecDepth 100000 in
theorem sk_19 (pc : Nat) (h : Nat.ble 530 pc = true) : (pT M_368).find? (fun e => e.1 == pc) = tl_19.find? (fun e => e.1 == pc) := (sk_18 pc (Nat.ble_eq_true_of_le (Nat.le_trans (Nat.le_of_ble_eq_true rfl) (Nat.le_of_ble_eq_true h)))).trans (find_app (l1 := tb_368_18) (b := 530) (by decide +kernel) h)
set_option maxRecDepth 100000 in
theorem sk_20 (pc : Nat) (h : Nat.ble 546 pc = true) : (pT M_368).find? (fun e => e.1 == pc) = tl_20.find? (fun e => e.1 == pc) := (sk_19 pc (Nat.ble_eq_true_of_le (Nat.le_trans (Nat.le_of_ble_eq_true rfl) (Nat.le_of_ble_eq_true h)))).trans (find_app (l1 := tb_368_19) (b := 546) (by decide +kernel) h)
set_option maxRecDepth 100000 in
theorem sk_21 (pc : Nat) (h : Nat.ble 562 pc = true) : (pT M_368).find? (fun e => e.1 == pc) = tl_21.find? (fun e => e.1 == pc) := (sk_20 pc (Nat.ble_eq_true_of_le (Nat.le_trans (Nat.le_of_ble_eq_true rfl) (Nat.le_of_ble_eq_true h)))).trans (find_app (l1 := tb_368_20) (b := 562) (by decide +kernel) h)
set_option maxRecDepth 100000 in
theorem sk_22 (pc : Nat) (h : Nat.ble 579 pc = true) : (pT M_368).find? (fun e => e.1 == pc) = tl_22.find? (fun e => e.1 == pc) := (sk_21 pc (Nat.ble_eq_true_of_le (Nat.le_trans (Nat.le_of_ble_eq_true rfl) (Nat.le_of_ble_eq_true h)))).trans (find_app (l1 := tb_368_21) (b := 579) (by decide +kernel) h)
set_option maxRecDepth 100000 in
theorem sk_23 (pc : Nat) (h : Nat.ble 597 pc = true) : (pT M_368).find? (fun e => e.1 == pc) = tl_23.find? (fun e => e.1 == pc) := (sk_22 pc (Nat.ble_eq_true_of_le (Nat.le_trans (Nat.le_of_ble_eq_true rfl) (Nat.le_of_ble_eq_true h)))).trans (find_app (l1 := tb_368_22) (b := 597) (by decide +kernel) h)
set_option maxRecDepth 100000 in
theorem sk_24 (pc : Nat) (h : Nat.ble 614 pc = true) : (pT M_368).find? (fun e => e.1 == pc) = tl_24.find? (fun e => e.1 == pc) := (sk_23 pc (Nat.ble_eq_true_of_le (Nat.le_trans (Nat.le_of_ble_eq_true rfl) (Nat.le_of_ble_eq_true h)))).trans (find_app (l1 := tb_368_23) (b := 614) (by decide +kernel) h)
set_option maxRecDepth 100000 in
theorem sk_25 (pc : Nat) (h : Nat.ble 634 pc = true) : (pT M_368).find? (fun e => e.1 == pc) = tl_25.find? (fun e => e.1 == pc) := (sk_24 pc (Nat.ble_eq_true_of_le (Nat.le_trans (Nat.le_of_ble_eq_true rfl) (Nat.le_of_ble_eq_true h)))).trans (find_app (l1 := tb_368_24) (b := 634) (by decide +kernel) h)
set_option maxRecDepth 100000 in
theorem sk_26 (pc : Nat) (h : Nat.ble 651 pc = true) : (pT M_368).find? (fun e => e.1 == pc) = tl_26.find? (fun e => e.1 == pc) := (sk_25 pc (Nat.ble_eq_true_of_le (Nat.le_trans (Nat.le_of_ble_eq_true rfl) (Nat.le_of_ble_eq_true h)))).trans (find_app (l1 := tb_368_25) (b := 651) (by decide +kernel) h)
set_option maxRecDepth 100000 in
theorem sk_27 (pc : Nat) (h : Nat.ble 668 pc = true) : (pT M_368).find? (fun e => e.1 == pc) = tl_27.find? (fun e => e.1 == pc) := (sk_26 pc (Nat.ble_eq_true_of_le (Nat.le_trans (Nat.le_of_ble_eq_true rfl) (Nat.le_of_ble_eq_true h)))).trans (find_app (l1 := tb_368_26) (b := 668) (by decide +kernel) h)
set_option maxRecDepth 100000 in
theorem sk_28 (pc : Nat) (h : Nat.ble 689 pc = true) : (pT M_368).find? (fun e => e.1 == pc) = tl_28.find? (fun e => e.1 == pc) := (sk_27 pc (Nat.ble_eq_true_of_le (Nat.le_trans (Nat.le_of_ble_eq_true rfl) (Nat.le_of_ble_eq_true h)))).trans (find_app (l1 := tb_368_27) (b := 689) (by decide +kernel) h)
set_option maxRecDepth 100000 in
theorem sk_29 (pc : Nat) (h : Nat.ble 707 pc = true) : (pT M_368).find? (fun e => e.1 == pc) = tl_29.find? (fun e => e.1 == pc) := (sk_28 pc (Nat.ble_eq_true_of_le (Nat.le_trans (Nat.le_of_ble_eq_true rfl) (Nat.le_of_ble_eq_true h)))).trans (find_app (l1 := tb_368_28) (b := 707) (by decide +kernel) h)
set_option maxRecDepth 100000 in
theorem sk_30 (pc : Nat) (h : Nat.ble 723 pc = true) : (pT M_368).find? (fun e => e.1 == pc) = tl_30.find? (fun e => e.1 == pc) := (sk_29 pc (Nat.ble_eq_true_of_le (Nat.le_trans (Nat.le_of_ble_eq_true rfl) (Nat.le_of_ble_eq_true h)))).trans (find_app (l1 := tb_368_29) (b := 723) (by decide +kernel) h)
set_option maxRecDepth 100000 in
theorem sk_31 (pc : Nat) (h : Nat.ble 740 pc = true) : (pT M_368).find? (fun e => e.1 == pc) = tl_31.find? (fun e => e.1 == pc) := (sk_30 pc (Nat.ble_eq_true_of_le (Nat.le_trans (Nat.le_of_ble_eq_true rfl) (Nat.le_of_ble_eq_true h)))).trans (find_app (l1 := tb_368_30) (b := 740) (by decide +kernel) h)
set_option maxRecDepth 100000 in
theorem sk_32 (pc : Nat) (h : Nat.ble 754 pc = true) : (pT M_368).find? (fun e => e.1 == pc) = tl_32.find? (fun e => e.1 == pc) := (sk_31 pc (Nat.ble_eq_true_of_le (Nat.le_trans (Nat.le_of_ble_eq_true rfl) (Nat.le_of_ble_eq_true h)))).trans (find_app (l1 := tb_368_31) (b := 754) (by decide +kernel) h)
set_option maxRecDepth 100000 in
theorem sk_33 (pc : Nat) (h : Nat.ble 773 pc = true) : (pT M_368).find? (fun e => e.1 == pc) = tl_33.find? (fun e => e.1 == pc) := (sk_32 pc (Nat.ble_eq_true_of_le (Nat.le_trans (Nat.le_of_ble_eq_true rfl) (Nat.le_of_ble_eq_true h)))).trans (find_app (l1 := tb_368_32) (b := 773) (by decide +kernel) h)
set_option maxRecDepth 100000 in
theorem sk_34 (pc : Nat) (h : Nat.ble 789 pc = true) : (pT M_368).find? (fun e => e.1 == pc) = tl_34.find? (fun e => e.1 == pc) := (sk_33 pc (Nat.ble_eq_true_of_le (Nat.le_trans (Nat.le_of_ble_eq_true rfl) (Nat.le_of_ble_eq_true h)))).trans (find_app (l1 := tb_368_33) (b := 789) (by decide +kernel) h)
set_option maxRecDepth 100000 in
theorem sk_35 (pc : Nat) (h : Nat.ble 808 pc = true) : (pT M_368).find? (fun e => e.1 == pc) = tl_35.find? (fun e => e.1 == pc) := (sk_34 pc (Nat.ble_eq_true_of_le (Nat.le_trans (Nat.le_of_ble_eq_true rfl) (Nat.le_of_ble_eq_true h)))).trans (find_app (l1 := tb_368_34) (b := 808) (by decide +kernel) h)
set_option maxRecDepth 100000 in
theorem sk_36 (pc : Nat) (h : Nat.ble 826 pc = true) : (pT M_368).find? (fun e => e.1 == pc) = tl_36.find? (fun e => e.1 == pc) := (sk_35 pc (Nat.ble_eq_true_of_le (Nat.le_trans (Nat.le_of_ble_eq_true rfl) (Nat.le_of_ble_eq_true h)))).trans (find_app (l1 := tb_368_35) (b := 826) (by decide +kernel) h)
set_option maxRecDepth 100000 in
theorem sk_37 (pc : Nat) (h : Nat.ble 845 pc = true) : (pT M_368).find? (fun e => e.1 == pc) = tl_37.find? (fun e => e.1 == pc) := (sk_36 pc (Nat.ble_eq_true_of_le (Nat.le_trans (Nat.le_of_ble_eq_true rfl) (Nat.le_of_ble_eq_true h)))).trans (find_app (l1 := tb_368_36) (b := 845) (by decide +kernel) h)
set_option maxRecDepth 100000 in
theorem sk_38 (pc : Nat) (h : Nat.ble 866 pc = true) : (pT M_368).find? (fun e => e.1 == pc) = tl_38.find? (fun e => e.1 == pc) := (sk_37 pc (Nat.ble_eq_true_of_le (Nat.le_trans (Nat.le_of_ble_eq_true rfl) (Nat.le_of_ble_eq_true h)))).trans (find_app (l1 := tb_368_37) (b := 866) (by decide +kernel) h)
set_option maxRecDepth 100000 in
theorem sk_39 (pc : Nat) (h : Nat.ble 885 pc = true) : (pT M_368).find? (fun e => e.1 == pc) = tl_39.find? (fun e => e.1 == pc) := (sk_38 pc (Nat.ble_eq_true_of_le (Nat.le_trans (Nat.le_of_ble_eq_true rfl) (Nat.le_of_ble_eq_true h)))).trans (find_app (l1 := tb_368_38) (b := 885) (by decide +kernel) h)
set_option maxRecDepth 100000 in
theorem sk_40 (pc : Nat) (h : Nat.ble 901 pc = true) : (pT M_368).find? (fun e => e.1 == pc) = tl_40.find? (fun e => e.1 == pc) := (sk_39 pc (Nat.ble_eq_true_of_le (Nat.le_trans (Nat.le_of_ble_eq_true rfl) (Nat.le_of_ble_eq_true h)))).trans (find_app (l1 := tb_368_39) (b := 901) (by decide +kernel) h)
set_option maxRecDepth 100000 in
theorem sk_41 (pc : Nat) (h : Nat.ble 920 pc = true) : (pT M_368).find? (fun e => e.1 == pc) = tl_41.find? (fun e => e.1 == pc) := (sk_40 pc (Nat.ble_eq_true_of_le (Nat.le_trans (Nat.le_of_ble_eq_true rfl) (Nat.le_of_ble_eq_true h)))).trans (find_app (l1 := tb_368_40) (b := 920) (by decide +kernel) h)
set_option maxRecDepth 100000 in
theorem sk_42 (pc : Nat) (h : Nat.ble 934 pc = true) : (pT M_368).find? (fun e => e.1 == pc) = tl_42.find? (fun e => e.1 == pc) := (sk_41 pc (Nat.ble_eq_true_of_le (Nat.le_trans (Nat.le_of_ble_eq_true rfl) (Nat.le_of_ble_eq_true h)))).trans (find_app (l1 := tb_368_41) (b := 934) (by decide +kernel) h)
set_option maxRecDepth 100000 in
theorem sk_43 (pc : Nat) (h : Nat.ble 951 pc = true) : (pT M_368).find? (fun e => e.1 == pc) = tl_43.find? (fun e => e.1 == pc) := (sk_42 pc (Nat.ble_eq_true_of_le (Nat.le_trans (Nat.le_of_ble_eq_true rfl) (Nat.le_of_ble_eq_true h)))).trans (find_app (l1 := tb_368_42) (b := 951) (by decide +kernel) h)
set_option maxRecDepth 100000 in
theorem sk_44 (pc : Nat) (h : Nat.ble 969 pc = true) : (pT M_368).find? (fun e => e.1 == pc) = tl_44.find? (fun e => e.1 == pc) := (sk_43 pc (Nat.ble_eq_true_of_le (Nat.le_trans (Nat.le_of_ble_eq_true rfl) (Nat.le_of_ble_eq_true h)))).trans (find_app (l1 := tb_368_43) (b := 969) (by decide +kernel) h)
set_option maxRecDepth 100000 in
theorem sk_45 (pc : Nat) (h : Nat.ble 986 pc = true) : (pT M_368).find? (fun e => e.1 == pc) = tl_45.find? (fun e => e.1 == pc) := (sk_44 pc (Nat.ble_eq_true_of_le (Nat.le_trans (Nat.le_of_ble_eq_true rfl) (Nat.le_of_ble_eq_true h)))).trans (find_app (l1 := tb_368_44) (b := 986) (by decide +kernel) h)
set_option maxRecDepth 100000 in
theorem sk_46 (pc : Nat) (h : Nat.ble 1002 pc = true) : (pT M_368).find? (fun e => e.1 == pc) = tl_46.find? (fun e => e.1 == pc) := (sk_45 pc (Nat.ble_eq_true_of_le (Nat.le_trans (Nat.le_of_ble_eq_true rfl) (Nat.le_of_ble_eq_true h)))).trans (find_app (l1 := tb_368_45) (b := 1002) (by decide +kernel) h)
set_option maxRecDepth 100000 in
theorem sk_47 (pc : Nat) (h : Nat.ble 1021 pc = true) : (pT M_368).find? (fun e => e.1 == pc) = tl_47.find? (fun e => e.1 == pc) := (sk_46 pc (Nat.ble_eq_true_of_le (Nat.le_trans (Nat.le_of_ble_eq_true rfl) (Nat.le_of_ble_eq_true h)))).trans (find_app (l1 := tb_368_46) (b := 1021) (by decide +kernel) h)
set_option maxRecDepth 100000 in
theorem sk_48 (pc : Nat) (h : Nat.ble 1042 pc = true) : (pT M_368).find? (fun e => e.1 == pc) = tl_48.find? (fun e => e.1 == pc) := (sk_47 pc (Nat.ble_eq_true_of_le (Nat.le_trans (Nat.le_of_ble_eq_true rfl) (Nat.le_of_ble_eq_true h)))).trans (find_app (l1 := tb_368_47) (b := 1042) (by decide +kernel) h)
set_option maxRecDepth 100000 in
theorem sk_49 (pc : Nat) (h : Nat.ble 1061 pc = true) : (pT M_368).find? (fun e => e.1 == pc) = tl_49.find? (fun e => e.1 == pc) := (sk_48 pc (Nat.ble_eq_true_of_le (Nat.le_trans (Nat.le_of_ble_eq_true rfl) (Nat.le_of_ble_eq_true h)))).trans (find_app (l1 := tb_368_48) (b := 1061) (by decide +kernel) h)
set_option maxRecDepth 100000 in
theorem sk_50 (pc : Nat) (h : Nat.ble 1077 pc = true) : (pT M_368).find? (fun e => e.1 == pc) = tl_50.find? (fun e => e.1 == pc) := (sk_49 pc (Nat.ble_eq_true_of_le (Nat.le_trans (Nat.le_of_ble_eq_true rfl) (Nat.le_of_ble_eq_true h)))).trans (find_app (l1 := tb_368_49) (b := 1077) (by decide +kernel) h)
set_option maxRecDepth 100000 in
theorem sk_51 (pc : Nat) (h : Nat.ble 1096 pc = true) : (pT M_368).find? (fun e => e.1 == pc) = tl_51.find? (fun e => e.1 == pc) := (sk_50 pc (Nat.ble_eq_true_of_le (Nat.le_trans (Nat.le_of_ble_eq_true rfl) (Nat.le_of_ble_eq_true h)))).trans (find_app (l1 := tb_368_50) (b := 1096) (by decide +kernel) h)
set_option maxRecDepth 100000 in
theorem sk_52 (pc : Nat) (h : Nat.ble 1110 pc = true) : (pT M_368).find? (fun e => e.1 == pc) = tl_52.find? (fun e => e.1 == pc) := (sk_51 pc (Nat.ble_eq_true_of_le (Nat.le_trans (Nat.le_of_ble_eq_true rfl) (Nat.le_of_ble_eq_true h)))).trans (find_app (l1 := tb_368_51) (b := 1110) (by decide +kernel) h)
set_option maxRecDepth 100000 in
theorem sk_53 (pc : Nat) (h : Nat.ble 1127 pc = true) : (pT M_368).find? (fun e => e.1 == pc) = tl_53.find? (fun e => e.1 == pc) := (sk_52 pc (Nat.ble_eq_true_of_le (Nat.le_trans (Nat.le_of_ble_eq_true rfl) (Nat.le_of_ble_eq_true h)))).trans (find_app (l1 := tb_368_52) (b := 1127) (by decide +kernel) h)
set_option maxRecDepth 100000 in
theorem sk_54 (pc : Nat) (h : Nat.ble 1145 pc = true) : (pT M_368).find? (fun e => e.1 == pc) = tl_54.find? (fun e => e.1 == pc) := (sk_53 pc (Nat.ble_eq_true_of_le (Nat.le_trans (Nat.le_of_ble_eq_true rfl) (Nat.le_of_ble_eq_true h)))).trans (find_app (l1 := tb_368_53) (b := 1145) (by decide +kernel) h)
set_option maxRecDepth 100000 in
theorem sk_55 (pc : Nat) (h : Nat.ble 1162 pc = true) : (pT M_368).find? (fun e => e.1 == pc) = tl_55.find? (fun e => e.1 == pc) := (sk_54 pc (Nat.ble_eq_true_of_le (Nat.le_trans (Nat.le_of_ble_eq_true rfl) (Nat.le_of_ble_eq_true h)))).trans (find_app (l1 := tb_368_54) (b := 1162) (by decide +kernel) h)
set_option maxRecDepth 100000 in
theorem sk_56 (pc : Nat) (h : Nat.ble 1178 pc = true) : (pT M_368).find? (fun e => e.1 == pc) = tl_56.find? (fun e => e.1 == pc) := (sk_55 pc (Nat.ble_eq_true_of_le (Nat.le_trans (Nat.le_of_ble_eq_true rfl) (Nat.le_of_ble_eq_true h)))).trans (find_app (l1 := tb_368_55) (b := 1178) (by decide +kernel) h)
set_option maxRecDepth 100000 in
theorem sk_57 (pc : Nat) (h : Nat.ble 1195 pc = true) : (pT M_368).find? (fun e => e.1 == pc) = tl_57.find? (fun e => e.1 == pc) := (sk_56 pc (Nat.ble_eq_true_of_le (Nat.le_trans (Nat.le_of_ble_eq_true rfl) (Nat.le_of_ble_eq_true h)))).trans (find_app (l1 := tb_368_56) (b := 1195) (by decide +kernel) h)
set_option maxRecDepth 100000 in
theorem sk_58 (pc : Nat) (h : Nat.ble 1209 pc = true) : (pT M_368).find? (fun e => e.1 == pc) = tl_58.find? (fun e => e.1 == pc) := (sk_57 pc (Nat.ble_eq_true_of_le (Nat.le_trans (Nat.le_of_ble_eq_true rfl) (Nat.le_of_ble_eq_true h)))).trans (find_app (l1 := tb_368_57) (b := 1209) (by decide +kernel) h)
set_option maxRecDepth 100000 in
theorem sk_59 (pc : Nat) (h : Nat.ble 1226 pc = true) : (pT M_368).find? (fun e => e.1 == pc) = tl_59.find? (fun e => e.1 == pc) := (sk_58 pc (Nat.ble_eq_true_of_le (Nat.le_trans (Nat.le_of_ble_eq_true rfl) (Nat.le_of_ble_eq_true h)))).trans (find_app (l1 := tb_368_58) (b := 1226) (by decide +kernel) h)
set_option maxRecDepth 100000 in
theorem sk_60 (pc : Nat) (h : Nat.ble 1242 pc = true) : (pT M_368).find? (fun e => e.1 == pc) = tl_60.find? (fun e => e.1 == pc) := (sk_59 pc (Nat.ble_eq_true_of_le (Nat.le_trans (Nat.le_of_ble_eq_true rfl) (Nat.le_of_ble_eq_true h)))).trans (find_app (l1 := tb_368_59) (b := 1242) (by decide +kernel) h)
set_option maxRecDepth 100000 in
theorem sk_61 (pc : Nat) (h : Nat.ble 1259 pc = true) : (pT M_368).find? (fun e => e.1 == pc) = tl_61.find? (fun e => e.1 == pc) := (sk_60 pc (Nat.ble_eq_true_of_le (Nat.le_trans (Nat.le_of_ble_eq_true rfl) (Nat.le_of_ble_eq_true h)))).trans (find_app (l1 := tb_368_60) (b := 1259) (by decide +kernel) h)
set_option maxRecDepth 100000 in
theorem sk_62 (pc : Nat) (h : Nat.ble 1276 pc = true) : (pT M_368).find? (fun e => e.1 == pc) = tl_62.find? (fun e => e.1 == pc) := (sk_61 pc (Nat.ble_eq_true_of_le (Nat.le_trans (Nat.le_of_ble_eq_true rfl) (Nat.le_of_ble_eq_true h)))).trans (find_app (l1 := tb_368_61) (b := 1276) (by decide +kernel) h)
set_option maxRecDepth 100000 in
theorem sk_63 (pc : Nat) (h : Nat.ble 1290 pc = true) : (pT M_368).find? (fun e => e.1 == pc) = tl_63.find? (fun e => e.1 == pc) := (sk_62 pc (Nat.ble_eq_true_of_le (Nat.le_trans (Nat.le_of_ble_eq_true rfl) (Nat.le_of_ble_eq_true h)))).trans (find_app (l1 := tb_368_62) (b := 1290) (by decide +kernel) h)
set_option maxRecDepth 100000 in
theorem sk_64 (pc : Nat) (h : Nat.ble 1309 pc = true) : (pT M_368).find? (fun e => e.1 == pc) = tl_64.find? (fun e => e.1 == pc) := (sk_63 pc (Nat.ble_eq_true_of_le (Nat.le_trans (Nat.le_of_ble_eq_true rfl) (Nat.le_of_ble_eq_true h)))).trans (find_app (l1 := tb_368_63) (b := 1309) (by decide +kernel) h)
set_option maxRecDepth 100000 in
theorem sk_65 (pc : Nat) (h : Nat.ble 1323 pc = true) : (pT M_368).find? (fun e => e.1 == pc) = tl_65.find? (fun e => e.1 == pc) := (sk_64 pc (Nat.ble_eq_true_of_le (Nat.le_trans (Nat.le_of_ble_eq_true rfl) (Nat.le_of_ble_eq_true h)))).trans (find_app (l1 := tb_368_64) (b := 1323) (by decide +kernel) h)
set_option maxRecDepth 100000 in
theorem sk_66 (pc : Nat) (h : Nat.ble 1340 pc = true) : (pT M_368).find? (fun e => e.1 == pc) = tl_66.find? (fun e => e.1 == pc) := (sk_65 pc (Nat.ble_eq_true_of_le (Nat.le_trans (Nat.le_of_ble_eq_true rfl) (Nat.le_of_ble_eq_true h)))).trans (find_app (l1 := tb_368_65) (b := 1340) (by decide +kernel) h)
set_option maxRecDepth 100000 in
theorem sk_67 (pc : Nat) (h : Nat.ble 1354 pc = true) : (pT M_368).find? (fun e => e.1 == pc) = tl_67.find? (fun e => e.1 == pc) := (sk_66 pc (Nat.ble_eq_true_of_le (Nat.le_trans (Nat.le_of_ble_eq_true rfl) (Nat.le_of_ble_eq_true h)))).trans (find_app (l1 := tb_368_66) (b := 1354) (by decide +kernel) h)
set_option maxRecDepth 100000 in
theorem sk_68 (pc : Nat) (h : Nat.ble 1373 pc = true) : (pT M_368).find? (fun e => e.1 == pc) = tl_68.find? (fun e => e.1 == pc) := (sk_67 pc (Nat.ble_eq_true_of_le (Nat.le_trans (Nat.le_of_ble_eq_true rfl) (Nat.le_of_ble_eq_true h)))).trans (find_app (l1 := tb_368_67) (b := 1373) (by decide +kernel) h)
set_option maxRecDepth 100000 in
theorem sk_69 (pc : Nat) (h : Nat.ble 1389 pc = true) : (pT M_368).find? (fun e => e.1 == pc) = tl_69.find? (fun e => e.1 == pc) := (sk_68 pc (Nat.ble_eq_true_of_le (Nat.le_trans (Nat.le_of_ble_eq_true rfl) (Nat.le_of_ble_eq_true h)))).trans (find_app (l1 := tb_368_68) (b := 1389) (by decide +kernel) h)
set_option maxRecDepth 100000 in
theorem sk_70 (pc : Nat) (h : Nat.ble 1404 pc = true) : (pT M_368).find? (fun e => e.1 == pc) = tl_70.find? (fun e => e.1 == pc) := (sk_69 pc (Nat.ble_eq_true_of_le (Nat.le_trans (Nat.le_of_ble_eq_true rfl) (Nat.le_of_ble_eq_true h)))).trans (find_app (l1 := tb_368_69) (b := 1404) (by decide +kernel) h)
set_option maxRecDepth 100000 in
theorem sk_71 (pc : Nat) (h : Nat.ble 1422 pc = true) : (pT M_368).find? (fun e => e.1 == pc) = tl_71.find? (fun e => e.1 == pc) := (sk_70 pc (Nat.ble_eq_true_of_le (Nat.le_trans (Nat.le_of_ble_eq_true rfl) (Nat.le_of_ble_eq_true h)))).trans (find_app (l1 := tb_368_70) (b := 1422) (by decide +kernel) h)
set_option maxRecDepth 100000 in
theorem sk_72 (pc : Nat) (h : Nat.ble 1438 pc = true) : (pT M_368).find? (fun e => e.1 == pc) = tl_72.find? (fun e => e.1 == pc) := (sk_71 pc (Nat.ble_eq_true_of_le (Nat.le_trans (Nat.le_of_ble_eq_true rfl) (Nat.le_of_ble_eq_true h)))).trans (find_app (l1 := tb_368_71) (b := 1438) (by decide +kernel) h)
set_option maxRecDepth 100000 in
theorem sk_73 (pc : Nat) (h : Nat.ble 1453 pc = true) : (pT M_368).find? (fun e => e.1 == pc) = tl_73.find? (fun e => e.1 == pc) := (sk_72 pc (Nat.ble_eq_true_of_le (Nat.le_trans (Nat.le_of_ble_eq_true rfl) (Nat.le_of_ble_eq_true h)))).trans (find_app (l1 := tb_368_72) (b := 1453) (by decide +kernel) h)
set_option maxRecDepth 100000 in
theorem sk_74 (pc : Nat) (h : Nat.ble 1472 pc = true) : (pT M_368).find? (fun e => e.1 == pc) = tl_74.find? (fun e => e.1 == pc) := (sk_73 pc (Nat.ble_eq_true_of_le (Nat.le_trans (Nat.le_of_ble_eq_true rfl) (Nat.le_of_ble_eq_true h)))).trans (find_app (l1 := tb_368_73) (b := 1472) (by decide +kernel) h)
set_option maxRecDepth 100000 in
theorem sk_75 (pc : Nat) (h : Nat.ble 1486 pc = true) : (pT M_368).find? (fun e => e.1 == pc) = tl_75.find? (fun e => e.1 == pc) := (sk_74 pc (Nat.ble_eq_true_of_le (Nat.le_trans (Nat.le_of_ble_eq_true rfl) (Nat.le_of_ble_eq_true h)))).trans (find_app (l1 := tb_368_74) (b := 1486) (by decide +kernel) h)
set_option maxRecDepth 100000 in
theorem sk_76 (pc : Nat) (h : Nat.ble 1503 pc = true) : (pT M_368).find? (fun e => e.1 == pc) = tl_76.find? (fun e => e.1 == pc) := (sk_75 pc (Nat.ble_eq_true_of_le (Nat.le_trans (Nat.le_of_ble_eq_true rfl) (Nat.le_of_ble_eq_true h)))).trans (find_app (l1 := tb_368_75) (b := 1503) (by decide +kernel) h)
set_option maxRecDepth 100000 in
theorem sk_77 (pc : Nat) (h : Nat.ble 1517 pc = true) : (pT M_368).find? (fun e => e.1 == pc) = tl_77.find? (fun e => e.1 == pc) := (sk_76 pc (Nat.ble_eq_true_of_le (Nat.le_trans (Nat.le_of_ble_eq_true rfl) (Nat.le_of_ble_eq_true h)))).trans (find_app (l1 := tb_368_76) (b := 1517) (by decide +kernel) h)
set_option maxRecDepth 100000 in
theorem sk_78 (pc : Nat) (h : Nat.ble 1536 pc = true) : (pT M_368).find? (fun e => e.1 == pc) = tl_78.find? (fun e => e.1 == pc) := (sk_77 pc (Nat.ble_eq_true_of_le (Nat.le_trans (Nat.le_of_ble_eq_true rfl) (Nat.le_of_ble_eq_true h)))).trans (find_app (l1 := tb_368_77) (b := 1536) (by decide +kernel) h)
set_option maxRecDepth 100000 in
theorem sk_79 (pc : Nat) (h : Nat.ble 1553 pc = true) : (pT M_368).find? (fun e => e.1 == pc) = tl_79.find? (fun e => e.1 == pc) := (sk_78 pc (Nat.ble_eq_true_of_le (Nat.le_trans (Nat.le_of_ble_eq_true rfl) (Nat.le_of_ble_eq_true h)))).trans (find_app (l1 := tb_368_78) (b := 1553) (by decide +kernel) h)
set_option maxRecDepth 100000 in
theorem sk_80 (pc : Nat) (h : Nat.ble 1570 pc = true) : (pT M_368).find? (fun e => e.1 == pc) = tl_80.find? (fun e => e.1 == pc) := (sk_79 pc (Nat.ble_eq_true_of_le (Nat.le_trans (Nat.le_of_ble_eq_true rfl) (Nat.le_of_ble_eq_true h)))).trans (find_app (l1 := tb_368_79) (b := 1570) (by decide +kernel) h)
set_option maxRecDepth 100000 in
theorem sk_81 (pc : Nat) (h : Nat.ble 1592 pc = true) : (pT M_368).find? (fun e => e.1 == pc) = tl_81.find? (fun e => e.1 == pc) := (sk_80 pc (Nat.ble_eq_true_of_le (Nat.le_trans (Nat.le_of_ble_eq_true rfl) (Nat.le_of_ble_eq_true h)))).trans (find_app (l1 := tb_368_80) (b := 1592) (by decide +kernel) h)
set_option maxRecDepth 100000 in
theorem sk_82 (pc : Nat) (h : Nat.ble 1606 pc = true) : (pT M_368).find? (fun e => e.1 == pc) = tl_82.find? (fun e => e.1 == pc) := (sk_81 pc (Nat.ble_eq_true_of_le (Nat.le_trans (Nat.le_of_ble_eq_true rfl) (Nat.le_of_ble_eq_true h)))).trans (find_app (l1 := tb_368_81) (b := 1606) (by decide +kernel) h)
set_option maxRecDepth 100000 in
theorem sk_83 (pc : Nat) (h : Nat.ble 1626 pc = true) : (pT M_368).find? (fun e => e.1 == pc) = tl_83.find? (fun e => e.1 == pc) := (sk_82 pc (Nat.ble_eq_true_of_le (Nat.le_trans (Nat.le_of_ble_eq_true rfl) (Nat.le_of_ble_eq_true h)))).trans (find_app (l1 := tb_368_82) (b := 1626) (by decide +kernel) h)
set_option maxRecDepth 100000 in
theorem sk_84 (pc : Nat) (h : Nat.ble 1642 pc = true) : (pT M_368).find? (fun e => e.1 == pc) = tl_84.find? (fun e => e.1 == pc) := (sk_83 pc (Nat.ble_eq_true_of_le (Nat.le_trans (Nat.le_of_ble_eq_true rfl) (Nat.le_of_ble_eq_true h)))).trans (find_app (l1 := tb_368_83) (b := 1642) (by decide +kernel) h)
set_option maxRecDepth 100000 in
theorem sk_85 (pc : Nat) (h : Nat.ble 1662 pc = true) : (pT M_368).find? (fun e => e.1 == pc) = tl_85.find? (fun e => e.1 == pc) := (sk_84 pc (Nat.ble_eq_true_of_le (Nat.le_trans (Nat.le_of_ble_eq_true rfl) (Nat.le_of_ble_eq_true h)))).trans (find_app (l1 := tb_368_84) (b := 1662) (by decide +kernel) h)
set_option maxRecDepth 100000 in
theorem sk_86 (pc : Nat) (h : Nat.ble 1683 pc = true) : (pT M_368).find? (fun e => e.1 == pc) = tl_86.find? (fun e => e.1 == pc) := (sk_85 pc (Nat.ble_eq_true_of_le (Nat.le_trans (Nat.le_of_ble_eq_true rfl) (Nat.le_of_ble_eq_true h)))).trans (find_app (l1 := tb_368_85) (b := 1683) (by decide +kernel) h)
set_option maxRecDepth 100000 in
theorem sk_87 (pc : Nat) (h : Nat.ble 1697 pc = true) : (pT M_368).find? (fun e => e.1 == pc) = tl_87.find? (fun e => e.1 == pc) := (sk_86 pc (Nat.ble_eq_true_of_le (Nat.le_trans (Nat.le_of_ble_eq_true rfl) (Nat.le_of_ble_eq_true h)))).trans (find_app (l1 := tb_368_86) (b := 1697) (by decide +kernel) h)
set_option maxRecDepth 100000 in
theorem sk_88 (pc : Nat) (h : Nat.ble 1714 pc = true) : (pT M_368).find? (fun e => e.1 == pc) = tl_88.find? (fun e => e.1 == pc) := (sk_87 pc (Nat.ble_eq_true_of_le (Nat.le_trans (Nat.le_of_ble_eq_true rfl) (Nat.le_of_ble_eq_true h)))).trans (find_app (l1 := tb_368_87) (b := 1714) (by decide +kernel) h)
set_option maxRecDepth 100000 in
theorem sk_89 (pc : Nat) (h : Nat.ble 1730 pc = true) : (pT M_368).find? (fun e => e.1 == pc) = tl_89.find? (fun e => e.1 == pc) := (sk_88 pc (Nat.ble_eq_true_of_le (Nat.le_trans (Nat.le_of_ble_eq_true rfl) (Nat.le_of_ble_eq_true h)))).trans (find_app (l1 := tb_368_88) (b := 1730) (by decide +kernel) h)
set_option maxRecDepth 100000 in
theorem sk_90 (pc : Nat) (h : Nat.ble 1747 pc = true) : (pT M_368).find? (fun e => e.1 == pc) = tl_90.find? (fun e => e.1 == pc) := (sk_89 pc (Nat.ble_eq_true_of_le (Nat.le_trans (Nat.le_of_ble_eq_true rfl) (Nat.le_of_ble_eq_true h)))).trans (find_app (l1 := tb_368_89) (b := 1747) (by decide +kernel) h)
set_option maxRecDepth 100000 in
theorem sk_91 (pc : Nat) (h : Nat.ble 1761 pc = true) : (pT M_368).find? (fun e => e.1 == pc) = tl_91.find? (fun e => e.1 == pc) := (sk_90 pc (Nat.ble_eq_true_of_le (Nat.le_trans (Nat.le_of_ble_eq_true rfl) (Nat.le_of_ble_eq_true h)))).trans (find_app (l1 := tb_368_90) (b := 1761) (by decide +kernel) h)
set_option maxRecDepth 100000 in
theorem sk_92 (pc : Nat) (h : Nat.ble 1778 pc = true) : (pT M_368).find? (fun e => e.1 == pc) = tl_92.find? (fun e => e.1 == pc) := (sk_91 pc (Nat.ble_eq_true_of_le (Nat.le_trans (Nat.le_of_ble_eq_true rfl) (Nat.le_of_ble_eq_true h)))).trans (find_app (l1 := tb_368_91) (b := 1778) (by decide +kernel) h)
set_option maxRecDepth 100000 in
theorem sk_93 (pc : Nat) (h : Nat.ble 1792 pc = true) : (pT M_368).find? (fun e => e.1 == pc) = tl_93.find? (fun e => e.1 == pc) := (sk_92 pc (Nat.ble_eq_true_of_le (Nat.le_trans (Nat.le_of_ble_eq_true rfl) (Nat.le_of_ble_eq_true h)))).trans (find_app (l1 := tb_368_92) (b := 1792) (by decide +kernel) h)
set_option maxRecDepth 100000 in
theorem sk_94 (pc : Nat) (h : Nat.ble 1811 pc = true) : (pT M_368).find? (fun e => e.1 == pc) = tl_94.find? (fun e => e.1 == pc) := (sk_93 pc (Nat.ble_eq_true_of_le (Nat.le_trans (Nat.le_of_ble_eq_true rfl) (Nat.le_of_ble_eq_true h)))).trans (find_app (l1 := tb_368_93) (b := 1811) (by decide +kernel) h)
set_option maxRecDepth 100000 in
theorem sk_95 (pc : Nat) (h : Nat.ble 1830 pc = true) : (pT M_368).find? (fun e => e.1 == pc) = tl_95.find? (fun e => e.1 == pc) := (sk_94 pc (Nat.ble_eq_true_of_le (Nat.le_trans (Nat.le_of_ble_eq_true rfl) (Nat.le_of_ble_eq_true h)))).trans (find_app (l1 := tb_368_94) (b := 1830) (by decide +kernel) h)
set_option maxRecDepth 100000 in
theorem sk_96 (pc : Nat) (h : Nat.ble 1850 pc = true) : (pT M_368).find? (fun e => e.1 == pc) = tl_96.find? (fun e => e.1 == pc) := (sk_95 pc (Nat.ble_eq_true_of_le (Nat.le_trans (Nat.le_of_ble_eq_true rfl) (Nat.le_of_ble_eq_true h)))).trans (find_app (l1 := tb_368_95) (b := 1850) (by decide +kernel) h)
set_option maxRecDepth 100000 in
theorem sk_97 (pc : Nat) (h : Nat.ble 1873 pc = true) : (pT M_368).find? (fun e => e.1 == pc) = tl_97.find? (fun e => e.1 == pc) := (sk_96 pc (Nat.ble_eq_true_of_le (Nat.le_trans (Nat.le_of_ble_eq_true rfl) (Nat.le_of_ble_eq_true h)))).trans (find_app (l1 := tb_368_96) (b := 1873) (by decide +kernel) h)
set_option maxRecDepth 100000 in
theorem sk_98 (pc : Nat) (h : Nat.ble 1890 pc = true) : (pT M_368).find? (fun e => e.1 == pc) = tl_98.find? (fun e => e.1 == pc) := (sk_97 pc (Nat.ble_eq_true_of_le (Nat.le_trans (Nat.le_of_ble_eq_true rfl) (Nat.le_of_ble_eq_true h)))).trans (find_app (l1 := tb_368_97) (b := 1890) (by decide +kernel) h)
set_option maxRecDepth 100000 in
theorem sk_99 (pc : Nat) (h : Nat.ble 1915 pc = true) : (pT M_368).find? (fun e => e.1 == pc) = tl_99.find? (fun e => e.1 == pc) := (sk_98 pc (Nat.ble_eq_true_of_le (Nat.le_trans (Nat.le_of_ble_eq_true rfl) (Nat.le_of_ble_eq_true h)))).trans (find_app (l1 := tb_368_98) (b := 1915) (by decide +kernel) h)
set_option maxRecDepth 100000 in
theorem sk_100 (pc : Nat) (h : Nat.ble 1932 pc = true) : (pT M_368).find? (fun e => e.1 == pc) = tl_100.find? (fun e => e.1 == pc) := (sk_99 pc (Nat.ble_eq_true_of_le (Nat.le_trans (Nat.le_of_ble_eq_true rfl) (Nat.le_of_ble_eq_true h)))).trans (find_app (l1 := tb_368_99) (b := 1932) (by decide +kernel) h)
set_option maxRecDepth 100000 in
theorem sk_101 (pc : Nat) (h : Nat.ble 1950 pc = true) : (pT M_368).find? (fun e => e.1 == pc) = tl_101.find? (fun e => e.1 == pc) := (sk_100 pc (Nat.ble_eq_true_of_le (Nat.le_trans (Nat.le_of_ble_eq_true rfl) (Nat.le_of_ble_eq_true h)))).trans (find_app (l1 := tb_368_100) (b := 1950) (by decide +kernel) h)
set_option maxRecDepth 100000 in
theorem sk_102 (pc : Nat) (h : Nat.ble 1971 pc = true) : (pT M_368).find? (fun e => e.1 == pc) = tl_102.find? (fun e => e.1 == pc) := (sk_101 pc (Nat.ble_eq_true_of_le (Nat.le_trans (Nat.le_of_ble_eq_true rfl) (Nat.le_of_ble_eq_true h)))).trans (find_app (l1 := tb_368_101) (b := 1971) (by decide +kernel) h)
set_option maxRecDepth 100000 in
theorem sk_103 (pc : Nat) (h : Nat.ble 1985 pc = true) : (pT M_368).find? (fun e => e.1 == pc) = tl_103.find? (fun e => e.1 == pc) := (sk_102 pc (Nat.ble_eq_true_of_le (Nat.le_trans (Nat.le_of_ble_eq_true rfl) (Nat.le_of_ble_eq_true h)))).trans (find_app (l1 := tb_368_102) (b := 1985) (by decide +kernel) h)
set_option maxRecDepth 100000 in
theorem sk_104 (pc : Nat) (h : Nat.ble 2002 pc = true) : (pT M_368).find? (fun e => e.1 == pc) = tl_104.find? (fun e => e.1 == pc) := (sk_103 pc (Nat.ble_eq_true_of_le (Nat.le_trans (Nat.le_of_ble_eq_true rfl) (Nat.le_of_ble_eq_true h)))).trans (find_app (l1 := tb_368_103) (b := 2002) (by decide +kernel) h)
set_option maxRecDepth 100000 in
theorem sk_105 (pc : Nat) (h : Nat.ble 2021 pc = true) : (pT M_368).find? (fun e => e.1 == pc) = tl_105.find? (fun e => e.1 == pc) := (sk_104 pc (Nat.ble_eq_true_of_le (Nat.le_trans (Nat.le_of_ble_eq_true rfl) (Nat.le_of_ble_eq_true h)))).trans (find_app (l1 := tb_368_104) (b := 2021) (by decide +kernel) h)
set_option maxRecDepth 100000 in
theorem sk_106 (pc : Nat) (h : Nat.ble 2038 pc = true) : (pT M_368).find? (fun e => e.1 == pc) = tl_106.find? (fun e => e.1 == pc) := (sk_105 pc (Nat.ble_eq_true_of_le (Nat.le_trans (Nat.le_of_ble_eq_true rfl) (Nat.le_of_ble_eq_true h)))).trans (find_app (l1 := tb_368_105) (b := 2038) (by decide +kernel) h)
set_option maxRecDepth 100000 in
theorem sk_107 (pc : Nat) (h : Nat.ble 2055 pc = true) : (pT M_368).find? (fun e => e.1 == pc) = tl_107.find? (fun e => e.1 == pc) := (sk_106 pc (Nat.ble_eq_true_of_le (Nat.le_trans (Nat.le_of_ble_eq_true rfl) (Nat.le_of_ble_eq_true h)))).trans (find_app (l1 := tb_368_106) (b := 2055) (by decide +kernel) h)
set_option maxRecDepth 100000 in
theorem sk_108 (pc : Nat) (h : Nat.ble 2074 pc = true) : (pT M_368).find? (fun e => e.1 == pc) = tl_108.find? (fun e => e.1 == pc) := (sk_107 pc (Nat.ble_eq_true_of_le (Nat.le_trans (Nat.le_of_ble_eq_true rfl) (Nat.le_of_ble_eq_true h)))).trans (find_app (l1 := tb_368_107) (b := 2074) (by decide +kernel) h)
set_option maxRecDepth 100000 in
theorem sk_109 (pc : Nat) (h : Nat.ble 2091 pc = true) : (pT M_368).find? (fun e => e.1 == pc) = tl_109.find? (fun e => e.1 == pc) := (sk_108 pc (Nat.ble_eq_true_of_le (Nat.le_trans (Nat.le_of_ble_eq_true rfl) (Nat.le_of_ble_eq_true h)))).trans (find_app (l1 := tb_368_108) (b := 2091) (by decide +kernel) h)
set_option maxRecDepth 100000 in
theorem sk_110 (pc : Nat) (h : Nat.ble 2108 pc = true) : (pT M_368).find? (fun e => e.1 == pc) = tl_110.find? (fun e => e.1 == pc) := (sk_109 pc (Nat.ble_eq_true_of_le (Nat.le_trans (Nat.le_of_ble_eq_true rfl) (Nat.le_of_ble_eq_true h)))).trans (find_app (l1 := tb_368_109) (b := 2108) (by decide +kernel) h)
set_option maxRecDepth 100000 in
theorem sk_111 (pc : Nat) (h : Nat.ble 2122 pc = true) : (pT M_368).find? (fun e => e.1 == pc) = tl_111.find? (fun e => e.1 == pc) := (sk_110 pc (Nat.ble_eq_true_of_le (Nat.le_trans (Nat.le_of_ble_eq_true rfl) (Nat.le_of_ble_eq_true h)))).trans (find_app (l1 := tb_368_110) (b := 2122) (by decide +kernel) h)
set_option maxRecDepth 100000 in
theorem sk_112 (pc : Nat) (h : Nat.ble 2141 pc = true) : (pT M_368).find? (fun e => e.1 == pc) = tl_112.find? (fun e => e.1 == pc) := (sk_111 pc (Nat.ble_eq_true_of_le (Nat.le_trans (Nat.le_of_ble_eq_true rfl) (Nat.le_of_ble_eq_true h)))).trans (find_app (l1 := tb_368_111) (b := 2141) (by decide +kernel) h)
set_option maxRecDepth 100000 in
theorem sk_113 (pc : Nat) (h : Nat.ble 2157 pc = true) : (pT M_368).find? (fun e => e.1 == pc) = tl_113.find? (fun e => e.1 == pc) := (sk_112 pc (Nat.ble_eq_true_of_le (Nat.le_trans (Nat.le_of_ble_eq_true rfl) (Nat.le_of_ble_eq_true h)))).trans (find_app (l1 := tb_368_112) (b := 2157) (by decide +kernel) h)
set_option maxRecDepth 100000 in
theorem sk_114 (pc : Nat) (h : Nat.ble 2176 pc = true) : (pT M_368).find? (fun e => e.1 == pc) = tl_114.find? (fun e => e.1 == pc) := (sk_113 pc (Nat.ble_eq_true_of_le (Nat.le_trans (Nat.le_of_ble_eq_true rfl) (Nat.le_of_ble_eq_true h)))).trans (find_app (l1 := tb_368_113) (b := 2176) (by decide +kernel) h)
set_option maxRecDepth 100000 in
theorem sk_115 (pc : Nat) (h : Nat.ble 2190 pc = true) : (pT M_368).find? (fun e => e.1 == pc) = tl_115.find? (fun e => e.1 == pc) := (sk_114 pc (Nat.ble_eq_true_of_le (Nat.le_trans (Nat.le_of_ble_eq_true rfl) (Nat.le_of_ble_eq_true h)))).trans (find_app (l1 := tb_368_114) (b := 2190) (by decide +kernel) h)
set_option maxRecDepth 100000 in
theorem sk_116 (pc : Nat) (h : Nat.ble 2207 pc = true) : (pT M_368).find? (fun e => e.1 == pc) = tl_116.find? (fun e => e.1 == pc) := (sk_115 pc (Nat.ble_eq_true_of_le (Nat.le_trans (Nat.le_of_ble_eq_true rfl) (Nat.le_of_ble_eq_true h)))).trans (find_app (l1 := tb_368_115) (b := 2207) (by decide +kernel) h)
set_option maxRecDepth 100000 in
theorem sk_117 (pc : Nat) (h : Nat.ble 2221 pc = true) : (pT M_368).find? (fun e => e.1 == pc) = tl_117.find? (fun e => e.1 == pc) := (sk_116 pc (Nat.ble_eq_true_of_le (Nat.le_trans (Nat.le_of_ble_eq_true rfl) (Nat.le_of_ble_eq_true h)))).trans (find_app (l1 := tb_368_116) (b := 2221) (by decide +kernel) h)
set_option maxRecDepth 100000 in
theorem sk_118 (pc : Nat) (h : Nat.ble 2240 pc = true) : (pT M_368).find? (fun e => e.1 == pc) = tl_118.find? (fun e => e.1 == pc) := (sk_117 pc (Nat.ble_eq_true_of_le (Nat.le_trans (Nat.le_of_ble_eq_true rfl) (Nat.le_of_ble_eq_true h)))).trans (find_app (l1 := tb_368_117) (b := 2240) (by decide +kernel) h)
set_option maxRecDepth 100000 in
theorem sk_119 (pc : Nat) (h : Nat.ble 2258 pc = true) : (pT M_368).find? (fun e => e.1 == pc) = tl_119.find? (fun e => e.1 == pc) := (sk_118 pc (Nat.ble_eq_true_of_le (Nat.le_trans (Nat.le_of_ble_eq_true rfl) (Nat.le_of_ble_eq_true h)))).trans (find_app (l1 := tb_368_118) (b := 2258) (by decide +kernel) h)
set_option maxRecDepth 100000 in
theorem sk_120 (pc : Nat) (h : Nat.ble 2277 pc = true) : (pT M_368).find? (fun e => e.1 == pc) = tl_120.find? (fun e => e.1 == pc) := (sk_119 pc (Nat.ble_eq_true_of_le (Nat.le_trans (Nat.le_of_ble_eq_true rfl) (Nat.le_of_ble_eq_true h)))).trans (find_app (l1 := tb_368_119) (b := 2277) (by decide +kernel) h)
set_option maxRecDepth 100000 in
theorem sk_121 (pc : Nat) (h : Nat.ble 2296 pc = true) : (pT M_368).find? (fun e => e.1 == pc) = tl_121.find? (fun e => e.1 == pc) := (sk_120 pc (Nat.ble_eq_true_of_le (Nat.le_trans (Nat.le_of_ble_eq_true rfl) (Nat.le_of_ble_eq_true h)))).trans (find_app (l1 := tb_368_120) (b := 2296) (by decide +kernel) h)
set_option maxRecDepth 100000 in
theorem sk_122 (pc : Nat) (h : Nat.ble 2314 pc = true) : (pT M_368).find? (fun e => e.1 == pc) = tl_122.find? (fun e => e.1 == pc) := (sk_121 pc (Nat.ble_eq_true_of_le (Nat.le_trans (Nat.le_of_ble_eq_true rfl) (Nat.le_of_ble_eq_true h)))).trans (find_app (l1 := tb_368_121) (b := 2314) (by decide +kernel) h)
set_option maxRecDepth 100000 in
theorem sk_123 (pc : Nat) (h : Nat.ble 2332 pc = true) : (pT M_368).find? (fun e => e.1 == pc) = tl_123.find? (fun e => e.1 == pc) := (sk_122 pc (Nat.ble_eq_true_of_le (Nat.le_trans (Nat.le_of_ble_eq_true rfl) (Nat.le_of_ble_eq_true h)))).trans (find_app (l1 := tb_368_122) (b := 2332) (by decide +kernel) h)
/-! laid by wip/hand/lw.py: cases of the law -/
theorem te_368_590 : (pT M_368).find? (fun e => e.1 == 590) = some (590, .aload_n 1, 0, 0) := (sk_22 590 rfl).trans rfl
theorem te_368_591 : (pT M_368).find? (fun e => e.1 == 591) = some (591, .aload_n 0, 0, 0) := (sk_22 591 rfl).trans rfl
theorem te_368_592 : (pT M_368).find? (fun e => e.1 == 592) = some (592, .iload 4, 0, 0) := (sk_22 592 rfl).trans rfl
theorem te_368_594 : (pT M_368).find? (fun e => e.1 == 594) = some (594, .iconst 1, 0, 0) := (sk_22 594 rfl).trans rfl
theorem te_368_595 : (pT M_368).find? (fun e => e.1 == 595) = some (595, .iadd, 0, 0) := (sk_22 595 rfl).trans rfl
theorem te_368_596 : (pT M_368).find? (fun e => e.1 == 596) = some (596, .iaload, 0, 0) := (sk_22 596 rfl).trans rfl
theorem te_368_597 : (pT M_368).find? (fun e => e.1 == 597) = some (597, .aload_n 0, 0, 0) := (sk_23 597 rfl).trans rfl
theorem te_368_598 : (pT M_368).find? (fun e => e.1 == 598) = some (598, .iload 4, 0, 0) := (sk_23 598 rfl).trans rfl
theorem te_368_600 : (pT M_368).find? (fun e => e.1 == 600) = some (600, .iconst 2, 0, 0) := (sk_23 600 rfl).trans rfl
theorem te_368_601 : (pT M_368).find? (fun e => e.1 == 601) = some (601, .iadd, 0, 0) := (sk_23 601 rfl).trans rfl
theorem te_368_602 : (pT M_368).find? (fun e => e.1 == 602) = some (602, .iaload, 0, 0) := (sk_23 602 rfl).trans rfl
theorem te_368_603 : (pT M_368).find? (fun e => e.1 == 603) = some (603, .aload_n 3, 0, 0) := (sk_23 603 rfl).trans rfl
theorem te_368_604 : (pT M_368).find? (fun e => e.1 == 604) = some (604, .invokestatic 203, 64, 8) := (sk_23 604 rfl).trans rfl
theorem te_368_607 : (pT M_368).find? (fun e => e.1 == 607) = some (607, .istore 5, 0, 0) := (sk_23 607 rfl).trans rfl
theorem te_368_609 : (pT M_368).find? (fun e => e.1 == 609) = some (609, .aload_n 2, 0, 0) := (sk_23 609 rfl).trans rfl
theorem te_368_610 : (pT M_368).find? (fun e => e.1 == 610) = some (610, .aload_n 0, 0, 0) := (sk_23 610 rfl).trans rfl
theorem te_368_611 : (pT M_368).find? (fun e => e.1 == 611) = some (611, .iload 4, 0, 0) := (sk_23 611 rfl).trans rfl
theorem te_368_613 : (pT M_368).find? (fun e => e.1 == 613) = some (613, .iconst 1, 0, 0) := (sk_23 613 rfl).trans rfl
theorem te_368_614 : (pT M_368).find? (fun e => e.1 == 614) = some (614, .iadd, 0, 0) := (sk_24 614 rfl).trans rfl
theorem te_368_615 : (pT M_368).find? (fun e => e.1 == 615) = some (615, .iaload, 0, 0) := (sk_24 615 rfl).trans rfl
theorem te_368_616 : (pT M_368).find? (fun e => e.1 == 616) = some (616, .aload_n 0, 0, 0) := (sk_24 616 rfl).trans rfl
theorem te_368_617 : (pT M_368).find? (fun e => e.1 == 617) = some (617, .iload 4, 0, 0) := (sk_24 617 rfl).trans rfl
theorem te_368_619 : (pT M_368).find? (fun e => e.1 == 619) = some (619, .iconst 2, 0, 0) := (sk_24 619 rfl).trans rfl
theorem te_368_620 : (pT M_368).find? (fun e => e.1 == 620) = some (620, .iadd, 0, 0) := (sk_24 620 rfl).trans rfl
theorem te_368_621 : (pT M_368).find? (fun e => e.1 == 621) = some (621, .iaload, 0, 0) := (sk_24 621 rfl).trans rfl
theorem te_368_622 : (pT M_368).find? (fun e => e.1 == 622) = some (622, .invokevirtual 205, 238, 0) := (sk_24 622 rfl).trans rfl
theorem te_368_625 : (pT M_368).find? (fun e => e.1 == 625) = some (625, .istore 6, 0, 0) := (sk_24 625 rfl).trans rfl
theorem te_368_627 : (pT M_368).find? (fun e => e.1 == 627) = some (627, .goto 1717, 0, 0) := (sk_24 627 rfl).trans rfl
theorem te_368_630 : (pT M_368).find? (fun e => e.1 == 630) = some (630, .aload_n 1, 0, 0) := (sk_24 630 rfl).trans rfl
theorem te_368_631 : (pT M_368).find? (fun e => e.1 == 631) = some (631, .invokevirtual 206, 10, 0) := (sk_24 631 rfl).trans rfl
theorem te_368_634 : (pT M_368).find? (fun e => e.1 == 634) = some (634, .pop, 0, 0) := (sk_25 634 rfl).trans rfl
theorem te_368_635 : (pT M_368).find? (fun e => e.1 == 635) = some (635, .aload_n 2, 0, 0) := (sk_25 635 rfl).trans rfl
theorem te_368_636 : (pT M_368).find? (fun e => e.1 == 636) = some (636, .invokevirtual 210, 239, 0) := (sk_25 636 rfl).trans rfl
theorem te_368_639 : (pT M_368).find? (fun e => e.1 == 639) = some (639, .pop, 0, 0) := (sk_25 639 rfl).trans rfl
theorem te_368_640 : (pT M_368).find? (fun e => e.1 == 640) = some (640, .goto 1704, 0, 0) := (sk_25 640 rfl).trans rfl
theorem te_368_711 : (pT M_368).find? (fun e => e.1 == 711) = some (711, .aload_n 1, 0, 0) := (sk_29 711 rfl).trans rfl
theorem te_368_712 : (pT M_368).find? (fun e => e.1 == 712) = some (712, .aload_n 0, 0, 0) := (sk_29 712 rfl).trans rfl
theorem te_368_713 : (pT M_368).find? (fun e => e.1 == 713) = some (713, .iload 4, 0, 0) := (sk_29 713 rfl).trans rfl
theorem te_368_715 : (pT M_368).find? (fun e => e.1 == 715) = some (715, .iconst 1, 0, 0) := (sk_29 715 rfl).trans rfl
theorem te_368_716 : (pT M_368).find? (fun e => e.1 == 716) = some (716, .iadd, 0, 0) := (sk_29 716 rfl).trans rfl
theorem te_368_717 : (pT M_368).find? (fun e => e.1 == 717) = some (717, .iaload, 0, 0) := (sk_29 717 rfl).trans rfl
theorem te_368_718 : (pT M_368).find? (fun e => e.1 == 718) = some (718, .aload_n 0, 0, 0) := (sk_29 718 rfl).trans rfl
theorem te_368_719 : (pT M_368).find? (fun e => e.1 == 719) = some (719, .iload 4, 0, 0) := (sk_29 719 rfl).trans rfl
theorem te_368_721 : (pT M_368).find? (fun e => e.1 == 721) = some (721, .iconst 2, 0, 0) := (sk_29 721 rfl).trans rfl
theorem te_368_722 : (pT M_368).find? (fun e => e.1 == 722) = some (722, .iadd, 0, 0) := (sk_29 722 rfl).trans rfl
theorem te_368_723 : (pT M_368).find? (fun e => e.1 == 723) = some (723, .iaload, 0, 0) := (sk_30 723 rfl).trans rfl
theorem te_368_724 : (pT M_368).find? (fun e => e.1 == 724) = some (724, .aload_n 0, 0, 0) := (sk_30 724 rfl).trans rfl
theorem te_368_725 : (pT M_368).find? (fun e => e.1 == 725) = some (725, .iload 4, 0, 0) := (sk_30 725 rfl).trans rfl
theorem te_368_727 : (pT M_368).find? (fun e => e.1 == 727) = some (727, .iconst 3, 0, 0) := (sk_30 727 rfl).trans rfl
theorem te_368_728 : (pT M_368).find? (fun e => e.1 == 728) = some (728, .iadd, 0, 0) := (sk_30 728 rfl).trans rfl
theorem te_368_729 : (pT M_368).find? (fun e => e.1 == 729) = some (729, .iaload, 0, 0) := (sk_30 729 rfl).trans rfl
theorem te_368_730 : (pT M_368).find? (fun e => e.1 == 730) = some (730, .aload_n 3, 0, 0) := (sk_30 730 rfl).trans rfl
theorem te_368_731 : (pT M_368).find? (fun e => e.1 == 731) = some (731, .invokestatic 217, 71, 8) := (sk_30 731 rfl).trans rfl
theorem te_368_734 : (pT M_368).find? (fun e => e.1 == 734) = some (734, .istore 5, 0, 0) := (sk_30 734 rfl).trans rfl
theorem te_368_736 : (pT M_368).find? (fun e => e.1 == 736) = some (736, .aload_n 2, 0, 0) := (sk_30 736 rfl).trans rfl
theorem te_368_737 : (pT M_368).find? (fun e => e.1 == 737) = some (737, .aload_n 0, 0, 0) := (sk_30 737 rfl).trans rfl
theorem te_368_738 : (pT M_368).find? (fun e => e.1 == 738) = some (738, .iload 4, 0, 0) := (sk_30 738 rfl).trans rfl
theorem te_368_740 : (pT M_368).find? (fun e => e.1 == 740) = some (740, .iconst 1, 0, 0) := (sk_31 740 rfl).trans rfl
theorem te_368_741 : (pT M_368).find? (fun e => e.1 == 741) = some (741, .iadd, 0, 0) := (sk_31 741 rfl).trans rfl
theorem te_368_742 : (pT M_368).find? (fun e => e.1 == 742) = some (742, .iaload, 0, 0) := (sk_31 742 rfl).trans rfl
theorem te_368_743 : (pT M_368).find? (fun e => e.1 == 743) = some (743, .aload_n 0, 0, 0) := (sk_31 743 rfl).trans rfl
theorem te_368_744 : (pT M_368).find? (fun e => e.1 == 744) = some (744, .iload 4, 0, 0) := (sk_31 744 rfl).trans rfl
theorem te_368_746 : (pT M_368).find? (fun e => e.1 == 746) = some (746, .iconst 2, 0, 0) := (sk_31 746 rfl).trans rfl
theorem te_368_747 : (pT M_368).find? (fun e => e.1 == 747) = some (747, .iadd, 0, 0) := (sk_31 747 rfl).trans rfl
theorem te_368_748 : (pT M_368).find? (fun e => e.1 == 748) = some (748, .iaload, 0, 0) := (sk_31 748 rfl).trans rfl
theorem te_368_749 : (pT M_368).find? (fun e => e.1 == 749) = some (749, .aload_n 0, 0, 0) := (sk_31 749 rfl).trans rfl
theorem te_368_750 : (pT M_368).find? (fun e => e.1 == 750) = some (750, .iload 4, 0, 0) := (sk_31 750 rfl).trans rfl
theorem te_368_752 : (pT M_368).find? (fun e => e.1 == 752) = some (752, .iconst 3, 0, 0) := (sk_31 752 rfl).trans rfl
theorem te_368_753 : (pT M_368).find? (fun e => e.1 == 753) = some (753, .iadd, 0, 0) := (sk_31 753 rfl).trans rfl
theorem te_368_754 : (pT M_368).find? (fun e => e.1 == 754) = some (754, .iaload, 0, 0) := (sk_32 754 rfl).trans rfl
theorem te_368_755 : (pT M_368).find? (fun e => e.1 == 755) = some (755, .invokevirtual 220, 252, 0) := (sk_32 755 rfl).trans rfl
theorem te_368_758 : (pT M_368).find? (fun e => e.1 == 758) = some (758, .istore 6, 0, 0) := (sk_32 758 rfl).trans rfl
theorem te_368_760 : (pT M_368).find? (fun e => e.1 == 760) = some (760, .goto 1584, 0, 0) := (sk_32 760 rfl).trans rfl
theorem te_368_763 : (pT M_368).find? (fun e => e.1 == 763) = some (763, .aload_n 1, 0, 0) := (sk_32 763 rfl).trans rfl
theorem te_368_764 : (pT M_368).find? (fun e => e.1 == 764) = some (764, .aload_n 0, 0, 0) := (sk_32 764 rfl).trans rfl
theorem te_368_765 : (pT M_368).find? (fun e => e.1 == 765) = some (765, .iload 4, 0, 0) := (sk_32 765 rfl).trans rfl
theorem te_368_767 : (pT M_368).find? (fun e => e.1 == 767) = some (767, .iconst 1, 0, 0) := (sk_32 767 rfl).trans rfl
theorem te_368_768 : (pT M_368).find? (fun e => e.1 == 768) = some (768, .iadd, 0, 0) := (sk_32 768 rfl).trans rfl
theorem te_368_769 : (pT M_368).find? (fun e => e.1 == 769) = some (769, .iaload, 0, 0) := (sk_32 769 rfl).trans rfl
theorem te_368_770 : (pT M_368).find? (fun e => e.1 == 770) = some (770, .aload_n 0, 0, 0) := (sk_32 770 rfl).trans rfl
theorem te_368_771 : (pT M_368).find? (fun e => e.1 == 771) = some (771, .iload 4, 0, 0) := (sk_32 771 rfl).trans rfl
theorem te_368_773 : (pT M_368).find? (fun e => e.1 == 773) = some (773, .iconst 2, 0, 0) := (sk_33 773 rfl).trans rfl
theorem te_368_774 : (pT M_368).find? (fun e => e.1 == 774) = some (774, .iadd, 0, 0) := (sk_33 774 rfl).trans rfl
theorem te_368_775 : (pT M_368).find? (fun e => e.1 == 775) = some (775, .iaload, 0, 0) := (sk_33 775 rfl).trans rfl
theorem te_368_776 : (pT M_368).find? (fun e => e.1 == 776) = some (776, .aload_n 3, 0, 0) := (sk_33 776 rfl).trans rfl
theorem te_368_777 : (pT M_368).find? (fun e => e.1 == 777) = some (777, .invokestatic 221, 78, 8) := (sk_33 777 rfl).trans rfl
theorem te_368_780 : (pT M_368).find? (fun e => e.1 == 780) = some (780, .istore 5, 0, 0) := (sk_33 780 rfl).trans rfl
theorem te_368_782 : (pT M_368).find? (fun e => e.1 == 782) = some (782, .aload_n 2, 0, 0) := (sk_33 782 rfl).trans rfl
theorem te_368_783 : (pT M_368).find? (fun e => e.1 == 783) = some (783, .aload_n 0, 0, 0) := (sk_33 783 rfl).trans rfl
theorem te_368_784 : (pT M_368).find? (fun e => e.1 == 784) = some (784, .iload 4, 0, 0) := (sk_33 784 rfl).trans rfl
theorem te_368_786 : (pT M_368).find? (fun e => e.1 == 786) = some (786, .iconst 1, 0, 0) := (sk_33 786 rfl).trans rfl
theorem te_368_787 : (pT M_368).find? (fun e => e.1 == 787) = some (787, .iadd, 0, 0) := (sk_33 787 rfl).trans rfl
theorem te_368_788 : (pT M_368).find? (fun e => e.1 == 788) = some (788, .iaload, 0, 0) := (sk_33 788 rfl).trans rfl
theorem te_368_789 : (pT M_368).find? (fun e => e.1 == 789) = some (789, .aload_n 0, 0, 0) := (sk_34 789 rfl).trans rfl
theorem te_368_790 : (pT M_368).find? (fun e => e.1 == 790) = some (790, .iload 4, 0, 0) := (sk_34 790 rfl).trans rfl
theorem te_368_792 : (pT M_368).find? (fun e => e.1 == 792) = some (792, .iconst 2, 0, 0) := (sk_34 792 rfl).trans rfl
theorem te_368_793 : (pT M_368).find? (fun e => e.1 == 793) = some (793, .iadd, 0, 0) := (sk_34 793 rfl).trans rfl
theorem te_368_794 : (pT M_368).find? (fun e => e.1 == 794) = some (794, .iaload, 0, 0) := (sk_34 794 rfl).trans rfl
theorem te_368_795 : (pT M_368).find? (fun e => e.1 == 795) = some (795, .invokevirtual 223, 260, 0) := (sk_34 795 rfl).trans rfl
theorem te_368_798 : (pT M_368).find? (fun e => e.1 == 798) = some (798, .istore 6, 0, 0) := (sk_34 798 rfl).trans rfl
theorem te_368_800 : (pT M_368).find? (fun e => e.1 == 800) = some (800, .goto 1544, 0, 0) := (sk_34 800 rfl).trans rfl
theorem te_368_803 : (pT M_368).find? (fun e => e.1 == 803) = some (803, .aload_n 1, 0, 0) := (sk_34 803 rfl).trans rfl
theorem te_368_804 : (pT M_368).find? (fun e => e.1 == 804) = some (804, .aload_n 0, 0, 0) := (sk_34 804 rfl).trans rfl
theorem te_368_805 : (pT M_368).find? (fun e => e.1 == 805) = some (805, .iload 4, 0, 0) := (sk_34 805 rfl).trans rfl
theorem te_368_807 : (pT M_368).find? (fun e => e.1 == 807) = some (807, .iconst 1, 0, 0) := (sk_34 807 rfl).trans rfl
theorem te_368_808 : (pT M_368).find? (fun e => e.1 == 808) = some (808, .iadd, 0, 0) := (sk_35 808 rfl).trans rfl
theorem te_368_809 : (pT M_368).find? (fun e => e.1 == 809) = some (809, .iaload, 0, 0) := (sk_35 809 rfl).trans rfl
theorem te_368_810 : (pT M_368).find? (fun e => e.1 == 810) = some (810, .aload_n 3, 0, 0) := (sk_35 810 rfl).trans rfl
theorem te_368_811 : (pT M_368).find? (fun e => e.1 == 811) = some (811, .invokestatic 224, 81, 8) := (sk_35 811 rfl).trans rfl
theorem te_368_814 : (pT M_368).find? (fun e => e.1 == 814) = some (814, .istore 5, 0, 0) := (sk_35 814 rfl).trans rfl
theorem te_368_816 : (pT M_368).find? (fun e => e.1 == 816) = some (816, .aload_n 2, 0, 0) := (sk_35 816 rfl).trans rfl
theorem te_368_817 : (pT M_368).find? (fun e => e.1 == 817) = some (817, .aload_n 0, 0, 0) := (sk_35 817 rfl).trans rfl
theorem te_368_818 : (pT M_368).find? (fun e => e.1 == 818) = some (818, .iload 4, 0, 0) := (sk_35 818 rfl).trans rfl
theorem te_368_820 : (pT M_368).find? (fun e => e.1 == 820) = some (820, .iconst 1, 0, 0) := (sk_35 820 rfl).trans rfl
theorem te_368_821 : (pT M_368).find? (fun e => e.1 == 821) = some (821, .iadd, 0, 0) := (sk_35 821 rfl).trans rfl
theorem te_368_822 : (pT M_368).find? (fun e => e.1 == 822) = some (822, .iaload, 0, 0) := (sk_35 822 rfl).trans rfl
theorem te_368_823 : (pT M_368).find? (fun e => e.1 == 823) = some (823, .invokevirtual 227, 262, 0) := (sk_35 823 rfl).trans rfl
theorem te_368_826 : (pT M_368).find? (fun e => e.1 == 826) = some (826, .istore 6, 0, 0) := (sk_36 826 rfl).trans rfl
theorem te_368_828 : (pT M_368).find? (fun e => e.1 == 828) = some (828, .goto 1516, 0, 0) := (sk_36 828 rfl).trans rfl
theorem te_368_831 : (pT M_368).find? (fun e => e.1 == 831) = some (831, .aload_n 1, 0, 0) := (sk_36 831 rfl).trans rfl
theorem te_368_832 : (pT M_368).find? (fun e => e.1 == 832) = some (832, .aload_n 0, 0, 0) := (sk_36 832 rfl).trans rfl
theorem te_368_833 : (pT M_368).find? (fun e => e.1 == 833) = some (833, .iload 4, 0, 0) := (sk_36 833 rfl).trans rfl
theorem te_368_835 : (pT M_368).find? (fun e => e.1 == 835) = some (835, .iconst 1, 0, 0) := (sk_36 835 rfl).trans rfl
theorem te_368_836 : (pT M_368).find? (fun e => e.1 == 836) = some (836, .iadd, 0, 0) := (sk_36 836 rfl).trans rfl
theorem te_368_837 : (pT M_368).find? (fun e => e.1 == 837) = some (837, .iaload, 0, 0) := (sk_36 837 rfl).trans rfl
theorem te_368_838 : (pT M_368).find? (fun e => e.1 == 838) = some (838, .aload_n 3, 0, 0) := (sk_36 838 rfl).trans rfl
theorem te_368_839 : (pT M_368).find? (fun e => e.1 == 839) = some (839, .invokestatic 228, 83, 8) := (sk_36 839 rfl).trans rfl
theorem te_368_842 : (pT M_368).find? (fun e => e.1 == 842) = some (842, .istore 5, 0, 0) := (sk_36 842 rfl).trans rfl
theorem te_368_844 : (pT M_368).find? (fun e => e.1 == 844) = some (844, .aload_n 2, 0, 0) := (sk_36 844 rfl).trans rfl
theorem te_368_845 : (pT M_368).find? (fun e => e.1 == 845) = some (845, .aload_n 0, 0, 0) := (sk_37 845 rfl).trans rfl
theorem te_368_846 : (pT M_368).find? (fun e => e.1 == 846) = some (846, .iload 4, 0, 0) := (sk_37 846 rfl).trans rfl
theorem te_368_848 : (pT M_368).find? (fun e => e.1 == 848) = some (848, .iconst 1, 0, 0) := (sk_37 848 rfl).trans rfl
theorem te_368_849 : (pT M_368).find? (fun e => e.1 == 849) = some (849, .iadd, 0, 0) := (sk_37 849 rfl).trans rfl
theorem te_368_850 : (pT M_368).find? (fun e => e.1 == 850) = some (850, .iaload, 0, 0) := (sk_37 850 rfl).trans rfl
theorem te_368_851 : (pT M_368).find? (fun e => e.1 == 851) = some (851, .invokevirtual 230, 267, 0) := (sk_37 851 rfl).trans rfl
theorem te_368_854 : (pT M_368).find? (fun e => e.1 == 854) = some (854, .istore 6, 0, 0) := (sk_37 854 rfl).trans rfl
theorem te_368_856 : (pT M_368).find? (fun e => e.1 == 856) = some (856, .goto 1488, 0, 0) := (sk_37 856 rfl).trans rfl
theorem te_368_859 : (pT M_368).find? (fun e => e.1 == 859) = some (859, .aload_n 1, 0, 0) := (sk_37 859 rfl).trans rfl
theorem te_368_860 : (pT M_368).find? (fun e => e.1 == 860) = some (860, .aload_n 3, 0, 0) := (sk_37 860 rfl).trans rfl
theorem te_368_861 : (pT M_368).find? (fun e => e.1 == 861) = some (861, .invokestatic 231, 111, 8) := (sk_37 861 rfl).trans rfl
theorem te_368_864 : (pT M_368).find? (fun e => e.1 == 864) = some (864, .istore 5, 0, 0) := (sk_37 864 rfl).trans rfl
theorem te_368_866 : (pT M_368).find? (fun e => e.1 == 866) = some (866, .aload_n 2, 0, 0) := (sk_38 866 rfl).trans rfl
theorem te_368_867 : (pT M_368).find? (fun e => e.1 == 867) = some (867, .invokevirtual 233, 277, 0) := (sk_38 867 rfl).trans rfl
theorem te_368_870 : (pT M_368).find? (fun e => e.1 == 870) = some (870, .istore 6, 0, 0) := (sk_38 870 rfl).trans rfl
theorem te_368_872 : (pT M_368).find? (fun e => e.1 == 872) = some (872, .goto 1472, 0, 0) := (sk_38 872 rfl).trans rfl
theorem te_368_875 : (pT M_368).find? (fun e => e.1 == 875) = some (875, .aload_n 1, 0, 0) := (sk_38 875 rfl).trans rfl
theorem te_368_876 : (pT M_368).find? (fun e => e.1 == 876) = some (876, .aload_n 0, 0, 0) := (sk_38 876 rfl).trans rfl
theorem te_368_877 : (pT M_368).find? (fun e => e.1 == 877) = some (877, .iload 4, 0, 0) := (sk_38 877 rfl).trans rfl
theorem te_368_879 : (pT M_368).find? (fun e => e.1 == 879) = some (879, .iconst 1, 0, 0) := (sk_38 879 rfl).trans rfl
theorem te_368_880 : (pT M_368).find? (fun e => e.1 == 880) = some (880, .iadd, 0, 0) := (sk_38 880 rfl).trans rfl
theorem te_368_881 : (pT M_368).find? (fun e => e.1 == 881) = some (881, .iaload, 0, 0) := (sk_38 881 rfl).trans rfl
theorem te_368_882 : (pT M_368).find? (fun e => e.1 == 882) = some (882, .aload_n 0, 0, 0) := (sk_38 882 rfl).trans rfl
theorem te_368_883 : (pT M_368).find? (fun e => e.1 == 883) = some (883, .iload 4, 0, 0) := (sk_38 883 rfl).trans rfl
theorem te_368_885 : (pT M_368).find? (fun e => e.1 == 885) = some (885, .iconst 2, 0, 0) := (sk_39 885 rfl).trans rfl
theorem te_368_886 : (pT M_368).find? (fun e => e.1 == 886) = some (886, .iadd, 0, 0) := (sk_39 886 rfl).trans rfl
theorem te_368_887 : (pT M_368).find? (fun e => e.1 == 887) = some (887, .iaload, 0, 0) := (sk_39 887 rfl).trans rfl
theorem te_368_888 : (pT M_368).find? (fun e => e.1 == 888) = some (888, .aload_n 3, 0, 0) := (sk_39 888 rfl).trans rfl
theorem te_368_889 : (pT M_368).find? (fun e => e.1 == 889) = some (889, .invokestatic 234, 113, 8) := (sk_39 889 rfl).trans rfl
theorem te_368_892 : (pT M_368).find? (fun e => e.1 == 892) = some (892, .istore 5, 0, 0) := (sk_39 892 rfl).trans rfl
theorem te_368_894 : (pT M_368).find? (fun e => e.1 == 894) = some (894, .aload_n 2, 0, 0) := (sk_39 894 rfl).trans rfl
theorem te_368_895 : (pT M_368).find? (fun e => e.1 == 895) = some (895, .aload_n 0, 0, 0) := (sk_39 895 rfl).trans rfl
theorem te_368_896 : (pT M_368).find? (fun e => e.1 == 896) = some (896, .iload 4, 0, 0) := (sk_39 896 rfl).trans rfl
theorem te_368_898 : (pT M_368).find? (fun e => e.1 == 898) = some (898, .iconst 1, 0, 0) := (sk_39 898 rfl).trans rfl
theorem te_368_899 : (pT M_368).find? (fun e => e.1 == 899) = some (899, .iadd, 0, 0) := (sk_39 899 rfl).trans rfl
theorem te_368_900 : (pT M_368).find? (fun e => e.1 == 900) = some (900, .iaload, 0, 0) := (sk_39 900 rfl).trans rfl
theorem te_368_901 : (pT M_368).find? (fun e => e.1 == 901) = some (901, .aload_n 0, 0, 0) := (sk_40 901 rfl).trans rfl
theorem te_368_902 : (pT M_368).find? (fun e => e.1 == 902) = some (902, .iload 4, 0, 0) := (sk_40 902 rfl).trans rfl
theorem te_368_904 : (pT M_368).find? (fun e => e.1 == 904) = some (904, .iconst 2, 0, 0) := (sk_40 904 rfl).trans rfl
theorem te_368_905 : (pT M_368).find? (fun e => e.1 == 905) = some (905, .iadd, 0, 0) := (sk_40 905 rfl).trans rfl
theorem te_368_906 : (pT M_368).find? (fun e => e.1 == 906) = some (906, .iaload, 0, 0) := (sk_40 906 rfl).trans rfl
theorem te_368_907 : (pT M_368).find? (fun e => e.1 == 907) = some (907, .invokevirtual 236, 278, 0) := (sk_40 907 rfl).trans rfl
theorem te_368_910 : (pT M_368).find? (fun e => e.1 == 910) = some (910, .istore 6, 0, 0) := (sk_40 910 rfl).trans rfl
theorem te_368_912 : (pT M_368).find? (fun e => e.1 == 912) = some (912, .goto 1432, 0, 0) := (sk_40 912 rfl).trans rfl
theorem te_368_915 : (pT M_368).find? (fun e => e.1 == 915) = some (915, .aload_n 1, 0, 0) := (sk_40 915 rfl).trans rfl
theorem te_368_916 : (pT M_368).find? (fun e => e.1 == 916) = some (916, .aload_n 0, 0, 0) := (sk_40 916 rfl).trans rfl
theorem te_368_917 : (pT M_368).find? (fun e => e.1 == 917) = some (917, .iload 4, 0, 0) := (sk_40 917 rfl).trans rfl
theorem te_368_919 : (pT M_368).find? (fun e => e.1 == 919) = some (919, .iconst 1, 0, 0) := (sk_40 919 rfl).trans rfl
theorem te_368_920 : (pT M_368).find? (fun e => e.1 == 920) = some (920, .iadd, 0, 0) := (sk_41 920 rfl).trans rfl
theorem te_368_921 : (pT M_368).find? (fun e => e.1 == 921) = some (921, .iaload, 0, 0) := (sk_41 921 rfl).trans rfl
theorem te_368_922 : (pT M_368).find? (fun e => e.1 == 922) = some (922, .aload_n 0, 0, 0) := (sk_41 922 rfl).trans rfl
theorem te_368_923 : (pT M_368).find? (fun e => e.1 == 923) = some (923, .iload 4, 0, 0) := (sk_41 923 rfl).trans rfl
theorem te_368_925 : (pT M_368).find? (fun e => e.1 == 925) = some (925, .iconst 2, 0, 0) := (sk_41 925 rfl).trans rfl
theorem te_368_926 : (pT M_368).find? (fun e => e.1 == 926) = some (926, .iadd, 0, 0) := (sk_41 926 rfl).trans rfl
theorem te_368_927 : (pT M_368).find? (fun e => e.1 == 927) = some (927, .iaload, 0, 0) := (sk_41 927 rfl).trans rfl
theorem te_368_928 : (pT M_368).find? (fun e => e.1 == 928) = some (928, .aload_n 0, 0, 0) := (sk_41 928 rfl).trans rfl
theorem te_368_929 : (pT M_368).find? (fun e => e.1 == 929) = some (929, .iload 4, 0, 0) := (sk_41 929 rfl).trans rfl
theorem te_368_931 : (pT M_368).find? (fun e => e.1 == 931) = some (931, .iconst 3, 0, 0) := (sk_41 931 rfl).trans rfl
theorem te_368_932 : (pT M_368).find? (fun e => e.1 == 932) = some (932, .iadd, 0, 0) := (sk_41 932 rfl).trans rfl
theorem te_368_933 : (pT M_368).find? (fun e => e.1 == 933) = some (933, .iaload, 0, 0) := (sk_41 933 rfl).trans rfl
theorem te_368_934 : (pT M_368).find? (fun e => e.1 == 934) = some (934, .aload_n 3, 0, 0) := (sk_42 934 rfl).trans rfl
theorem te_368_935 : (pT M_368).find? (fun e => e.1 == 935) = some (935, .invokestatic 237, 116, 8) := (sk_42 935 rfl).trans rfl
theorem te_368_938 : (pT M_368).find? (fun e => e.1 == 938) = some (938, .istore 5, 0, 0) := (sk_42 938 rfl).trans rfl
theorem te_368_940 : (pT M_368).find? (fun e => e.1 == 940) = some (940, .aload_n 2, 0, 0) := (sk_42 940 rfl).trans rfl
theorem te_368_941 : (pT M_368).find? (fun e => e.1 == 941) = some (941, .aload_n 0, 0, 0) := (sk_42 941 rfl).trans rfl
theorem te_368_942 : (pT M_368).find? (fun e => e.1 == 942) = some (942, .iload 4, 0, 0) := (sk_42 942 rfl).trans rfl
theorem te_368_944 : (pT M_368).find? (fun e => e.1 == 944) = some (944, .iconst 1, 0, 0) := (sk_42 944 rfl).trans rfl
theorem te_368_945 : (pT M_368).find? (fun e => e.1 == 945) = some (945, .iadd, 0, 0) := (sk_42 945 rfl).trans rfl
theorem te_368_946 : (pT M_368).find? (fun e => e.1 == 946) = some (946, .iaload, 0, 0) := (sk_42 946 rfl).trans rfl
theorem te_368_947 : (pT M_368).find? (fun e => e.1 == 947) = some (947, .aload_n 0, 0, 0) := (sk_42 947 rfl).trans rfl
theorem te_368_948 : (pT M_368).find? (fun e => e.1 == 948) = some (948, .iload 4, 0, 0) := (sk_42 948 rfl).trans rfl
theorem te_368_950 : (pT M_368).find? (fun e => e.1 == 950) = some (950, .iconst 2, 0, 0) := (sk_42 950 rfl).trans rfl
theorem te_368_951 : (pT M_368).find? (fun e => e.1 == 951) = some (951, .iadd, 0, 0) := (sk_43 951 rfl).trans rfl
theorem te_368_952 : (pT M_368).find? (fun e => e.1 == 952) = some (952, .iaload, 0, 0) := (sk_43 952 rfl).trans rfl
theorem te_368_953 : (pT M_368).find? (fun e => e.1 == 953) = some (953, .aload_n 0, 0, 0) := (sk_43 953 rfl).trans rfl
theorem te_368_954 : (pT M_368).find? (fun e => e.1 == 954) = some (954, .iload 4, 0, 0) := (sk_43 954 rfl).trans rfl
theorem te_368_956 : (pT M_368).find? (fun e => e.1 == 956) = some (956, .iconst 3, 0, 0) := (sk_43 956 rfl).trans rfl
theorem te_368_957 : (pT M_368).find? (fun e => e.1 == 957) = some (957, .iadd, 0, 0) := (sk_43 957 rfl).trans rfl
theorem te_368_958 : (pT M_368).find? (fun e => e.1 == 958) = some (958, .iaload, 0, 0) := (sk_43 958 rfl).trans rfl
theorem te_368_959 : (pT M_368).find? (fun e => e.1 == 959) = some (959, .invokevirtual 239, 279, 0) := (sk_43 959 rfl).trans rfl
theorem te_368_962 : (pT M_368).find? (fun e => e.1 == 962) = some (962, .istore 6, 0, 0) := (sk_43 962 rfl).trans rfl
theorem te_368_964 : (pT M_368).find? (fun e => e.1 == 964) = some (964, .goto 1380, 0, 0) := (sk_43 964 rfl).trans rfl
theorem te_368_967 : (pT M_368).find? (fun e => e.1 == 967) = some (967, .aload_n 1, 0, 0) := (sk_43 967 rfl).trans rfl
theorem te_368_968 : (pT M_368).find? (fun e => e.1 == 968) = some (968, .aload_n 0, 0, 0) := (sk_43 968 rfl).trans rfl
theorem te_368_969 : (pT M_368).find? (fun e => e.1 == 969) = some (969, .iload 4, 0, 0) := (sk_44 969 rfl).trans rfl
theorem te_368_971 : (pT M_368).find? (fun e => e.1 == 971) = some (971, .iconst 1, 0, 0) := (sk_44 971 rfl).trans rfl
theorem te_368_972 : (pT M_368).find? (fun e => e.1 == 972) = some (972, .iadd, 0, 0) := (sk_44 972 rfl).trans rfl
theorem te_368_973 : (pT M_368).find? (fun e => e.1 == 973) = some (973, .iaload, 0, 0) := (sk_44 973 rfl).trans rfl
theorem te_368_974 : (pT M_368).find? (fun e => e.1 == 974) = some (974, .aload_n 0, 0, 0) := (sk_44 974 rfl).trans rfl
theorem te_368_975 : (pT M_368).find? (fun e => e.1 == 975) = some (975, .iload 4, 0, 0) := (sk_44 975 rfl).trans rfl
theorem te_368_977 : (pT M_368).find? (fun e => e.1 == 977) = some (977, .iconst 2, 0, 0) := (sk_44 977 rfl).trans rfl
theorem te_368_978 : (pT M_368).find? (fun e => e.1 == 978) = some (978, .iadd, 0, 0) := (sk_44 978 rfl).trans rfl
theorem te_368_979 : (pT M_368).find? (fun e => e.1 == 979) = some (979, .iaload, 0, 0) := (sk_44 979 rfl).trans rfl
theorem te_368_980 : (pT M_368).find? (fun e => e.1 == 980) = some (980, .aload_n 3, 0, 0) := (sk_44 980 rfl).trans rfl
theorem te_368_981 : (pT M_368).find? (fun e => e.1 == 981) = some (981, .invokestatic 240, 121, 8) := (sk_44 981 rfl).trans rfl
theorem te_368_984 : (pT M_368).find? (fun e => e.1 == 984) = some (984, .istore 5, 0, 0) := (sk_44 984 rfl).trans rfl
theorem te_368_986 : (pT M_368).find? (fun e => e.1 == 986) = some (986, .aload_n 2, 0, 0) := (sk_45 986 rfl).trans rfl
theorem te_368_987 : (pT M_368).find? (fun e => e.1 == 987) = some (987, .aload_n 0, 0, 0) := (sk_45 987 rfl).trans rfl
theorem te_368_988 : (pT M_368).find? (fun e => e.1 == 988) = some (988, .iload 4, 0, 0) := (sk_45 988 rfl).trans rfl
theorem te_368_990 : (pT M_368).find? (fun e => e.1 == 990) = some (990, .iconst 1, 0, 0) := (sk_45 990 rfl).trans rfl
theorem te_368_991 : (pT M_368).find? (fun e => e.1 == 991) = some (991, .iadd, 0, 0) := (sk_45 991 rfl).trans rfl
theorem te_368_992 : (pT M_368).find? (fun e => e.1 == 992) = some (992, .iaload, 0, 0) := (sk_45 992 rfl).trans rfl
theorem te_368_993 : (pT M_368).find? (fun e => e.1 == 993) = some (993, .aload_n 0, 0, 0) := (sk_45 993 rfl).trans rfl
theorem te_368_994 : (pT M_368).find? (fun e => e.1 == 994) = some (994, .iload 4, 0, 0) := (sk_45 994 rfl).trans rfl
theorem te_368_996 : (pT M_368).find? (fun e => e.1 == 996) = some (996, .iconst 2, 0, 0) := (sk_45 996 rfl).trans rfl
theorem te_368_997 : (pT M_368).find? (fun e => e.1 == 997) = some (997, .iadd, 0, 0) := (sk_45 997 rfl).trans rfl
theorem te_368_998 : (pT M_368).find? (fun e => e.1 == 998) = some (998, .iaload, 0, 0) := (sk_45 998 rfl).trans rfl
theorem te_368_999 : (pT M_368).find? (fun e => e.1 == 999) = some (999, .invokevirtual 242, 280, 0) := (sk_45 999 rfl).trans rfl
theorem te_368_1002 : (pT M_368).find? (fun e => e.1 == 1002) = some (1002, .istore 6, 0, 0) := (sk_46 1002 rfl).trans rfl
theorem te_368_1004 : (pT M_368).find? (fun e => e.1 == 1004) = some (1004, .goto 1340, 0, 0) := (sk_46 1004 rfl).trans rfl
theorem te_368_1007 : (pT M_368).find? (fun e => e.1 == 1007) = some (1007, .aload_n 1, 0, 0) := (sk_46 1007 rfl).trans rfl
theorem te_368_1008 : (pT M_368).find? (fun e => e.1 == 1008) = some (1008, .aload_n 0, 0, 0) := (sk_46 1008 rfl).trans rfl
theorem te_368_1009 : (pT M_368).find? (fun e => e.1 == 1009) = some (1009, .iload 4, 0, 0) := (sk_46 1009 rfl).trans rfl
theorem te_368_1011 : (pT M_368).find? (fun e => e.1 == 1011) = some (1011, .iconst 1, 0, 0) := (sk_46 1011 rfl).trans rfl
theorem te_368_1012 : (pT M_368).find? (fun e => e.1 == 1012) = some (1012, .iadd, 0, 0) := (sk_46 1012 rfl).trans rfl
theorem te_368_1013 : (pT M_368).find? (fun e => e.1 == 1013) = some (1013, .iaload, 0, 0) := (sk_46 1013 rfl).trans rfl
theorem te_368_1014 : (pT M_368).find? (fun e => e.1 == 1014) = some (1014, .aload_n 3, 0, 0) := (sk_46 1014 rfl).trans rfl
theorem te_368_1015 : (pT M_368).find? (fun e => e.1 == 1015) = some (1015, .invokestatic 243, 135, 8) := (sk_46 1015 rfl).trans rfl
theorem te_368_1018 : (pT M_368).find? (fun e => e.1 == 1018) = some (1018, .istore 5, 0, 0) := (sk_46 1018 rfl).trans rfl
theorem te_368_1020 : (pT M_368).find? (fun e => e.1 == 1020) = some (1020, .aload_n 2, 0, 0) := (sk_46 1020 rfl).trans rfl
theorem te_368_1021 : (pT M_368).find? (fun e => e.1 == 1021) = some (1021, .aload_n 0, 0, 0) := (sk_47 1021 rfl).trans rfl
theorem te_368_1022 : (pT M_368).find? (fun e => e.1 == 1022) = some (1022, .iload 4, 0, 0) := (sk_47 1022 rfl).trans rfl
theorem te_368_1024 : (pT M_368).find? (fun e => e.1 == 1024) = some (1024, .iconst 1, 0, 0) := (sk_47 1024 rfl).trans rfl
theorem te_368_1025 : (pT M_368).find? (fun e => e.1 == 1025) = some (1025, .iadd, 0, 0) := (sk_47 1025 rfl).trans rfl
theorem te_368_1026 : (pT M_368).find? (fun e => e.1 == 1026) = some (1026, .iaload, 0, 0) := (sk_47 1026 rfl).trans rfl
theorem te_368_1027 : (pT M_368).find? (fun e => e.1 == 1027) = some (1027, .invokevirtual 245, 292, 0) := (sk_47 1027 rfl).trans rfl
theorem te_368_1030 : (pT M_368).find? (fun e => e.1 == 1030) = some (1030, .istore 6, 0, 0) := (sk_47 1030 rfl).trans rfl
theorem te_368_1032 : (pT M_368).find? (fun e => e.1 == 1032) = some (1032, .goto 1312, 0, 0) := (sk_47 1032 rfl).trans rfl
theorem te_368_1035 : (pT M_368).find? (fun e => e.1 == 1035) = some (1035, .aload_n 1, 0, 0) := (sk_47 1035 rfl).trans rfl
theorem te_368_1036 : (pT M_368).find? (fun e => e.1 == 1036) = some (1036, .aload_n 3, 0, 0) := (sk_47 1036 rfl).trans rfl
theorem te_368_1037 : (pT M_368).find? (fun e => e.1 == 1037) = some (1037, .invokestatic 246, 137, 8) := (sk_47 1037 rfl).trans rfl
theorem te_368_1040 : (pT M_368).find? (fun e => e.1 == 1040) = some (1040, .istore 5, 0, 0) := (sk_47 1040 rfl).trans rfl
theorem te_368_1042 : (pT M_368).find? (fun e => e.1 == 1042) = some (1042, .aload_n 2, 0, 0) := (sk_48 1042 rfl).trans rfl
theorem te_368_1043 : (pT M_368).find? (fun e => e.1 == 1043) = some (1043, .invokevirtual 248, 293, 0) := (sk_48 1043 rfl).trans rfl
theorem te_368_1046 : (pT M_368).find? (fun e => e.1 == 1046) = some (1046, .istore 6, 0, 0) := (sk_48 1046 rfl).trans rfl
theorem te_368_1048 : (pT M_368).find? (fun e => e.1 == 1048) = some (1048, .goto 1296, 0, 0) := (sk_48 1048 rfl).trans rfl
theorem te_368_1051 : (pT M_368).find? (fun e => e.1 == 1051) = some (1051, .aload_n 1, 0, 0) := (sk_48 1051 rfl).trans rfl
theorem te_368_1052 : (pT M_368).find? (fun e => e.1 == 1052) = some (1052, .aload_n 0, 0, 0) := (sk_48 1052 rfl).trans rfl
theorem te_368_1053 : (pT M_368).find? (fun e => e.1 == 1053) = some (1053, .iload 4, 0, 0) := (sk_48 1053 rfl).trans rfl
theorem te_368_1055 : (pT M_368).find? (fun e => e.1 == 1055) = some (1055, .iconst 1, 0, 0) := (sk_48 1055 rfl).trans rfl
theorem te_368_1056 : (pT M_368).find? (fun e => e.1 == 1056) = some (1056, .iadd, 0, 0) := (sk_48 1056 rfl).trans rfl
theorem te_368_1057 : (pT M_368).find? (fun e => e.1 == 1057) = some (1057, .iaload, 0, 0) := (sk_48 1057 rfl).trans rfl
theorem te_368_1058 : (pT M_368).find? (fun e => e.1 == 1058) = some (1058, .aload_n 0, 0, 0) := (sk_48 1058 rfl).trans rfl
theorem te_368_1059 : (pT M_368).find? (fun e => e.1 == 1059) = some (1059, .iload 4, 0, 0) := (sk_48 1059 rfl).trans rfl
theorem te_368_1061 : (pT M_368).find? (fun e => e.1 == 1061) = some (1061, .iconst 2, 0, 0) := (sk_49 1061 rfl).trans rfl
theorem te_368_1062 : (pT M_368).find? (fun e => e.1 == 1062) = some (1062, .iadd, 0, 0) := (sk_49 1062 rfl).trans rfl
theorem te_368_1063 : (pT M_368).find? (fun e => e.1 == 1063) = some (1063, .iaload, 0, 0) := (sk_49 1063 rfl).trans rfl
theorem te_368_1064 : (pT M_368).find? (fun e => e.1 == 1064) = some (1064, .aload_n 3, 0, 0) := (sk_49 1064 rfl).trans rfl
theorem te_368_1065 : (pT M_368).find? (fun e => e.1 == 1065) = some (1065, .invokestatic 249, 139, 8) := (sk_49 1065 rfl).trans rfl
theorem te_368_1068 : (pT M_368).find? (fun e => e.1 == 1068) = some (1068, .istore 5, 0, 0) := (sk_49 1068 rfl).trans rfl
theorem te_368_1070 : (pT M_368).find? (fun e => e.1 == 1070) = some (1070, .aload_n 2, 0, 0) := (sk_49 1070 rfl).trans rfl
theorem te_368_1071 : (pT M_368).find? (fun e => e.1 == 1071) = some (1071, .aload_n 0, 0, 0) := (sk_49 1071 rfl).trans rfl
theorem te_368_1072 : (pT M_368).find? (fun e => e.1 == 1072) = some (1072, .iload 4, 0, 0) := (sk_49 1072 rfl).trans rfl
theorem te_368_1074 : (pT M_368).find? (fun e => e.1 == 1074) = some (1074, .iconst 1, 0, 0) := (sk_49 1074 rfl).trans rfl
theorem te_368_1075 : (pT M_368).find? (fun e => e.1 == 1075) = some (1075, .iadd, 0, 0) := (sk_49 1075 rfl).trans rfl
theorem te_368_1076 : (pT M_368).find? (fun e => e.1 == 1076) = some (1076, .iaload, 0, 0) := (sk_49 1076 rfl).trans rfl
theorem te_368_1077 : (pT M_368).find? (fun e => e.1 == 1077) = some (1077, .aload_n 0, 0, 0) := (sk_50 1077 rfl).trans rfl
theorem te_368_1078 : (pT M_368).find? (fun e => e.1 == 1078) = some (1078, .iload 4, 0, 0) := (sk_50 1078 rfl).trans rfl
theorem te_368_1080 : (pT M_368).find? (fun e => e.1 == 1080) = some (1080, .iconst 2, 0, 0) := (sk_50 1080 rfl).trans rfl
theorem te_368_1081 : (pT M_368).find? (fun e => e.1 == 1081) = some (1081, .iadd, 0, 0) := (sk_50 1081 rfl).trans rfl
theorem te_368_1082 : (pT M_368).find? (fun e => e.1 == 1082) = some (1082, .iaload, 0, 0) := (sk_50 1082 rfl).trans rfl
theorem te_368_1083 : (pT M_368).find? (fun e => e.1 == 1083) = some (1083, .invokevirtual 251, 294, 0) := (sk_50 1083 rfl).trans rfl
theorem te_368_1086 : (pT M_368).find? (fun e => e.1 == 1086) = some (1086, .istore 6, 0, 0) := (sk_50 1086 rfl).trans rfl
theorem te_368_1088 : (pT M_368).find? (fun e => e.1 == 1088) = some (1088, .goto 1256, 0, 0) := (sk_50 1088 rfl).trans rfl
theorem lc_7 {S : Nat × (Nat → Int32)} {lv : LV} {h : PH} {c s : Nat} {i : Int32} (hS : S.1 ≤ 3072) (hl : LwS lv i) (hi : 0 ≤ i.toInt ∧ i.toInt + 5 < S.1) (hL : LR h) (hc : c + 8 ≤ 601024) (hs : s + 48 ≤ 7293033) (Nx : ∀ lv' h' c' s', LwS lv' i → LR h' → c' ≤ c + 8 → s' ≤ s + 48 → Vx (Ex S 24) S M_368 [] Q1 2344 lv' [] h' c' s') : Vx (Ex S 24) S M_368 [] Q1 590 lv [] h c s := by
  have hC := Ex.mono S 24
  refine Vx.go hC te_368_590 ?_
  refine ⟨_, hl.2.1, ⟨0, Or.inl rfl⟩, ?_⟩
  refine sc_load hC (k := 1) hl te_368_591 te_368_592 te_368_594 te_368_595 te_368_596 (sc_in hS hi (by decide)) ?_
  refine sc_load hC (k := 2) hl te_368_597 te_368_598 te_368_600 te_368_601 te_368_602 (sc_in hS hi (by decide)) ?_
  refine Vx.go hC te_368_603 ?_
  refine ⟨_, hl.2.2.2.1, ⟨173, Or.inl rfl⟩, ?_⟩
  refine Vx.go hC te_368_604 ?_
  refine Or.inr ⟨by decide, ?_⟩
  refine p_call_mk (av := [.ref 0, .int (S.2 (i + Int32.ofInt 1).toNatClampNeg), .int (S.2 (i + Int32.ofInt 2).toNatClampNeg), .ref 173]) (rest := []) mt_64 rfl (by decide) (show c + 2 ≤ 601024 by omega) (show s + 12 ≤ 7293033 by omega) (fun q => by cases q) ?_
  refine g_64 (n := 6) hL (fun r3 h1 hL2 => ?_)
  show Vx (Ex S 24) S M_368 [] Q1 607 lv [.int r3] h1 (c + 2) (s + 12)
  refine Vx.go hC te_368_607 ?_
  refine ⟨by decide, ?_⟩
  have hl4 := LwS.st (j := 5) (v := .int r3) (by omega) hl
  show Vx (Ex S 24) S M_368 [] Q1 609 (px_s1 lv 5 (.int r3)) [] h1 (c + 2) (s + 12)
  refine Vx.go hC te_368_609 ?_
  refine ⟨_, hl4.2.2.1, ⟨143, Or.inl rfl⟩, ?_⟩
  refine sc_load hC (k := 1) hl4 te_368_610 te_368_611 te_368_613 te_368_614 te_368_615 (sc_in hS hi (by decide)) ?_
  refine sc_load hC (k := 2) hl4 te_368_616 te_368_617 te_368_619 te_368_620 te_368_621 (sc_in hS hi (by decide)) ?_
  refine Vx.go hC te_368_622 ?_
  obtain ⟨gs8, gs8g⟩ := hL2.obj (A := 143) rfl
  have hcall9 := ref_call (S := S) (n := 24) (μ := 238) (args := [.inr 143, .inl ((S.2 (i + Int32.ofInt 1).toNatClampNeg) : Int32).toInt, .inl ((S.2 (i + Int32.ofInt 2).toNatClampNeg) : Int32).toInt]) (h := h1) (fun v hv => by simp only [List.mem_cons, List.not_mem_nil, or_false] at hv; rcases hv with rfl | rfl | rfl <;> first | trivial | exact wiI _) hL2 (fun mem hr => f_238 hr (fun r m' a b => ⟨a, b⟩))
  simp only [List.map_cons, List.map_nil, wv, Int32.ofInt_toInt] at hcall9
  refine p_call_mk (av := [.ref 143, .int (S.2 (i + Int32.ofInt 1).toNatClampNeg), .int (S.2 (i + Int32.ofInt 2).toNatClampNeg)]) (rest := []) mt_238 rfl (by decide) (show (c + 2) + 0 ≤ 601024 by omega) (show (s + 12) + 0 ≤ 7293033 by omega) (fun _ => ⟨143, gs8, rfl, gs8g⟩) ?_
  refine hC _ _ _ _ _ ?_ hcall9
  rintro _ h5 ⟨hL6, r7, rfl⟩
  show Vx (Ex S 24) S M_368 [] Q1 625 (px_s1 lv 5 (.int r3)) [.int r7] h5 (c + 2) (s + 12)
  refine Vx.go hC te_368_625 ?_
  refine ⟨by decide, ?_⟩
  have hl10 := LwS.st (j := 6) (v := .int r7) (by omega) hl4
  show Vx (Ex S 24) S M_368 [] Q1 627 (px_s1 (px_s1 lv 5 (.int r3)) 6 (.int r7)) [] h5 (c + 2) (s + 12)
  refine Vx.go hC te_368_627 ?_
  refine ⟨by decide, ?_⟩
  exact Nx _ _ _ _ hl10 hL6 (by omega) (by omega)
theorem lc_8 {S : Nat × (Nat → Int32)} {lv : LV} {h : PH} {c s : Nat} {i : Int32} (hS : S.1 ≤ 3072) (hl : LwS lv i) (hi : 0 ≤ i.toInt ∧ i.toInt + 5 < S.1) (hL : LR h) (hc : c + 8 ≤ 601024) (hs : s + 48 ≤ 7293033) (Nx : ∀ lv' h' c' s', LwS lv' i → LR h' → c' ≤ c + 8 → s' ≤ s + 48 → Vx (Ex S 24) S M_368 [] Q1 2344 lv' [] h' c' s') : Vx (Ex S 24) S M_368 [] Q1 630 lv [] h c s := by
  have hC := Ex.mono S 24
  refine Vx.go hC te_368_630 ?_
  refine ⟨_, hl.2.1, ⟨0, Or.inl rfl⟩, ?_⟩
  refine Vx.go hC te_368_631 ?_
  obtain ⟨gs4, gs4g⟩ := hL.obj (A := 0) rfl
  have hcall5 := cls_call (S := S) (n := 24) (μ := 10) (args := [.inr 0]) (h := h) (es := fun _ => False) (fun v hv => by simp only [List.mem_cons, List.not_mem_nil, or_false] at hv; rw [hv]; trivial) hL (fun mem hr => f_10 hr (fun r m' a b => ⟨a, b⟩))
  simp only [List.map_cons, List.map_nil, wv, Int32.ofInt_toInt] at hcall5
  refine p_call_mk (av := [.ref 0]) (rest := []) mt_10 rfl (by decide) (show c + 0 ≤ 601024 by omega) (show s + 0 ≤ 7293033 by omega) (fun _ => ⟨0, gs4, rfl, gs4g⟩) ?_
  refine hC _ _ _ _ _ ?_ hcall5
  rintro _ h1 ⟨hL2, hor⟩
  obtain ⟨r3, rfl⟩ := hor.resolve_right (fun ⟨_, q, _⟩ => q)
  show Vx (Ex S 24) S M_368 [] Q1 634 lv [.int r3] h1 c s
  refine Vx.go hC te_368_634 ?_
  refine ⟨_, _, rfl, rfl, ?_⟩
  show Vx (Ex S 24) S M_368 [] Q1 635 lv [] h1 c s
  refine Vx.go hC te_368_635 ?_
  refine ⟨_, hl.2.2.1, ⟨143, Or.inl rfl⟩, ?_⟩
  refine Vx.go hC te_368_636 ?_
  obtain ⟨gs9, gs9g⟩ := hL2.obj (A := 143) rfl
  have hcall10 := ref_call (S := S) (n := 24) (μ := 239) (args := [.inr 143]) (h := h1) (fun v hv => by simp only [List.mem_cons, List.not_mem_nil, or_false] at hv; rw [hv]; trivial) hL2 (fun mem hr => f_239 hr (fun r m' a b => ⟨a, b⟩))
  simp only [List.map_cons, List.map_nil, wv, Int32.ofInt_toInt] at hcall10
  refine p_call_mk (av := [.ref 143]) (rest := []) mt_239 rfl (by decide) (show c + 0 ≤ 601024 by omega) (show s + 0 ≤ 7293033 by omega) (fun _ => ⟨143, gs9, rfl, gs9g⟩) ?_
  refine hC _ _ _ _ _ ?_ hcall10
  rintro _ h6 ⟨hL7, r8, rfl⟩
  show Vx (Ex S 24) S M_368 [] Q1 639 lv [.int r8] h6 c s
  refine Vx.go hC te_368_639 ?_
  refine ⟨_, _, rfl, rfl, ?_⟩
  show Vx (Ex S 24) S M_368 [] Q1 640 lv [] h6 c s
  refine Vx.go hC te_368_640 ?_
  refine ⟨by decide, ?_⟩
  exact Nx _ _ _ _ hl hL7 (by omega) (by omega)
theorem lc_10 {S : Nat × (Nat → Int32)} {lv : LV} {h : PH} {c s : Nat} {i : Int32} (hS : S.1 ≤ 3072) (hl : LwS lv i) (hi : 0 ≤ i.toInt ∧ i.toInt + 5 < S.1) (hL : LR h) (hc : c + 8 ≤ 601024) (hs : s + 48 ≤ 7293033) (Nx : ∀ lv' h' c' s', LwS lv' i → LR h' → c' ≤ c + 8 → s' ≤ s + 48 → Vx (Ex S 24) S M_368 [] Q1 2344 lv' [] h' c' s') : Vx (Ex S 24) S M_368 [] Q1 711 lv [] h c s := by
  have hC := Ex.mono S 24
  refine Vx.go hC te_368_711 ?_
  refine ⟨_, hl.2.1, ⟨0, Or.inl rfl⟩, ?_⟩
  refine sc_load hC (k := 1) hl te_368_712 te_368_713 te_368_715 te_368_716 te_368_717 (sc_in hS hi (by decide)) ?_
  refine sc_load hC (k := 2) hl te_368_718 te_368_719 te_368_721 te_368_722 te_368_723 (sc_in hS hi (by decide)) ?_
  refine sc_load hC (k := 3) hl te_368_724 te_368_725 te_368_727 te_368_728 te_368_729 (sc_in hS hi (by decide)) ?_
  refine Vx.go hC te_368_730 ?_
  refine ⟨_, hl.2.2.2.1, ⟨173, Or.inl rfl⟩, ?_⟩
  refine Vx.go hC te_368_731 ?_
  refine Or.inr ⟨by decide, ?_⟩
  refine p_call_mk (av := [.ref 0, .int (S.2 (i + Int32.ofInt 1).toNatClampNeg), .int (S.2 (i + Int32.ofInt 2).toNatClampNeg), .int (S.2 (i + Int32.ofInt 3).toNatClampNeg), .ref 173]) (rest := []) mt_71 rfl (by decide) (show c + 5 ≤ 601024 by omega) (show s + 30 ≤ 7293033 by omega) (fun q => by cases q) ?_
  refine g_71 (n := 6) hL (fun r3 h1 hL2 => ?_)
  show Vx (Ex S 24) S M_368 [] Q1 734 lv [.int r3] h1 (c + 5) (s + 30)
  refine Vx.go hC te_368_734 ?_
  refine ⟨by decide, ?_⟩
  have hl4 := LwS.st (j := 5) (v := .int r3) (by omega) hl
  show Vx (Ex S 24) S M_368 [] Q1 736 (px_s1 lv 5 (.int r3)) [] h1 (c + 5) (s + 30)
  refine Vx.go hC te_368_736 ?_
  refine ⟨_, hl4.2.2.1, ⟨143, Or.inl rfl⟩, ?_⟩
  refine sc_load hC (k := 1) hl4 te_368_737 te_368_738 te_368_740 te_368_741 te_368_742 (sc_in hS hi (by decide)) ?_
  refine sc_load hC (k := 2) hl4 te_368_743 te_368_744 te_368_746 te_368_747 te_368_748 (sc_in hS hi (by decide)) ?_
  refine sc_load hC (k := 3) hl4 te_368_749 te_368_750 te_368_752 te_368_753 te_368_754 (sc_in hS hi (by decide)) ?_
  refine Vx.go hC te_368_755 ?_
  obtain ⟨gs8, gs8g⟩ := hL2.obj (A := 143) rfl
  have hcall9 := ref_call (S := S) (n := 24) (μ := 252) (args := [.inr 143, .inl ((S.2 (i + Int32.ofInt 1).toNatClampNeg) : Int32).toInt, .inl ((S.2 (i + Int32.ofInt 2).toNatClampNeg) : Int32).toInt, .inl ((S.2 (i + Int32.ofInt 3).toNatClampNeg) : Int32).toInt]) (h := h1) (fun v hv => by simp only [List.mem_cons, List.not_mem_nil, or_false] at hv; rcases hv with rfl | rfl | rfl | rfl <;> first | trivial | exact wiI _) hL2 (fun mem hr => f_252 hr (fun r m' a b => ⟨a, b⟩))
  simp only [List.map_cons, List.map_nil, wv, Int32.ofInt_toInt] at hcall9
  refine p_call_mk (av := [.ref 143, .int (S.2 (i + Int32.ofInt 1).toNatClampNeg), .int (S.2 (i + Int32.ofInt 2).toNatClampNeg), .int (S.2 (i + Int32.ofInt 3).toNatClampNeg)]) (rest := []) mt_252 rfl (by decide) (show (c + 5) + 0 ≤ 601024 by omega) (show (s + 30) + 0 ≤ 7293033 by omega) (fun _ => ⟨143, gs8, rfl, gs8g⟩) ?_
  refine hC _ _ _ _ _ ?_ hcall9
  rintro _ h5 ⟨hL6, r7, rfl⟩
  show Vx (Ex S 24) S M_368 [] Q1 758 (px_s1 lv 5 (.int r3)) [.int r7] h5 (c + 5) (s + 30)
  refine Vx.go hC te_368_758 ?_
  refine ⟨by decide, ?_⟩
  have hl10 := LwS.st (j := 6) (v := .int r7) (by omega) hl4
  show Vx (Ex S 24) S M_368 [] Q1 760 (px_s1 (px_s1 lv 5 (.int r3)) 6 (.int r7)) [] h5 (c + 5) (s + 30)
  refine Vx.go hC te_368_760 ?_
  refine ⟨by decide, ?_⟩
  exact Nx _ _ _ _ hl10 hL6 (by omega) (by omega)
theorem lc_11 {S : Nat × (Nat → Int32)} {lv : LV} {h : PH} {c s : Nat} {i : Int32} (hS : S.1 ≤ 3072) (hl : LwS lv i) (hi : 0 ≤ i.toInt ∧ i.toInt + 5 < S.1) (hL : LR h) (hc : c + 8 ≤ 601024) (hs : s + 48 ≤ 7293033) (Nx : ∀ lv' h' c' s', LwS lv' i → LR h' → c' ≤ c + 8 → s' ≤ s + 48 → Vx (Ex S 24) S M_368 [] Q1 2344 lv' [] h' c' s') : Vx (Ex S 24) S M_368 [] Q1 763 lv [] h c s := by
  have hC := Ex.mono S 24
  refine Vx.go hC te_368_763 ?_
  refine ⟨_, hl.2.1, ⟨0, Or.inl rfl⟩, ?_⟩
  refine sc_load hC (k := 1) hl te_368_764 te_368_765 te_368_767 te_368_768 te_368_769 (sc_in hS hi (by decide)) ?_
  refine sc_load hC (k := 2) hl te_368_770 te_368_771 te_368_773 te_368_774 te_368_775 (sc_in hS hi (by decide)) ?_
  refine Vx.go hC te_368_776 ?_
  refine ⟨_, hl.2.2.2.1, ⟨173, Or.inl rfl⟩, ?_⟩
  refine Vx.go hC te_368_777 ?_
  refine Or.inr ⟨by decide, ?_⟩
  refine p_call_mk (av := [.ref 0, .int (S.2 (i + Int32.ofInt 1).toNatClampNeg), .int (S.2 (i + Int32.ofInt 2).toNatClampNeg), .ref 173]) (rest := []) mt_78 rfl (by decide) (show c + 4 ≤ 601024 by omega) (show s + 24 ≤ 7293033 by omega) (fun q => by cases q) ?_
  refine g_78 (n := 6) hL (fun r3 h1 hL2 => ?_)
  show Vx (Ex S 24) S M_368 [] Q1 780 lv [.int r3] h1 (c + 4) (s + 24)
  refine Vx.go hC te_368_780 ?_
  refine ⟨by decide, ?_⟩
  have hl4 := LwS.st (j := 5) (v := .int r3) (by omega) hl
  show Vx (Ex S 24) S M_368 [] Q1 782 (px_s1 lv 5 (.int r3)) [] h1 (c + 4) (s + 24)
  refine Vx.go hC te_368_782 ?_
  refine ⟨_, hl4.2.2.1, ⟨143, Or.inl rfl⟩, ?_⟩
  refine sc_load hC (k := 1) hl4 te_368_783 te_368_784 te_368_786 te_368_787 te_368_788 (sc_in hS hi (by decide)) ?_
  refine sc_load hC (k := 2) hl4 te_368_789 te_368_790 te_368_792 te_368_793 te_368_794 (sc_in hS hi (by decide)) ?_
  refine Vx.go hC te_368_795 ?_
  obtain ⟨gs8, gs8g⟩ := hL2.obj (A := 143) rfl
  have hcall9 := ref_call (S := S) (n := 24) (μ := 260) (args := [.inr 143, .inl ((S.2 (i + Int32.ofInt 1).toNatClampNeg) : Int32).toInt, .inl ((S.2 (i + Int32.ofInt 2).toNatClampNeg) : Int32).toInt]) (h := h1) (fun v hv => by simp only [List.mem_cons, List.not_mem_nil, or_false] at hv; rcases hv with rfl | rfl | rfl <;> first | trivial | exact wiI _) hL2 (fun mem hr => f_260 hr (fun r m' a b => ⟨a, b⟩))
  simp only [List.map_cons, List.map_nil, wv, Int32.ofInt_toInt] at hcall9
  refine p_call_mk (av := [.ref 143, .int (S.2 (i + Int32.ofInt 1).toNatClampNeg), .int (S.2 (i + Int32.ofInt 2).toNatClampNeg)]) (rest := []) mt_260 rfl (by decide) (show (c + 4) + 0 ≤ 601024 by omega) (show (s + 24) + 0 ≤ 7293033 by omega) (fun _ => ⟨143, gs8, rfl, gs8g⟩) ?_
  refine hC _ _ _ _ _ ?_ hcall9
  rintro _ h5 ⟨hL6, r7, rfl⟩
  show Vx (Ex S 24) S M_368 [] Q1 798 (px_s1 lv 5 (.int r3)) [.int r7] h5 (c + 4) (s + 24)
  refine Vx.go hC te_368_798 ?_
  refine ⟨by decide, ?_⟩
  have hl10 := LwS.st (j := 6) (v := .int r7) (by omega) hl4
  show Vx (Ex S 24) S M_368 [] Q1 800 (px_s1 (px_s1 lv 5 (.int r3)) 6 (.int r7)) [] h5 (c + 4) (s + 24)
  refine Vx.go hC te_368_800 ?_
  refine ⟨by decide, ?_⟩
  exact Nx _ _ _ _ hl10 hL6 (by omega) (by omega)
theorem lc_12 {S : Nat × (Nat → Int32)} {lv : LV} {h : PH} {c s : Nat} {i : Int32} (hS : S.1 ≤ 3072) (hl : LwS lv i) (hi : 0 ≤ i.toInt ∧ i.toInt + 5 < S.1) (hL : LR h) (hc : c + 8 ≤ 601024) (hs : s + 48 ≤ 7293033) (Nx : ∀ lv' h' c' s', LwS lv' i → LR h' → c' ≤ c + 8 → s' ≤ s + 48 → Vx (Ex S 24) S M_368 [] Q1 2344 lv' [] h' c' s') : Vx (Ex S 24) S M_368 [] Q1 803 lv [] h c s := by
  have hC := Ex.mono S 24
  refine Vx.go hC te_368_803 ?_
  refine ⟨_, hl.2.1, ⟨0, Or.inl rfl⟩, ?_⟩
  refine sc_load hC (k := 1) hl te_368_804 te_368_805 te_368_807 te_368_808 te_368_809 (sc_in hS hi (by decide)) ?_
  refine Vx.go hC te_368_810 ?_
  refine ⟨_, hl.2.2.2.1, ⟨173, Or.inl rfl⟩, ?_⟩
  refine Vx.go hC te_368_811 ?_
  refine Or.inr ⟨by decide, ?_⟩
  refine p_call_mk (av := [.ref 0, .int (S.2 (i + Int32.ofInt 1).toNatClampNeg), .ref 173]) (rest := []) mt_81 rfl (by decide) (show c + 1 ≤ 601024 by omega) (show s + 6 ≤ 7293033 by omega) (fun q => by cases q) ?_
  refine g_81 (n := 6) hL (fun r3 h1 hL2 => ?_)
  show Vx (Ex S 24) S M_368 [] Q1 814 lv [.int r3] h1 (c + 1) (s + 6)
  refine Vx.go hC te_368_814 ?_
  refine ⟨by decide, ?_⟩
  have hl4 := LwS.st (j := 5) (v := .int r3) (by omega) hl
  show Vx (Ex S 24) S M_368 [] Q1 816 (px_s1 lv 5 (.int r3)) [] h1 (c + 1) (s + 6)
  refine Vx.go hC te_368_816 ?_
  refine ⟨_, hl4.2.2.1, ⟨143, Or.inl rfl⟩, ?_⟩
  refine sc_load hC (k := 1) hl4 te_368_817 te_368_818 te_368_820 te_368_821 te_368_822 (sc_in hS hi (by decide)) ?_
  refine Vx.go hC te_368_823 ?_
  obtain ⟨gs8, gs8g⟩ := hL2.obj (A := 143) rfl
  have hcall9 := ref_call (S := S) (n := 24) (μ := 262) (args := [.inr 143, .inl ((S.2 (i + Int32.ofInt 1).toNatClampNeg) : Int32).toInt]) (h := h1) (fun v hv => by simp only [List.mem_cons, List.not_mem_nil, or_false] at hv; rcases hv with rfl | rfl <;> first | trivial | exact wiI _) hL2 (fun mem hr => f_262 hr (fun r m' a b => ⟨a, b⟩))
  simp only [List.map_cons, List.map_nil, wv, Int32.ofInt_toInt] at hcall9
  refine p_call_mk (av := [.ref 143, .int (S.2 (i + Int32.ofInt 1).toNatClampNeg)]) (rest := []) mt_262 rfl (by decide) (show (c + 1) + 0 ≤ 601024 by omega) (show (s + 6) + 0 ≤ 7293033 by omega) (fun _ => ⟨143, gs8, rfl, gs8g⟩) ?_
  refine hC _ _ _ _ _ ?_ hcall9
  rintro _ h5 ⟨hL6, r7, rfl⟩
  show Vx (Ex S 24) S M_368 [] Q1 826 (px_s1 lv 5 (.int r3)) [.int r7] h5 (c + 1) (s + 6)
  refine Vx.go hC te_368_826 ?_
  refine ⟨by decide, ?_⟩
  have hl10 := LwS.st (j := 6) (v := .int r7) (by omega) hl4
  show Vx (Ex S 24) S M_368 [] Q1 828 (px_s1 (px_s1 lv 5 (.int r3)) 6 (.int r7)) [] h5 (c + 1) (s + 6)
  refine Vx.go hC te_368_828 ?_
  refine ⟨by decide, ?_⟩
  exact Nx _ _ _ _ hl10 hL6 (by omega) (by omega)
theorem lc_13 {S : Nat × (Nat → Int32)} {lv : LV} {h : PH} {c s : Nat} {i : Int32} (hS : S.1 ≤ 3072) (hl : LwS lv i) (hi : 0 ≤ i.toInt ∧ i.toInt + 5 < S.1) (hL : LR h) (hc : c + 8 ≤ 601024) (hs : s + 48 ≤ 7293033) (Nx : ∀ lv' h' c' s', LwS lv' i → LR h' → c' ≤ c + 8 → s' ≤ s + 48 → Vx (Ex S 24) S M_368 [] Q1 2344 lv' [] h' c' s') : Vx (Ex S 24) S M_368 [] Q1 831 lv [] h c s := by
  have hC := Ex.mono S 24
  refine Vx.go hC te_368_831 ?_
  refine ⟨_, hl.2.1, ⟨0, Or.inl rfl⟩, ?_⟩
  refine sc_load hC (k := 1) hl te_368_832 te_368_833 te_368_835 te_368_836 te_368_837 (sc_in hS hi (by decide)) ?_
  refine Vx.go hC te_368_838 ?_
  refine ⟨_, hl.2.2.2.1, ⟨173, Or.inl rfl⟩, ?_⟩
  refine Vx.go hC te_368_839 ?_
  refine Or.inr ⟨by decide, ?_⟩
  refine p_call_mk (av := [.ref 0, .int (S.2 (i + Int32.ofInt 1).toNatClampNeg), .ref 173]) (rest := []) mt_83 rfl (by decide) (show c + 2 ≤ 601024 by omega) (show s + 12 ≤ 7293033 by omega) (fun q => by cases q) ?_
  refine g_83 (n := 6) hL (fun r3 h1 hL2 => ?_)
  show Vx (Ex S 24) S M_368 [] Q1 842 lv [.int r3] h1 (c + 2) (s + 12)
  refine Vx.go hC te_368_842 ?_
  refine ⟨by decide, ?_⟩
  have hl4 := LwS.st (j := 5) (v := .int r3) (by omega) hl
  show Vx (Ex S 24) S M_368 [] Q1 844 (px_s1 lv 5 (.int r3)) [] h1 (c + 2) (s + 12)
  refine Vx.go hC te_368_844 ?_
  refine ⟨_, hl4.2.2.1, ⟨143, Or.inl rfl⟩, ?_⟩
  refine sc_load hC (k := 1) hl4 te_368_845 te_368_846 te_368_848 te_368_849 te_368_850 (sc_in hS hi (by decide)) ?_
  refine Vx.go hC te_368_851 ?_
  obtain ⟨gs8, gs8g⟩ := hL2.obj (A := 143) rfl
  have hcall9 := ref_call (S := S) (n := 24) (μ := 267) (args := [.inr 143, .inl ((S.2 (i + Int32.ofInt 1).toNatClampNeg) : Int32).toInt]) (h := h1) (fun v hv => by simp only [List.mem_cons, List.not_mem_nil, or_false] at hv; rcases hv with rfl | rfl <;> first | trivial | exact wiI _) hL2 (fun mem hr => f_267 hr (fun r m' a b => ⟨a, b⟩))
  simp only [List.map_cons, List.map_nil, wv, Int32.ofInt_toInt] at hcall9
  refine p_call_mk (av := [.ref 143, .int (S.2 (i + Int32.ofInt 1).toNatClampNeg)]) (rest := []) mt_267 rfl (by decide) (show (c + 2) + 0 ≤ 601024 by omega) (show (s + 12) + 0 ≤ 7293033 by omega) (fun _ => ⟨143, gs8, rfl, gs8g⟩) ?_
  refine hC _ _ _ _ _ ?_ hcall9
  rintro _ h5 ⟨hL6, r7, rfl⟩
  show Vx (Ex S 24) S M_368 [] Q1 854 (px_s1 lv 5 (.int r3)) [.int r7] h5 (c + 2) (s + 12)
  refine Vx.go hC te_368_854 ?_
  refine ⟨by decide, ?_⟩
  have hl10 := LwS.st (j := 6) (v := .int r7) (by omega) hl4
  show Vx (Ex S 24) S M_368 [] Q1 856 (px_s1 (px_s1 lv 5 (.int r3)) 6 (.int r7)) [] h5 (c + 2) (s + 12)
  refine Vx.go hC te_368_856 ?_
  refine ⟨by decide, ?_⟩
  exact Nx _ _ _ _ hl10 hL6 (by omega) (by omega)
theorem lc_14 {S : Nat × (Nat → Int32)} {lv : LV} {h : PH} {c s : Nat} {i : Int32} (hS : S.1 ≤ 3072) (hl : LwS lv i) (hi : 0 ≤ i.toInt ∧ i.toInt + 5 < S.1) (hL : LR h) (hc : c + 8 ≤ 601024) (hs : s + 48 ≤ 7293033) (Nx : ∀ lv' h' c' s', LwS lv' i → LR h' → c' ≤ c + 8 → s' ≤ s + 48 → Vx (Ex S 24) S M_368 [] Q1 2344 lv' [] h' c' s') : Vx (Ex S 24) S M_368 [] Q1 859 lv [] h c s := by
  have hC := Ex.mono S 24
  refine Vx.go hC te_368_859 ?_
  refine ⟨_, hl.2.1, ⟨0, Or.inl rfl⟩, ?_⟩
  refine Vx.go hC te_368_860 ?_
  refine ⟨_, hl.2.2.2.1, ⟨173, Or.inl rfl⟩, ?_⟩
  refine Vx.go hC te_368_861 ?_
  refine Or.inr ⟨by decide, ?_⟩
  refine p_call_mk (av := [.ref 0, .ref 173]) (rest := []) mt_111 rfl (by decide) (show c + 1 ≤ 601024 by omega) (show s + 6 ≤ 7293033 by omega) (fun q => by cases q) ?_
  refine g_111 (n := 6) hL (fun r3 h1 hL2 => ?_)
  show Vx (Ex S 24) S M_368 [] Q1 864 lv [.int r3] h1 (c + 1) (s + 6)
  refine Vx.go hC te_368_864 ?_
  refine ⟨by decide, ?_⟩
  have hl4 := LwS.st (j := 5) (v := .int r3) (by omega) hl
  show Vx (Ex S 24) S M_368 [] Q1 866 (px_s1 lv 5 (.int r3)) [] h1 (c + 1) (s + 6)
  refine Vx.go hC te_368_866 ?_
  refine ⟨_, hl4.2.2.1, ⟨143, Or.inl rfl⟩, ?_⟩
  refine Vx.go hC te_368_867 ?_
  obtain ⟨gs8, gs8g⟩ := hL2.obj (A := 143) rfl
  have hcall9 := ref_call (S := S) (n := 24) (μ := 277) (args := [.inr 143]) (h := h1) (fun v hv => by simp only [List.mem_cons, List.not_mem_nil, or_false] at hv; rw [hv]; trivial) hL2 (fun mem hr => f_277 hr (fun r m' a b => ⟨a, b⟩))
  simp only [List.map_cons, List.map_nil, wv, Int32.ofInt_toInt] at hcall9
  refine p_call_mk (av := [.ref 143]) (rest := []) mt_277 rfl (by decide) (show (c + 1) + 0 ≤ 601024 by omega) (show (s + 6) + 0 ≤ 7293033 by omega) (fun _ => ⟨143, gs8, rfl, gs8g⟩) ?_
  refine hC _ _ _ _ _ ?_ hcall9
  rintro _ h5 ⟨hL6, r7, rfl⟩
  show Vx (Ex S 24) S M_368 [] Q1 870 (px_s1 lv 5 (.int r3)) [.int r7] h5 (c + 1) (s + 6)
  refine Vx.go hC te_368_870 ?_
  refine ⟨by decide, ?_⟩
  have hl10 := LwS.st (j := 6) (v := .int r7) (by omega) hl4
  show Vx (Ex S 24) S M_368 [] Q1 872 (px_s1 (px_s1 lv 5 (.int r3)) 6 (.int r7)) [] h5 (c + 1) (s + 6)
  refine Vx.go hC te_368_872 ?_
  refine ⟨by decide, ?_⟩
  exact Nx _ _ _ _ hl10 hL6 (by omega) (by omega)
theorem lc_15 {S : Nat × (Nat → Int32)} {lv : LV} {h : PH} {c s : Nat} {i : Int32} (hS : S.1 ≤ 3072) (hl : LwS lv i) (hi : 0 ≤ i.toInt ∧ i.toInt + 5 < S.1) (hL : LR h) (hc : c + 8 ≤ 601024) (hs : s + 48 ≤ 7293033) (Nx : ∀ lv' h' c' s', LwS lv' i → LR h' → c' ≤ c + 8 → s' ≤ s + 48 → Vx (Ex S 24) S M_368 [] Q1 2344 lv' [] h' c' s') : Vx (Ex S 24) S M_368 [] Q1 875 lv [] h c s := by
  have hC := Ex.mono S 24
  refine Vx.go hC te_368_875 ?_
  refine ⟨_, hl.2.1, ⟨0, Or.inl rfl⟩, ?_⟩
  refine sc_load hC (k := 1) hl te_368_876 te_368_877 te_368_879 te_368_880 te_368_881 (sc_in hS hi (by decide)) ?_
  refine sc_load hC (k := 2) hl te_368_882 te_368_883 te_368_885 te_368_886 te_368_887 (sc_in hS hi (by decide)) ?_
  refine Vx.go hC te_368_888 ?_
  refine ⟨_, hl.2.2.2.1, ⟨173, Or.inl rfl⟩, ?_⟩
  refine Vx.go hC te_368_889 ?_
  refine Or.inr ⟨by decide, ?_⟩
  refine p_call_mk (av := [.ref 0, .int (S.2 (i + Int32.ofInt 1).toNatClampNeg), .int (S.2 (i + Int32.ofInt 2).toNatClampNeg), .ref 173]) (rest := []) mt_113 rfl (by decide) (show c + 4 ≤ 601024 by omega) (show s + 24 ≤ 7293033 by omega) (fun q => by cases q) ?_
  refine g_113 (n := 6) hL (fun r3 h1 hL2 => ?_)
  show Vx (Ex S 24) S M_368 [] Q1 892 lv [.int r3] h1 (c + 4) (s + 24)
  refine Vx.go hC te_368_892 ?_
  refine ⟨by decide, ?_⟩
  have hl4 := LwS.st (j := 5) (v := .int r3) (by omega) hl
  show Vx (Ex S 24) S M_368 [] Q1 894 (px_s1 lv 5 (.int r3)) [] h1 (c + 4) (s + 24)
  refine Vx.go hC te_368_894 ?_
  refine ⟨_, hl4.2.2.1, ⟨143, Or.inl rfl⟩, ?_⟩
  refine sc_load hC (k := 1) hl4 te_368_895 te_368_896 te_368_898 te_368_899 te_368_900 (sc_in hS hi (by decide)) ?_
  refine sc_load hC (k := 2) hl4 te_368_901 te_368_902 te_368_904 te_368_905 te_368_906 (sc_in hS hi (by decide)) ?_
  refine Vx.go hC te_368_907 ?_
  obtain ⟨gs8, gs8g⟩ := hL2.obj (A := 143) rfl
  have hcall9 := ref_call (S := S) (n := 24) (μ := 278) (args := [.inr 143, .inl ((S.2 (i + Int32.ofInt 1).toNatClampNeg) : Int32).toInt, .inl ((S.2 (i + Int32.ofInt 2).toNatClampNeg) : Int32).toInt]) (h := h1) (fun v hv => by simp only [List.mem_cons, List.not_mem_nil, or_false] at hv; rcases hv with rfl | rfl | rfl <;> first | trivial | exact wiI _) hL2 (fun mem hr => f_278 hr (fun r m' a b => ⟨a, b⟩))
  simp only [List.map_cons, List.map_nil, wv, Int32.ofInt_toInt] at hcall9
  refine p_call_mk (av := [.ref 143, .int (S.2 (i + Int32.ofInt 1).toNatClampNeg), .int (S.2 (i + Int32.ofInt 2).toNatClampNeg)]) (rest := []) mt_278 rfl (by decide) (show (c + 4) + 0 ≤ 601024 by omega) (show (s + 24) + 0 ≤ 7293033 by omega) (fun _ => ⟨143, gs8, rfl, gs8g⟩) ?_
  refine hC _ _ _ _ _ ?_ hcall9
  rintro _ h5 ⟨hL6, r7, rfl⟩
  show Vx (Ex S 24) S M_368 [] Q1 910 (px_s1 lv 5 (.int r3)) [.int r7] h5 (c + 4) (s + 24)
  refine Vx.go hC te_368_910 ?_
  refine ⟨by decide, ?_⟩
  have hl10 := LwS.st (j := 6) (v := .int r7) (by omega) hl4
  show Vx (Ex S 24) S M_368 [] Q1 912 (px_s1 (px_s1 lv 5 (.int r3)) 6 (.int r7)) [] h5 (c + 4) (s + 24)
  refine Vx.go hC te_368_912 ?_
  refine ⟨by decide, ?_⟩
  exact Nx _ _ _ _ hl10 hL6 (by omega) (by omega)
theorem lc_16 {S : Nat × (Nat → Int32)} {lv : LV} {h : PH} {c s : Nat} {i : Int32} (hS : S.1 ≤ 3072) (hl : LwS lv i) (hi : 0 ≤ i.toInt ∧ i.toInt + 5 < S.1) (hL : LR h) (hc : c + 8 ≤ 601024) (hs : s + 48 ≤ 7293033) (Nx : ∀ lv' h' c' s', LwS lv' i → LR h' → c' ≤ c + 8 → s' ≤ s + 48 → Vx (Ex S 24) S M_368 [] Q1 2344 lv' [] h' c' s') : Vx (Ex S 24) S M_368 [] Q1 915 lv [] h c s := by
  have hC := Ex.mono S 24
  refine Vx.go hC te_368_915 ?_
  refine ⟨_, hl.2.1, ⟨0, Or.inl rfl⟩, ?_⟩
  refine sc_load hC (k := 1) hl te_368_916 te_368_917 te_368_919 te_368_920 te_368_921 (sc_in hS hi (by decide)) ?_
  refine sc_load hC (k := 2) hl te_368_922 te_368_923 te_368_925 te_368_926 te_368_927 (sc_in hS hi (by decide)) ?_
  refine sc_load hC (k := 3) hl te_368_928 te_368_929 te_368_931 te_368_932 te_368_933 (sc_in hS hi (by decide)) ?_
  refine Vx.go hC te_368_934 ?_
  refine ⟨_, hl.2.2.2.1, ⟨173, Or.inl rfl⟩, ?_⟩
  refine Vx.go hC te_368_935 ?_
  refine Or.inr ⟨by decide, ?_⟩
  refine p_call_mk (av := [.ref 0, .int (S.2 (i + Int32.ofInt 1).toNatClampNeg), .int (S.2 (i + Int32.ofInt 2).toNatClampNeg), .int (S.2 (i + Int32.ofInt 3).toNatClampNeg), .ref 173]) (rest := []) mt_116 rfl (by decide) (show c + 6 ≤ 601024 by omega) (show s + 36 ≤ 7293033 by omega) (fun q => by cases q) ?_
  refine g_116 (n := 6) hL (fun r3 h1 hL2 => ?_)
  show Vx (Ex S 24) S M_368 [] Q1 938 lv [.int r3] h1 (c + 6) (s + 36)
  refine Vx.go hC te_368_938 ?_
  refine ⟨by decide, ?_⟩
  have hl4 := LwS.st (j := 5) (v := .int r3) (by omega) hl
  show Vx (Ex S 24) S M_368 [] Q1 940 (px_s1 lv 5 (.int r3)) [] h1 (c + 6) (s + 36)
  refine Vx.go hC te_368_940 ?_
  refine ⟨_, hl4.2.2.1, ⟨143, Or.inl rfl⟩, ?_⟩
  refine sc_load hC (k := 1) hl4 te_368_941 te_368_942 te_368_944 te_368_945 te_368_946 (sc_in hS hi (by decide)) ?_
  refine sc_load hC (k := 2) hl4 te_368_947 te_368_948 te_368_950 te_368_951 te_368_952 (sc_in hS hi (by decide)) ?_
  refine sc_load hC (k := 3) hl4 te_368_953 te_368_954 te_368_956 te_368_957 te_368_958 (sc_in hS hi (by decide)) ?_
  refine Vx.go hC te_368_959 ?_
  obtain ⟨gs8, gs8g⟩ := hL2.obj (A := 143) rfl
  have hcall9 := ref_call (S := S) (n := 24) (μ := 279) (args := [.inr 143, .inl ((S.2 (i + Int32.ofInt 1).toNatClampNeg) : Int32).toInt, .inl ((S.2 (i + Int32.ofInt 2).toNatClampNeg) : Int32).toInt, .inl ((S.2 (i + Int32.ofInt 3).toNatClampNeg) : Int32).toInt]) (h := h1) (fun v hv => by simp only [List.mem_cons, List.not_mem_nil, or_false] at hv; rcases hv with rfl | rfl | rfl | rfl <;> first | trivial | exact wiI _) hL2 (fun mem hr => f_279 hr (fun r m' a b => ⟨a, b⟩))
  simp only [List.map_cons, List.map_nil, wv, Int32.ofInt_toInt] at hcall9
  refine p_call_mk (av := [.ref 143, .int (S.2 (i + Int32.ofInt 1).toNatClampNeg), .int (S.2 (i + Int32.ofInt 2).toNatClampNeg), .int (S.2 (i + Int32.ofInt 3).toNatClampNeg)]) (rest := []) mt_279 rfl (by decide) (show (c + 6) + 0 ≤ 601024 by omega) (show (s + 36) + 0 ≤ 7293033 by omega) (fun _ => ⟨143, gs8, rfl, gs8g⟩) ?_
  refine hC _ _ _ _ _ ?_ hcall9
  rintro _ h5 ⟨hL6, r7, rfl⟩
  show Vx (Ex S 24) S M_368 [] Q1 962 (px_s1 lv 5 (.int r3)) [.int r7] h5 (c + 6) (s + 36)
  refine Vx.go hC te_368_962 ?_
  refine ⟨by decide, ?_⟩
  have hl10 := LwS.st (j := 6) (v := .int r7) (by omega) hl4
  show Vx (Ex S 24) S M_368 [] Q1 964 (px_s1 (px_s1 lv 5 (.int r3)) 6 (.int r7)) [] h5 (c + 6) (s + 36)
  refine Vx.go hC te_368_964 ?_
  refine ⟨by decide, ?_⟩
  exact Nx _ _ _ _ hl10 hL6 (by omega) (by omega)
theorem lc_17 {S : Nat × (Nat → Int32)} {lv : LV} {h : PH} {c s : Nat} {i : Int32} (hS : S.1 ≤ 3072) (hl : LwS lv i) (hi : 0 ≤ i.toInt ∧ i.toInt + 5 < S.1) (hL : LR h) (hc : c + 8 ≤ 601024) (hs : s + 48 ≤ 7293033) (Nx : ∀ lv' h' c' s', LwS lv' i → LR h' → c' ≤ c + 8 → s' ≤ s + 48 → Vx (Ex S 24) S M_368 [] Q1 2344 lv' [] h' c' s') : Vx (Ex S 24) S M_368 [] Q1 967 lv [] h c s := by
  have hC := Ex.mono S 24
  refine Vx.go hC te_368_967 ?_
  refine ⟨_, hl.2.1, ⟨0, Or.inl rfl⟩, ?_⟩
  refine sc_load hC (k := 1) hl te_368_968 te_368_969 te_368_971 te_368_972 te_368_973 (sc_in hS hi (by decide)) ?_
  refine sc_load hC (k := 2) hl te_368_974 te_368_975 te_368_977 te_368_978 te_368_979 (sc_in hS hi (by decide)) ?_
  refine Vx.go hC te_368_980 ?_
  refine ⟨_, hl.2.2.2.1, ⟨173, Or.inl rfl⟩, ?_⟩
  refine Vx.go hC te_368_981 ?_
  refine Or.inr ⟨by decide, ?_⟩
  refine p_call_mk (av := [.ref 0, .int (S.2 (i + Int32.ofInt 1).toNatClampNeg), .int (S.2 (i + Int32.ofInt 2).toNatClampNeg), .ref 173]) (rest := []) mt_121 rfl (by decide) (show c + 4 ≤ 601024 by omega) (show s + 24 ≤ 7293033 by omega) (fun q => by cases q) ?_
  refine g_121 (n := 6) hL (fun r3 h1 hL2 => ?_)
  show Vx (Ex S 24) S M_368 [] Q1 984 lv [.int r3] h1 (c + 4) (s + 24)
  refine Vx.go hC te_368_984 ?_
  refine ⟨by decide, ?_⟩
  have hl4 := LwS.st (j := 5) (v := .int r3) (by omega) hl
  show Vx (Ex S 24) S M_368 [] Q1 986 (px_s1 lv 5 (.int r3)) [] h1 (c + 4) (s + 24)
  refine Vx.go hC te_368_986 ?_
  refine ⟨_, hl4.2.2.1, ⟨143, Or.inl rfl⟩, ?_⟩
  refine sc_load hC (k := 1) hl4 te_368_987 te_368_988 te_368_990 te_368_991 te_368_992 (sc_in hS hi (by decide)) ?_
  refine sc_load hC (k := 2) hl4 te_368_993 te_368_994 te_368_996 te_368_997 te_368_998 (sc_in hS hi (by decide)) ?_
  refine Vx.go hC te_368_999 ?_
  obtain ⟨gs8, gs8g⟩ := hL2.obj (A := 143) rfl
  have hcall9 := ref_call (S := S) (n := 24) (μ := 280) (args := [.inr 143, .inl ((S.2 (i + Int32.ofInt 1).toNatClampNeg) : Int32).toInt, .inl ((S.2 (i + Int32.ofInt 2).toNatClampNeg) : Int32).toInt]) (h := h1) (fun v hv => by simp only [List.mem_cons, List.not_mem_nil, or_false] at hv; rcases hv with rfl | rfl | rfl <;> first | trivial | exact wiI _) hL2 (fun mem hr => f_280 hr (fun r m' a b => ⟨a, b⟩))
  simp only [List.map_cons, List.map_nil, wv, Int32.ofInt_toInt] at hcall9
  refine p_call_mk (av := [.ref 143, .int (S.2 (i + Int32.ofInt 1).toNatClampNeg), .int (S.2 (i + Int32.ofInt 2).toNatClampNeg)]) (rest := []) mt_280 rfl (by decide) (show (c + 4) + 0 ≤ 601024 by omega) (show (s + 24) + 0 ≤ 7293033 by omega) (fun _ => ⟨143, gs8, rfl, gs8g⟩) ?_
  refine hC _ _ _ _ _ ?_ hcall9
  rintro _ h5 ⟨hL6, r7, rfl⟩
  show Vx (Ex S 24) S M_368 [] Q1 1002 (px_s1 lv 5 (.int r3)) [.int r7] h5 (c + 4) (s + 24)
  refine Vx.go hC te_368_1002 ?_
  refine ⟨by decide, ?_⟩
  have hl10 := LwS.st (j := 6) (v := .int r7) (by omega) hl4
  show Vx (Ex S 24) S M_368 [] Q1 1004 (px_s1 (px_s1 lv 5 (.int r3)) 6 (.int r7)) [] h5 (c + 4) (s + 24)
  refine Vx.go hC te_368_1004 ?_
  refine ⟨by decide, ?_⟩
  exact Nx _ _ _ _ hl10 hL6 (by omega) (by omega)
theorem lc_18 {S : Nat × (Nat → Int32)} {lv : LV} {h : PH} {c s : Nat} {i : Int32} (hS : S.1 ≤ 3072) (hl : LwS lv i) (hi : 0 ≤ i.toInt ∧ i.toInt + 5 < S.1) (hL : LR h) (hc : c + 8 ≤ 601024) (hs : s + 48 ≤ 7293033) (Nx : ∀ lv' h' c' s', LwS lv' i → LR h' → c' ≤ c + 8 → s' ≤ s + 48 → Vx (Ex S 24) S M_368 [] Q1 2344 lv' [] h' c' s') : Vx (Ex S 24) S M_368 [] Q1 1007 lv [] h c s := by
  have hC := Ex.mono S 24
  refine Vx.go hC te_368_1007 ?_
  refine ⟨_, hl.2.1, ⟨0, Or.inl rfl⟩, ?_⟩
  refine sc_load hC (k := 1) hl te_368_1008 te_368_1009 te_368_1011 te_368_1012 te_368_1013 (sc_in hS hi (by decide)) ?_
  refine Vx.go hC te_368_1014 ?_
  refine ⟨_, hl.2.2.2.1, ⟨173, Or.inl rfl⟩, ?_⟩
  refine Vx.go hC te_368_1015 ?_
  refine Or.inr ⟨by decide, ?_⟩
  refine p_call_mk (av := [.ref 0, .int (S.2 (i + Int32.ofInt 1).toNatClampNeg), .ref 173]) (rest := []) mt_135 rfl (by decide) (show c + 3 ≤ 601024 by omega) (show s + 18 ≤ 7293033 by omega) (fun q => by cases q) ?_
  refine g_135 (n := 6) hL (fun r3 h1 hL2 => ?_)
  show Vx (Ex S 24) S M_368 [] Q1 1018 lv [.int r3] h1 (c + 3) (s + 18)
  refine Vx.go hC te_368_1018 ?_
  refine ⟨by decide, ?_⟩
  have hl4 := LwS.st (j := 5) (v := .int r3) (by omega) hl
  show Vx (Ex S 24) S M_368 [] Q1 1020 (px_s1 lv 5 (.int r3)) [] h1 (c + 3) (s + 18)
  refine Vx.go hC te_368_1020 ?_
  refine ⟨_, hl4.2.2.1, ⟨143, Or.inl rfl⟩, ?_⟩
  refine sc_load hC (k := 1) hl4 te_368_1021 te_368_1022 te_368_1024 te_368_1025 te_368_1026 (sc_in hS hi (by decide)) ?_
  refine Vx.go hC te_368_1027 ?_
  obtain ⟨gs8, gs8g⟩ := hL2.obj (A := 143) rfl
  have hcall9 := ref_call (S := S) (n := 24) (μ := 292) (args := [.inr 143, .inl ((S.2 (i + Int32.ofInt 1).toNatClampNeg) : Int32).toInt]) (h := h1) (fun v hv => by simp only [List.mem_cons, List.not_mem_nil, or_false] at hv; rcases hv with rfl | rfl <;> first | trivial | exact wiI _) hL2 (fun mem hr => f_292 hr (fun r m' a b => ⟨a, b⟩))
  simp only [List.map_cons, List.map_nil, wv, Int32.ofInt_toInt] at hcall9
  refine p_call_mk (av := [.ref 143, .int (S.2 (i + Int32.ofInt 1).toNatClampNeg)]) (rest := []) mt_292 rfl (by decide) (show (c + 3) + 0 ≤ 601024 by omega) (show (s + 18) + 0 ≤ 7293033 by omega) (fun _ => ⟨143, gs8, rfl, gs8g⟩) ?_
  refine hC _ _ _ _ _ ?_ hcall9
  rintro _ h5 ⟨hL6, r7, rfl⟩
  show Vx (Ex S 24) S M_368 [] Q1 1030 (px_s1 lv 5 (.int r3)) [.int r7] h5 (c + 3) (s + 18)
  refine Vx.go hC te_368_1030 ?_
  refine ⟨by decide, ?_⟩
  have hl10 := LwS.st (j := 6) (v := .int r7) (by omega) hl4
  show Vx (Ex S 24) S M_368 [] Q1 1032 (px_s1 (px_s1 lv 5 (.int r3)) 6 (.int r7)) [] h5 (c + 3) (s + 18)
  refine Vx.go hC te_368_1032 ?_
  refine ⟨by decide, ?_⟩
  exact Nx _ _ _ _ hl10 hL6 (by omega) (by omega)
theorem lc_19 {S : Nat × (Nat → Int32)} {lv : LV} {h : PH} {c s : Nat} {i : Int32} (hS : S.1 ≤ 3072) (hl : LwS lv i) (hi : 0 ≤ i.toInt ∧ i.toInt + 5 < S.1) (hL : LR h) (hc : c + 8 ≤ 601024) (hs : s + 48 ≤ 7293033) (Nx : ∀ lv' h' c' s', LwS lv' i → LR h' → c' ≤ c + 8 → s' ≤ s + 48 → Vx (Ex S 24) S M_368 [] Q1 2344 lv' [] h' c' s') : Vx (Ex S 24) S M_368 [] Q1 1035 lv [] h c s := by
  have hC := Ex.mono S 24
  refine Vx.go hC te_368_1035 ?_
  refine ⟨_, hl.2.1, ⟨0, Or.inl rfl⟩, ?_⟩
  refine Vx.go hC te_368_1036 ?_
  refine ⟨_, hl.2.2.2.1, ⟨173, Or.inl rfl⟩, ?_⟩
  refine Vx.go hC te_368_1037 ?_
  refine Or.inr ⟨by decide, ?_⟩
  refine p_call_mk (av := [.ref 0, .ref 173]) (rest := []) mt_137 rfl (by decide) (show c + 1 ≤ 601024 by omega) (show s + 6 ≤ 7293033 by omega) (fun q => by cases q) ?_
  refine g_137 (n := 6) hL (fun r3 h1 hL2 => ?_)
  show Vx (Ex S 24) S M_368 [] Q1 1040 lv [.int r3] h1 (c + 1) (s + 6)
  refine Vx.go hC te_368_1040 ?_
  refine ⟨by decide, ?_⟩
  have hl4 := LwS.st (j := 5) (v := .int r3) (by omega) hl
  show Vx (Ex S 24) S M_368 [] Q1 1042 (px_s1 lv 5 (.int r3)) [] h1 (c + 1) (s + 6)
  refine Vx.go hC te_368_1042 ?_
  refine ⟨_, hl4.2.2.1, ⟨143, Or.inl rfl⟩, ?_⟩
  refine Vx.go hC te_368_1043 ?_
  obtain ⟨gs8, gs8g⟩ := hL2.obj (A := 143) rfl
  have hcall9 := ref_call (S := S) (n := 24) (μ := 293) (args := [.inr 143]) (h := h1) (fun v hv => by simp only [List.mem_cons, List.not_mem_nil, or_false] at hv; rw [hv]; trivial) hL2 (fun mem hr => f_293 hr (fun r m' a b => ⟨a, b⟩))
  simp only [List.map_cons, List.map_nil, wv, Int32.ofInt_toInt] at hcall9
  refine p_call_mk (av := [.ref 143]) (rest := []) mt_293 rfl (by decide) (show (c + 1) + 0 ≤ 601024 by omega) (show (s + 6) + 0 ≤ 7293033 by omega) (fun _ => ⟨143, gs8, rfl, gs8g⟩) ?_
  refine hC _ _ _ _ _ ?_ hcall9
  rintro _ h5 ⟨hL6, r7, rfl⟩
  show Vx (Ex S 24) S M_368 [] Q1 1046 (px_s1 lv 5 (.int r3)) [.int r7] h5 (c + 1) (s + 6)
  refine Vx.go hC te_368_1046 ?_
  refine ⟨by decide, ?_⟩
  have hl10 := LwS.st (j := 6) (v := .int r7) (by omega) hl4
  show Vx (Ex S 24) S M_368 [] Q1 1048 (px_s1 (px_s1 lv 5 (.int r3)) 6 (.int r7)) [] h5 (c + 1) (s + 6)
  refine Vx.go hC te_368_1048 ?_
  refine ⟨by decide, ?_⟩
  exact Nx _ _ _ _ hl10 hL6 (by omega) (by omega)
theorem lc_20 {S : Nat × (Nat → Int32)} {lv : LV} {h : PH} {c s : Nat} {i : Int32} (hS : S.1 ≤ 3072) (hl : LwS lv i) (hi : 0 ≤ i.toInt ∧ i.toInt + 5 < S.1) (hL : LR h) (hc : c + 8 ≤ 601024) (hs : s + 48 ≤ 7293033) (Nx : ∀ lv' h' c' s', LwS lv' i → LR h' → c' ≤ c + 8 → s' ≤ s + 48 → Vx (Ex S 24) S M_368 [] Q1 2344 lv' [] h' c' s') : Vx (Ex S 24) S M_368 [] Q1 1051 lv [] h c s := by
  have hC := Ex.mono S 24
  refine Vx.go hC te_368_1051 ?_
  refine ⟨_, hl.2.1, ⟨0, Or.inl rfl⟩, ?_⟩
  refine sc_load hC (k := 1) hl te_368_1052 te_368_1053 te_368_1055 te_368_1056 te_368_1057 (sc_in hS hi (by decide)) ?_
  refine sc_load hC (k := 2) hl te_368_1058 te_368_1059 te_368_1061 te_368_1062 te_368_1063 (sc_in hS hi (by decide)) ?_
  refine Vx.go hC te_368_1064 ?_
  refine ⟨_, hl.2.2.2.1, ⟨173, Or.inl rfl⟩, ?_⟩
  refine Vx.go hC te_368_1065 ?_
  refine Or.inr ⟨by decide, ?_⟩
  refine p_call_mk (av := [.ref 0, .int (S.2 (i + Int32.ofInt 1).toNatClampNeg), .int (S.2 (i + Int32.ofInt 2).toNatClampNeg), .ref 173]) (rest := []) mt_139 rfl (by decide) (show c + 4 ≤ 601024 by omega) (show s + 24 ≤ 7293033 by omega) (fun q => by cases q) ?_
  refine g_139 (n := 6) hL (fun r3 h1 hL2 => ?_)
  show Vx (Ex S 24) S M_368 [] Q1 1068 lv [.int r3] h1 (c + 4) (s + 24)
  refine Vx.go hC te_368_1068 ?_
  refine ⟨by decide, ?_⟩
  have hl4 := LwS.st (j := 5) (v := .int r3) (by omega) hl
  show Vx (Ex S 24) S M_368 [] Q1 1070 (px_s1 lv 5 (.int r3)) [] h1 (c + 4) (s + 24)
  refine Vx.go hC te_368_1070 ?_
  refine ⟨_, hl4.2.2.1, ⟨143, Or.inl rfl⟩, ?_⟩
  refine sc_load hC (k := 1) hl4 te_368_1071 te_368_1072 te_368_1074 te_368_1075 te_368_1076 (sc_in hS hi (by decide)) ?_
  refine sc_load hC (k := 2) hl4 te_368_1077 te_368_1078 te_368_1080 te_368_1081 te_368_1082 (sc_in hS hi (by decide)) ?_
  refine Vx.go hC te_368_1083 ?_
  obtain ⟨gs8, gs8g⟩ := hL2.obj (A := 143) rfl
  have hcall9 := ref_call (S := S) (n := 24) (μ := 294) (args := [.inr 143, .inl ((S.2 (i + Int32.ofInt 1).toNatClampNeg) : Int32).toInt, .inl ((S.2 (i + Int32.ofInt 2).toNatClampNeg) : Int32).toInt]) (h := h1) (fun v hv => by simp only [List.mem_cons, List.not_mem_nil, or_false] at hv; rcases hv with rfl | rfl | rfl <;> first | trivial | exact wiI _) hL2 (fun mem hr => f_294 hr (fun r m' a b => ⟨a, b⟩))
  simp only [List.map_cons, List.map_nil, wv, Int32.ofInt_toInt] at hcall9
  refine p_call_mk (av := [.ref 143, .int (S.2 (i + Int32.ofInt 1).toNatClampNeg), .int (S.2 (i + Int32.ofInt 2).toNatClampNeg)]) (rest := []) mt_294 rfl (by decide) (show (c + 4) + 0 ≤ 601024 by omega) (show (s + 24) + 0 ≤ 7293033 by omega) (fun _ => ⟨143, gs8, rfl, gs8g⟩) ?_
  refine hC _ _ _ _ _ ?_ hcall9
  rintro _ h5 ⟨hL6, r7, rfl⟩
  show Vx (Ex S 24) S M_368 [] Q1 1086 (px_s1 lv 5 (.int r3)) [.int r7] h5 (c + 4) (s + 24)
  refine Vx.go hC te_368_1086 ?_
  refine ⟨by decide, ?_⟩
  have hl10 := LwS.st (j := 6) (v := .int r7) (by omega) hl4
  show Vx (Ex S 24) S M_368 [] Q1 1088 (px_s1 (px_s1 lv 5 (.int r3)) 6 (.int r7)) [] h5 (c + 4) (s + 24)
  refine Vx.go hC te_368_1088 ?_
  refine ⟨by decide, ?_⟩
  exact Nx _ _ _ _ hl10 hL6 (by omega) (by omega)
/-! laid by wip/hand/lw.py: cases of the law -/
theorem te_368_1091 : (pT M_368).find? (fun e => e.1 == 1091) = some (1091, .aload_n 1, 0, 0) := (sk_50 1091 rfl).trans rfl
theorem te_368_1092 : (pT M_368).find? (fun e => e.1 == 1092) = some (1092, .aload_n 0, 0, 0) := (sk_50 1092 rfl).trans rfl
theorem te_368_1093 : (pT M_368).find? (fun e => e.1 == 1093) = some (1093, .iload 4, 0, 0) := (sk_50 1093 rfl).trans rfl
theorem te_368_1095 : (pT M_368).find? (fun e => e.1 == 1095) = some (1095, .iconst 1, 0, 0) := (sk_50 1095 rfl).trans rfl
theorem te_368_1096 : (pT M_368).find? (fun e => e.1 == 1096) = some (1096, .iadd, 0, 0) := (sk_51 1096 rfl).trans rfl
theorem te_368_1097 : (pT M_368).find? (fun e => e.1 == 1097) = some (1097, .iaload, 0, 0) := (sk_51 1097 rfl).trans rfl
theorem te_368_1098 : (pT M_368).find? (fun e => e.1 == 1098) = some (1098, .aload_n 0, 0, 0) := (sk_51 1098 rfl).trans rfl
theorem te_368_1099 : (pT M_368).find? (fun e => e.1 == 1099) = some (1099, .iload 4, 0, 0) := (sk_51 1099 rfl).trans rfl
theorem te_368_1101 : (pT M_368).find? (fun e => e.1 == 1101) = some (1101, .iconst 2, 0, 0) := (sk_51 1101 rfl).trans rfl
theorem te_368_1102 : (pT M_368).find? (fun e => e.1 == 1102) = some (1102, .iadd, 0, 0) := (sk_51 1102 rfl).trans rfl
theorem te_368_1103 : (pT M_368).find? (fun e => e.1 == 1103) = some (1103, .iaload, 0, 0) := (sk_51 1103 rfl).trans rfl
theorem te_368_1104 : (pT M_368).find? (fun e => e.1 == 1104) = some (1104, .aload_n 0, 0, 0) := (sk_51 1104 rfl).trans rfl
theorem te_368_1105 : (pT M_368).find? (fun e => e.1 == 1105) = some (1105, .iload 4, 0, 0) := (sk_51 1105 rfl).trans rfl
theorem te_368_1107 : (pT M_368).find? (fun e => e.1 == 1107) = some (1107, .iconst 3, 0, 0) := (sk_51 1107 rfl).trans rfl
theorem te_368_1108 : (pT M_368).find? (fun e => e.1 == 1108) = some (1108, .iadd, 0, 0) := (sk_51 1108 rfl).trans rfl
theorem te_368_1109 : (pT M_368).find? (fun e => e.1 == 1109) = some (1109, .iaload, 0, 0) := (sk_51 1109 rfl).trans rfl
theorem te_368_1110 : (pT M_368).find? (fun e => e.1 == 1110) = some (1110, .aload_n 3, 0, 0) := (sk_52 1110 rfl).trans rfl
theorem te_368_1111 : (pT M_368).find? (fun e => e.1 == 1111) = some (1111, .invokestatic 252, 144, 8) := (sk_52 1111 rfl).trans rfl
theorem te_368_1114 : (pT M_368).find? (fun e => e.1 == 1114) = some (1114, .istore 5, 0, 0) := (sk_52 1114 rfl).trans rfl
theorem te_368_1116 : (pT M_368).find? (fun e => e.1 == 1116) = some (1116, .aload_n 2, 0, 0) := (sk_52 1116 rfl).trans rfl
theorem te_368_1117 : (pT M_368).find? (fun e => e.1 == 1117) = some (1117, .aload_n 0, 0, 0) := (sk_52 1117 rfl).trans rfl
theorem te_368_1118 : (pT M_368).find? (fun e => e.1 == 1118) = some (1118, .iload 4, 0, 0) := (sk_52 1118 rfl).trans rfl
theorem te_368_1120 : (pT M_368).find? (fun e => e.1 == 1120) = some (1120, .iconst 1, 0, 0) := (sk_52 1120 rfl).trans rfl
theorem te_368_1121 : (pT M_368).find? (fun e => e.1 == 1121) = some (1121, .iadd, 0, 0) := (sk_52 1121 rfl).trans rfl
theorem te_368_1122 : (pT M_368).find? (fun e => e.1 == 1122) = some (1122, .iaload, 0, 0) := (sk_52 1122 rfl).trans rfl
theorem te_368_1123 : (pT M_368).find? (fun e => e.1 == 1123) = some (1123, .aload_n 0, 0, 0) := (sk_52 1123 rfl).trans rfl
theorem te_368_1124 : (pT M_368).find? (fun e => e.1 == 1124) = some (1124, .iload 4, 0, 0) := (sk_52 1124 rfl).trans rfl
theorem te_368_1126 : (pT M_368).find? (fun e => e.1 == 1126) = some (1126, .iconst 2, 0, 0) := (sk_52 1126 rfl).trans rfl
theorem te_368_1127 : (pT M_368).find? (fun e => e.1 == 1127) = some (1127, .iadd, 0, 0) := (sk_53 1127 rfl).trans rfl
theorem te_368_1128 : (pT M_368).find? (fun e => e.1 == 1128) = some (1128, .iaload, 0, 0) := (sk_53 1128 rfl).trans rfl
theorem te_368_1129 : (pT M_368).find? (fun e => e.1 == 1129) = some (1129, .aload_n 0, 0, 0) := (sk_53 1129 rfl).trans rfl
theorem te_368_1130 : (pT M_368).find? (fun e => e.1 == 1130) = some (1130, .iload 4, 0, 0) := (sk_53 1130 rfl).trans rfl
theorem te_368_1132 : (pT M_368).find? (fun e => e.1 == 1132) = some (1132, .iconst 3, 0, 0) := (sk_53 1132 rfl).trans rfl
theorem te_368_1133 : (pT M_368).find? (fun e => e.1 == 1133) = some (1133, .iadd, 0, 0) := (sk_53 1133 rfl).trans rfl
theorem te_368_1134 : (pT M_368).find? (fun e => e.1 == 1134) = some (1134, .iaload, 0, 0) := (sk_53 1134 rfl).trans rfl
theorem te_368_1135 : (pT M_368).find? (fun e => e.1 == 1135) = some (1135, .invokevirtual 254, 305, 0) := (sk_53 1135 rfl).trans rfl
theorem te_368_1138 : (pT M_368).find? (fun e => e.1 == 1138) = some (1138, .istore 6, 0, 0) := (sk_53 1138 rfl).trans rfl
theorem te_368_1140 : (pT M_368).find? (fun e => e.1 == 1140) = some (1140, .goto 1204, 0, 0) := (sk_53 1140 rfl).trans rfl
theorem te_368_1143 : (pT M_368).find? (fun e => e.1 == 1143) = some (1143, .aload_n 1, 0, 0) := (sk_53 1143 rfl).trans rfl
theorem te_368_1144 : (pT M_368).find? (fun e => e.1 == 1144) = some (1144, .aload_n 0, 0, 0) := (sk_53 1144 rfl).trans rfl
theorem te_368_1145 : (pT M_368).find? (fun e => e.1 == 1145) = some (1145, .iload 4, 0, 0) := (sk_54 1145 rfl).trans rfl
theorem te_368_1147 : (pT M_368).find? (fun e => e.1 == 1147) = some (1147, .iconst 1, 0, 0) := (sk_54 1147 rfl).trans rfl
theorem te_368_1148 : (pT M_368).find? (fun e => e.1 == 1148) = some (1148, .iadd, 0, 0) := (sk_54 1148 rfl).trans rfl
theorem te_368_1149 : (pT M_368).find? (fun e => e.1 == 1149) = some (1149, .iaload, 0, 0) := (sk_54 1149 rfl).trans rfl
theorem te_368_1150 : (pT M_368).find? (fun e => e.1 == 1150) = some (1150, .aload_n 0, 0, 0) := (sk_54 1150 rfl).trans rfl
theorem te_368_1151 : (pT M_368).find? (fun e => e.1 == 1151) = some (1151, .iload 4, 0, 0) := (sk_54 1151 rfl).trans rfl
theorem te_368_1153 : (pT M_368).find? (fun e => e.1 == 1153) = some (1153, .iconst 2, 0, 0) := (sk_54 1153 rfl).trans rfl
theorem te_368_1154 : (pT M_368).find? (fun e => e.1 == 1154) = some (1154, .iadd, 0, 0) := (sk_54 1154 rfl).trans rfl
theorem te_368_1155 : (pT M_368).find? (fun e => e.1 == 1155) = some (1155, .iaload, 0, 0) := (sk_54 1155 rfl).trans rfl
theorem te_368_1156 : (pT M_368).find? (fun e => e.1 == 1156) = some (1156, .aload_n 3, 0, 0) := (sk_54 1156 rfl).trans rfl
theorem te_368_1157 : (pT M_368).find? (fun e => e.1 == 1157) = some (1157, .invokestatic 255, 147, 8) := (sk_54 1157 rfl).trans rfl
theorem te_368_1160 : (pT M_368).find? (fun e => e.1 == 1160) = some (1160, .istore 5, 0, 0) := (sk_54 1160 rfl).trans rfl
theorem te_368_1162 : (pT M_368).find? (fun e => e.1 == 1162) = some (1162, .aload_n 2, 0, 0) := (sk_55 1162 rfl).trans rfl
theorem te_368_1163 : (pT M_368).find? (fun e => e.1 == 1163) = some (1163, .aload_n 0, 0, 0) := (sk_55 1163 rfl).trans rfl
theorem te_368_1164 : (pT M_368).find? (fun e => e.1 == 1164) = some (1164, .iload 4, 0, 0) := (sk_55 1164 rfl).trans rfl
theorem te_368_1166 : (pT M_368).find? (fun e => e.1 == 1166) = some (1166, .iconst 1, 0, 0) := (sk_55 1166 rfl).trans rfl
theorem te_368_1167 : (pT M_368).find? (fun e => e.1 == 1167) = some (1167, .iadd, 0, 0) := (sk_55 1167 rfl).trans rfl
theorem te_368_1168 : (pT M_368).find? (fun e => e.1 == 1168) = some (1168, .iaload, 0, 0) := (sk_55 1168 rfl).trans rfl
theorem te_368_1169 : (pT M_368).find? (fun e => e.1 == 1169) = some (1169, .aload_n 0, 0, 0) := (sk_55 1169 rfl).trans rfl
theorem te_368_1170 : (pT M_368).find? (fun e => e.1 == 1170) = some (1170, .iload 4, 0, 0) := (sk_55 1170 rfl).trans rfl
theorem te_368_1172 : (pT M_368).find? (fun e => e.1 == 1172) = some (1172, .iconst 2, 0, 0) := (sk_55 1172 rfl).trans rfl
theorem te_368_1173 : (pT M_368).find? (fun e => e.1 == 1173) = some (1173, .iadd, 0, 0) := (sk_55 1173 rfl).trans rfl
theorem te_368_1174 : (pT M_368).find? (fun e => e.1 == 1174) = some (1174, .iaload, 0, 0) := (sk_55 1174 rfl).trans rfl
theorem te_368_1175 : (pT M_368).find? (fun e => e.1 == 1175) = some (1175, .invokevirtual 257, 307, 0) := (sk_55 1175 rfl).trans rfl
theorem te_368_1178 : (pT M_368).find? (fun e => e.1 == 1178) = some (1178, .istore 6, 0, 0) := (sk_56 1178 rfl).trans rfl
theorem te_368_1180 : (pT M_368).find? (fun e => e.1 == 1180) = some (1180, .goto 1164, 0, 0) := (sk_56 1180 rfl).trans rfl
theorem te_368_1183 : (pT M_368).find? (fun e => e.1 == 1183) = some (1183, .aload_n 1, 0, 0) := (sk_56 1183 rfl).trans rfl
theorem te_368_1184 : (pT M_368).find? (fun e => e.1 == 1184) = some (1184, .aload_n 0, 0, 0) := (sk_56 1184 rfl).trans rfl
theorem te_368_1185 : (pT M_368).find? (fun e => e.1 == 1185) = some (1185, .iload 4, 0, 0) := (sk_56 1185 rfl).trans rfl
theorem te_368_1187 : (pT M_368).find? (fun e => e.1 == 1187) = some (1187, .iconst 1, 0, 0) := (sk_56 1187 rfl).trans rfl
theorem te_368_1188 : (pT M_368).find? (fun e => e.1 == 1188) = some (1188, .iadd, 0, 0) := (sk_56 1188 rfl).trans rfl
theorem te_368_1189 : (pT M_368).find? (fun e => e.1 == 1189) = some (1189, .iaload, 0, 0) := (sk_56 1189 rfl).trans rfl
theorem te_368_1190 : (pT M_368).find? (fun e => e.1 == 1190) = some (1190, .aload_n 0, 0, 0) := (sk_56 1190 rfl).trans rfl
theorem te_368_1191 : (pT M_368).find? (fun e => e.1 == 1191) = some (1191, .iload 4, 0, 0) := (sk_56 1191 rfl).trans rfl
theorem te_368_1193 : (pT M_368).find? (fun e => e.1 == 1193) = some (1193, .iconst 2, 0, 0) := (sk_56 1193 rfl).trans rfl
theorem te_368_1194 : (pT M_368).find? (fun e => e.1 == 1194) = some (1194, .iadd, 0, 0) := (sk_56 1194 rfl).trans rfl
theorem te_368_1195 : (pT M_368).find? (fun e => e.1 == 1195) = some (1195, .iaload, 0, 0) := (sk_57 1195 rfl).trans rfl
theorem te_368_1196 : (pT M_368).find? (fun e => e.1 == 1196) = some (1196, .aload_n 0, 0, 0) := (sk_57 1196 rfl).trans rfl
theorem te_368_1197 : (pT M_368).find? (fun e => e.1 == 1197) = some (1197, .iload 4, 0, 0) := (sk_57 1197 rfl).trans rfl
theorem te_368_1199 : (pT M_368).find? (fun e => e.1 == 1199) = some (1199, .iconst 3, 0, 0) := (sk_57 1199 rfl).trans rfl
theorem te_368_1200 : (pT M_368).find? (fun e => e.1 == 1200) = some (1200, .iadd, 0, 0) := (sk_57 1200 rfl).trans rfl
theorem te_368_1201 : (pT M_368).find? (fun e => e.1 == 1201) = some (1201, .iaload, 0, 0) := (sk_57 1201 rfl).trans rfl
theorem te_368_1202 : (pT M_368).find? (fun e => e.1 == 1202) = some (1202, .aload_n 0, 0, 0) := (sk_57 1202 rfl).trans rfl
theorem te_368_1203 : (pT M_368).find? (fun e => e.1 == 1203) = some (1203, .iload 4, 0, 0) := (sk_57 1203 rfl).trans rfl
theorem te_368_1205 : (pT M_368).find? (fun e => e.1 == 1205) = some (1205, .iconst 4, 0, 0) := (sk_57 1205 rfl).trans rfl
theorem te_368_1206 : (pT M_368).find? (fun e => e.1 == 1206) = some (1206, .iadd, 0, 0) := (sk_57 1206 rfl).trans rfl
theorem te_368_1207 : (pT M_368).find? (fun e => e.1 == 1207) = some (1207, .iaload, 0, 0) := (sk_57 1207 rfl).trans rfl
theorem te_368_1208 : (pT M_368).find? (fun e => e.1 == 1208) = some (1208, .aload_n 3, 0, 0) := (sk_57 1208 rfl).trans rfl
theorem te_368_1209 : (pT M_368).find? (fun e => e.1 == 1209) = some (1209, .invokestatic 258, 149, 8) := (sk_58 1209 rfl).trans rfl
theorem te_368_1212 : (pT M_368).find? (fun e => e.1 == 1212) = some (1212, .istore 5, 0, 0) := (sk_58 1212 rfl).trans rfl
theorem te_368_1214 : (pT M_368).find? (fun e => e.1 == 1214) = some (1214, .aload_n 2, 0, 0) := (sk_58 1214 rfl).trans rfl
theorem te_368_1215 : (pT M_368).find? (fun e => e.1 == 1215) = some (1215, .aload_n 0, 0, 0) := (sk_58 1215 rfl).trans rfl
theorem te_368_1216 : (pT M_368).find? (fun e => e.1 == 1216) = some (1216, .iload 4, 0, 0) := (sk_58 1216 rfl).trans rfl
theorem te_368_1218 : (pT M_368).find? (fun e => e.1 == 1218) = some (1218, .iconst 1, 0, 0) := (sk_58 1218 rfl).trans rfl
theorem te_368_1219 : (pT M_368).find? (fun e => e.1 == 1219) = some (1219, .iadd, 0, 0) := (sk_58 1219 rfl).trans rfl
theorem te_368_1220 : (pT M_368).find? (fun e => e.1 == 1220) = some (1220, .iaload, 0, 0) := (sk_58 1220 rfl).trans rfl
theorem te_368_1221 : (pT M_368).find? (fun e => e.1 == 1221) = some (1221, .aload_n 0, 0, 0) := (sk_58 1221 rfl).trans rfl
theorem te_368_1222 : (pT M_368).find? (fun e => e.1 == 1222) = some (1222, .iload 4, 0, 0) := (sk_58 1222 rfl).trans rfl
theorem te_368_1224 : (pT M_368).find? (fun e => e.1 == 1224) = some (1224, .iconst 2, 0, 0) := (sk_58 1224 rfl).trans rfl
theorem te_368_1225 : (pT M_368).find? (fun e => e.1 == 1225) = some (1225, .iadd, 0, 0) := (sk_58 1225 rfl).trans rfl
theorem te_368_1226 : (pT M_368).find? (fun e => e.1 == 1226) = some (1226, .iaload, 0, 0) := (sk_59 1226 rfl).trans rfl
theorem te_368_1227 : (pT M_368).find? (fun e => e.1 == 1227) = some (1227, .aload_n 0, 0, 0) := (sk_59 1227 rfl).trans rfl
theorem te_368_1228 : (pT M_368).find? (fun e => e.1 == 1228) = some (1228, .iload 4, 0, 0) := (sk_59 1228 rfl).trans rfl
theorem te_368_1230 : (pT M_368).find? (fun e => e.1 == 1230) = some (1230, .iconst 3, 0, 0) := (sk_59 1230 rfl).trans rfl
theorem te_368_1231 : (pT M_368).find? (fun e => e.1 == 1231) = some (1231, .iadd, 0, 0) := (sk_59 1231 rfl).trans rfl
theorem te_368_1232 : (pT M_368).find? (fun e => e.1 == 1232) = some (1232, .iaload, 0, 0) := (sk_59 1232 rfl).trans rfl
theorem te_368_1233 : (pT M_368).find? (fun e => e.1 == 1233) = some (1233, .aload_n 0, 0, 0) := (sk_59 1233 rfl).trans rfl
theorem te_368_1234 : (pT M_368).find? (fun e => e.1 == 1234) = some (1234, .iload 4, 0, 0) := (sk_59 1234 rfl).trans rfl
theorem te_368_1236 : (pT M_368).find? (fun e => e.1 == 1236) = some (1236, .iconst 4, 0, 0) := (sk_59 1236 rfl).trans rfl
theorem te_368_1237 : (pT M_368).find? (fun e => e.1 == 1237) = some (1237, .iadd, 0, 0) := (sk_59 1237 rfl).trans rfl
theorem te_368_1238 : (pT M_368).find? (fun e => e.1 == 1238) = some (1238, .iaload, 0, 0) := (sk_59 1238 rfl).trans rfl
theorem te_368_1239 : (pT M_368).find? (fun e => e.1 == 1239) = some (1239, .invokevirtual 260, 308, 0) := (sk_59 1239 rfl).trans rfl
theorem te_368_1242 : (pT M_368).find? (fun e => e.1 == 1242) = some (1242, .istore 6, 0, 0) := (sk_60 1242 rfl).trans rfl
theorem te_368_1244 : (pT M_368).find? (fun e => e.1 == 1244) = some (1244, .goto 1100, 0, 0) := (sk_60 1244 rfl).trans rfl
theorem te_368_1247 : (pT M_368).find? (fun e => e.1 == 1247) = some (1247, .aload_n 1, 0, 0) := (sk_60 1247 rfl).trans rfl
theorem te_368_1248 : (pT M_368).find? (fun e => e.1 == 1248) = some (1248, .aload_n 0, 0, 0) := (sk_60 1248 rfl).trans rfl
theorem te_368_1249 : (pT M_368).find? (fun e => e.1 == 1249) = some (1249, .iload 4, 0, 0) := (sk_60 1249 rfl).trans rfl
theorem te_368_1251 : (pT M_368).find? (fun e => e.1 == 1251) = some (1251, .iconst 1, 0, 0) := (sk_60 1251 rfl).trans rfl
theorem te_368_1252 : (pT M_368).find? (fun e => e.1 == 1252) = some (1252, .iadd, 0, 0) := (sk_60 1252 rfl).trans rfl
theorem te_368_1253 : (pT M_368).find? (fun e => e.1 == 1253) = some (1253, .iaload, 0, 0) := (sk_60 1253 rfl).trans rfl
theorem te_368_1254 : (pT M_368).find? (fun e => e.1 == 1254) = some (1254, .aload_n 0, 0, 0) := (sk_60 1254 rfl).trans rfl
theorem te_368_1255 : (pT M_368).find? (fun e => e.1 == 1255) = some (1255, .iload 4, 0, 0) := (sk_60 1255 rfl).trans rfl
theorem te_368_1257 : (pT M_368).find? (fun e => e.1 == 1257) = some (1257, .iconst 2, 0, 0) := (sk_60 1257 rfl).trans rfl
theorem te_368_1258 : (pT M_368).find? (fun e => e.1 == 1258) = some (1258, .iadd, 0, 0) := (sk_60 1258 rfl).trans rfl
theorem te_368_1259 : (pT M_368).find? (fun e => e.1 == 1259) = some (1259, .iaload, 0, 0) := (sk_61 1259 rfl).trans rfl
theorem te_368_1260 : (pT M_368).find? (fun e => e.1 == 1260) = some (1260, .aload_n 0, 0, 0) := (sk_61 1260 rfl).trans rfl
theorem te_368_1261 : (pT M_368).find? (fun e => e.1 == 1261) = some (1261, .iload 4, 0, 0) := (sk_61 1261 rfl).trans rfl
theorem te_368_1263 : (pT M_368).find? (fun e => e.1 == 1263) = some (1263, .iconst 3, 0, 0) := (sk_61 1263 rfl).trans rfl
theorem te_368_1264 : (pT M_368).find? (fun e => e.1 == 1264) = some (1264, .iadd, 0, 0) := (sk_61 1264 rfl).trans rfl
theorem te_368_1265 : (pT M_368).find? (fun e => e.1 == 1265) = some (1265, .iaload, 0, 0) := (sk_61 1265 rfl).trans rfl
theorem te_368_1266 : (pT M_368).find? (fun e => e.1 == 1266) = some (1266, .aload_n 3, 0, 0) := (sk_61 1266 rfl).trans rfl
theorem te_368_1267 : (pT M_368).find? (fun e => e.1 == 1267) = some (1267, .invokestatic 261, 153, 8) := (sk_61 1267 rfl).trans rfl
theorem te_368_1270 : (pT M_368).find? (fun e => e.1 == 1270) = some (1270, .istore 5, 0, 0) := (sk_61 1270 rfl).trans rfl
theorem te_368_1272 : (pT M_368).find? (fun e => e.1 == 1272) = some (1272, .aload_n 2, 0, 0) := (sk_61 1272 rfl).trans rfl
theorem te_368_1273 : (pT M_368).find? (fun e => e.1 == 1273) = some (1273, .aload_n 0, 0, 0) := (sk_61 1273 rfl).trans rfl
theorem te_368_1274 : (pT M_368).find? (fun e => e.1 == 1274) = some (1274, .iload 4, 0, 0) := (sk_61 1274 rfl).trans rfl
theorem te_368_1276 : (pT M_368).find? (fun e => e.1 == 1276) = some (1276, .iconst 1, 0, 0) := (sk_62 1276 rfl).trans rfl
theorem te_368_1277 : (pT M_368).find? (fun e => e.1 == 1277) = some (1277, .iadd, 0, 0) := (sk_62 1277 rfl).trans rfl
theorem te_368_1278 : (pT M_368).find? (fun e => e.1 == 1278) = some (1278, .iaload, 0, 0) := (sk_62 1278 rfl).trans rfl
theorem te_368_1279 : (pT M_368).find? (fun e => e.1 == 1279) = some (1279, .aload_n 0, 0, 0) := (sk_62 1279 rfl).trans rfl
theorem te_368_1280 : (pT M_368).find? (fun e => e.1 == 1280) = some (1280, .iload 4, 0, 0) := (sk_62 1280 rfl).trans rfl
theorem te_368_1282 : (pT M_368).find? (fun e => e.1 == 1282) = some (1282, .iconst 2, 0, 0) := (sk_62 1282 rfl).trans rfl
theorem te_368_1283 : (pT M_368).find? (fun e => e.1 == 1283) = some (1283, .iadd, 0, 0) := (sk_62 1283 rfl).trans rfl
theorem te_368_1284 : (pT M_368).find? (fun e => e.1 == 1284) = some (1284, .iaload, 0, 0) := (sk_62 1284 rfl).trans rfl
theorem te_368_1285 : (pT M_368).find? (fun e => e.1 == 1285) = some (1285, .aload_n 0, 0, 0) := (sk_62 1285 rfl).trans rfl
theorem te_368_1286 : (pT M_368).find? (fun e => e.1 == 1286) = some (1286, .iload 4, 0, 0) := (sk_62 1286 rfl).trans rfl
theorem te_368_1288 : (pT M_368).find? (fun e => e.1 == 1288) = some (1288, .iconst 3, 0, 0) := (sk_62 1288 rfl).trans rfl
theorem te_368_1289 : (pT M_368).find? (fun e => e.1 == 1289) = some (1289, .iadd, 0, 0) := (sk_62 1289 rfl).trans rfl
theorem te_368_1290 : (pT M_368).find? (fun e => e.1 == 1290) = some (1290, .iaload, 0, 0) := (sk_63 1290 rfl).trans rfl
theorem te_368_1291 : (pT M_368).find? (fun e => e.1 == 1291) = some (1291, .invokevirtual 263, 310, 0) := (sk_63 1291 rfl).trans rfl
theorem te_368_1294 : (pT M_368).find? (fun e => e.1 == 1294) = some (1294, .istore 6, 0, 0) := (sk_63 1294 rfl).trans rfl
theorem te_368_1296 : (pT M_368).find? (fun e => e.1 == 1296) = some (1296, .goto 1048, 0, 0) := (sk_63 1296 rfl).trans rfl
theorem te_368_1299 : (pT M_368).find? (fun e => e.1 == 1299) = some (1299, .aload_n 1, 0, 0) := (sk_63 1299 rfl).trans rfl
theorem te_368_1300 : (pT M_368).find? (fun e => e.1 == 1300) = some (1300, .aload_n 0, 0, 0) := (sk_63 1300 rfl).trans rfl
theorem te_368_1301 : (pT M_368).find? (fun e => e.1 == 1301) = some (1301, .iload 4, 0, 0) := (sk_63 1301 rfl).trans rfl
theorem te_368_1303 : (pT M_368).find? (fun e => e.1 == 1303) = some (1303, .iconst 1, 0, 0) := (sk_63 1303 rfl).trans rfl
theorem te_368_1304 : (pT M_368).find? (fun e => e.1 == 1304) = some (1304, .iadd, 0, 0) := (sk_63 1304 rfl).trans rfl
theorem te_368_1305 : (pT M_368).find? (fun e => e.1 == 1305) = some (1305, .iaload, 0, 0) := (sk_63 1305 rfl).trans rfl
theorem te_368_1306 : (pT M_368).find? (fun e => e.1 == 1306) = some (1306, .aload_n 0, 0, 0) := (sk_63 1306 rfl).trans rfl
theorem te_368_1307 : (pT M_368).find? (fun e => e.1 == 1307) = some (1307, .iload 4, 0, 0) := (sk_63 1307 rfl).trans rfl
theorem te_368_1309 : (pT M_368).find? (fun e => e.1 == 1309) = some (1309, .iconst 2, 0, 0) := (sk_64 1309 rfl).trans rfl
theorem te_368_1310 : (pT M_368).find? (fun e => e.1 == 1310) = some (1310, .iadd, 0, 0) := (sk_64 1310 rfl).trans rfl
theorem te_368_1311 : (pT M_368).find? (fun e => e.1 == 1311) = some (1311, .iaload, 0, 0) := (sk_64 1311 rfl).trans rfl
theorem te_368_1312 : (pT M_368).find? (fun e => e.1 == 1312) = some (1312, .aload_n 0, 0, 0) := (sk_64 1312 rfl).trans rfl
theorem te_368_1313 : (pT M_368).find? (fun e => e.1 == 1313) = some (1313, .iload 4, 0, 0) := (sk_64 1313 rfl).trans rfl
theorem te_368_1315 : (pT M_368).find? (fun e => e.1 == 1315) = some (1315, .iconst 3, 0, 0) := (sk_64 1315 rfl).trans rfl
theorem te_368_1316 : (pT M_368).find? (fun e => e.1 == 1316) = some (1316, .iadd, 0, 0) := (sk_64 1316 rfl).trans rfl
theorem te_368_1317 : (pT M_368).find? (fun e => e.1 == 1317) = some (1317, .iaload, 0, 0) := (sk_64 1317 rfl).trans rfl
theorem te_368_1318 : (pT M_368).find? (fun e => e.1 == 1318) = some (1318, .aload_n 0, 0, 0) := (sk_64 1318 rfl).trans rfl
theorem te_368_1319 : (pT M_368).find? (fun e => e.1 == 1319) = some (1319, .iload 4, 0, 0) := (sk_64 1319 rfl).trans rfl
theorem te_368_1321 : (pT M_368).find? (fun e => e.1 == 1321) = some (1321, .iconst 4, 0, 0) := (sk_64 1321 rfl).trans rfl
theorem te_368_1322 : (pT M_368).find? (fun e => e.1 == 1322) = some (1322, .iadd, 0, 0) := (sk_64 1322 rfl).trans rfl
theorem te_368_1323 : (pT M_368).find? (fun e => e.1 == 1323) = some (1323, .iaload, 0, 0) := (sk_65 1323 rfl).trans rfl
theorem te_368_1324 : (pT M_368).find? (fun e => e.1 == 1324) = some (1324, .aload_n 3, 0, 0) := (sk_65 1324 rfl).trans rfl
theorem te_368_1325 : (pT M_368).find? (fun e => e.1 == 1325) = some (1325, .invokestatic 264, 158, 8) := (sk_65 1325 rfl).trans rfl
theorem te_368_1328 : (pT M_368).find? (fun e => e.1 == 1328) = some (1328, .istore 5, 0, 0) := (sk_65 1328 rfl).trans rfl
theorem te_368_1330 : (pT M_368).find? (fun e => e.1 == 1330) = some (1330, .aload_n 2, 0, 0) := (sk_65 1330 rfl).trans rfl
theorem te_368_1331 : (pT M_368).find? (fun e => e.1 == 1331) = some (1331, .aload_n 0, 0, 0) := (sk_65 1331 rfl).trans rfl
theorem te_368_1332 : (pT M_368).find? (fun e => e.1 == 1332) = some (1332, .iload 4, 0, 0) := (sk_65 1332 rfl).trans rfl
theorem te_368_1334 : (pT M_368).find? (fun e => e.1 == 1334) = some (1334, .iconst 1, 0, 0) := (sk_65 1334 rfl).trans rfl
theorem te_368_1335 : (pT M_368).find? (fun e => e.1 == 1335) = some (1335, .iadd, 0, 0) := (sk_65 1335 rfl).trans rfl
theorem te_368_1336 : (pT M_368).find? (fun e => e.1 == 1336) = some (1336, .iaload, 0, 0) := (sk_65 1336 rfl).trans rfl
theorem te_368_1337 : (pT M_368).find? (fun e => e.1 == 1337) = some (1337, .aload_n 0, 0, 0) := (sk_65 1337 rfl).trans rfl
theorem te_368_1338 : (pT M_368).find? (fun e => e.1 == 1338) = some (1338, .iload 4, 0, 0) := (sk_65 1338 rfl).trans rfl
theorem te_368_1340 : (pT M_368).find? (fun e => e.1 == 1340) = some (1340, .iconst 2, 0, 0) := (sk_66 1340 rfl).trans rfl
theorem te_368_1341 : (pT M_368).find? (fun e => e.1 == 1341) = some (1341, .iadd, 0, 0) := (sk_66 1341 rfl).trans rfl
theorem te_368_1342 : (pT M_368).find? (fun e => e.1 == 1342) = some (1342, .iaload, 0, 0) := (sk_66 1342 rfl).trans rfl
theorem te_368_1343 : (pT M_368).find? (fun e => e.1 == 1343) = some (1343, .aload_n 0, 0, 0) := (sk_66 1343 rfl).trans rfl
theorem te_368_1344 : (pT M_368).find? (fun e => e.1 == 1344) = some (1344, .iload 4, 0, 0) := (sk_66 1344 rfl).trans rfl
theorem te_368_1346 : (pT M_368).find? (fun e => e.1 == 1346) = some (1346, .iconst 3, 0, 0) := (sk_66 1346 rfl).trans rfl
theorem te_368_1347 : (pT M_368).find? (fun e => e.1 == 1347) = some (1347, .iadd, 0, 0) := (sk_66 1347 rfl).trans rfl
theorem te_368_1348 : (pT M_368).find? (fun e => e.1 == 1348) = some (1348, .iaload, 0, 0) := (sk_66 1348 rfl).trans rfl
theorem te_368_1349 : (pT M_368).find? (fun e => e.1 == 1349) = some (1349, .aload_n 0, 0, 0) := (sk_66 1349 rfl).trans rfl
theorem te_368_1350 : (pT M_368).find? (fun e => e.1 == 1350) = some (1350, .iload 4, 0, 0) := (sk_66 1350 rfl).trans rfl
theorem te_368_1352 : (pT M_368).find? (fun e => e.1 == 1352) = some (1352, .iconst 4, 0, 0) := (sk_66 1352 rfl).trans rfl
theorem te_368_1353 : (pT M_368).find? (fun e => e.1 == 1353) = some (1353, .iadd, 0, 0) := (sk_66 1353 rfl).trans rfl
theorem te_368_1354 : (pT M_368).find? (fun e => e.1 == 1354) = some (1354, .iaload, 0, 0) := (sk_67 1354 rfl).trans rfl
theorem te_368_1355 : (pT M_368).find? (fun e => e.1 == 1355) = some (1355, .invokevirtual 266, 315, 0) := (sk_67 1355 rfl).trans rfl
theorem te_368_1358 : (pT M_368).find? (fun e => e.1 == 1358) = some (1358, .istore 6, 0, 0) := (sk_67 1358 rfl).trans rfl
theorem te_368_1360 : (pT M_368).find? (fun e => e.1 == 1360) = some (1360, .goto 984, 0, 0) := (sk_67 1360 rfl).trans rfl
theorem te_368_1363 : (pT M_368).find? (fun e => e.1 == 1363) = some (1363, .aload_n 1, 0, 0) := (sk_67 1363 rfl).trans rfl
theorem te_368_1364 : (pT M_368).find? (fun e => e.1 == 1364) = some (1364, .aload_n 0, 0, 0) := (sk_67 1364 rfl).trans rfl
theorem te_368_1365 : (pT M_368).find? (fun e => e.1 == 1365) = some (1365, .iload 4, 0, 0) := (sk_67 1365 rfl).trans rfl
theorem te_368_1367 : (pT M_368).find? (fun e => e.1 == 1367) = some (1367, .iconst 1, 0, 0) := (sk_67 1367 rfl).trans rfl
theorem te_368_1368 : (pT M_368).find? (fun e => e.1 == 1368) = some (1368, .iadd, 0, 0) := (sk_67 1368 rfl).trans rfl
theorem te_368_1369 : (pT M_368).find? (fun e => e.1 == 1369) = some (1369, .iaload, 0, 0) := (sk_67 1369 rfl).trans rfl
theorem te_368_1370 : (pT M_368).find? (fun e => e.1 == 1370) = some (1370, .aload_n 0, 0, 0) := (sk_67 1370 rfl).trans rfl
theorem te_368_1371 : (pT M_368).find? (fun e => e.1 == 1371) = some (1371, .iload 4, 0, 0) := (sk_67 1371 rfl).trans rfl
theorem te_368_1373 : (pT M_368).find? (fun e => e.1 == 1373) = some (1373, .iconst 2, 0, 0) := (sk_68 1373 rfl).trans rfl
theorem te_368_1374 : (pT M_368).find? (fun e => e.1 == 1374) = some (1374, .iadd, 0, 0) := (sk_68 1374 rfl).trans rfl
theorem te_368_1375 : (pT M_368).find? (fun e => e.1 == 1375) = some (1375, .iaload, 0, 0) := (sk_68 1375 rfl).trans rfl
theorem te_368_1376 : (pT M_368).find? (fun e => e.1 == 1376) = some (1376, .aload_n 0, 0, 0) := (sk_68 1376 rfl).trans rfl
theorem te_368_1377 : (pT M_368).find? (fun e => e.1 == 1377) = some (1377, .iload 4, 0, 0) := (sk_68 1377 rfl).trans rfl
theorem te_368_1379 : (pT M_368).find? (fun e => e.1 == 1379) = some (1379, .iconst 3, 0, 0) := (sk_68 1379 rfl).trans rfl
theorem te_368_1380 : (pT M_368).find? (fun e => e.1 == 1380) = some (1380, .iadd, 0, 0) := (sk_68 1380 rfl).trans rfl
theorem te_368_1381 : (pT M_368).find? (fun e => e.1 == 1381) = some (1381, .iaload, 0, 0) := (sk_68 1381 rfl).trans rfl
theorem te_368_1382 : (pT M_368).find? (fun e => e.1 == 1382) = some (1382, .aload_n 3, 0, 0) := (sk_68 1382 rfl).trans rfl
theorem te_368_1383 : (pT M_368).find? (fun e => e.1 == 1383) = some (1383, .invokestatic 267, 165, 8) := (sk_68 1383 rfl).trans rfl
theorem te_368_1386 : (pT M_368).find? (fun e => e.1 == 1386) = some (1386, .istore 5, 0, 0) := (sk_68 1386 rfl).trans rfl
theorem te_368_1388 : (pT M_368).find? (fun e => e.1 == 1388) = some (1388, .aload_n 2, 0, 0) := (sk_68 1388 rfl).trans rfl
theorem te_368_1389 : (pT M_368).find? (fun e => e.1 == 1389) = some (1389, .aload_n 0, 0, 0) := (sk_69 1389 rfl).trans rfl
theorem te_368_1390 : (pT M_368).find? (fun e => e.1 == 1390) = some (1390, .iload 4, 0, 0) := (sk_69 1390 rfl).trans rfl
theorem te_368_1392 : (pT M_368).find? (fun e => e.1 == 1392) = some (1392, .iconst 1, 0, 0) := (sk_69 1392 rfl).trans rfl
theorem te_368_1393 : (pT M_368).find? (fun e => e.1 == 1393) = some (1393, .iadd, 0, 0) := (sk_69 1393 rfl).trans rfl
theorem te_368_1394 : (pT M_368).find? (fun e => e.1 == 1394) = some (1394, .iaload, 0, 0) := (sk_69 1394 rfl).trans rfl
theorem te_368_1395 : (pT M_368).find? (fun e => e.1 == 1395) = some (1395, .aload_n 0, 0, 0) := (sk_69 1395 rfl).trans rfl
theorem te_368_1396 : (pT M_368).find? (fun e => e.1 == 1396) = some (1396, .iload 4, 0, 0) := (sk_69 1396 rfl).trans rfl
theorem te_368_1398 : (pT M_368).find? (fun e => e.1 == 1398) = some (1398, .iconst 2, 0, 0) := (sk_69 1398 rfl).trans rfl
theorem te_368_1399 : (pT M_368).find? (fun e => e.1 == 1399) = some (1399, .iadd, 0, 0) := (sk_69 1399 rfl).trans rfl
theorem te_368_1400 : (pT M_368).find? (fun e => e.1 == 1400) = some (1400, .iaload, 0, 0) := (sk_69 1400 rfl).trans rfl
theorem te_368_1401 : (pT M_368).find? (fun e => e.1 == 1401) = some (1401, .aload_n 0, 0, 0) := (sk_69 1401 rfl).trans rfl
theorem te_368_1402 : (pT M_368).find? (fun e => e.1 == 1402) = some (1402, .iload 4, 0, 0) := (sk_69 1402 rfl).trans rfl
theorem te_368_1404 : (pT M_368).find? (fun e => e.1 == 1404) = some (1404, .iconst 3, 0, 0) := (sk_70 1404 rfl).trans rfl
theorem te_368_1405 : (pT M_368).find? (fun e => e.1 == 1405) = some (1405, .iadd, 0, 0) := (sk_70 1405 rfl).trans rfl
theorem te_368_1406 : (pT M_368).find? (fun e => e.1 == 1406) = some (1406, .iaload, 0, 0) := (sk_70 1406 rfl).trans rfl
theorem te_368_1407 : (pT M_368).find? (fun e => e.1 == 1407) = some (1407, .invokevirtual 269, 325, 0) := (sk_70 1407 rfl).trans rfl
theorem te_368_1410 : (pT M_368).find? (fun e => e.1 == 1410) = some (1410, .istore 6, 0, 0) := (sk_70 1410 rfl).trans rfl
theorem te_368_1412 : (pT M_368).find? (fun e => e.1 == 1412) = some (1412, .goto 932, 0, 0) := (sk_70 1412 rfl).trans rfl
theorem te_368_1415 : (pT M_368).find? (fun e => e.1 == 1415) = some (1415, .aload_n 1, 0, 0) := (sk_70 1415 rfl).trans rfl
theorem te_368_1416 : (pT M_368).find? (fun e => e.1 == 1416) = some (1416, .aload_n 0, 0, 0) := (sk_70 1416 rfl).trans rfl
theorem te_368_1417 : (pT M_368).find? (fun e => e.1 == 1417) = some (1417, .iload 4, 0, 0) := (sk_70 1417 rfl).trans rfl
theorem te_368_1419 : (pT M_368).find? (fun e => e.1 == 1419) = some (1419, .iconst 1, 0, 0) := (sk_70 1419 rfl).trans rfl
theorem te_368_1420 : (pT M_368).find? (fun e => e.1 == 1420) = some (1420, .iadd, 0, 0) := (sk_70 1420 rfl).trans rfl
theorem te_368_1421 : (pT M_368).find? (fun e => e.1 == 1421) = some (1421, .iaload, 0, 0) := (sk_70 1421 rfl).trans rfl
theorem te_368_1422 : (pT M_368).find? (fun e => e.1 == 1422) = some (1422, .aload_n 0, 0, 0) := (sk_71 1422 rfl).trans rfl
theorem te_368_1423 : (pT M_368).find? (fun e => e.1 == 1423) = some (1423, .iload 4, 0, 0) := (sk_71 1423 rfl).trans rfl
theorem te_368_1425 : (pT M_368).find? (fun e => e.1 == 1425) = some (1425, .iconst 2, 0, 0) := (sk_71 1425 rfl).trans rfl
theorem te_368_1426 : (pT M_368).find? (fun e => e.1 == 1426) = some (1426, .iadd, 0, 0) := (sk_71 1426 rfl).trans rfl
theorem te_368_1427 : (pT M_368).find? (fun e => e.1 == 1427) = some (1427, .iaload, 0, 0) := (sk_71 1427 rfl).trans rfl
theorem te_368_1428 : (pT M_368).find? (fun e => e.1 == 1428) = some (1428, .aload_n 0, 0, 0) := (sk_71 1428 rfl).trans rfl
theorem te_368_1429 : (pT M_368).find? (fun e => e.1 == 1429) = some (1429, .iload 4, 0, 0) := (sk_71 1429 rfl).trans rfl
theorem te_368_1431 : (pT M_368).find? (fun e => e.1 == 1431) = some (1431, .iconst 3, 0, 0) := (sk_71 1431 rfl).trans rfl
theorem te_368_1432 : (pT M_368).find? (fun e => e.1 == 1432) = some (1432, .iadd, 0, 0) := (sk_71 1432 rfl).trans rfl
theorem te_368_1433 : (pT M_368).find? (fun e => e.1 == 1433) = some (1433, .iaload, 0, 0) := (sk_71 1433 rfl).trans rfl
theorem te_368_1434 : (pT M_368).find? (fun e => e.1 == 1434) = some (1434, .aload_n 3, 0, 0) := (sk_71 1434 rfl).trans rfl
theorem te_368_1435 : (pT M_368).find? (fun e => e.1 == 1435) = some (1435, .invokestatic 270, 168, 8) := (sk_71 1435 rfl).trans rfl
theorem te_368_1438 : (pT M_368).find? (fun e => e.1 == 1438) = some (1438, .istore 5, 0, 0) := (sk_72 1438 rfl).trans rfl
theorem te_368_1440 : (pT M_368).find? (fun e => e.1 == 1440) = some (1440, .aload_n 2, 0, 0) := (sk_72 1440 rfl).trans rfl
theorem te_368_1441 : (pT M_368).find? (fun e => e.1 == 1441) = some (1441, .aload_n 0, 0, 0) := (sk_72 1441 rfl).trans rfl
theorem te_368_1442 : (pT M_368).find? (fun e => e.1 == 1442) = some (1442, .iload 4, 0, 0) := (sk_72 1442 rfl).trans rfl
theorem te_368_1444 : (pT M_368).find? (fun e => e.1 == 1444) = some (1444, .iconst 1, 0, 0) := (sk_72 1444 rfl).trans rfl
theorem te_368_1445 : (pT M_368).find? (fun e => e.1 == 1445) = some (1445, .iadd, 0, 0) := (sk_72 1445 rfl).trans rfl
theorem te_368_1446 : (pT M_368).find? (fun e => e.1 == 1446) = some (1446, .iaload, 0, 0) := (sk_72 1446 rfl).trans rfl
theorem te_368_1447 : (pT M_368).find? (fun e => e.1 == 1447) = some (1447, .aload_n 0, 0, 0) := (sk_72 1447 rfl).trans rfl
theorem te_368_1448 : (pT M_368).find? (fun e => e.1 == 1448) = some (1448, .iload 4, 0, 0) := (sk_72 1448 rfl).trans rfl
theorem te_368_1450 : (pT M_368).find? (fun e => e.1 == 1450) = some (1450, .iconst 2, 0, 0) := (sk_72 1450 rfl).trans rfl
theorem te_368_1451 : (pT M_368).find? (fun e => e.1 == 1451) = some (1451, .iadd, 0, 0) := (sk_72 1451 rfl).trans rfl
theorem te_368_1452 : (pT M_368).find? (fun e => e.1 == 1452) = some (1452, .iaload, 0, 0) := (sk_72 1452 rfl).trans rfl
theorem te_368_1453 : (pT M_368).find? (fun e => e.1 == 1453) = some (1453, .aload_n 0, 0, 0) := (sk_73 1453 rfl).trans rfl
theorem te_368_1454 : (pT M_368).find? (fun e => e.1 == 1454) = some (1454, .iload 4, 0, 0) := (sk_73 1454 rfl).trans rfl
theorem te_368_1456 : (pT M_368).find? (fun e => e.1 == 1456) = some (1456, .iconst 3, 0, 0) := (sk_73 1456 rfl).trans rfl
theorem te_368_1457 : (pT M_368).find? (fun e => e.1 == 1457) = some (1457, .iadd, 0, 0) := (sk_73 1457 rfl).trans rfl
theorem te_368_1458 : (pT M_368).find? (fun e => e.1 == 1458) = some (1458, .iaload, 0, 0) := (sk_73 1458 rfl).trans rfl
theorem te_368_1459 : (pT M_368).find? (fun e => e.1 == 1459) = some (1459, .invokevirtual 272, 327, 0) := (sk_73 1459 rfl).trans rfl
theorem te_368_1462 : (pT M_368).find? (fun e => e.1 == 1462) = some (1462, .istore 6, 0, 0) := (sk_73 1462 rfl).trans rfl
theorem te_368_1464 : (pT M_368).find? (fun e => e.1 == 1464) = some (1464, .goto 880, 0, 0) := (sk_73 1464 rfl).trans rfl
theorem te_368_1467 : (pT M_368).find? (fun e => e.1 == 1467) = some (1467, .aload_n 1, 0, 0) := (sk_73 1467 rfl).trans rfl
theorem te_368_1468 : (pT M_368).find? (fun e => e.1 == 1468) = some (1468, .aload_n 0, 0, 0) := (sk_73 1468 rfl).trans rfl
theorem te_368_1469 : (pT M_368).find? (fun e => e.1 == 1469) = some (1469, .iload 4, 0, 0) := (sk_73 1469 rfl).trans rfl
theorem te_368_1471 : (pT M_368).find? (fun e => e.1 == 1471) = some (1471, .iconst 1, 0, 0) := (sk_73 1471 rfl).trans rfl
theorem te_368_1472 : (pT M_368).find? (fun e => e.1 == 1472) = some (1472, .iadd, 0, 0) := (sk_74 1472 rfl).trans rfl
theorem te_368_1473 : (pT M_368).find? (fun e => e.1 == 1473) = some (1473, .iaload, 0, 0) := (sk_74 1473 rfl).trans rfl
theorem te_368_1474 : (pT M_368).find? (fun e => e.1 == 1474) = some (1474, .aload_n 0, 0, 0) := (sk_74 1474 rfl).trans rfl
theorem te_368_1475 : (pT M_368).find? (fun e => e.1 == 1475) = some (1475, .iload 4, 0, 0) := (sk_74 1475 rfl).trans rfl
theorem te_368_1477 : (pT M_368).find? (fun e => e.1 == 1477) = some (1477, .iconst 2, 0, 0) := (sk_74 1477 rfl).trans rfl
theorem te_368_1478 : (pT M_368).find? (fun e => e.1 == 1478) = some (1478, .iadd, 0, 0) := (sk_74 1478 rfl).trans rfl
theorem te_368_1479 : (pT M_368).find? (fun e => e.1 == 1479) = some (1479, .iaload, 0, 0) := (sk_74 1479 rfl).trans rfl
theorem te_368_1480 : (pT M_368).find? (fun e => e.1 == 1480) = some (1480, .aload_n 0, 0, 0) := (sk_74 1480 rfl).trans rfl
theorem te_368_1481 : (pT M_368).find? (fun e => e.1 == 1481) = some (1481, .iload 4, 0, 0) := (sk_74 1481 rfl).trans rfl
theorem te_368_1483 : (pT M_368).find? (fun e => e.1 == 1483) = some (1483, .iconst 3, 0, 0) := (sk_74 1483 rfl).trans rfl
theorem te_368_1484 : (pT M_368).find? (fun e => e.1 == 1484) = some (1484, .iadd, 0, 0) := (sk_74 1484 rfl).trans rfl
theorem te_368_1485 : (pT M_368).find? (fun e => e.1 == 1485) = some (1485, .iaload, 0, 0) := (sk_74 1485 rfl).trans rfl
theorem te_368_1486 : (pT M_368).find? (fun e => e.1 == 1486) = some (1486, .aload_n 0, 0, 0) := (sk_75 1486 rfl).trans rfl
theorem te_368_1487 : (pT M_368).find? (fun e => e.1 == 1487) = some (1487, .iload 4, 0, 0) := (sk_75 1487 rfl).trans rfl
theorem te_368_1489 : (pT M_368).find? (fun e => e.1 == 1489) = some (1489, .iconst 4, 0, 0) := (sk_75 1489 rfl).trans rfl
theorem te_368_1490 : (pT M_368).find? (fun e => e.1 == 1490) = some (1490, .iadd, 0, 0) := (sk_75 1490 rfl).trans rfl
theorem te_368_1491 : (pT M_368).find? (fun e => e.1 == 1491) = some (1491, .iaload, 0, 0) := (sk_75 1491 rfl).trans rfl
theorem te_368_1492 : (pT M_368).find? (fun e => e.1 == 1492) = some (1492, .aload_n 3, 0, 0) := (sk_75 1492 rfl).trans rfl
theorem te_368_1493 : (pT M_368).find? (fun e => e.1 == 1493) = some (1493, .invokestatic 273, 170, 8) := (sk_75 1493 rfl).trans rfl
theorem te_368_1496 : (pT M_368).find? (fun e => e.1 == 1496) = some (1496, .istore 5, 0, 0) := (sk_75 1496 rfl).trans rfl
theorem te_368_1498 : (pT M_368).find? (fun e => e.1 == 1498) = some (1498, .aload_n 2, 0, 0) := (sk_75 1498 rfl).trans rfl
theorem te_368_1499 : (pT M_368).find? (fun e => e.1 == 1499) = some (1499, .aload_n 0, 0, 0) := (sk_75 1499 rfl).trans rfl
theorem te_368_1500 : (pT M_368).find? (fun e => e.1 == 1500) = some (1500, .iload 4, 0, 0) := (sk_75 1500 rfl).trans rfl
theorem te_368_1502 : (pT M_368).find? (fun e => e.1 == 1502) = some (1502, .iconst 1, 0, 0) := (sk_75 1502 rfl).trans rfl
theorem te_368_1503 : (pT M_368).find? (fun e => e.1 == 1503) = some (1503, .iadd, 0, 0) := (sk_76 1503 rfl).trans rfl
theorem te_368_1504 : (pT M_368).find? (fun e => e.1 == 1504) = some (1504, .iaload, 0, 0) := (sk_76 1504 rfl).trans rfl
theorem te_368_1505 : (pT M_368).find? (fun e => e.1 == 1505) = some (1505, .aload_n 0, 0, 0) := (sk_76 1505 rfl).trans rfl
theorem te_368_1506 : (pT M_368).find? (fun e => e.1 == 1506) = some (1506, .iload 4, 0, 0) := (sk_76 1506 rfl).trans rfl
theorem te_368_1508 : (pT M_368).find? (fun e => e.1 == 1508) = some (1508, .iconst 2, 0, 0) := (sk_76 1508 rfl).trans rfl
theorem te_368_1509 : (pT M_368).find? (fun e => e.1 == 1509) = some (1509, .iadd, 0, 0) := (sk_76 1509 rfl).trans rfl
theorem te_368_1510 : (pT M_368).find? (fun e => e.1 == 1510) = some (1510, .iaload, 0, 0) := (sk_76 1510 rfl).trans rfl
theorem te_368_1511 : (pT M_368).find? (fun e => e.1 == 1511) = some (1511, .aload_n 0, 0, 0) := (sk_76 1511 rfl).trans rfl
theorem te_368_1512 : (pT M_368).find? (fun e => e.1 == 1512) = some (1512, .iload 4, 0, 0) := (sk_76 1512 rfl).trans rfl
theorem te_368_1514 : (pT M_368).find? (fun e => e.1 == 1514) = some (1514, .iconst 3, 0, 0) := (sk_76 1514 rfl).trans rfl
theorem te_368_1515 : (pT M_368).find? (fun e => e.1 == 1515) = some (1515, .iadd, 0, 0) := (sk_76 1515 rfl).trans rfl
theorem te_368_1516 : (pT M_368).find? (fun e => e.1 == 1516) = some (1516, .iaload, 0, 0) := (sk_76 1516 rfl).trans rfl
theorem te_368_1517 : (pT M_368).find? (fun e => e.1 == 1517) = some (1517, .aload_n 0, 0, 0) := (sk_77 1517 rfl).trans rfl
theorem te_368_1518 : (pT M_368).find? (fun e => e.1 == 1518) = some (1518, .iload 4, 0, 0) := (sk_77 1518 rfl).trans rfl
theorem te_368_1520 : (pT M_368).find? (fun e => e.1 == 1520) = some (1520, .iconst 4, 0, 0) := (sk_77 1520 rfl).trans rfl
theorem te_368_1521 : (pT M_368).find? (fun e => e.1 == 1521) = some (1521, .iadd, 0, 0) := (sk_77 1521 rfl).trans rfl
theorem te_368_1522 : (pT M_368).find? (fun e => e.1 == 1522) = some (1522, .iaload, 0, 0) := (sk_77 1522 rfl).trans rfl
theorem te_368_1523 : (pT M_368).find? (fun e => e.1 == 1523) = some (1523, .invokevirtual 275, 331, 0) := (sk_77 1523 rfl).trans rfl
theorem te_368_1526 : (pT M_368).find? (fun e => e.1 == 1526) = some (1526, .istore 6, 0, 0) := (sk_77 1526 rfl).trans rfl
theorem te_368_1528 : (pT M_368).find? (fun e => e.1 == 1528) = some (1528, .goto 816, 0, 0) := (sk_77 1528 rfl).trans rfl
theorem te_368_1531 : (pT M_368).find? (fun e => e.1 == 1531) = some (1531, .aload_n 1, 0, 0) := (sk_77 1531 rfl).trans rfl
theorem te_368_1532 : (pT M_368).find? (fun e => e.1 == 1532) = some (1532, .aload_n 0, 0, 0) := (sk_77 1532 rfl).trans rfl
theorem te_368_1533 : (pT M_368).find? (fun e => e.1 == 1533) = some (1533, .iload 4, 0, 0) := (sk_77 1533 rfl).trans rfl
theorem te_368_1535 : (pT M_368).find? (fun e => e.1 == 1535) = some (1535, .iconst 1, 0, 0) := (sk_77 1535 rfl).trans rfl
theorem te_368_1536 : (pT M_368).find? (fun e => e.1 == 1536) = some (1536, .iadd, 0, 0) := (sk_78 1536 rfl).trans rfl
theorem te_368_1537 : (pT M_368).find? (fun e => e.1 == 1537) = some (1537, .iaload, 0, 0) := (sk_78 1537 rfl).trans rfl
theorem te_368_1538 : (pT M_368).find? (fun e => e.1 == 1538) = some (1538, .aload_n 0, 0, 0) := (sk_78 1538 rfl).trans rfl
theorem te_368_1539 : (pT M_368).find? (fun e => e.1 == 1539) = some (1539, .iload 4, 0, 0) := (sk_78 1539 rfl).trans rfl
theorem te_368_1541 : (pT M_368).find? (fun e => e.1 == 1541) = some (1541, .iconst 2, 0, 0) := (sk_78 1541 rfl).trans rfl
theorem te_368_1542 : (pT M_368).find? (fun e => e.1 == 1542) = some (1542, .iadd, 0, 0) := (sk_78 1542 rfl).trans rfl
theorem te_368_1543 : (pT M_368).find? (fun e => e.1 == 1543) = some (1543, .iaload, 0, 0) := (sk_78 1543 rfl).trans rfl
theorem te_368_1544 : (pT M_368).find? (fun e => e.1 == 1544) = some (1544, .ifCond .eq 7, 0, 0) := (sk_78 1544 rfl).trans rfl
theorem te_368_1547 : (pT M_368).find? (fun e => e.1 == 1547) = some (1547, .iconst 1, 0, 0) := (sk_78 1547 rfl).trans rfl
theorem te_368_1548 : (pT M_368).find? (fun e => e.1 == 1548) = some (1548, .goto 4, 0, 0) := (sk_78 1548 rfl).trans rfl
theorem te_368_1551 : (pT M_368).find? (fun e => e.1 == 1551) = some (1551, .iconst 0, 0, 0) := (sk_78 1551 rfl).trans rfl
theorem te_368_1552 : (pT M_368).find? (fun e => e.1 == 1552) = some (1552, .aload_n 3, 0, 0) := (sk_78 1552 rfl).trans rfl
theorem te_368_1553 : (pT M_368).find? (fun e => e.1 == 1553) = some (1553, .invokestatic 276, 172, 8) := (sk_79 1553 rfl).trans rfl
theorem te_368_1556 : (pT M_368).find? (fun e => e.1 == 1556) = some (1556, .istore 5, 0, 0) := (sk_79 1556 rfl).trans rfl
theorem te_368_1558 : (pT M_368).find? (fun e => e.1 == 1558) = some (1558, .aload_n 2, 0, 0) := (sk_79 1558 rfl).trans rfl
theorem te_368_1559 : (pT M_368).find? (fun e => e.1 == 1559) = some (1559, .aload_n 0, 0, 0) := (sk_79 1559 rfl).trans rfl
theorem te_368_1560 : (pT M_368).find? (fun e => e.1 == 1560) = some (1560, .iload 4, 0, 0) := (sk_79 1560 rfl).trans rfl
theorem te_368_1562 : (pT M_368).find? (fun e => e.1 == 1562) = some (1562, .iconst 1, 0, 0) := (sk_79 1562 rfl).trans rfl
theorem te_368_1563 : (pT M_368).find? (fun e => e.1 == 1563) = some (1563, .iadd, 0, 0) := (sk_79 1563 rfl).trans rfl
theorem te_368_1564 : (pT M_368).find? (fun e => e.1 == 1564) = some (1564, .iaload, 0, 0) := (sk_79 1564 rfl).trans rfl
theorem te_368_1565 : (pT M_368).find? (fun e => e.1 == 1565) = some (1565, .aload_n 0, 0, 0) := (sk_79 1565 rfl).trans rfl
theorem te_368_1566 : (pT M_368).find? (fun e => e.1 == 1566) = some (1566, .iload 4, 0, 0) := (sk_79 1566 rfl).trans rfl
theorem te_368_1568 : (pT M_368).find? (fun e => e.1 == 1568) = some (1568, .iconst 2, 0, 0) := (sk_79 1568 rfl).trans rfl
theorem te_368_1569 : (pT M_368).find? (fun e => e.1 == 1569) = some (1569, .iadd, 0, 0) := (sk_79 1569 rfl).trans rfl
theorem te_368_1570 : (pT M_368).find? (fun e => e.1 == 1570) = some (1570, .iaload, 0, 0) := (sk_80 1570 rfl).trans rfl
theorem te_368_1571 : (pT M_368).find? (fun e => e.1 == 1571) = some (1571, .ifCond .eq 7, 0, 0) := (sk_80 1571 rfl).trans rfl
theorem te_368_1574 : (pT M_368).find? (fun e => e.1 == 1574) = some (1574, .iconst 1, 0, 0) := (sk_80 1574 rfl).trans rfl
theorem te_368_1575 : (pT M_368).find? (fun e => e.1 == 1575) = some (1575, .goto 4, 0, 0) := (sk_80 1575 rfl).trans rfl
theorem te_368_1578 : (pT M_368).find? (fun e => e.1 == 1578) = some (1578, .iconst 0, 0, 0) := (sk_80 1578 rfl).trans rfl
theorem te_368_1579 : (pT M_368).find? (fun e => e.1 == 1579) = some (1579, .invokevirtual 279, 332, 0) := (sk_80 1579 rfl).trans rfl
theorem te_368_1582 : (pT M_368).find? (fun e => e.1 == 1582) = some (1582, .istore 6, 0, 0) := (sk_80 1582 rfl).trans rfl
theorem te_368_1584 : (pT M_368).find? (fun e => e.1 == 1584) = some (1584, .goto 760, 0, 0) := (sk_80 1584 rfl).trans rfl
theorem te_368_1587 : (pT M_368).find? (fun e => e.1 == 1587) = some (1587, .aload_n 1, 0, 0) := (sk_80 1587 rfl).trans rfl
theorem te_368_1588 : (pT M_368).find? (fun e => e.1 == 1588) = some (1588, .aload_n 0, 0, 0) := (sk_80 1588 rfl).trans rfl
theorem te_368_1589 : (pT M_368).find? (fun e => e.1 == 1589) = some (1589, .iload 4, 0, 0) := (sk_80 1589 rfl).trans rfl
theorem te_368_1591 : (pT M_368).find? (fun e => e.1 == 1591) = some (1591, .iconst 1, 0, 0) := (sk_80 1591 rfl).trans rfl
theorem te_368_1592 : (pT M_368).find? (fun e => e.1 == 1592) = some (1592, .iadd, 0, 0) := (sk_81 1592 rfl).trans rfl
theorem te_368_1593 : (pT M_368).find? (fun e => e.1 == 1593) = some (1593, .iaload, 0, 0) := (sk_81 1593 rfl).trans rfl
theorem te_368_1594 : (pT M_368).find? (fun e => e.1 == 1594) = some (1594, .aload_n 0, 0, 0) := (sk_81 1594 rfl).trans rfl
theorem te_368_1595 : (pT M_368).find? (fun e => e.1 == 1595) = some (1595, .iload 4, 0, 0) := (sk_81 1595 rfl).trans rfl
theorem te_368_1597 : (pT M_368).find? (fun e => e.1 == 1597) = some (1597, .iconst 2, 0, 0) := (sk_81 1597 rfl).trans rfl
theorem te_368_1598 : (pT M_368).find? (fun e => e.1 == 1598) = some (1598, .iadd, 0, 0) := (sk_81 1598 rfl).trans rfl
theorem te_368_1599 : (pT M_368).find? (fun e => e.1 == 1599) = some (1599, .iaload, 0, 0) := (sk_81 1599 rfl).trans rfl
theorem te_368_1600 : (pT M_368).find? (fun e => e.1 == 1600) = some (1600, .aload_n 0, 0, 0) := (sk_81 1600 rfl).trans rfl
theorem te_368_1601 : (pT M_368).find? (fun e => e.1 == 1601) = some (1601, .iload 4, 0, 0) := (sk_81 1601 rfl).trans rfl
theorem te_368_1603 : (pT M_368).find? (fun e => e.1 == 1603) = some (1603, .iconst 3, 0, 0) := (sk_81 1603 rfl).trans rfl
theorem te_368_1604 : (pT M_368).find? (fun e => e.1 == 1604) = some (1604, .iadd, 0, 0) := (sk_81 1604 rfl).trans rfl
theorem te_368_1605 : (pT M_368).find? (fun e => e.1 == 1605) = some (1605, .iaload, 0, 0) := (sk_81 1605 rfl).trans rfl
theorem te_368_1606 : (pT M_368).find? (fun e => e.1 == 1606) = some (1606, .ifCond .eq 7, 0, 0) := (sk_82 1606 rfl).trans rfl
theorem te_368_1609 : (pT M_368).find? (fun e => e.1 == 1609) = some (1609, .iconst 1, 0, 0) := (sk_82 1609 rfl).trans rfl
theorem te_368_1610 : (pT M_368).find? (fun e => e.1 == 1610) = some (1610, .goto 4, 0, 0) := (sk_82 1610 rfl).trans rfl
theorem te_368_1613 : (pT M_368).find? (fun e => e.1 == 1613) = some (1613, .iconst 0, 0, 0) := (sk_82 1613 rfl).trans rfl
theorem te_368_1614 : (pT M_368).find? (fun e => e.1 == 1614) = some (1614, .aload_n 3, 0, 0) := (sk_82 1614 rfl).trans rfl
theorem te_368_1615 : (pT M_368).find? (fun e => e.1 == 1615) = some (1615, .invokestatic 280, 174, 8) := (sk_82 1615 rfl).trans rfl
theorem te_368_1618 : (pT M_368).find? (fun e => e.1 == 1618) = some (1618, .istore 5, 0, 0) := (sk_82 1618 rfl).trans rfl
theorem te_368_1620 : (pT M_368).find? (fun e => e.1 == 1620) = some (1620, .aload_n 2, 0, 0) := (sk_82 1620 rfl).trans rfl
theorem te_368_1621 : (pT M_368).find? (fun e => e.1 == 1621) = some (1621, .aload_n 0, 0, 0) := (sk_82 1621 rfl).trans rfl
theorem te_368_1622 : (pT M_368).find? (fun e => e.1 == 1622) = some (1622, .iload 4, 0, 0) := (sk_82 1622 rfl).trans rfl
theorem te_368_1624 : (pT M_368).find? (fun e => e.1 == 1624) = some (1624, .iconst 1, 0, 0) := (sk_82 1624 rfl).trans rfl
theorem te_368_1625 : (pT M_368).find? (fun e => e.1 == 1625) = some (1625, .iadd, 0, 0) := (sk_82 1625 rfl).trans rfl
theorem te_368_1626 : (pT M_368).find? (fun e => e.1 == 1626) = some (1626, .iaload, 0, 0) := (sk_83 1626 rfl).trans rfl
theorem te_368_1627 : (pT M_368).find? (fun e => e.1 == 1627) = some (1627, .aload_n 0, 0, 0) := (sk_83 1627 rfl).trans rfl
theorem te_368_1628 : (pT M_368).find? (fun e => e.1 == 1628) = some (1628, .iload 4, 0, 0) := (sk_83 1628 rfl).trans rfl
theorem te_368_1630 : (pT M_368).find? (fun e => e.1 == 1630) = some (1630, .iconst 2, 0, 0) := (sk_83 1630 rfl).trans rfl
theorem te_368_1631 : (pT M_368).find? (fun e => e.1 == 1631) = some (1631, .iadd, 0, 0) := (sk_83 1631 rfl).trans rfl
theorem te_368_1632 : (pT M_368).find? (fun e => e.1 == 1632) = some (1632, .iaload, 0, 0) := (sk_83 1632 rfl).trans rfl
theorem te_368_1633 : (pT M_368).find? (fun e => e.1 == 1633) = some (1633, .aload_n 0, 0, 0) := (sk_83 1633 rfl).trans rfl
theorem te_368_1634 : (pT M_368).find? (fun e => e.1 == 1634) = some (1634, .iload 4, 0, 0) := (sk_83 1634 rfl).trans rfl
theorem te_368_1636 : (pT M_368).find? (fun e => e.1 == 1636) = some (1636, .iconst 3, 0, 0) := (sk_83 1636 rfl).trans rfl
theorem te_368_1637 : (pT M_368).find? (fun e => e.1 == 1637) = some (1637, .iadd, 0, 0) := (sk_83 1637 rfl).trans rfl
theorem te_368_1638 : (pT M_368).find? (fun e => e.1 == 1638) = some (1638, .iaload, 0, 0) := (sk_83 1638 rfl).trans rfl
theorem te_368_1639 : (pT M_368).find? (fun e => e.1 == 1639) = some (1639, .ifCond .eq 7, 0, 0) := (sk_83 1639 rfl).trans rfl
theorem te_368_1642 : (pT M_368).find? (fun e => e.1 == 1642) = some (1642, .iconst 1, 0, 0) := (sk_84 1642 rfl).trans rfl
theorem te_368_1643 : (pT M_368).find? (fun e => e.1 == 1643) = some (1643, .goto 4, 0, 0) := (sk_84 1643 rfl).trans rfl
theorem te_368_1646 : (pT M_368).find? (fun e => e.1 == 1646) = some (1646, .iconst 0, 0, 0) := (sk_84 1646 rfl).trans rfl
theorem te_368_1647 : (pT M_368).find? (fun e => e.1 == 1647) = some (1647, .invokevirtual 283, 333, 0) := (sk_84 1647 rfl).trans rfl
theorem te_368_1650 : (pT M_368).find? (fun e => e.1 == 1650) = some (1650, .istore 6, 0, 0) := (sk_84 1650 rfl).trans rfl
theorem te_368_1652 : (pT M_368).find? (fun e => e.1 == 1652) = some (1652, .goto 692, 0, 0) := (sk_84 1652 rfl).trans rfl
theorem te_368_1655 : (pT M_368).find? (fun e => e.1 == 1655) = some (1655, .aload_n 1, 0, 0) := (sk_84 1655 rfl).trans rfl
theorem te_368_1656 : (pT M_368).find? (fun e => e.1 == 1656) = some (1656, .aload_n 0, 0, 0) := (sk_84 1656 rfl).trans rfl
theorem te_368_1657 : (pT M_368).find? (fun e => e.1 == 1657) = some (1657, .iload 4, 0, 0) := (sk_84 1657 rfl).trans rfl
theorem te_368_1659 : (pT M_368).find? (fun e => e.1 == 1659) = some (1659, .iconst 1, 0, 0) := (sk_84 1659 rfl).trans rfl
theorem te_368_1660 : (pT M_368).find? (fun e => e.1 == 1660) = some (1660, .iadd, 0, 0) := (sk_84 1660 rfl).trans rfl
theorem te_368_1661 : (pT M_368).find? (fun e => e.1 == 1661) = some (1661, .iaload, 0, 0) := (sk_84 1661 rfl).trans rfl
theorem te_368_1662 : (pT M_368).find? (fun e => e.1 == 1662) = some (1662, .aload_n 3, 0, 0) := (sk_85 1662 rfl).trans rfl
theorem te_368_1663 : (pT M_368).find? (fun e => e.1 == 1663) = some (1663, .invokestatic 284, 177, 8) := (sk_85 1663 rfl).trans rfl
theorem te_368_1666 : (pT M_368).find? (fun e => e.1 == 1666) = some (1666, .istore 5, 0, 0) := (sk_85 1666 rfl).trans rfl
theorem te_368_1668 : (pT M_368).find? (fun e => e.1 == 1668) = some (1668, .aload_n 2, 0, 0) := (sk_85 1668 rfl).trans rfl
theorem te_368_1669 : (pT M_368).find? (fun e => e.1 == 1669) = some (1669, .aload_n 0, 0, 0) := (sk_85 1669 rfl).trans rfl
theorem te_368_1670 : (pT M_368).find? (fun e => e.1 == 1670) = some (1670, .iload 4, 0, 0) := (sk_85 1670 rfl).trans rfl
theorem te_368_1672 : (pT M_368).find? (fun e => e.1 == 1672) = some (1672, .iconst 1, 0, 0) := (sk_85 1672 rfl).trans rfl
theorem te_368_1673 : (pT M_368).find? (fun e => e.1 == 1673) = some (1673, .iadd, 0, 0) := (sk_85 1673 rfl).trans rfl
theorem te_368_1674 : (pT M_368).find? (fun e => e.1 == 1674) = some (1674, .iaload, 0, 0) := (sk_85 1674 rfl).trans rfl
theorem te_368_1675 : (pT M_368).find? (fun e => e.1 == 1675) = some (1675, .invokevirtual 286, 337, 0) := (sk_85 1675 rfl).trans rfl
theorem te_368_1678 : (pT M_368).find? (fun e => e.1 == 1678) = some (1678, .istore 6, 0, 0) := (sk_85 1678 rfl).trans rfl
theorem te_368_1680 : (pT M_368).find? (fun e => e.1 == 1680) = some (1680, .goto 664, 0, 0) := (sk_85 1680 rfl).trans rfl
theorem te_368_1683 : (pT M_368).find? (fun e => e.1 == 1683) = some (1683, .aload_n 1, 0, 0) := (sk_86 1683 rfl).trans rfl
theorem te_368_1684 : (pT M_368).find? (fun e => e.1 == 1684) = some (1684, .aload_n 0, 0, 0) := (sk_86 1684 rfl).trans rfl
theorem te_368_1685 : (pT M_368).find? (fun e => e.1 == 1685) = some (1685, .iload 4, 0, 0) := (sk_86 1685 rfl).trans rfl
theorem te_368_1687 : (pT M_368).find? (fun e => e.1 == 1687) = some (1687, .iconst 1, 0, 0) := (sk_86 1687 rfl).trans rfl
theorem te_368_1688 : (pT M_368).find? (fun e => e.1 == 1688) = some (1688, .iadd, 0, 0) := (sk_86 1688 rfl).trans rfl
theorem te_368_1689 : (pT M_368).find? (fun e => e.1 == 1689) = some (1689, .iaload, 0, 0) := (sk_86 1689 rfl).trans rfl
theorem te_368_1690 : (pT M_368).find? (fun e => e.1 == 1690) = some (1690, .aload_n 0, 0, 0) := (sk_86 1690 rfl).trans rfl
theorem te_368_1691 : (pT M_368).find? (fun e => e.1 == 1691) = some (1691, .iload 4, 0, 0) := (sk_86 1691 rfl).trans rfl
theorem te_368_1693 : (pT M_368).find? (fun e => e.1 == 1693) = some (1693, .iconst 2, 0, 0) := (sk_86 1693 rfl).trans rfl
theorem te_368_1694 : (pT M_368).find? (fun e => e.1 == 1694) = some (1694, .iadd, 0, 0) := (sk_86 1694 rfl).trans rfl
theorem te_368_1695 : (pT M_368).find? (fun e => e.1 == 1695) = some (1695, .iaload, 0, 0) := (sk_86 1695 rfl).trans rfl
theorem te_368_1696 : (pT M_368).find? (fun e => e.1 == 1696) = some (1696, .aload_n 0, 0, 0) := (sk_86 1696 rfl).trans rfl
theorem te_368_1697 : (pT M_368).find? (fun e => e.1 == 1697) = some (1697, .iload 4, 0, 0) := (sk_87 1697 rfl).trans rfl
theorem te_368_1699 : (pT M_368).find? (fun e => e.1 == 1699) = some (1699, .iconst 3, 0, 0) := (sk_87 1699 rfl).trans rfl
theorem te_368_1700 : (pT M_368).find? (fun e => e.1 == 1700) = some (1700, .iadd, 0, 0) := (sk_87 1700 rfl).trans rfl
theorem te_368_1701 : (pT M_368).find? (fun e => e.1 == 1701) = some (1701, .iaload, 0, 0) := (sk_87 1701 rfl).trans rfl
theorem te_368_1702 : (pT M_368).find? (fun e => e.1 == 1702) = some (1702, .aload_n 3, 0, 0) := (sk_87 1702 rfl).trans rfl
theorem te_368_1703 : (pT M_368).find? (fun e => e.1 == 1703) = some (1703, .invokestatic 287, 182, 8) := (sk_87 1703 rfl).trans rfl
theorem te_368_1706 : (pT M_368).find? (fun e => e.1 == 1706) = some (1706, .istore 5, 0, 0) := (sk_87 1706 rfl).trans rfl
theorem te_368_1708 : (pT M_368).find? (fun e => e.1 == 1708) = some (1708, .aload_n 2, 0, 0) := (sk_87 1708 rfl).trans rfl
theorem te_368_1709 : (pT M_368).find? (fun e => e.1 == 1709) = some (1709, .aload_n 0, 0, 0) := (sk_87 1709 rfl).trans rfl
theorem te_368_1710 : (pT M_368).find? (fun e => e.1 == 1710) = some (1710, .iload 4, 0, 0) := (sk_87 1710 rfl).trans rfl
theorem te_368_1712 : (pT M_368).find? (fun e => e.1 == 1712) = some (1712, .iconst 1, 0, 0) := (sk_87 1712 rfl).trans rfl
theorem te_368_1713 : (pT M_368).find? (fun e => e.1 == 1713) = some (1713, .iadd, 0, 0) := (sk_87 1713 rfl).trans rfl
theorem te_368_1714 : (pT M_368).find? (fun e => e.1 == 1714) = some (1714, .iaload, 0, 0) := (sk_88 1714 rfl).trans rfl
theorem te_368_1715 : (pT M_368).find? (fun e => e.1 == 1715) = some (1715, .aload_n 0, 0, 0) := (sk_88 1715 rfl).trans rfl
theorem te_368_1716 : (pT M_368).find? (fun e => e.1 == 1716) = some (1716, .iload 4, 0, 0) := (sk_88 1716 rfl).trans rfl
theorem te_368_1718 : (pT M_368).find? (fun e => e.1 == 1718) = some (1718, .iconst 2, 0, 0) := (sk_88 1718 rfl).trans rfl
theorem te_368_1719 : (pT M_368).find? (fun e => e.1 == 1719) = some (1719, .iadd, 0, 0) := (sk_88 1719 rfl).trans rfl
theorem te_368_1720 : (pT M_368).find? (fun e => e.1 == 1720) = some (1720, .iaload, 0, 0) := (sk_88 1720 rfl).trans rfl
theorem te_368_1721 : (pT M_368).find? (fun e => e.1 == 1721) = some (1721, .aload_n 0, 0, 0) := (sk_88 1721 rfl).trans rfl
theorem te_368_1722 : (pT M_368).find? (fun e => e.1 == 1722) = some (1722, .iload 4, 0, 0) := (sk_88 1722 rfl).trans rfl
theorem te_368_1724 : (pT M_368).find? (fun e => e.1 == 1724) = some (1724, .iconst 3, 0, 0) := (sk_88 1724 rfl).trans rfl
theorem te_368_1725 : (pT M_368).find? (fun e => e.1 == 1725) = some (1725, .iadd, 0, 0) := (sk_88 1725 rfl).trans rfl
theorem te_368_1726 : (pT M_368).find? (fun e => e.1 == 1726) = some (1726, .iaload, 0, 0) := (sk_88 1726 rfl).trans rfl
theorem te_368_1727 : (pT M_368).find? (fun e => e.1 == 1727) = some (1727, .invokevirtual 289, 342, 0) := (sk_88 1727 rfl).trans rfl
theorem te_368_1730 : (pT M_368).find? (fun e => e.1 == 1730) = some (1730, .istore 6, 0, 0) := (sk_89 1730 rfl).trans rfl
theorem te_368_1732 : (pT M_368).find? (fun e => e.1 == 1732) = some (1732, .goto 612, 0, 0) := (sk_89 1732 rfl).trans rfl
theorem te_368_1735 : (pT M_368).find? (fun e => e.1 == 1735) = some (1735, .aload_n 1, 0, 0) := (sk_89 1735 rfl).trans rfl
theorem te_368_1736 : (pT M_368).find? (fun e => e.1 == 1736) = some (1736, .aload_n 0, 0, 0) := (sk_89 1736 rfl).trans rfl
theorem te_368_1737 : (pT M_368).find? (fun e => e.1 == 1737) = some (1737, .iload 4, 0, 0) := (sk_89 1737 rfl).trans rfl
theorem te_368_1739 : (pT M_368).find? (fun e => e.1 == 1739) = some (1739, .iconst 1, 0, 0) := (sk_89 1739 rfl).trans rfl
theorem te_368_1740 : (pT M_368).find? (fun e => e.1 == 1740) = some (1740, .iadd, 0, 0) := (sk_89 1740 rfl).trans rfl
theorem te_368_1741 : (pT M_368).find? (fun e => e.1 == 1741) = some (1741, .iaload, 0, 0) := (sk_89 1741 rfl).trans rfl
theorem te_368_1742 : (pT M_368).find? (fun e => e.1 == 1742) = some (1742, .aload_n 0, 0, 0) := (sk_89 1742 rfl).trans rfl
theorem te_368_1743 : (pT M_368).find? (fun e => e.1 == 1743) = some (1743, .iload 4, 0, 0) := (sk_89 1743 rfl).trans rfl
theorem te_368_1745 : (pT M_368).find? (fun e => e.1 == 1745) = some (1745, .iconst 2, 0, 0) := (sk_89 1745 rfl).trans rfl
theorem te_368_1746 : (pT M_368).find? (fun e => e.1 == 1746) = some (1746, .iadd, 0, 0) := (sk_89 1746 rfl).trans rfl
theorem te_368_1747 : (pT M_368).find? (fun e => e.1 == 1747) = some (1747, .iaload, 0, 0) := (sk_90 1747 rfl).trans rfl
theorem te_368_1748 : (pT M_368).find? (fun e => e.1 == 1748) = some (1748, .aload_n 0, 0, 0) := (sk_90 1748 rfl).trans rfl
theorem te_368_1749 : (pT M_368).find? (fun e => e.1 == 1749) = some (1749, .iload 4, 0, 0) := (sk_90 1749 rfl).trans rfl
theorem te_368_1751 : (pT M_368).find? (fun e => e.1 == 1751) = some (1751, .iconst 3, 0, 0) := (sk_90 1751 rfl).trans rfl
theorem te_368_1752 : (pT M_368).find? (fun e => e.1 == 1752) = some (1752, .iadd, 0, 0) := (sk_90 1752 rfl).trans rfl
theorem te_368_1753 : (pT M_368).find? (fun e => e.1 == 1753) = some (1753, .iaload, 0, 0) := (sk_90 1753 rfl).trans rfl
theorem te_368_1754 : (pT M_368).find? (fun e => e.1 == 1754) = some (1754, .aload_n 0, 0, 0) := (sk_90 1754 rfl).trans rfl
theorem te_368_1755 : (pT M_368).find? (fun e => e.1 == 1755) = some (1755, .iload 4, 0, 0) := (sk_90 1755 rfl).trans rfl
theorem te_368_1757 : (pT M_368).find? (fun e => e.1 == 1757) = some (1757, .iconst 4, 0, 0) := (sk_90 1757 rfl).trans rfl
theorem te_368_1758 : (pT M_368).find? (fun e => e.1 == 1758) = some (1758, .iadd, 0, 0) := (sk_90 1758 rfl).trans rfl
theorem te_368_1759 : (pT M_368).find? (fun e => e.1 == 1759) = some (1759, .iaload, 0, 0) := (sk_90 1759 rfl).trans rfl
theorem te_368_1760 : (pT M_368).find? (fun e => e.1 == 1760) = some (1760, .aload_n 0, 0, 0) := (sk_90 1760 rfl).trans rfl
theorem te_368_1761 : (pT M_368).find? (fun e => e.1 == 1761) = some (1761, .iload 4, 0, 0) := (sk_91 1761 rfl).trans rfl
theorem te_368_1763 : (pT M_368).find? (fun e => e.1 == 1763) = some (1763, .iconst 5, 0, 0) := (sk_91 1763 rfl).trans rfl
theorem te_368_1764 : (pT M_368).find? (fun e => e.1 == 1764) = some (1764, .iadd, 0, 0) := (sk_91 1764 rfl).trans rfl
theorem te_368_1765 : (pT M_368).find? (fun e => e.1 == 1765) = some (1765, .iaload, 0, 0) := (sk_91 1765 rfl).trans rfl
theorem te_368_1766 : (pT M_368).find? (fun e => e.1 == 1766) = some (1766, .aload_n 3, 0, 0) := (sk_91 1766 rfl).trans rfl
theorem te_368_1767 : (pT M_368).find? (fun e => e.1 == 1767) = some (1767, .invokestatic 290, 184, 8) := (sk_91 1767 rfl).trans rfl
theorem te_368_1770 : (pT M_368).find? (fun e => e.1 == 1770) = some (1770, .istore 5, 0, 0) := (sk_91 1770 rfl).trans rfl
theorem te_368_1772 : (pT M_368).find? (fun e => e.1 == 1772) = some (1772, .aload_n 2, 0, 0) := (sk_91 1772 rfl).trans rfl
theorem te_368_1773 : (pT M_368).find? (fun e => e.1 == 1773) = some (1773, .aload_n 0, 0, 0) := (sk_91 1773 rfl).trans rfl
theorem te_368_1774 : (pT M_368).find? (fun e => e.1 == 1774) = some (1774, .iload 4, 0, 0) := (sk_91 1774 rfl).trans rfl
theorem te_368_1776 : (pT M_368).find? (fun e => e.1 == 1776) = some (1776, .iconst 1, 0, 0) := (sk_91 1776 rfl).trans rfl
theorem te_368_1777 : (pT M_368).find? (fun e => e.1 == 1777) = some (1777, .iadd, 0, 0) := (sk_91 1777 rfl).trans rfl
theorem te_368_1778 : (pT M_368).find? (fun e => e.1 == 1778) = some (1778, .iaload, 0, 0) := (sk_92 1778 rfl).trans rfl
theorem te_368_1779 : (pT M_368).find? (fun e => e.1 == 1779) = some (1779, .aload_n 0, 0, 0) := (sk_92 1779 rfl).trans rfl
theorem te_368_1780 : (pT M_368).find? (fun e => e.1 == 1780) = some (1780, .iload 4, 0, 0) := (sk_92 1780 rfl).trans rfl
theorem te_368_1782 : (pT M_368).find? (fun e => e.1 == 1782) = some (1782, .iconst 2, 0, 0) := (sk_92 1782 rfl).trans rfl
theorem te_368_1783 : (pT M_368).find? (fun e => e.1 == 1783) = some (1783, .iadd, 0, 0) := (sk_92 1783 rfl).trans rfl
theorem te_368_1784 : (pT M_368).find? (fun e => e.1 == 1784) = some (1784, .iaload, 0, 0) := (sk_92 1784 rfl).trans rfl
theorem te_368_1785 : (pT M_368).find? (fun e => e.1 == 1785) = some (1785, .aload_n 0, 0, 0) := (sk_92 1785 rfl).trans rfl
theorem te_368_1786 : (pT M_368).find? (fun e => e.1 == 1786) = some (1786, .iload 4, 0, 0) := (sk_92 1786 rfl).trans rfl
theorem te_368_1788 : (pT M_368).find? (fun e => e.1 == 1788) = some (1788, .iconst 3, 0, 0) := (sk_92 1788 rfl).trans rfl
theorem te_368_1789 : (pT M_368).find? (fun e => e.1 == 1789) = some (1789, .iadd, 0, 0) := (sk_92 1789 rfl).trans rfl
theorem te_368_1790 : (pT M_368).find? (fun e => e.1 == 1790) = some (1790, .iaload, 0, 0) := (sk_92 1790 rfl).trans rfl
theorem te_368_1791 : (pT M_368).find? (fun e => e.1 == 1791) = some (1791, .aload_n 0, 0, 0) := (sk_92 1791 rfl).trans rfl
theorem te_368_1792 : (pT M_368).find? (fun e => e.1 == 1792) = some (1792, .iload 4, 0, 0) := (sk_93 1792 rfl).trans rfl
theorem te_368_1794 : (pT M_368).find? (fun e => e.1 == 1794) = some (1794, .iconst 4, 0, 0) := (sk_93 1794 rfl).trans rfl
theorem te_368_1795 : (pT M_368).find? (fun e => e.1 == 1795) = some (1795, .iadd, 0, 0) := (sk_93 1795 rfl).trans rfl
theorem te_368_1796 : (pT M_368).find? (fun e => e.1 == 1796) = some (1796, .iaload, 0, 0) := (sk_93 1796 rfl).trans rfl
theorem te_368_1797 : (pT M_368).find? (fun e => e.1 == 1797) = some (1797, .aload_n 0, 0, 0) := (sk_93 1797 rfl).trans rfl
theorem te_368_1798 : (pT M_368).find? (fun e => e.1 == 1798) = some (1798, .iload 4, 0, 0) := (sk_93 1798 rfl).trans rfl
theorem te_368_1800 : (pT M_368).find? (fun e => e.1 == 1800) = some (1800, .iconst 5, 0, 0) := (sk_93 1800 rfl).trans rfl
theorem te_368_1801 : (pT M_368).find? (fun e => e.1 == 1801) = some (1801, .iadd, 0, 0) := (sk_93 1801 rfl).trans rfl
theorem te_368_1802 : (pT M_368).find? (fun e => e.1 == 1802) = some (1802, .iaload, 0, 0) := (sk_93 1802 rfl).trans rfl
theorem te_368_1803 : (pT M_368).find? (fun e => e.1 == 1803) = some (1803, .invokevirtual 292, 326, 0) := (sk_93 1803 rfl).trans rfl
theorem te_368_1806 : (pT M_368).find? (fun e => e.1 == 1806) = some (1806, .istore 6, 0, 0) := (sk_93 1806 rfl).trans rfl
theorem te_368_1808 : (pT M_368).find? (fun e => e.1 == 1808) = some (1808, .goto 536, 0, 0) := (sk_93 1808 rfl).trans rfl
theorem lc_21 {S : Nat × (Nat → Int32)} {lv : LV} {h : PH} {c s : Nat} {i : Int32} (hS : S.1 ≤ 3072) (hl : LwS lv i) (hi : 0 ≤ i.toInt ∧ i.toInt + 5 < S.1) (hL : LR h) (hc : c + 8 ≤ 601024) (hs : s + 48 ≤ 7293033) (Nx : ∀ lv' h' c' s', LwS lv' i → LR h' → c' ≤ c + 8 → s' ≤ s + 48 → Vx (Ex S 24) S M_368 [] Q1 2344 lv' [] h' c' s') : Vx (Ex S 24) S M_368 [] Q1 1091 lv [] h c s := by
  have hC := Ex.mono S 24
  refine Vx.go hC te_368_1091 ?_
  refine ⟨_, hl.2.1, ⟨0, Or.inl rfl⟩, ?_⟩
  refine sc_load hC (k := 1) hl te_368_1092 te_368_1093 te_368_1095 te_368_1096 te_368_1097 (sc_in hS hi (by decide)) ?_
  refine sc_load hC (k := 2) hl te_368_1098 te_368_1099 te_368_1101 te_368_1102 te_368_1103 (sc_in hS hi (by decide)) ?_
  refine sc_load hC (k := 3) hl te_368_1104 te_368_1105 te_368_1107 te_368_1108 te_368_1109 (sc_in hS hi (by decide)) ?_
  refine Vx.go hC te_368_1110 ?_
  refine ⟨_, hl.2.2.2.1, ⟨173, Or.inl rfl⟩, ?_⟩
  refine Vx.go hC te_368_1111 ?_
  refine Or.inr ⟨by decide, ?_⟩
  refine p_call_mk (av := [.ref 0, .int (S.2 (i + Int32.ofInt 1).toNatClampNeg), .int (S.2 (i + Int32.ofInt 2).toNatClampNeg), .int (S.2 (i + Int32.ofInt 3).toNatClampNeg), .ref 173]) (rest := []) mt_144 rfl (by decide) (show c + 5 ≤ 601024 by omega) (show s + 30 ≤ 7293033 by omega) (fun q => by cases q) ?_
  refine g_144 (n := 6) hL (fun r3 h1 hL2 => ?_)
  show Vx (Ex S 24) S M_368 [] Q1 1114 lv [.int r3] h1 (c + 5) (s + 30)
  refine Vx.go hC te_368_1114 ?_
  refine ⟨by decide, ?_⟩
  have hl4 := LwS.st (j := 5) (v := .int r3) (by omega) hl
  show Vx (Ex S 24) S M_368 [] Q1 1116 (px_s1 lv 5 (.int r3)) [] h1 (c + 5) (s + 30)
  refine Vx.go hC te_368_1116 ?_
  refine ⟨_, hl4.2.2.1, ⟨143, Or.inl rfl⟩, ?_⟩
  refine sc_load hC (k := 1) hl4 te_368_1117 te_368_1118 te_368_1120 te_368_1121 te_368_1122 (sc_in hS hi (by decide)) ?_
  refine sc_load hC (k := 2) hl4 te_368_1123 te_368_1124 te_368_1126 te_368_1127 te_368_1128 (sc_in hS hi (by decide)) ?_
  refine sc_load hC (k := 3) hl4 te_368_1129 te_368_1130 te_368_1132 te_368_1133 te_368_1134 (sc_in hS hi (by decide)) ?_
  refine Vx.go hC te_368_1135 ?_
  obtain ⟨gs8, gs8g⟩ := hL2.obj (A := 143) rfl
  have hcall9 := ref_call (S := S) (n := 24) (μ := 305) (args := [.inr 143, .inl ((S.2 (i + Int32.ofInt 1).toNatClampNeg) : Int32).toInt, .inl ((S.2 (i + Int32.ofInt 2).toNatClampNeg) : Int32).toInt, .inl ((S.2 (i + Int32.ofInt 3).toNatClampNeg) : Int32).toInt]) (h := h1) (fun v hv => by simp only [List.mem_cons, List.not_mem_nil, or_false] at hv; rcases hv with rfl | rfl | rfl | rfl <;> first | trivial | exact wiI _) hL2 (fun mem hr => f_305 hr (fun r m' a b => ⟨a, b⟩))
  simp only [List.map_cons, List.map_nil, wv, Int32.ofInt_toInt] at hcall9
  refine p_call_mk (av := [.ref 143, .int (S.2 (i + Int32.ofInt 1).toNatClampNeg), .int (S.2 (i + Int32.ofInt 2).toNatClampNeg), .int (S.2 (i + Int32.ofInt 3).toNatClampNeg)]) (rest := []) mt_305 rfl (by decide) (show (c + 5) + 0 ≤ 601024 by omega) (show (s + 30) + 0 ≤ 7293033 by omega) (fun _ => ⟨143, gs8, rfl, gs8g⟩) ?_
  refine hC _ _ _ _ _ ?_ hcall9
  rintro _ h5 ⟨hL6, r7, rfl⟩
  show Vx (Ex S 24) S M_368 [] Q1 1138 (px_s1 lv 5 (.int r3)) [.int r7] h5 (c + 5) (s + 30)
  refine Vx.go hC te_368_1138 ?_
  refine ⟨by decide, ?_⟩
  have hl10 := LwS.st (j := 6) (v := .int r7) (by omega) hl4
  show Vx (Ex S 24) S M_368 [] Q1 1140 (px_s1 (px_s1 lv 5 (.int r3)) 6 (.int r7)) [] h5 (c + 5) (s + 30)
  refine Vx.go hC te_368_1140 ?_
  refine ⟨by decide, ?_⟩
  exact Nx _ _ _ _ hl10 hL6 (by omega) (by omega)
theorem lc_22 {S : Nat × (Nat → Int32)} {lv : LV} {h : PH} {c s : Nat} {i : Int32} (hS : S.1 ≤ 3072) (hl : LwS lv i) (hi : 0 ≤ i.toInt ∧ i.toInt + 5 < S.1) (hL : LR h) (hc : c + 8 ≤ 601024) (hs : s + 48 ≤ 7293033) (Nx : ∀ lv' h' c' s', LwS lv' i → LR h' → c' ≤ c + 8 → s' ≤ s + 48 → Vx (Ex S 24) S M_368 [] Q1 2344 lv' [] h' c' s') : Vx (Ex S 24) S M_368 [] Q1 1143 lv [] h c s := by
  have hC := Ex.mono S 24
  refine Vx.go hC te_368_1143 ?_
  refine ⟨_, hl.2.1, ⟨0, Or.inl rfl⟩, ?_⟩
  refine sc_load hC (k := 1) hl te_368_1144 te_368_1145 te_368_1147 te_368_1148 te_368_1149 (sc_in hS hi (by decide)) ?_
  refine sc_load hC (k := 2) hl te_368_1150 te_368_1151 te_368_1153 te_368_1154 te_368_1155 (sc_in hS hi (by decide)) ?_
  refine Vx.go hC te_368_1156 ?_
  refine ⟨_, hl.2.2.2.1, ⟨173, Or.inl rfl⟩, ?_⟩
  refine Vx.go hC te_368_1157 ?_
  refine Or.inr ⟨by decide, ?_⟩
  refine p_call_mk (av := [.ref 0, .int (S.2 (i + Int32.ofInt 1).toNatClampNeg), .int (S.2 (i + Int32.ofInt 2).toNatClampNeg), .ref 173]) (rest := []) mt_147 rfl (by decide) (show c + 5 ≤ 601024 by omega) (show s + 30 ≤ 7293033 by omega) (fun q => by cases q) ?_
  refine g_147 (n := 6) hL (fun r3 h1 hL2 => ?_)
  show Vx (Ex S 24) S M_368 [] Q1 1160 lv [.int r3] h1 (c + 5) (s + 30)
  refine Vx.go hC te_368_1160 ?_
  refine ⟨by decide, ?_⟩
  have hl4 := LwS.st (j := 5) (v := .int r3) (by omega) hl
  show Vx (Ex S 24) S M_368 [] Q1 1162 (px_s1 lv 5 (.int r3)) [] h1 (c + 5) (s + 30)
  refine Vx.go hC te_368_1162 ?_
  refine ⟨_, hl4.2.2.1, ⟨143, Or.inl rfl⟩, ?_⟩
  refine sc_load hC (k := 1) hl4 te_368_1163 te_368_1164 te_368_1166 te_368_1167 te_368_1168 (sc_in hS hi (by decide)) ?_
  refine sc_load hC (k := 2) hl4 te_368_1169 te_368_1170 te_368_1172 te_368_1173 te_368_1174 (sc_in hS hi (by decide)) ?_
  refine Vx.go hC te_368_1175 ?_
  obtain ⟨gs8, gs8g⟩ := hL2.obj (A := 143) rfl
  have hcall9 := ref_call (S := S) (n := 24) (μ := 307) (args := [.inr 143, .inl ((S.2 (i + Int32.ofInt 1).toNatClampNeg) : Int32).toInt, .inl ((S.2 (i + Int32.ofInt 2).toNatClampNeg) : Int32).toInt]) (h := h1) (fun v hv => by simp only [List.mem_cons, List.not_mem_nil, or_false] at hv; rcases hv with rfl | rfl | rfl <;> first | trivial | exact wiI _) hL2 (fun mem hr => f_307 hr (fun r m' a b => ⟨a, b⟩))
  simp only [List.map_cons, List.map_nil, wv, Int32.ofInt_toInt] at hcall9
  refine p_call_mk (av := [.ref 143, .int (S.2 (i + Int32.ofInt 1).toNatClampNeg), .int (S.2 (i + Int32.ofInt 2).toNatClampNeg)]) (rest := []) mt_307 rfl (by decide) (show (c + 5) + 0 ≤ 601024 by omega) (show (s + 30) + 0 ≤ 7293033 by omega) (fun _ => ⟨143, gs8, rfl, gs8g⟩) ?_
  refine hC _ _ _ _ _ ?_ hcall9
  rintro _ h5 ⟨hL6, r7, rfl⟩
  show Vx (Ex S 24) S M_368 [] Q1 1178 (px_s1 lv 5 (.int r3)) [.int r7] h5 (c + 5) (s + 30)
  refine Vx.go hC te_368_1178 ?_
  refine ⟨by decide, ?_⟩
  have hl10 := LwS.st (j := 6) (v := .int r7) (by omega) hl4
  show Vx (Ex S 24) S M_368 [] Q1 1180 (px_s1 (px_s1 lv 5 (.int r3)) 6 (.int r7)) [] h5 (c + 5) (s + 30)
  refine Vx.go hC te_368_1180 ?_
  refine ⟨by decide, ?_⟩
  exact Nx _ _ _ _ hl10 hL6 (by omega) (by omega)
theorem lc_23 {S : Nat × (Nat → Int32)} {lv : LV} {h : PH} {c s : Nat} {i : Int32} (hS : S.1 ≤ 3072) (hl : LwS lv i) (hi : 0 ≤ i.toInt ∧ i.toInt + 5 < S.1) (hL : LR h) (hc : c + 8 ≤ 601024) (hs : s + 48 ≤ 7293033) (Nx : ∀ lv' h' c' s', LwS lv' i → LR h' → c' ≤ c + 8 → s' ≤ s + 48 → Vx (Ex S 24) S M_368 [] Q1 2344 lv' [] h' c' s') : Vx (Ex S 24) S M_368 [] Q1 1183 lv [] h c s := by
  have hC := Ex.mono S 24
  refine Vx.go hC te_368_1183 ?_
  refine ⟨_, hl.2.1, ⟨0, Or.inl rfl⟩, ?_⟩
  refine sc_load hC (k := 1) hl te_368_1184 te_368_1185 te_368_1187 te_368_1188 te_368_1189 (sc_in hS hi (by decide)) ?_
  refine sc_load hC (k := 2) hl te_368_1190 te_368_1191 te_368_1193 te_368_1194 te_368_1195 (sc_in hS hi (by decide)) ?_
  refine sc_load hC (k := 3) hl te_368_1196 te_368_1197 te_368_1199 te_368_1200 te_368_1201 (sc_in hS hi (by decide)) ?_
  refine sc_load hC (k := 4) hl te_368_1202 te_368_1203 te_368_1205 te_368_1206 te_368_1207 (sc_in hS hi (by decide)) ?_
  refine Vx.go hC te_368_1208 ?_
  refine ⟨_, hl.2.2.2.1, ⟨173, Or.inl rfl⟩, ?_⟩
  refine Vx.go hC te_368_1209 ?_
  refine Or.inr ⟨by decide, ?_⟩
  refine p_call_mk (av := [.ref 0, .int (S.2 (i + Int32.ofInt 1).toNatClampNeg), .int (S.2 (i + Int32.ofInt 2).toNatClampNeg), .int (S.2 (i + Int32.ofInt 3).toNatClampNeg), .int (S.2 (i + Int32.ofInt 4).toNatClampNeg), .ref 173]) (rest := []) mt_149 rfl (by decide) (show c + 7 ≤ 601024 by omega) (show s + 42 ≤ 7293033 by omega) (fun q => by cases q) ?_
  refine g_149 (n := 6) hL (fun r3 h1 hL2 => ?_)
  show Vx (Ex S 24) S M_368 [] Q1 1212 lv [.int r3] h1 (c + 7) (s + 42)
  refine Vx.go hC te_368_1212 ?_
  refine ⟨by decide, ?_⟩
  have hl4 := LwS.st (j := 5) (v := .int r3) (by omega) hl
  show Vx (Ex S 24) S M_368 [] Q1 1214 (px_s1 lv 5 (.int r3)) [] h1 (c + 7) (s + 42)
  refine Vx.go hC te_368_1214 ?_
  refine ⟨_, hl4.2.2.1, ⟨143, Or.inl rfl⟩, ?_⟩
  refine sc_load hC (k := 1) hl4 te_368_1215 te_368_1216 te_368_1218 te_368_1219 te_368_1220 (sc_in hS hi (by decide)) ?_
  refine sc_load hC (k := 2) hl4 te_368_1221 te_368_1222 te_368_1224 te_368_1225 te_368_1226 (sc_in hS hi (by decide)) ?_
  refine sc_load hC (k := 3) hl4 te_368_1227 te_368_1228 te_368_1230 te_368_1231 te_368_1232 (sc_in hS hi (by decide)) ?_
  refine sc_load hC (k := 4) hl4 te_368_1233 te_368_1234 te_368_1236 te_368_1237 te_368_1238 (sc_in hS hi (by decide)) ?_
  refine Vx.go hC te_368_1239 ?_
  obtain ⟨gs8, gs8g⟩ := hL2.obj (A := 143) rfl
  have hcall9 := ref_call (S := S) (n := 24) (μ := 308) (args := [.inr 143, .inl ((S.2 (i + Int32.ofInt 1).toNatClampNeg) : Int32).toInt, .inl ((S.2 (i + Int32.ofInt 2).toNatClampNeg) : Int32).toInt, .inl ((S.2 (i + Int32.ofInt 3).toNatClampNeg) : Int32).toInt, .inl ((S.2 (i + Int32.ofInt 4).toNatClampNeg) : Int32).toInt]) (h := h1) (fun v hv => by simp only [List.mem_cons, List.not_mem_nil, or_false] at hv; rcases hv with rfl | rfl | rfl | rfl | rfl <;> first | trivial | exact wiI _) hL2 (fun mem hr => f_308 (wiI _) hr (fun r m' a b => ⟨a, b⟩))
  simp only [List.map_cons, List.map_nil, wv, Int32.ofInt_toInt] at hcall9
  refine p_call_mk (av := [.ref 143, .int (S.2 (i + Int32.ofInt 1).toNatClampNeg), .int (S.2 (i + Int32.ofInt 2).toNatClampNeg), .int (S.2 (i + Int32.ofInt 3).toNatClampNeg), .int (S.2 (i + Int32.ofInt 4).toNatClampNeg)]) (rest := []) mt_308 rfl (by decide) (show (c + 7) + 0 ≤ 601024 by omega) (show (s + 42) + 0 ≤ 7293033 by omega) (fun _ => ⟨143, gs8, rfl, gs8g⟩) ?_
  refine hC _ _ _ _ _ ?_ hcall9
  rintro _ h5 ⟨hL6, r7, rfl⟩
  show Vx (Ex S 24) S M_368 [] Q1 1242 (px_s1 lv 5 (.int r3)) [.int r7] h5 (c + 7) (s + 42)
  refine Vx.go hC te_368_1242 ?_
  refine ⟨by decide, ?_⟩
  have hl10 := LwS.st (j := 6) (v := .int r7) (by omega) hl4
  show Vx (Ex S 24) S M_368 [] Q1 1244 (px_s1 (px_s1 lv 5 (.int r3)) 6 (.int r7)) [] h5 (c + 7) (s + 42)
  refine Vx.go hC te_368_1244 ?_
  refine ⟨by decide, ?_⟩
  exact Nx _ _ _ _ hl10 hL6 (by omega) (by omega)
theorem lc_24 {S : Nat × (Nat → Int32)} {lv : LV} {h : PH} {c s : Nat} {i : Int32} (hS : S.1 ≤ 3072) (hl : LwS lv i) (hi : 0 ≤ i.toInt ∧ i.toInt + 5 < S.1) (hL : LR h) (hc : c + 8 ≤ 601024) (hs : s + 48 ≤ 7293033) (Nx : ∀ lv' h' c' s', LwS lv' i → LR h' → c' ≤ c + 8 → s' ≤ s + 48 → Vx (Ex S 24) S M_368 [] Q1 2344 lv' [] h' c' s') : Vx (Ex S 24) S M_368 [] Q1 1247 lv [] h c s := by
  have hC := Ex.mono S 24
  refine Vx.go hC te_368_1247 ?_
  refine ⟨_, hl.2.1, ⟨0, Or.inl rfl⟩, ?_⟩
  refine sc_load hC (k := 1) hl te_368_1248 te_368_1249 te_368_1251 te_368_1252 te_368_1253 (sc_in hS hi (by decide)) ?_
  refine sc_load hC (k := 2) hl te_368_1254 te_368_1255 te_368_1257 te_368_1258 te_368_1259 (sc_in hS hi (by decide)) ?_
  refine sc_load hC (k := 3) hl te_368_1260 te_368_1261 te_368_1263 te_368_1264 te_368_1265 (sc_in hS hi (by decide)) ?_
  refine Vx.go hC te_368_1266 ?_
  refine ⟨_, hl.2.2.2.1, ⟨173, Or.inl rfl⟩, ?_⟩
  refine Vx.go hC te_368_1267 ?_
  refine Or.inr ⟨by decide, ?_⟩
  refine p_call_mk (av := [.ref 0, .int (S.2 (i + Int32.ofInt 1).toNatClampNeg), .int (S.2 (i + Int32.ofInt 2).toNatClampNeg), .int (S.2 (i + Int32.ofInt 3).toNatClampNeg), .ref 173]) (rest := []) mt_153 rfl (by decide) (show c + 6 ≤ 601024 by omega) (show s + 36 ≤ 7293033 by omega) (fun q => by cases q) ?_
  refine g_153 (n := 6) hL (fun r3 h1 hL2 => ?_)
  show Vx (Ex S 24) S M_368 [] Q1 1270 lv [.int r3] h1 (c + 6) (s + 36)
  refine Vx.go hC te_368_1270 ?_
  refine ⟨by decide, ?_⟩
  have hl4 := LwS.st (j := 5) (v := .int r3) (by omega) hl
  show Vx (Ex S 24) S M_368 [] Q1 1272 (px_s1 lv 5 (.int r3)) [] h1 (c + 6) (s + 36)
  refine Vx.go hC te_368_1272 ?_
  refine ⟨_, hl4.2.2.1, ⟨143, Or.inl rfl⟩, ?_⟩
  refine sc_load hC (k := 1) hl4 te_368_1273 te_368_1274 te_368_1276 te_368_1277 te_368_1278 (sc_in hS hi (by decide)) ?_
  refine sc_load hC (k := 2) hl4 te_368_1279 te_368_1280 te_368_1282 te_368_1283 te_368_1284 (sc_in hS hi (by decide)) ?_
  refine sc_load hC (k := 3) hl4 te_368_1285 te_368_1286 te_368_1288 te_368_1289 te_368_1290 (sc_in hS hi (by decide)) ?_
  refine Vx.go hC te_368_1291 ?_
  obtain ⟨gs8, gs8g⟩ := hL2.obj (A := 143) rfl
  have hcall9 := ref_call (S := S) (n := 24) (μ := 310) (args := [.inr 143, .inl ((S.2 (i + Int32.ofInt 1).toNatClampNeg) : Int32).toInt, .inl ((S.2 (i + Int32.ofInt 2).toNatClampNeg) : Int32).toInt, .inl ((S.2 (i + Int32.ofInt 3).toNatClampNeg) : Int32).toInt]) (h := h1) (fun v hv => by simp only [List.mem_cons, List.not_mem_nil, or_false] at hv; rcases hv with rfl | rfl | rfl | rfl <;> first | trivial | exact wiI _) hL2 (fun mem hr => f_310 hr (fun r m' a b => ⟨a, b⟩))
  simp only [List.map_cons, List.map_nil, wv, Int32.ofInt_toInt] at hcall9
  refine p_call_mk (av := [.ref 143, .int (S.2 (i + Int32.ofInt 1).toNatClampNeg), .int (S.2 (i + Int32.ofInt 2).toNatClampNeg), .int (S.2 (i + Int32.ofInt 3).toNatClampNeg)]) (rest := []) mt_310 rfl (by decide) (show (c + 6) + 0 ≤ 601024 by omega) (show (s + 36) + 0 ≤ 7293033 by omega) (fun _ => ⟨143, gs8, rfl, gs8g⟩) ?_
  refine hC _ _ _ _ _ ?_ hcall9
  rintro _ h5 ⟨hL6, r7, rfl⟩
  show Vx (Ex S 24) S M_368 [] Q1 1294 (px_s1 lv 5 (.int r3)) [.int r7] h5 (c + 6) (s + 36)
  refine Vx.go hC te_368_1294 ?_
  refine ⟨by decide, ?_⟩
  have hl10 := LwS.st (j := 6) (v := .int r7) (by omega) hl4
  show Vx (Ex S 24) S M_368 [] Q1 1296 (px_s1 (px_s1 lv 5 (.int r3)) 6 (.int r7)) [] h5 (c + 6) (s + 36)
  refine Vx.go hC te_368_1296 ?_
  refine ⟨by decide, ?_⟩
  exact Nx _ _ _ _ hl10 hL6 (by omega) (by omega)
theorem lc_25 {S : Nat × (Nat → Int32)} {lv : LV} {h : PH} {c s : Nat} {i : Int32} (hS : S.1 ≤ 3072) (hl : LwS lv i) (hi : 0 ≤ i.toInt ∧ i.toInt + 5 < S.1) (hL : LR h) (hc : c + 8 ≤ 601024) (hs : s + 48 ≤ 7293033) (Nx : ∀ lv' h' c' s', LwS lv' i → LR h' → c' ≤ c + 8 → s' ≤ s + 48 → Vx (Ex S 24) S M_368 [] Q1 2344 lv' [] h' c' s') : Vx (Ex S 24) S M_368 [] Q1 1299 lv [] h c s := by
  have hC := Ex.mono S 24
  refine Vx.go hC te_368_1299 ?_
  refine ⟨_, hl.2.1, ⟨0, Or.inl rfl⟩, ?_⟩
  refine sc_load hC (k := 1) hl te_368_1300 te_368_1301 te_368_1303 te_368_1304 te_368_1305 (sc_in hS hi (by decide)) ?_
  refine sc_load hC (k := 2) hl te_368_1306 te_368_1307 te_368_1309 te_368_1310 te_368_1311 (sc_in hS hi (by decide)) ?_
  refine sc_load hC (k := 3) hl te_368_1312 te_368_1313 te_368_1315 te_368_1316 te_368_1317 (sc_in hS hi (by decide)) ?_
  refine sc_load hC (k := 4) hl te_368_1318 te_368_1319 te_368_1321 te_368_1322 te_368_1323 (sc_in hS hi (by decide)) ?_
  refine Vx.go hC te_368_1324 ?_
  refine ⟨_, hl.2.2.2.1, ⟨173, Or.inl rfl⟩, ?_⟩
  refine Vx.go hC te_368_1325 ?_
  refine Or.inr ⟨by decide, ?_⟩
  refine p_call_mk (av := [.ref 0, .int (S.2 (i + Int32.ofInt 1).toNatClampNeg), .int (S.2 (i + Int32.ofInt 2).toNatClampNeg), .int (S.2 (i + Int32.ofInt 3).toNatClampNeg), .int (S.2 (i + Int32.ofInt 4).toNatClampNeg), .ref 173]) (rest := []) mt_158 rfl (by decide) (show c + 6 ≤ 601024 by omega) (show s + 36 ≤ 7293033 by omega) (fun q => by cases q) ?_
  refine g_158 (n := 6) hL (fun r3 h1 hL2 => ?_)
  show Vx (Ex S 24) S M_368 [] Q1 1328 lv [.int r3] h1 (c + 6) (s + 36)
  refine Vx.go hC te_368_1328 ?_
  refine ⟨by decide, ?_⟩
  have hl4 := LwS.st (j := 5) (v := .int r3) (by omega) hl
  show Vx (Ex S 24) S M_368 [] Q1 1330 (px_s1 lv 5 (.int r3)) [] h1 (c + 6) (s + 36)
  refine Vx.go hC te_368_1330 ?_
  refine ⟨_, hl4.2.2.1, ⟨143, Or.inl rfl⟩, ?_⟩
  refine sc_load hC (k := 1) hl4 te_368_1331 te_368_1332 te_368_1334 te_368_1335 te_368_1336 (sc_in hS hi (by decide)) ?_
  refine sc_load hC (k := 2) hl4 te_368_1337 te_368_1338 te_368_1340 te_368_1341 te_368_1342 (sc_in hS hi (by decide)) ?_
  refine sc_load hC (k := 3) hl4 te_368_1343 te_368_1344 te_368_1346 te_368_1347 te_368_1348 (sc_in hS hi (by decide)) ?_
  refine sc_load hC (k := 4) hl4 te_368_1349 te_368_1350 te_368_1352 te_368_1353 te_368_1354 (sc_in hS hi (by decide)) ?_
  refine Vx.go hC te_368_1355 ?_
  obtain ⟨gs8, gs8g⟩ := hL2.obj (A := 143) rfl
  have hcall9 := ref_call (S := S) (n := 24) (μ := 315) (args := [.inr 143, .inl ((S.2 (i + Int32.ofInt 1).toNatClampNeg) : Int32).toInt, .inl ((S.2 (i + Int32.ofInt 2).toNatClampNeg) : Int32).toInt, .inl ((S.2 (i + Int32.ofInt 3).toNatClampNeg) : Int32).toInt, .inl ((S.2 (i + Int32.ofInt 4).toNatClampNeg) : Int32).toInt]) (h := h1) (fun v hv => by simp only [List.mem_cons, List.not_mem_nil, or_false] at hv; rcases hv with rfl | rfl | rfl | rfl | rfl <;> first | trivial | exact wiI _) hL2 (fun mem hr => f_315 hr (fun r m' a b => ⟨a, b⟩))
  simp only [List.map_cons, List.map_nil, wv, Int32.ofInt_toInt] at hcall9
  refine p_call_mk (av := [.ref 143, .int (S.2 (i + Int32.ofInt 1).toNatClampNeg), .int (S.2 (i + Int32.ofInt 2).toNatClampNeg), .int (S.2 (i + Int32.ofInt 3).toNatClampNeg), .int (S.2 (i + Int32.ofInt 4).toNatClampNeg)]) (rest := []) mt_315 rfl (by decide) (show (c + 6) + 0 ≤ 601024 by omega) (show (s + 36) + 0 ≤ 7293033 by omega) (fun _ => ⟨143, gs8, rfl, gs8g⟩) ?_
  refine hC _ _ _ _ _ ?_ hcall9
  rintro _ h5 ⟨hL6, r7, rfl⟩
  show Vx (Ex S 24) S M_368 [] Q1 1358 (px_s1 lv 5 (.int r3)) [.int r7] h5 (c + 6) (s + 36)
  refine Vx.go hC te_368_1358 ?_
  refine ⟨by decide, ?_⟩
  have hl10 := LwS.st (j := 6) (v := .int r7) (by omega) hl4
  show Vx (Ex S 24) S M_368 [] Q1 1360 (px_s1 (px_s1 lv 5 (.int r3)) 6 (.int r7)) [] h5 (c + 6) (s + 36)
  refine Vx.go hC te_368_1360 ?_
  refine ⟨by decide, ?_⟩
  exact Nx _ _ _ _ hl10 hL6 (by omega) (by omega)
theorem lc_26 {S : Nat × (Nat → Int32)} {lv : LV} {h : PH} {c s : Nat} {i : Int32} (hS : S.1 ≤ 3072) (hl : LwS lv i) (hi : 0 ≤ i.toInt ∧ i.toInt + 5 < S.1) (hL : LR h) (hc : c + 8 ≤ 601024) (hs : s + 48 ≤ 7293033) (Nx : ∀ lv' h' c' s', LwS lv' i → LR h' → c' ≤ c + 8 → s' ≤ s + 48 → Vx (Ex S 24) S M_368 [] Q1 2344 lv' [] h' c' s') : Vx (Ex S 24) S M_368 [] Q1 1363 lv [] h c s := by
  have hC := Ex.mono S 24
  refine Vx.go hC te_368_1363 ?_
  refine ⟨_, hl.2.1, ⟨0, Or.inl rfl⟩, ?_⟩
  refine sc_load hC (k := 1) hl te_368_1364 te_368_1365 te_368_1367 te_368_1368 te_368_1369 (sc_in hS hi (by decide)) ?_
  refine sc_load hC (k := 2) hl te_368_1370 te_368_1371 te_368_1373 te_368_1374 te_368_1375 (sc_in hS hi (by decide)) ?_
  refine sc_load hC (k := 3) hl te_368_1376 te_368_1377 te_368_1379 te_368_1380 te_368_1381 (sc_in hS hi (by decide)) ?_
  refine Vx.go hC te_368_1382 ?_
  refine ⟨_, hl.2.2.2.1, ⟨173, Or.inl rfl⟩, ?_⟩
  refine Vx.go hC te_368_1383 ?_
  refine Or.inr ⟨by decide, ?_⟩
  refine p_call_mk (av := [.ref 0, .int (S.2 (i + Int32.ofInt 1).toNatClampNeg), .int (S.2 (i + Int32.ofInt 2).toNatClampNeg), .int (S.2 (i + Int32.ofInt 3).toNatClampNeg), .ref 173]) (rest := []) mt_165 rfl (by decide) (show c + 7 ≤ 601024 by omega) (show s + 42 ≤ 7293033 by omega) (fun q => by cases q) ?_
  refine g_165 (n := 6) hL (fun r3 h1 hL2 => ?_)
  show Vx (Ex S 24) S M_368 [] Q1 1386 lv [.int r3] h1 (c + 7) (s + 42)
  refine Vx.go hC te_368_1386 ?_
  refine ⟨by decide, ?_⟩
  have hl4 := LwS.st (j := 5) (v := .int r3) (by omega) hl
  show Vx (Ex S 24) S M_368 [] Q1 1388 (px_s1 lv 5 (.int r3)) [] h1 (c + 7) (s + 42)
  refine Vx.go hC te_368_1388 ?_
  refine ⟨_, hl4.2.2.1, ⟨143, Or.inl rfl⟩, ?_⟩
  refine sc_load hC (k := 1) hl4 te_368_1389 te_368_1390 te_368_1392 te_368_1393 te_368_1394 (sc_in hS hi (by decide)) ?_
  refine sc_load hC (k := 2) hl4 te_368_1395 te_368_1396 te_368_1398 te_368_1399 te_368_1400 (sc_in hS hi (by decide)) ?_
  refine sc_load hC (k := 3) hl4 te_368_1401 te_368_1402 te_368_1404 te_368_1405 te_368_1406 (sc_in hS hi (by decide)) ?_
  refine Vx.go hC te_368_1407 ?_
  obtain ⟨gs8, gs8g⟩ := hL2.obj (A := 143) rfl
  have hcall9 := ref_call (S := S) (n := 24) (μ := 325) (args := [.inr 143, .inl ((S.2 (i + Int32.ofInt 1).toNatClampNeg) : Int32).toInt, .inl ((S.2 (i + Int32.ofInt 2).toNatClampNeg) : Int32).toInt, .inl ((S.2 (i + Int32.ofInt 3).toNatClampNeg) : Int32).toInt]) (h := h1) (fun v hv => by simp only [List.mem_cons, List.not_mem_nil, or_false] at hv; rcases hv with rfl | rfl | rfl | rfl <;> first | trivial | exact wiI _) hL2 (fun mem hr => f_325 hr (fun r m' a b => ⟨a, b⟩))
  simp only [List.map_cons, List.map_nil, wv, Int32.ofInt_toInt] at hcall9
  refine p_call_mk (av := [.ref 143, .int (S.2 (i + Int32.ofInt 1).toNatClampNeg), .int (S.2 (i + Int32.ofInt 2).toNatClampNeg), .int (S.2 (i + Int32.ofInt 3).toNatClampNeg)]) (rest := []) mt_325 rfl (by decide) (show (c + 7) + 0 ≤ 601024 by omega) (show (s + 42) + 0 ≤ 7293033 by omega) (fun _ => ⟨143, gs8, rfl, gs8g⟩) ?_
  refine hC _ _ _ _ _ ?_ hcall9
  rintro _ h5 ⟨hL6, r7, rfl⟩
  show Vx (Ex S 24) S M_368 [] Q1 1410 (px_s1 lv 5 (.int r3)) [.int r7] h5 (c + 7) (s + 42)
  refine Vx.go hC te_368_1410 ?_
  refine ⟨by decide, ?_⟩
  have hl10 := LwS.st (j := 6) (v := .int r7) (by omega) hl4
  show Vx (Ex S 24) S M_368 [] Q1 1412 (px_s1 (px_s1 lv 5 (.int r3)) 6 (.int r7)) [] h5 (c + 7) (s + 42)
  refine Vx.go hC te_368_1412 ?_
  refine ⟨by decide, ?_⟩
  exact Nx _ _ _ _ hl10 hL6 (by omega) (by omega)
theorem lc_27 {S : Nat × (Nat → Int32)} {lv : LV} {h : PH} {c s : Nat} {i : Int32} (hS : S.1 ≤ 3072) (hl : LwS lv i) (hi : 0 ≤ i.toInt ∧ i.toInt + 5 < S.1) (hL : LR h) (hc : c + 8 ≤ 601024) (hs : s + 48 ≤ 7293033) (Nx : ∀ lv' h' c' s', LwS lv' i → LR h' → c' ≤ c + 8 → s' ≤ s + 48 → Vx (Ex S 24) S M_368 [] Q1 2344 lv' [] h' c' s') : Vx (Ex S 24) S M_368 [] Q1 1415 lv [] h c s := by
  have hC := Ex.mono S 24
  refine Vx.go hC te_368_1415 ?_
  refine ⟨_, hl.2.1, ⟨0, Or.inl rfl⟩, ?_⟩
  refine sc_load hC (k := 1) hl te_368_1416 te_368_1417 te_368_1419 te_368_1420 te_368_1421 (sc_in hS hi (by decide)) ?_
  refine sc_load hC (k := 2) hl te_368_1422 te_368_1423 te_368_1425 te_368_1426 te_368_1427 (sc_in hS hi (by decide)) ?_
  refine sc_load hC (k := 3) hl te_368_1428 te_368_1429 te_368_1431 te_368_1432 te_368_1433 (sc_in hS hi (by decide)) ?_
  refine Vx.go hC te_368_1434 ?_
  refine ⟨_, hl.2.2.2.1, ⟨173, Or.inl rfl⟩, ?_⟩
  refine Vx.go hC te_368_1435 ?_
  refine Or.inr ⟨by decide, ?_⟩
  refine p_call_mk (av := [.ref 0, .int (S.2 (i + Int32.ofInt 1).toNatClampNeg), .int (S.2 (i + Int32.ofInt 2).toNatClampNeg), .int (S.2 (i + Int32.ofInt 3).toNatClampNeg), .ref 173]) (rest := []) mt_168 rfl (by decide) (show c + 3 ≤ 601024 by omega) (show s + 18 ≤ 7293033 by omega) (fun q => by cases q) ?_
  refine g_168 (n := 6) hL (fun r3 h1 hL2 => ?_)
  show Vx (Ex S 24) S M_368 [] Q1 1438 lv [.int r3] h1 (c + 3) (s + 18)
  refine Vx.go hC te_368_1438 ?_
  refine ⟨by decide, ?_⟩
  have hl4 := LwS.st (j := 5) (v := .int r3) (by omega) hl
  show Vx (Ex S 24) S M_368 [] Q1 1440 (px_s1 lv 5 (.int r3)) [] h1 (c + 3) (s + 18)
  refine Vx.go hC te_368_1440 ?_
  refine ⟨_, hl4.2.2.1, ⟨143, Or.inl rfl⟩, ?_⟩
  refine sc_load hC (k := 1) hl4 te_368_1441 te_368_1442 te_368_1444 te_368_1445 te_368_1446 (sc_in hS hi (by decide)) ?_
  refine sc_load hC (k := 2) hl4 te_368_1447 te_368_1448 te_368_1450 te_368_1451 te_368_1452 (sc_in hS hi (by decide)) ?_
  refine sc_load hC (k := 3) hl4 te_368_1453 te_368_1454 te_368_1456 te_368_1457 te_368_1458 (sc_in hS hi (by decide)) ?_
  refine Vx.go hC te_368_1459 ?_
  obtain ⟨gs8, gs8g⟩ := hL2.obj (A := 143) rfl
  have hcall9 := ref_call (S := S) (n := 24) (μ := 327) (args := [.inr 143, .inl ((S.2 (i + Int32.ofInt 1).toNatClampNeg) : Int32).toInt, .inl ((S.2 (i + Int32.ofInt 2).toNatClampNeg) : Int32).toInt, .inl ((S.2 (i + Int32.ofInt 3).toNatClampNeg) : Int32).toInt]) (h := h1) (fun v hv => by simp only [List.mem_cons, List.not_mem_nil, or_false] at hv; rcases hv with rfl | rfl | rfl | rfl <;> first | trivial | exact wiI _) hL2 (fun mem hr => f_327 hr (fun r m' a b => ⟨a, b⟩))
  simp only [List.map_cons, List.map_nil, wv, Int32.ofInt_toInt] at hcall9
  refine p_call_mk (av := [.ref 143, .int (S.2 (i + Int32.ofInt 1).toNatClampNeg), .int (S.2 (i + Int32.ofInt 2).toNatClampNeg), .int (S.2 (i + Int32.ofInt 3).toNatClampNeg)]) (rest := []) mt_327 rfl (by decide) (show (c + 3) + 0 ≤ 601024 by omega) (show (s + 18) + 0 ≤ 7293033 by omega) (fun _ => ⟨143, gs8, rfl, gs8g⟩) ?_
  refine hC _ _ _ _ _ ?_ hcall9
  rintro _ h5 ⟨hL6, r7, rfl⟩
  show Vx (Ex S 24) S M_368 [] Q1 1462 (px_s1 lv 5 (.int r3)) [.int r7] h5 (c + 3) (s + 18)
  refine Vx.go hC te_368_1462 ?_
  refine ⟨by decide, ?_⟩
  have hl10 := LwS.st (j := 6) (v := .int r7) (by omega) hl4
  show Vx (Ex S 24) S M_368 [] Q1 1464 (px_s1 (px_s1 lv 5 (.int r3)) 6 (.int r7)) [] h5 (c + 3) (s + 18)
  refine Vx.go hC te_368_1464 ?_
  refine ⟨by decide, ?_⟩
  exact Nx _ _ _ _ hl10 hL6 (by omega) (by omega)
theorem lc_28 {S : Nat × (Nat → Int32)} {lv : LV} {h : PH} {c s : Nat} {i : Int32} (hS : S.1 ≤ 3072) (hl : LwS lv i) (hi : 0 ≤ i.toInt ∧ i.toInt + 5 < S.1) (hL : LR h) (hc : c + 8 ≤ 601024) (hs : s + 48 ≤ 7293033) (Nx : ∀ lv' h' c' s', LwS lv' i → LR h' → c' ≤ c + 8 → s' ≤ s + 48 → Vx (Ex S 24) S M_368 [] Q1 2344 lv' [] h' c' s') : Vx (Ex S 24) S M_368 [] Q1 1467 lv [] h c s := by
  have hC := Ex.mono S 24
  refine Vx.go hC te_368_1467 ?_
  refine ⟨_, hl.2.1, ⟨0, Or.inl rfl⟩, ?_⟩
  refine sc_load hC (k := 1) hl te_368_1468 te_368_1469 te_368_1471 te_368_1472 te_368_1473 (sc_in hS hi (by decide)) ?_
  refine sc_load hC (k := 2) hl te_368_1474 te_368_1475 te_368_1477 te_368_1478 te_368_1479 (sc_in hS hi (by decide)) ?_
  refine sc_load hC (k := 3) hl te_368_1480 te_368_1481 te_368_1483 te_368_1484 te_368_1485 (sc_in hS hi (by decide)) ?_
  refine sc_load hC (k := 4) hl te_368_1486 te_368_1487 te_368_1489 te_368_1490 te_368_1491 (sc_in hS hi (by decide)) ?_
  refine Vx.go hC te_368_1492 ?_
  refine ⟨_, hl.2.2.2.1, ⟨173, Or.inl rfl⟩, ?_⟩
  refine Vx.go hC te_368_1493 ?_
  refine Or.inr ⟨by decide, ?_⟩
  refine p_call_mk (av := [.ref 0, .int (S.2 (i + Int32.ofInt 1).toNatClampNeg), .int (S.2 (i + Int32.ofInt 2).toNatClampNeg), .int (S.2 (i + Int32.ofInt 3).toNatClampNeg), .int (S.2 (i + Int32.ofInt 4).toNatClampNeg), .ref 173]) (rest := []) mt_170 rfl (by decide) (show c + 7 ≤ 601024 by omega) (show s + 42 ≤ 7293033 by omega) (fun q => by cases q) ?_
  refine g_170 (n := 6) hL (fun r3 h1 hL2 => ?_)
  show Vx (Ex S 24) S M_368 [] Q1 1496 lv [.int r3] h1 (c + 7) (s + 42)
  refine Vx.go hC te_368_1496 ?_
  refine ⟨by decide, ?_⟩
  have hl4 := LwS.st (j := 5) (v := .int r3) (by omega) hl
  show Vx (Ex S 24) S M_368 [] Q1 1498 (px_s1 lv 5 (.int r3)) [] h1 (c + 7) (s + 42)
  refine Vx.go hC te_368_1498 ?_
  refine ⟨_, hl4.2.2.1, ⟨143, Or.inl rfl⟩, ?_⟩
  refine sc_load hC (k := 1) hl4 te_368_1499 te_368_1500 te_368_1502 te_368_1503 te_368_1504 (sc_in hS hi (by decide)) ?_
  refine sc_load hC (k := 2) hl4 te_368_1505 te_368_1506 te_368_1508 te_368_1509 te_368_1510 (sc_in hS hi (by decide)) ?_
  refine sc_load hC (k := 3) hl4 te_368_1511 te_368_1512 te_368_1514 te_368_1515 te_368_1516 (sc_in hS hi (by decide)) ?_
  refine sc_load hC (k := 4) hl4 te_368_1517 te_368_1518 te_368_1520 te_368_1521 te_368_1522 (sc_in hS hi (by decide)) ?_
  refine Vx.go hC te_368_1523 ?_
  obtain ⟨gs8, gs8g⟩ := hL2.obj (A := 143) rfl
  have hcall9 := ref_call (S := S) (n := 24) (μ := 331) (args := [.inr 143, .inl ((S.2 (i + Int32.ofInt 1).toNatClampNeg) : Int32).toInt, .inl ((S.2 (i + Int32.ofInt 2).toNatClampNeg) : Int32).toInt, .inl ((S.2 (i + Int32.ofInt 3).toNatClampNeg) : Int32).toInt, .inl ((S.2 (i + Int32.ofInt 4).toNatClampNeg) : Int32).toInt]) (h := h1) (fun v hv => by simp only [List.mem_cons, List.not_mem_nil, or_false] at hv; rcases hv with rfl | rfl | rfl | rfl | rfl <;> first | trivial | exact wiI _) hL2 (fun mem hr => f_331 (wiI _) hr (fun r m' a b => ⟨a, b⟩))
  simp only [List.map_cons, List.map_nil, wv, Int32.ofInt_toInt] at hcall9
  refine p_call_mk (av := [.ref 143, .int (S.2 (i + Int32.ofInt 1).toNatClampNeg), .int (S.2 (i + Int32.ofInt 2).toNatClampNeg), .int (S.2 (i + Int32.ofInt 3).toNatClampNeg), .int (S.2 (i + Int32.ofInt 4).toNatClampNeg)]) (rest := []) mt_331 rfl (by decide) (show (c + 7) + 0 ≤ 601024 by omega) (show (s + 42) + 0 ≤ 7293033 by omega) (fun _ => ⟨143, gs8, rfl, gs8g⟩) ?_
  refine hC _ _ _ _ _ ?_ hcall9
  rintro _ h5 ⟨hL6, r7, rfl⟩
  show Vx (Ex S 24) S M_368 [] Q1 1526 (px_s1 lv 5 (.int r3)) [.int r7] h5 (c + 7) (s + 42)
  refine Vx.go hC te_368_1526 ?_
  refine ⟨by decide, ?_⟩
  have hl10 := LwS.st (j := 6) (v := .int r7) (by omega) hl4
  show Vx (Ex S 24) S M_368 [] Q1 1528 (px_s1 (px_s1 lv 5 (.int r3)) 6 (.int r7)) [] h5 (c + 7) (s + 42)
  refine Vx.go hC te_368_1528 ?_
  refine ⟨by decide, ?_⟩
  exact Nx _ _ _ _ hl10 hL6 (by omega) (by omega)
theorem lc_29 {S : Nat × (Nat → Int32)} {lv : LV} {h : PH} {c s : Nat} {i : Int32} (hS : S.1 ≤ 3072) (hl : LwS lv i) (hi : 0 ≤ i.toInt ∧ i.toInt + 5 < S.1) (hL : LR h) (hc : c + 8 ≤ 601024) (hs : s + 48 ≤ 7293033) (Nx : ∀ lv' h' c' s', LwS lv' i → LR h' → c' ≤ c + 8 → s' ≤ s + 48 → Vx (Ex S 24) S M_368 [] Q1 2344 lv' [] h' c' s') : Vx (Ex S 24) S M_368 [] Q1 1531 lv [] h c s := by
  have hC := Ex.mono S 24
  refine Vx.go hC te_368_1531 ?_
  refine ⟨_, hl.2.1, ⟨0, Or.inl rfl⟩, ?_⟩
  refine sc_load hC (k := 1) hl te_368_1532 te_368_1533 te_368_1535 te_368_1536 te_368_1537 (sc_in hS hi (by decide)) ?_
  refine sc_load hC (k := 2) hl te_368_1538 te_368_1539 te_368_1541 te_368_1542 te_368_1543 (sc_in hS hi (by decide)) ?_
  refine Vx.go hC te_368_1544 ?_
  refine ⟨by decide, fun q => ?_, fun q => ?_⟩
  · show Vx (Ex S 24) S M_368 [] Q1 1551 lv [.int (S.2 (i + Int32.ofInt 1).toNatClampNeg), .ref 0] h c s
    refine Vx.go hC te_368_1551 ?_
    refine Vx.go hC te_368_1552 ?_
    refine ⟨_, hl.2.2.2.1, ⟨173, Or.inl rfl⟩, ?_⟩
    refine Vx.go hC te_368_1553 ?_
    refine Or.inr ⟨by decide, ?_⟩
    refine p_call_mk (av := [.ref 0, .int (S.2 (i + Int32.ofInt 1).toNatClampNeg), .int (Int32.ofInt 0), .ref 173]) (rest := []) mt_172 rfl (by decide) (show c + 3 ≤ 601024 by omega) (show s + 18 ≤ 7293033 by omega) (fun q => by cases q) ?_
    refine g_172 (n := 6) hL (fun r3 h1 hL2 => ?_)
    show Vx (Ex S 24) S M_368 [] Q1 1556 lv [.int r3] h1 (c + 3) (s + 18)
    refine Vx.go hC te_368_1556 ?_
    refine ⟨by decide, ?_⟩
    have hl4 := LwS.st (j := 5) (v := .int r3) (by omega) hl
    show Vx (Ex S 24) S M_368 [] Q1 1558 (px_s1 lv 5 (.int r3)) [] h1 (c + 3) (s + 18)
    refine Vx.go hC te_368_1558 ?_
    refine ⟨_, hl4.2.2.1, ⟨143, Or.inl rfl⟩, ?_⟩
    refine sc_load hC (k := 1) hl4 te_368_1559 te_368_1560 te_368_1562 te_368_1563 te_368_1564 (sc_in hS hi (by decide)) ?_
    refine sc_load hC (k := 2) hl4 te_368_1565 te_368_1566 te_368_1568 te_368_1569 te_368_1570 (sc_in hS hi (by decide)) ?_
    refine Vx.go hC te_368_1571 ?_
    refine ⟨by decide, fun q => ?_, fun q => ?_⟩
    · show Vx (Ex S 24) S M_368 [] Q1 1578 (px_s1 lv 5 (.int r3)) [.int (S.2 (i + Int32.ofInt 1).toNatClampNeg), .ref 143] h1 (c + 3) (s + 18)
      refine Vx.go hC te_368_1578 ?_
      refine Vx.go hC te_368_1579 ?_
      obtain ⟨gs8, gs8g⟩ := hL2.obj (A := 143) rfl
      have hcall9 := ref_call (S := S) (n := 24) (μ := 332) (args := [.inr 143, .inl ((S.2 (i + Int32.ofInt 1).toNatClampNeg) : Int32).toInt, .inl ((Int32.ofInt 0) : Int32).toInt]) (h := h1) (fun v hv => by simp only [List.mem_cons, List.not_mem_nil, or_false] at hv; rcases hv with rfl | rfl | rfl <;> first | trivial | exact wiI _) hL2 (fun mem hr => f_332 hr (fun r m' a b => ⟨a, b⟩))
      simp only [List.map_cons, List.map_nil, wv, Int32.ofInt_toInt] at hcall9
      refine p_call_mk (av := [.ref 143, .int (S.2 (i + Int32.ofInt 1).toNatClampNeg), .int (Int32.ofInt 0)]) (rest := []) mt_332 rfl (by decide) (show (c + 3) + 0 ≤ 601024 by omega) (show (s + 18) + 0 ≤ 7293033 by omega) (fun _ => ⟨143, gs8, rfl, gs8g⟩) ?_
      refine hC _ _ _ _ _ ?_ hcall9
      rintro _ h5 ⟨hL6, r7, rfl⟩
      show Vx (Ex S 24) S M_368 [] Q1 1582 (px_s1 lv 5 (.int r3)) [.int r7] h5 (c + 3) (s + 18)
      refine Vx.go hC te_368_1582 ?_
      refine ⟨by decide, ?_⟩
      have hl10 := LwS.st (j := 6) (v := .int r7) (by omega) hl4
      show Vx (Ex S 24) S M_368 [] Q1 1584 (px_s1 (px_s1 lv 5 (.int r3)) 6 (.int r7)) [] h5 (c + 3) (s + 18)
      refine Vx.go hC te_368_1584 ?_
      refine ⟨by decide, ?_⟩
      exact Nx _ _ _ _ hl10 hL6 (by omega) (by omega)
    · show Vx (Ex S 24) S M_368 [] Q1 1574 (px_s1 lv 5 (.int r3)) [.int (S.2 (i + Int32.ofInt 1).toNatClampNeg), .ref 143] h1 (c + 3) (s + 18)
      refine Vx.go hC te_368_1574 ?_
      refine Vx.go hC te_368_1575 ?_
      refine ⟨by decide, ?_⟩
      show Vx (Ex S 24) S M_368 [] Q1 1579 (px_s1 lv 5 (.int r3)) [.int (Int32.ofInt 1), .int (S.2 (i + Int32.ofInt 1).toNatClampNeg), .ref 143] h1 (c + 3) (s + 18)
      refine Vx.go hC te_368_1579 ?_
      obtain ⟨gs14, gs14g⟩ := hL2.obj (A := 143) rfl
      have hcall15 := ref_call (S := S) (n := 24) (μ := 332) (args := [.inr 143, .inl ((S.2 (i + Int32.ofInt 1).toNatClampNeg) : Int32).toInt, .inl ((Int32.ofInt 1) : Int32).toInt]) (h := h1) (fun v hv => by simp only [List.mem_cons, List.not_mem_nil, or_false] at hv; rcases hv with rfl | rfl | rfl <;> first | trivial | exact wiI _) hL2 (fun mem hr => f_332 hr (fun r m' a b => ⟨a, b⟩))
      simp only [List.map_cons, List.map_nil, wv, Int32.ofInt_toInt] at hcall15
      refine p_call_mk (av := [.ref 143, .int (S.2 (i + Int32.ofInt 1).toNatClampNeg), .int (Int32.ofInt 1)]) (rest := []) mt_332 rfl (by decide) (show (c + 3) + 0 ≤ 601024 by omega) (show (s + 18) + 0 ≤ 7293033 by omega) (fun _ => ⟨143, gs14, rfl, gs14g⟩) ?_
      refine hC _ _ _ _ _ ?_ hcall15
      rintro _ h11 ⟨hL12, r13, rfl⟩
      show Vx (Ex S 24) S M_368 [] Q1 1582 (px_s1 lv 5 (.int r3)) [.int r13] h11 (c + 3) (s + 18)
      refine Vx.go hC te_368_1582 ?_
      refine ⟨by decide, ?_⟩
      have hl16 := LwS.st (j := 6) (v := .int r13) (by omega) hl4
      show Vx (Ex S 24) S M_368 [] Q1 1584 (px_s1 (px_s1 lv 5 (.int r3)) 6 (.int r13)) [] h11 (c + 3) (s + 18)
      refine Vx.go hC te_368_1584 ?_
      refine ⟨by decide, ?_⟩
      exact Nx _ _ _ _ hl16 hL12 (by omega) (by omega)
  · show Vx (Ex S 24) S M_368 [] Q1 1547 lv [.int (S.2 (i + Int32.ofInt 1).toNatClampNeg), .ref 0] h c s
    refine Vx.go hC te_368_1547 ?_
    refine Vx.go hC te_368_1548 ?_
    refine ⟨by decide, ?_⟩
    show Vx (Ex S 24) S M_368 [] Q1 1552 lv [.int (Int32.ofInt 1), .int (S.2 (i + Int32.ofInt 1).toNatClampNeg), .ref 0] h c s
    refine Vx.go hC te_368_1552 ?_
    refine ⟨_, hl.2.2.2.1, ⟨173, Or.inl rfl⟩, ?_⟩
    refine Vx.go hC te_368_1553 ?_
    refine Or.inr ⟨by decide, ?_⟩
    refine p_call_mk (av := [.ref 0, .int (S.2 (i + Int32.ofInt 1).toNatClampNeg), .int (Int32.ofInt 1), .ref 173]) (rest := []) mt_172 rfl (by decide) (show c + 3 ≤ 601024 by omega) (show s + 18 ≤ 7293033 by omega) (fun q => by cases q) ?_
    refine g_172 (n := 6) hL (fun r19 h17 hL18 => ?_)
    show Vx (Ex S 24) S M_368 [] Q1 1556 lv [.int r19] h17 (c + 3) (s + 18)
    refine Vx.go hC te_368_1556 ?_
    refine ⟨by decide, ?_⟩
    have hl20 := LwS.st (j := 5) (v := .int r19) (by omega) hl
    show Vx (Ex S 24) S M_368 [] Q1 1558 (px_s1 lv 5 (.int r19)) [] h17 (c + 3) (s + 18)
    refine Vx.go hC te_368_1558 ?_
    refine ⟨_, hl20.2.2.1, ⟨143, Or.inl rfl⟩, ?_⟩
    refine sc_load hC (k := 1) hl20 te_368_1559 te_368_1560 te_368_1562 te_368_1563 te_368_1564 (sc_in hS hi (by decide)) ?_
    refine sc_load hC (k := 2) hl20 te_368_1565 te_368_1566 te_368_1568 te_368_1569 te_368_1570 (sc_in hS hi (by decide)) ?_
    refine Vx.go hC te_368_1571 ?_
    refine ⟨by decide, fun q => ?_, fun q => ?_⟩
    · show Vx (Ex S 24) S M_368 [] Q1 1578 (px_s1 lv 5 (.int r19)) [.int (S.2 (i + Int32.ofInt 1).toNatClampNeg), .ref 143] h17 (c + 3) (s + 18)
      refine Vx.go hC te_368_1578 ?_
      refine Vx.go hC te_368_1579 ?_
      obtain ⟨gs24, gs24g⟩ := hL18.obj (A := 143) rfl
      have hcall25 := ref_call (S := S) (n := 24) (μ := 332) (args := [.inr 143, .inl ((S.2 (i + Int32.ofInt 1).toNatClampNeg) : Int32).toInt, .inl ((Int32.ofInt 0) : Int32).toInt]) (h := h17) (fun v hv => by simp only [List.mem_cons, List.not_mem_nil, or_false] at hv; rcases hv with rfl | rfl | rfl <;> first | trivial | exact wiI _) hL18 (fun mem hr => f_332 hr (fun r m' a b => ⟨a, b⟩))
      simp only [List.map_cons, List.map_nil, wv, Int32.ofInt_toInt] at hcall25
      refine p_call_mk (av := [.ref 143, .int (S.2 (i + Int32.ofInt 1).toNatClampNeg), .int (Int32.ofInt 0)]) (rest := []) mt_332 rfl (by decide) (show (c + 3) + 0 ≤ 601024 by omega) (show (s + 18) + 0 ≤ 7293033 by omega) (fun _ => ⟨143, gs24, rfl, gs24g⟩) ?_
      refine hC _ _ _ _ _ ?_ hcall25
      rintro _ h21 ⟨hL22, r23, rfl⟩
      show Vx (Ex S 24) S M_368 [] Q1 1582 (px_s1 lv 5 (.int r19)) [.int r23] h21 (c + 3) (s + 18)
      refine Vx.go hC te_368_1582 ?_
      refine ⟨by decide, ?_⟩
      have hl26 := LwS.st (j := 6) (v := .int r23) (by omega) hl20
      show Vx (Ex S 24) S M_368 [] Q1 1584 (px_s1 (px_s1 lv 5 (.int r19)) 6 (.int r23)) [] h21 (c + 3) (s + 18)
      refine Vx.go hC te_368_1584 ?_
      refine ⟨by decide, ?_⟩
      exact Nx _ _ _ _ hl26 hL22 (by omega) (by omega)
    · show Vx (Ex S 24) S M_368 [] Q1 1574 (px_s1 lv 5 (.int r19)) [.int (S.2 (i + Int32.ofInt 1).toNatClampNeg), .ref 143] h17 (c + 3) (s + 18)
      refine Vx.go hC te_368_1574 ?_
      refine Vx.go hC te_368_1575 ?_
      refine ⟨by decide, ?_⟩
      show Vx (Ex S 24) S M_368 [] Q1 1579 (px_s1 lv 5 (.int r19)) [.int (Int32.ofInt 1), .int (S.2 (i + Int32.ofInt 1).toNatClampNeg), .ref 143] h17 (c + 3) (s + 18)
      refine Vx.go hC te_368_1579 ?_
      obtain ⟨gs30, gs30g⟩ := hL18.obj (A := 143) rfl
      have hcall31 := ref_call (S := S) (n := 24) (μ := 332) (args := [.inr 143, .inl ((S.2 (i + Int32.ofInt 1).toNatClampNeg) : Int32).toInt, .inl ((Int32.ofInt 1) : Int32).toInt]) (h := h17) (fun v hv => by simp only [List.mem_cons, List.not_mem_nil, or_false] at hv; rcases hv with rfl | rfl | rfl <;> first | trivial | exact wiI _) hL18 (fun mem hr => f_332 hr (fun r m' a b => ⟨a, b⟩))
      simp only [List.map_cons, List.map_nil, wv, Int32.ofInt_toInt] at hcall31
      refine p_call_mk (av := [.ref 143, .int (S.2 (i + Int32.ofInt 1).toNatClampNeg), .int (Int32.ofInt 1)]) (rest := []) mt_332 rfl (by decide) (show (c + 3) + 0 ≤ 601024 by omega) (show (s + 18) + 0 ≤ 7293033 by omega) (fun _ => ⟨143, gs30, rfl, gs30g⟩) ?_
      refine hC _ _ _ _ _ ?_ hcall31
      rintro _ h27 ⟨hL28, r29, rfl⟩
      show Vx (Ex S 24) S M_368 [] Q1 1582 (px_s1 lv 5 (.int r19)) [.int r29] h27 (c + 3) (s + 18)
      refine Vx.go hC te_368_1582 ?_
      refine ⟨by decide, ?_⟩
      have hl32 := LwS.st (j := 6) (v := .int r29) (by omega) hl20
      show Vx (Ex S 24) S M_368 [] Q1 1584 (px_s1 (px_s1 lv 5 (.int r19)) 6 (.int r29)) [] h27 (c + 3) (s + 18)
      refine Vx.go hC te_368_1584 ?_
      refine ⟨by decide, ?_⟩
      exact Nx _ _ _ _ hl32 hL28 (by omega) (by omega)
theorem lc_30 {S : Nat × (Nat → Int32)} {lv : LV} {h : PH} {c s : Nat} {i : Int32} (hS : S.1 ≤ 3072) (hl : LwS lv i) (hi : 0 ≤ i.toInt ∧ i.toInt + 5 < S.1) (hL : LR h) (hc : c + 8 ≤ 601024) (hs : s + 48 ≤ 7293033) (Nx : ∀ lv' h' c' s', LwS lv' i → LR h' → c' ≤ c + 8 → s' ≤ s + 48 → Vx (Ex S 24) S M_368 [] Q1 2344 lv' [] h' c' s') : Vx (Ex S 24) S M_368 [] Q1 1587 lv [] h c s := by
  have hC := Ex.mono S 24
  refine Vx.go hC te_368_1587 ?_
  refine ⟨_, hl.2.1, ⟨0, Or.inl rfl⟩, ?_⟩
  refine sc_load hC (k := 1) hl te_368_1588 te_368_1589 te_368_1591 te_368_1592 te_368_1593 (sc_in hS hi (by decide)) ?_
  refine sc_load hC (k := 2) hl te_368_1594 te_368_1595 te_368_1597 te_368_1598 te_368_1599 (sc_in hS hi (by decide)) ?_
  refine sc_load hC (k := 3) hl te_368_1600 te_368_1601 te_368_1603 te_368_1604 te_368_1605 (sc_in hS hi (by decide)) ?_
  refine Vx.go hC te_368_1606 ?_
  refine ⟨by decide, fun q => ?_, fun q => ?_⟩
  · show Vx (Ex S 24) S M_368 [] Q1 1613 lv [.int (S.2 (i + Int32.ofInt 2).toNatClampNeg), .int (S.2 (i + Int32.ofInt 1).toNatClampNeg), .ref 0] h c s
    refine Vx.go hC te_368_1613 ?_
    refine Vx.go hC te_368_1614 ?_
    refine ⟨_, hl.2.2.2.1, ⟨173, Or.inl rfl⟩, ?_⟩
    refine Vx.go hC te_368_1615 ?_
    refine Or.inr ⟨by decide, ?_⟩
    refine p_call_mk (av := [.ref 0, .int (S.2 (i + Int32.ofInt 1).toNatClampNeg), .int (S.2 (i + Int32.ofInt 2).toNatClampNeg), .int (Int32.ofInt 0), .ref 173]) (rest := []) mt_174 rfl (by decide) (show c + 5 ≤ 601024 by omega) (show s + 30 ≤ 7293033 by omega) (fun q => by cases q) ?_
    refine g_174 (n := 6) hL (fun r3 h1 hL2 => ?_)
    show Vx (Ex S 24) S M_368 [] Q1 1618 lv [.int r3] h1 (c + 5) (s + 30)
    refine Vx.go hC te_368_1618 ?_
    refine ⟨by decide, ?_⟩
    have hl4 := LwS.st (j := 5) (v := .int r3) (by omega) hl
    show Vx (Ex S 24) S M_368 [] Q1 1620 (px_s1 lv 5 (.int r3)) [] h1 (c + 5) (s + 30)
    refine Vx.go hC te_368_1620 ?_
    refine ⟨_, hl4.2.2.1, ⟨143, Or.inl rfl⟩, ?_⟩
    refine sc_load hC (k := 1) hl4 te_368_1621 te_368_1622 te_368_1624 te_368_1625 te_368_1626 (sc_in hS hi (by decide)) ?_
    refine sc_load hC (k := 2) hl4 te_368_1627 te_368_1628 te_368_1630 te_368_1631 te_368_1632 (sc_in hS hi (by decide)) ?_
    refine sc_load hC (k := 3) hl4 te_368_1633 te_368_1634 te_368_1636 te_368_1637 te_368_1638 (sc_in hS hi (by decide)) ?_
    refine Vx.go hC te_368_1639 ?_
    refine ⟨by decide, fun q => ?_, fun q => ?_⟩
    · show Vx (Ex S 24) S M_368 [] Q1 1646 (px_s1 lv 5 (.int r3)) [.int (S.2 (i + Int32.ofInt 2).toNatClampNeg), .int (S.2 (i + Int32.ofInt 1).toNatClampNeg), .ref 143] h1 (c + 5) (s + 30)
      refine Vx.go hC te_368_1646 ?_
      refine Vx.go hC te_368_1647 ?_
      obtain ⟨gs8, gs8g⟩ := hL2.obj (A := 143) rfl
      have hcall9 := ref_call (S := S) (n := 24) (μ := 333) (args := [.inr 143, .inl ((S.2 (i + Int32.ofInt 1).toNatClampNeg) : Int32).toInt, .inl ((S.2 (i + Int32.ofInt 2).toNatClampNeg) : Int32).toInt, .inl ((Int32.ofInt 0) : Int32).toInt]) (h := h1) (fun v hv => by simp only [List.mem_cons, List.not_mem_nil, or_false] at hv; rcases hv with rfl | rfl | rfl | rfl <;> first | trivial | exact wiI _) hL2 (fun mem hr => f_333 hr (fun r m' a b => ⟨a, b⟩))
      simp only [List.map_cons, List.map_nil, wv, Int32.ofInt_toInt] at hcall9
      refine p_call_mk (av := [.ref 143, .int (S.2 (i + Int32.ofInt 1).toNatClampNeg), .int (S.2 (i + Int32.ofInt 2).toNatClampNeg), .int (Int32.ofInt 0)]) (rest := []) mt_333 rfl (by decide) (show (c + 5) + 0 ≤ 601024 by omega) (show (s + 30) + 0 ≤ 7293033 by omega) (fun _ => ⟨143, gs8, rfl, gs8g⟩) ?_
      refine hC _ _ _ _ _ ?_ hcall9
      rintro _ h5 ⟨hL6, r7, rfl⟩
      show Vx (Ex S 24) S M_368 [] Q1 1650 (px_s1 lv 5 (.int r3)) [.int r7] h5 (c + 5) (s + 30)
      refine Vx.go hC te_368_1650 ?_
      refine ⟨by decide, ?_⟩
      have hl10 := LwS.st (j := 6) (v := .int r7) (by omega) hl4
      show Vx (Ex S 24) S M_368 [] Q1 1652 (px_s1 (px_s1 lv 5 (.int r3)) 6 (.int r7)) [] h5 (c + 5) (s + 30)
      refine Vx.go hC te_368_1652 ?_
      refine ⟨by decide, ?_⟩
      exact Nx _ _ _ _ hl10 hL6 (by omega) (by omega)
    · show Vx (Ex S 24) S M_368 [] Q1 1642 (px_s1 lv 5 (.int r3)) [.int (S.2 (i + Int32.ofInt 2).toNatClampNeg), .int (S.2 (i + Int32.ofInt 1).toNatClampNeg), .ref 143] h1 (c + 5) (s + 30)
      refine Vx.go hC te_368_1642 ?_
      refine Vx.go hC te_368_1643 ?_
      refine ⟨by decide, ?_⟩
      show Vx (Ex S 24) S M_368 [] Q1 1647 (px_s1 lv 5 (.int r3)) [.int (Int32.ofInt 1), .int (S.2 (i + Int32.ofInt 2).toNatClampNeg), .int (S.2 (i + Int32.ofInt 1).toNatClampNeg), .ref 143] h1 (c + 5) (s + 30)
      refine Vx.go hC te_368_1647 ?_
      obtain ⟨gs14, gs14g⟩ := hL2.obj (A := 143) rfl
      have hcall15 := ref_call (S := S) (n := 24) (μ := 333) (args := [.inr 143, .inl ((S.2 (i + Int32.ofInt 1).toNatClampNeg) : Int32).toInt, .inl ((S.2 (i + Int32.ofInt 2).toNatClampNeg) : Int32).toInt, .inl ((Int32.ofInt 1) : Int32).toInt]) (h := h1) (fun v hv => by simp only [List.mem_cons, List.not_mem_nil, or_false] at hv; rcases hv with rfl | rfl | rfl | rfl <;> first | trivial | exact wiI _) hL2 (fun mem hr => f_333 hr (fun r m' a b => ⟨a, b⟩))
      simp only [List.map_cons, List.map_nil, wv, Int32.ofInt_toInt] at hcall15
      refine p_call_mk (av := [.ref 143, .int (S.2 (i + Int32.ofInt 1).toNatClampNeg), .int (S.2 (i + Int32.ofInt 2).toNatClampNeg), .int (Int32.ofInt 1)]) (rest := []) mt_333 rfl (by decide) (show (c + 5) + 0 ≤ 601024 by omega) (show (s + 30) + 0 ≤ 7293033 by omega) (fun _ => ⟨143, gs14, rfl, gs14g⟩) ?_
      refine hC _ _ _ _ _ ?_ hcall15
      rintro _ h11 ⟨hL12, r13, rfl⟩
      show Vx (Ex S 24) S M_368 [] Q1 1650 (px_s1 lv 5 (.int r3)) [.int r13] h11 (c + 5) (s + 30)
      refine Vx.go hC te_368_1650 ?_
      refine ⟨by decide, ?_⟩
      have hl16 := LwS.st (j := 6) (v := .int r13) (by omega) hl4
      show Vx (Ex S 24) S M_368 [] Q1 1652 (px_s1 (px_s1 lv 5 (.int r3)) 6 (.int r13)) [] h11 (c + 5) (s + 30)
      refine Vx.go hC te_368_1652 ?_
      refine ⟨by decide, ?_⟩
      exact Nx _ _ _ _ hl16 hL12 (by omega) (by omega)
  · show Vx (Ex S 24) S M_368 [] Q1 1609 lv [.int (S.2 (i + Int32.ofInt 2).toNatClampNeg), .int (S.2 (i + Int32.ofInt 1).toNatClampNeg), .ref 0] h c s
    refine Vx.go hC te_368_1609 ?_
    refine Vx.go hC te_368_1610 ?_
    refine ⟨by decide, ?_⟩
    show Vx (Ex S 24) S M_368 [] Q1 1614 lv [.int (Int32.ofInt 1), .int (S.2 (i + Int32.ofInt 2).toNatClampNeg), .int (S.2 (i + Int32.ofInt 1).toNatClampNeg), .ref 0] h c s
    refine Vx.go hC te_368_1614 ?_
    refine ⟨_, hl.2.2.2.1, ⟨173, Or.inl rfl⟩, ?_⟩
    refine Vx.go hC te_368_1615 ?_
    refine Or.inr ⟨by decide, ?_⟩
    refine p_call_mk (av := [.ref 0, .int (S.2 (i + Int32.ofInt 1).toNatClampNeg), .int (S.2 (i + Int32.ofInt 2).toNatClampNeg), .int (Int32.ofInt 1), .ref 173]) (rest := []) mt_174 rfl (by decide) (show c + 5 ≤ 601024 by omega) (show s + 30 ≤ 7293033 by omega) (fun q => by cases q) ?_
    refine g_174 (n := 6) hL (fun r19 h17 hL18 => ?_)
    show Vx (Ex S 24) S M_368 [] Q1 1618 lv [.int r19] h17 (c + 5) (s + 30)
    refine Vx.go hC te_368_1618 ?_
    refine ⟨by decide, ?_⟩
    have hl20 := LwS.st (j := 5) (v := .int r19) (by omega) hl
    show Vx (Ex S 24) S M_368 [] Q1 1620 (px_s1 lv 5 (.int r19)) [] h17 (c + 5) (s + 30)
    refine Vx.go hC te_368_1620 ?_
    refine ⟨_, hl20.2.2.1, ⟨143, Or.inl rfl⟩, ?_⟩
    refine sc_load hC (k := 1) hl20 te_368_1621 te_368_1622 te_368_1624 te_368_1625 te_368_1626 (sc_in hS hi (by decide)) ?_
    refine sc_load hC (k := 2) hl20 te_368_1627 te_368_1628 te_368_1630 te_368_1631 te_368_1632 (sc_in hS hi (by decide)) ?_
    refine sc_load hC (k := 3) hl20 te_368_1633 te_368_1634 te_368_1636 te_368_1637 te_368_1638 (sc_in hS hi (by decide)) ?_
    refine Vx.go hC te_368_1639 ?_
    refine ⟨by decide, fun q => ?_, fun q => ?_⟩
    · show Vx (Ex S 24) S M_368 [] Q1 1646 (px_s1 lv 5 (.int r19)) [.int (S.2 (i + Int32.ofInt 2).toNatClampNeg), .int (S.2 (i + Int32.ofInt 1).toNatClampNeg), .ref 143] h17 (c + 5) (s + 30)
      refine Vx.go hC te_368_1646 ?_
      refine Vx.go hC te_368_1647 ?_
      obtain ⟨gs24, gs24g⟩ := hL18.obj (A := 143) rfl
      have hcall25 := ref_call (S := S) (n := 24) (μ := 333) (args := [.inr 143, .inl ((S.2 (i + Int32.ofInt 1).toNatClampNeg) : Int32).toInt, .inl ((S.2 (i + Int32.ofInt 2).toNatClampNeg) : Int32).toInt, .inl ((Int32.ofInt 0) : Int32).toInt]) (h := h17) (fun v hv => by simp only [List.mem_cons, List.not_mem_nil, or_false] at hv; rcases hv with rfl | rfl | rfl | rfl <;> first | trivial | exact wiI _) hL18 (fun mem hr => f_333 hr (fun r m' a b => ⟨a, b⟩))
      simp only [List.map_cons, List.map_nil, wv, Int32.ofInt_toInt] at hcall25
      refine p_call_mk (av := [.ref 143, .int (S.2 (i + Int32.ofInt 1).toNatClampNeg), .int (S.2 (i + Int32.ofInt 2).toNatClampNeg), .int (Int32.ofInt 0)]) (rest := []) mt_333 rfl (by decide) (show (c + 5) + 0 ≤ 601024 by omega) (show (s + 30) + 0 ≤ 7293033 by omega) (fun _ => ⟨143, gs24, rfl, gs24g⟩) ?_
      refine hC _ _ _ _ _ ?_ hcall25
      rintro _ h21 ⟨hL22, r23, rfl⟩
      show Vx (Ex S 24) S M_368 [] Q1 1650 (px_s1 lv 5 (.int r19)) [.int r23] h21 (c + 5) (s + 30)
      refine Vx.go hC te_368_1650 ?_
      refine ⟨by decide, ?_⟩
      have hl26 := LwS.st (j := 6) (v := .int r23) (by omega) hl20
      show Vx (Ex S 24) S M_368 [] Q1 1652 (px_s1 (px_s1 lv 5 (.int r19)) 6 (.int r23)) [] h21 (c + 5) (s + 30)
      refine Vx.go hC te_368_1652 ?_
      refine ⟨by decide, ?_⟩
      exact Nx _ _ _ _ hl26 hL22 (by omega) (by omega)
    · show Vx (Ex S 24) S M_368 [] Q1 1642 (px_s1 lv 5 (.int r19)) [.int (S.2 (i + Int32.ofInt 2).toNatClampNeg), .int (S.2 (i + Int32.ofInt 1).toNatClampNeg), .ref 143] h17 (c + 5) (s + 30)
      refine Vx.go hC te_368_1642 ?_
      refine Vx.go hC te_368_1643 ?_
      refine ⟨by decide, ?_⟩
      show Vx (Ex S 24) S M_368 [] Q1 1647 (px_s1 lv 5 (.int r19)) [.int (Int32.ofInt 1), .int (S.2 (i + Int32.ofInt 2).toNatClampNeg), .int (S.2 (i + Int32.ofInt 1).toNatClampNeg), .ref 143] h17 (c + 5) (s + 30)
      refine Vx.go hC te_368_1647 ?_
      obtain ⟨gs30, gs30g⟩ := hL18.obj (A := 143) rfl
      have hcall31 := ref_call (S := S) (n := 24) (μ := 333) (args := [.inr 143, .inl ((S.2 (i + Int32.ofInt 1).toNatClampNeg) : Int32).toInt, .inl ((S.2 (i + Int32.ofInt 2).toNatClampNeg) : Int32).toInt, .inl ((Int32.ofInt 1) : Int32).toInt]) (h := h17) (fun v hv => by simp only [List.mem_cons, List.not_mem_nil, or_false] at hv; rcases hv with rfl | rfl | rfl | rfl <;> first | trivial | exact wiI _) hL18 (fun mem hr => f_333 hr (fun r m' a b => ⟨a, b⟩))
      simp only [List.map_cons, List.map_nil, wv, Int32.ofInt_toInt] at hcall31
      refine p_call_mk (av := [.ref 143, .int (S.2 (i + Int32.ofInt 1).toNatClampNeg), .int (S.2 (i + Int32.ofInt 2).toNatClampNeg), .int (Int32.ofInt 1)]) (rest := []) mt_333 rfl (by decide) (show (c + 5) + 0 ≤ 601024 by omega) (show (s + 30) + 0 ≤ 7293033 by omega) (fun _ => ⟨143, gs30, rfl, gs30g⟩) ?_
      refine hC _ _ _ _ _ ?_ hcall31
      rintro _ h27 ⟨hL28, r29, rfl⟩
      show Vx (Ex S 24) S M_368 [] Q1 1650 (px_s1 lv 5 (.int r19)) [.int r29] h27 (c + 5) (s + 30)
      refine Vx.go hC te_368_1650 ?_
      refine ⟨by decide, ?_⟩
      have hl32 := LwS.st (j := 6) (v := .int r29) (by omega) hl20
      show Vx (Ex S 24) S M_368 [] Q1 1652 (px_s1 (px_s1 lv 5 (.int r19)) 6 (.int r29)) [] h27 (c + 5) (s + 30)
      refine Vx.go hC te_368_1652 ?_
      refine ⟨by decide, ?_⟩
      exact Nx _ _ _ _ hl32 hL28 (by omega) (by omega)
theorem lc_31 {S : Nat × (Nat → Int32)} {lv : LV} {h : PH} {c s : Nat} {i : Int32} (hS : S.1 ≤ 3072) (hl : LwS lv i) (hi : 0 ≤ i.toInt ∧ i.toInt + 5 < S.1) (hL : LR h) (hc : c + 8 ≤ 601024) (hs : s + 48 ≤ 7293033) (Nx : ∀ lv' h' c' s', LwS lv' i → LR h' → c' ≤ c + 8 → s' ≤ s + 48 → Vx (Ex S 24) S M_368 [] Q1 2344 lv' [] h' c' s') : Vx (Ex S 24) S M_368 [] Q1 1655 lv [] h c s := by
  have hC := Ex.mono S 24
  refine Vx.go hC te_368_1655 ?_
  refine ⟨_, hl.2.1, ⟨0, Or.inl rfl⟩, ?_⟩
  refine sc_load hC (k := 1) hl te_368_1656 te_368_1657 te_368_1659 te_368_1660 te_368_1661 (sc_in hS hi (by decide)) ?_
  refine Vx.go hC te_368_1662 ?_
  refine ⟨_, hl.2.2.2.1, ⟨173, Or.inl rfl⟩, ?_⟩
  refine Vx.go hC te_368_1663 ?_
  refine Or.inr ⟨by decide, ?_⟩
  refine p_call_mk (av := [.ref 0, .int (S.2 (i + Int32.ofInt 1).toNatClampNeg), .ref 173]) (rest := []) mt_177 rfl (by decide) (show c + 3 ≤ 601024 by omega) (show s + 18 ≤ 7293033 by omega) (fun q => by cases q) ?_
  refine g_177 (n := 6) hL (fun r3 h1 hL2 => ?_)
  show Vx (Ex S 24) S M_368 [] Q1 1666 lv [.int r3] h1 (c + 3) (s + 18)
  refine Vx.go hC te_368_1666 ?_
  refine ⟨by decide, ?_⟩
  have hl4 := LwS.st (j := 5) (v := .int r3) (by omega) hl
  show Vx (Ex S 24) S M_368 [] Q1 1668 (px_s1 lv 5 (.int r3)) [] h1 (c + 3) (s + 18)
  refine Vx.go hC te_368_1668 ?_
  refine ⟨_, hl4.2.2.1, ⟨143, Or.inl rfl⟩, ?_⟩
  refine sc_load hC (k := 1) hl4 te_368_1669 te_368_1670 te_368_1672 te_368_1673 te_368_1674 (sc_in hS hi (by decide)) ?_
  refine Vx.go hC te_368_1675 ?_
  obtain ⟨gs8, gs8g⟩ := hL2.obj (A := 143) rfl
  have hcall9 := ref_call (S := S) (n := 24) (μ := 337) (args := [.inr 143, .inl ((S.2 (i + Int32.ofInt 1).toNatClampNeg) : Int32).toInt]) (h := h1) (fun v hv => by simp only [List.mem_cons, List.not_mem_nil, or_false] at hv; rcases hv with rfl | rfl <;> first | trivial | exact wiI _) hL2 (fun mem hr => f_337 hr (fun r m' a b => ⟨a, b⟩))
  simp only [List.map_cons, List.map_nil, wv, Int32.ofInt_toInt] at hcall9
  refine p_call_mk (av := [.ref 143, .int (S.2 (i + Int32.ofInt 1).toNatClampNeg)]) (rest := []) mt_337 rfl (by decide) (show (c + 3) + 0 ≤ 601024 by omega) (show (s + 18) + 0 ≤ 7293033 by omega) (fun _ => ⟨143, gs8, rfl, gs8g⟩) ?_
  refine hC _ _ _ _ _ ?_ hcall9
  rintro _ h5 ⟨hL6, r7, rfl⟩
  show Vx (Ex S 24) S M_368 [] Q1 1678 (px_s1 lv 5 (.int r3)) [.int r7] h5 (c + 3) (s + 18)
  refine Vx.go hC te_368_1678 ?_
  refine ⟨by decide, ?_⟩
  have hl10 := LwS.st (j := 6) (v := .int r7) (by omega) hl4
  show Vx (Ex S 24) S M_368 [] Q1 1680 (px_s1 (px_s1 lv 5 (.int r3)) 6 (.int r7)) [] h5 (c + 3) (s + 18)
  refine Vx.go hC te_368_1680 ?_
  refine ⟨by decide, ?_⟩
  exact Nx _ _ _ _ hl10 hL6 (by omega) (by omega)
theorem lc_32 {S : Nat × (Nat → Int32)} {lv : LV} {h : PH} {c s : Nat} {i : Int32} (hS : S.1 ≤ 3072) (hl : LwS lv i) (hi : 0 ≤ i.toInt ∧ i.toInt + 5 < S.1) (hL : LR h) (hc : c + 8 ≤ 601024) (hs : s + 48 ≤ 7293033) (Nx : ∀ lv' h' c' s', LwS lv' i → LR h' → c' ≤ c + 8 → s' ≤ s + 48 → Vx (Ex S 24) S M_368 [] Q1 2344 lv' [] h' c' s') : Vx (Ex S 24) S M_368 [] Q1 1683 lv [] h c s := by
  have hC := Ex.mono S 24
  refine Vx.go hC te_368_1683 ?_
  refine ⟨_, hl.2.1, ⟨0, Or.inl rfl⟩, ?_⟩
  refine sc_load hC (k := 1) hl te_368_1684 te_368_1685 te_368_1687 te_368_1688 te_368_1689 (sc_in hS hi (by decide)) ?_
  refine sc_load hC (k := 2) hl te_368_1690 te_368_1691 te_368_1693 te_368_1694 te_368_1695 (sc_in hS hi (by decide)) ?_
  refine sc_load hC (k := 3) hl te_368_1696 te_368_1697 te_368_1699 te_368_1700 te_368_1701 (sc_in hS hi (by decide)) ?_
  refine Vx.go hC te_368_1702 ?_
  refine ⟨_, hl.2.2.2.1, ⟨173, Or.inl rfl⟩, ?_⟩
  refine Vx.go hC te_368_1703 ?_
  refine Or.inr ⟨by decide, ?_⟩
  refine p_call_mk (av := [.ref 0, .int (S.2 (i + Int32.ofInt 1).toNatClampNeg), .int (S.2 (i + Int32.ofInt 2).toNatClampNeg), .int (S.2 (i + Int32.ofInt 3).toNatClampNeg), .ref 173]) (rest := []) mt_182 rfl (by decide) (show c + 6 ≤ 601024 by omega) (show s + 36 ≤ 7293033 by omega) (fun q => by cases q) ?_
  refine g_182 (n := 6) hL (fun r3 h1 hL2 => ?_)
  show Vx (Ex S 24) S M_368 [] Q1 1706 lv [.int r3] h1 (c + 6) (s + 36)
  refine Vx.go hC te_368_1706 ?_
  refine ⟨by decide, ?_⟩
  have hl4 := LwS.st (j := 5) (v := .int r3) (by omega) hl
  show Vx (Ex S 24) S M_368 [] Q1 1708 (px_s1 lv 5 (.int r3)) [] h1 (c + 6) (s + 36)
  refine Vx.go hC te_368_1708 ?_
  refine ⟨_, hl4.2.2.1, ⟨143, Or.inl rfl⟩, ?_⟩
  refine sc_load hC (k := 1) hl4 te_368_1709 te_368_1710 te_368_1712 te_368_1713 te_368_1714 (sc_in hS hi (by decide)) ?_
  refine sc_load hC (k := 2) hl4 te_368_1715 te_368_1716 te_368_1718 te_368_1719 te_368_1720 (sc_in hS hi (by decide)) ?_
  refine sc_load hC (k := 3) hl4 te_368_1721 te_368_1722 te_368_1724 te_368_1725 te_368_1726 (sc_in hS hi (by decide)) ?_
  refine Vx.go hC te_368_1727 ?_
  obtain ⟨gs8, gs8g⟩ := hL2.obj (A := 143) rfl
  have hcall9 := ref_call (S := S) (n := 24) (μ := 342) (args := [.inr 143, .inl ((S.2 (i + Int32.ofInt 1).toNatClampNeg) : Int32).toInt, .inl ((S.2 (i + Int32.ofInt 2).toNatClampNeg) : Int32).toInt, .inl ((S.2 (i + Int32.ofInt 3).toNatClampNeg) : Int32).toInt]) (h := h1) (fun v hv => by simp only [List.mem_cons, List.not_mem_nil, or_false] at hv; rcases hv with rfl | rfl | rfl | rfl <;> first | trivial | exact wiI _) hL2 (fun mem hr => f_342 hr (fun r m' a b => ⟨a, b⟩))
  simp only [List.map_cons, List.map_nil, wv, Int32.ofInt_toInt] at hcall9
  refine p_call_mk (av := [.ref 143, .int (S.2 (i + Int32.ofInt 1).toNatClampNeg), .int (S.2 (i + Int32.ofInt 2).toNatClampNeg), .int (S.2 (i + Int32.ofInt 3).toNatClampNeg)]) (rest := []) mt_342 rfl (by decide) (show (c + 6) + 0 ≤ 601024 by omega) (show (s + 36) + 0 ≤ 7293033 by omega) (fun _ => ⟨143, gs8, rfl, gs8g⟩) ?_
  refine hC _ _ _ _ _ ?_ hcall9
  rintro _ h5 ⟨hL6, r7, rfl⟩
  show Vx (Ex S 24) S M_368 [] Q1 1730 (px_s1 lv 5 (.int r3)) [.int r7] h5 (c + 6) (s + 36)
  refine Vx.go hC te_368_1730 ?_
  refine ⟨by decide, ?_⟩
  have hl10 := LwS.st (j := 6) (v := .int r7) (by omega) hl4
  show Vx (Ex S 24) S M_368 [] Q1 1732 (px_s1 (px_s1 lv 5 (.int r3)) 6 (.int r7)) [] h5 (c + 6) (s + 36)
  refine Vx.go hC te_368_1732 ?_
  refine ⟨by decide, ?_⟩
  exact Nx _ _ _ _ hl10 hL6 (by omega) (by omega)
theorem lc_33 {S : Nat × (Nat → Int32)} {lv : LV} {h : PH} {c s : Nat} {i : Int32} (hS : S.1 ≤ 3072) (hl : LwS lv i) (hi : 0 ≤ i.toInt ∧ i.toInt + 5 < S.1) (hL : LR h) (hc : c + 8 ≤ 601024) (hs : s + 48 ≤ 7293033) (Nx : ∀ lv' h' c' s', LwS lv' i → LR h' → c' ≤ c + 8 → s' ≤ s + 48 → Vx (Ex S 24) S M_368 [] Q1 2344 lv' [] h' c' s') : Vx (Ex S 24) S M_368 [] Q1 1735 lv [] h c s := by
  have hC := Ex.mono S 24
  refine Vx.go hC te_368_1735 ?_
  refine ⟨_, hl.2.1, ⟨0, Or.inl rfl⟩, ?_⟩
  refine sc_load hC (k := 1) hl te_368_1736 te_368_1737 te_368_1739 te_368_1740 te_368_1741 (sc_in hS hi (by decide)) ?_
  refine sc_load hC (k := 2) hl te_368_1742 te_368_1743 te_368_1745 te_368_1746 te_368_1747 (sc_in hS hi (by decide)) ?_
  refine sc_load hC (k := 3) hl te_368_1748 te_368_1749 te_368_1751 te_368_1752 te_368_1753 (sc_in hS hi (by decide)) ?_
  refine sc_load hC (k := 4) hl te_368_1754 te_368_1755 te_368_1757 te_368_1758 te_368_1759 (sc_in hS hi (by decide)) ?_
  refine sc_load hC (k := 5) hl te_368_1760 te_368_1761 te_368_1763 te_368_1764 te_368_1765 (sc_in hS hi (by decide)) ?_
  refine Vx.go hC te_368_1766 ?_
  refine ⟨_, hl.2.2.2.1, ⟨173, Or.inl rfl⟩, ?_⟩
  refine Vx.go hC te_368_1767 ?_
  refine Or.inr ⟨by decide, ?_⟩
  refine p_call_mk (av := [.ref 0, .int (S.2 (i + Int32.ofInt 1).toNatClampNeg), .int (S.2 (i + Int32.ofInt 2).toNatClampNeg), .int (S.2 (i + Int32.ofInt 3).toNatClampNeg), .int (S.2 (i + Int32.ofInt 4).toNatClampNeg), .int (S.2 (i + Int32.ofInt 5).toNatClampNeg), .ref 173]) (rest := []) mt_184 rfl (by decide) (show c + 8 ≤ 601024 by omega) (show s + 48 ≤ 7293033 by omega) (fun q => by cases q) ?_
  refine g_184 (n := 6) hL (fun r3 h1 hL2 => ?_)
  show Vx (Ex S 24) S M_368 [] Q1 1770 lv [.int r3] h1 (c + 8) (s + 48)
  refine Vx.go hC te_368_1770 ?_
  refine ⟨by decide, ?_⟩
  have hl4 := LwS.st (j := 5) (v := .int r3) (by omega) hl
  show Vx (Ex S 24) S M_368 [] Q1 1772 (px_s1 lv 5 (.int r3)) [] h1 (c + 8) (s + 48)
  refine Vx.go hC te_368_1772 ?_
  refine ⟨_, hl4.2.2.1, ⟨143, Or.inl rfl⟩, ?_⟩
  refine sc_load hC (k := 1) hl4 te_368_1773 te_368_1774 te_368_1776 te_368_1777 te_368_1778 (sc_in hS hi (by decide)) ?_
  refine sc_load hC (k := 2) hl4 te_368_1779 te_368_1780 te_368_1782 te_368_1783 te_368_1784 (sc_in hS hi (by decide)) ?_
  refine sc_load hC (k := 3) hl4 te_368_1785 te_368_1786 te_368_1788 te_368_1789 te_368_1790 (sc_in hS hi (by decide)) ?_
  refine sc_load hC (k := 4) hl4 te_368_1791 te_368_1792 te_368_1794 te_368_1795 te_368_1796 (sc_in hS hi (by decide)) ?_
  refine sc_load hC (k := 5) hl4 te_368_1797 te_368_1798 te_368_1800 te_368_1801 te_368_1802 (sc_in hS hi (by decide)) ?_
  refine Vx.go hC te_368_1803 ?_
  obtain ⟨gs8, gs8g⟩ := hL2.obj (A := 143) rfl
  have hcall9 := ref_call (S := S) (n := 24) (μ := 326) (args := [.inr 143, .inl ((S.2 (i + Int32.ofInt 1).toNatClampNeg) : Int32).toInt, .inl ((S.2 (i + Int32.ofInt 2).toNatClampNeg) : Int32).toInt, .inl ((S.2 (i + Int32.ofInt 3).toNatClampNeg) : Int32).toInt, .inl ((S.2 (i + Int32.ofInt 4).toNatClampNeg) : Int32).toInt, .inl ((S.2 (i + Int32.ofInt 5).toNatClampNeg) : Int32).toInt]) (h := h1) (fun v hv => by simp only [List.mem_cons, List.not_mem_nil, or_false] at hv; rcases hv with rfl | rfl | rfl | rfl | rfl | rfl <;> first | trivial | exact wiI _) hL2 (fun mem hr => f_326 hr (fun r m' a b => ⟨a, b⟩))
  simp only [List.map_cons, List.map_nil, wv, Int32.ofInt_toInt] at hcall9
  refine p_call_mk (av := [.ref 143, .int (S.2 (i + Int32.ofInt 1).toNatClampNeg), .int (S.2 (i + Int32.ofInt 2).toNatClampNeg), .int (S.2 (i + Int32.ofInt 3).toNatClampNeg), .int (S.2 (i + Int32.ofInt 4).toNatClampNeg), .int (S.2 (i + Int32.ofInt 5).toNatClampNeg)]) (rest := []) mt_326 rfl (by decide) (show (c + 8) + 0 ≤ 601024 by omega) (show (s + 48) + 0 ≤ 7293033 by omega) (fun _ => ⟨143, gs8, rfl, gs8g⟩) ?_
  refine hC _ _ _ _ _ ?_ hcall9
  rintro _ h5 ⟨hL6, r7, rfl⟩
  show Vx (Ex S 24) S M_368 [] Q1 1806 (px_s1 lv 5 (.int r3)) [.int r7] h5 (c + 8) (s + 48)
  refine Vx.go hC te_368_1806 ?_
  refine ⟨by decide, ?_⟩
  have hl10 := LwS.st (j := 6) (v := .int r7) (by omega) hl4
  show Vx (Ex S 24) S M_368 [] Q1 1808 (px_s1 (px_s1 lv 5 (.int r3)) 6 (.int r7)) [] h5 (c + 8) (s + 48)
  refine Vx.go hC te_368_1808 ?_
  refine ⟨by decide, ?_⟩
  exact Nx _ _ _ _ hl10 hL6 (by omega) (by omega)
/-! laid by wip/hand/lw.py: cases of the law -/
theorem te_368_1811 : (pT M_368).find? (fun e => e.1 == 1811) = some (1811, .aload_n 1, 0, 0) := (sk_94 1811 rfl).trans rfl
theorem te_368_1812 : (pT M_368).find? (fun e => e.1 == 1812) = some (1812, .aload_n 0, 0, 0) := (sk_94 1812 rfl).trans rfl
theorem te_368_1813 : (pT M_368).find? (fun e => e.1 == 1813) = some (1813, .iload 4, 0, 0) := (sk_94 1813 rfl).trans rfl
theorem te_368_1815 : (pT M_368).find? (fun e => e.1 == 1815) = some (1815, .iconst 1, 0, 0) := (sk_94 1815 rfl).trans rfl
theorem te_368_1816 : (pT M_368).find? (fun e => e.1 == 1816) = some (1816, .iadd, 0, 0) := (sk_94 1816 rfl).trans rfl
theorem te_368_1817 : (pT M_368).find? (fun e => e.1 == 1817) = some (1817, .iaload, 0, 0) := (sk_94 1817 rfl).trans rfl
theorem te_368_1818 : (pT M_368).find? (fun e => e.1 == 1818) = some (1818, .ifCond .eq 7, 0, 0) := (sk_94 1818 rfl).trans rfl
theorem te_368_1821 : (pT M_368).find? (fun e => e.1 == 1821) = some (1821, .iconst 1, 0, 0) := (sk_94 1821 rfl).trans rfl
theorem te_368_1822 : (pT M_368).find? (fun e => e.1 == 1822) = some (1822, .goto 4, 0, 0) := (sk_94 1822 rfl).trans rfl
theorem te_368_1825 : (pT M_368).find? (fun e => e.1 == 1825) = some (1825, .iconst 0, 0, 0) := (sk_94 1825 rfl).trans rfl
theorem te_368_1826 : (pT M_368).find? (fun e => e.1 == 1826) = some (1826, .aload_n 3, 0, 0) := (sk_94 1826 rfl).trans rfl
theorem te_368_1827 : (pT M_368).find? (fun e => e.1 == 1827) = some (1827, .invokestatic 293, 187, 8) := (sk_94 1827 rfl).trans rfl
theorem te_368_1830 : (pT M_368).find? (fun e => e.1 == 1830) = some (1830, .istore 5, 0, 0) := (sk_95 1830 rfl).trans rfl
theorem te_368_1832 : (pT M_368).find? (fun e => e.1 == 1832) = some (1832, .aload_n 2, 0, 0) := (sk_95 1832 rfl).trans rfl
theorem te_368_1833 : (pT M_368).find? (fun e => e.1 == 1833) = some (1833, .aload_n 0, 0, 0) := (sk_95 1833 rfl).trans rfl
theorem te_368_1834 : (pT M_368).find? (fun e => e.1 == 1834) = some (1834, .iload 4, 0, 0) := (sk_95 1834 rfl).trans rfl
theorem te_368_1836 : (pT M_368).find? (fun e => e.1 == 1836) = some (1836, .iconst 1, 0, 0) := (sk_95 1836 rfl).trans rfl
theorem te_368_1837 : (pT M_368).find? (fun e => e.1 == 1837) = some (1837, .iadd, 0, 0) := (sk_95 1837 rfl).trans rfl
theorem te_368_1838 : (pT M_368).find? (fun e => e.1 == 1838) = some (1838, .iaload, 0, 0) := (sk_95 1838 rfl).trans rfl
theorem te_368_1839 : (pT M_368).find? (fun e => e.1 == 1839) = some (1839, .ifCond .eq 7, 0, 0) := (sk_95 1839 rfl).trans rfl
theorem te_368_1842 : (pT M_368).find? (fun e => e.1 == 1842) = some (1842, .iconst 1, 0, 0) := (sk_95 1842 rfl).trans rfl
theorem te_368_1843 : (pT M_368).find? (fun e => e.1 == 1843) = some (1843, .goto 4, 0, 0) := (sk_95 1843 rfl).trans rfl
theorem te_368_1846 : (pT M_368).find? (fun e => e.1 == 1846) = some (1846, .iconst 0, 0, 0) := (sk_95 1846 rfl).trans rfl
theorem te_368_1847 : (pT M_368).find? (fun e => e.1 == 1847) = some (1847, .invokevirtual 296, 343, 0) := (sk_95 1847 rfl).trans rfl
theorem te_368_1850 : (pT M_368).find? (fun e => e.1 == 1850) = some (1850, .istore 6, 0, 0) := (sk_96 1850 rfl).trans rfl
theorem te_368_1852 : (pT M_368).find? (fun e => e.1 == 1852) = some (1852, .goto 492, 0, 0) := (sk_96 1852 rfl).trans rfl
theorem te_368_1855 : (pT M_368).find? (fun e => e.1 == 1855) = some (1855, .aload_n 1, 0, 0) := (sk_96 1855 rfl).trans rfl
theorem te_368_1856 : (pT M_368).find? (fun e => e.1 == 1856) = some (1856, .aload_n 3, 0, 0) := (sk_96 1856 rfl).trans rfl
theorem te_368_1857 : (pT M_368).find? (fun e => e.1 == 1857) = some (1857, .invokestatic 297, 189, 8) := (sk_96 1857 rfl).trans rfl
theorem te_368_1860 : (pT M_368).find? (fun e => e.1 == 1860) = some (1860, .istore 5, 0, 0) := (sk_96 1860 rfl).trans rfl
theorem te_368_1862 : (pT M_368).find? (fun e => e.1 == 1862) = some (1862, .aload_n 2, 0, 0) := (sk_96 1862 rfl).trans rfl
theorem te_368_1863 : (pT M_368).find? (fun e => e.1 == 1863) = some (1863, .invokevirtual 299, 348, 0) := (sk_96 1863 rfl).trans rfl
theorem te_368_1866 : (pT M_368).find? (fun e => e.1 == 1866) = some (1866, .istore 6, 0, 0) := (sk_96 1866 rfl).trans rfl
theorem te_368_1868 : (pT M_368).find? (fun e => e.1 == 1868) = some (1868, .goto 476, 0, 0) := (sk_96 1868 rfl).trans rfl
theorem te_368_1871 : (pT M_368).find? (fun e => e.1 == 1871) = some (1871, .aload_n 1, 0, 0) := (sk_96 1871 rfl).trans rfl
theorem te_368_1872 : (pT M_368).find? (fun e => e.1 == 1872) = some (1872, .aload_n 0, 0, 0) := (sk_96 1872 rfl).trans rfl
theorem te_368_1873 : (pT M_368).find? (fun e => e.1 == 1873) = some (1873, .iload 4, 0, 0) := (sk_97 1873 rfl).trans rfl
theorem te_368_1875 : (pT M_368).find? (fun e => e.1 == 1875) = some (1875, .iconst 1, 0, 0) := (sk_97 1875 rfl).trans rfl
theorem te_368_1876 : (pT M_368).find? (fun e => e.1 == 1876) = some (1876, .iadd, 0, 0) := (sk_97 1876 rfl).trans rfl
theorem te_368_1877 : (pT M_368).find? (fun e => e.1 == 1877) = some (1877, .iaload, 0, 0) := (sk_97 1877 rfl).trans rfl
theorem te_368_1878 : (pT M_368).find? (fun e => e.1 == 1878) = some (1878, .aload_n 3, 0, 0) := (sk_97 1878 rfl).trans rfl
theorem te_368_1879 : (pT M_368).find? (fun e => e.1 == 1879) = some (1879, .invokestatic 300, 191, 8) := (sk_97 1879 rfl).trans rfl
theorem te_368_1882 : (pT M_368).find? (fun e => e.1 == 1882) = some (1882, .istore 5, 0, 0) := (sk_97 1882 rfl).trans rfl
theorem te_368_1884 : (pT M_368).find? (fun e => e.1 == 1884) = some (1884, .aload_n 2, 0, 0) := (sk_97 1884 rfl).trans rfl
theorem te_368_1885 : (pT M_368).find? (fun e => e.1 == 1885) = some (1885, .aload_n 0, 0, 0) := (sk_97 1885 rfl).trans rfl
theorem te_368_1886 : (pT M_368).find? (fun e => e.1 == 1886) = some (1886, .iload 4, 0, 0) := (sk_97 1886 rfl).trans rfl
theorem te_368_1888 : (pT M_368).find? (fun e => e.1 == 1888) = some (1888, .iconst 1, 0, 0) := (sk_97 1888 rfl).trans rfl
theorem te_368_1889 : (pT M_368).find? (fun e => e.1 == 1889) = some (1889, .iadd, 0, 0) := (sk_97 1889 rfl).trans rfl
theorem te_368_1890 : (pT M_368).find? (fun e => e.1 == 1890) = some (1890, .iaload, 0, 0) := (sk_98 1890 rfl).trans rfl
theorem te_368_1891 : (pT M_368).find? (fun e => e.1 == 1891) = some (1891, .invokevirtual 302, 349, 0) := (sk_98 1891 rfl).trans rfl
theorem te_368_1894 : (pT M_368).find? (fun e => e.1 == 1894) = some (1894, .istore 6, 0, 0) := (sk_98 1894 rfl).trans rfl
theorem te_368_1896 : (pT M_368).find? (fun e => e.1 == 1896) = some (1896, .goto 448, 0, 0) := (sk_98 1896 rfl).trans rfl
theorem te_368_1899 : (pT M_368).find? (fun e => e.1 == 1899) = some (1899, .aload_n 1, 0, 0) := (sk_98 1899 rfl).trans rfl
theorem te_368_1900 : (pT M_368).find? (fun e => e.1 == 1900) = some (1900, .aload_n 3, 0, 0) := (sk_98 1900 rfl).trans rfl
theorem te_368_1901 : (pT M_368).find? (fun e => e.1 == 1901) = some (1901, .invokestatic 303, 193, 8) := (sk_98 1901 rfl).trans rfl
theorem te_368_1904 : (pT M_368).find? (fun e => e.1 == 1904) = some (1904, .istore 5, 0, 0) := (sk_98 1904 rfl).trans rfl
theorem te_368_1906 : (pT M_368).find? (fun e => e.1 == 1906) = some (1906, .aload_n 2, 0, 0) := (sk_98 1906 rfl).trans rfl
theorem te_368_1907 : (pT M_368).find? (fun e => e.1 == 1907) = some (1907, .invokevirtual 305, 351, 0) := (sk_98 1907 rfl).trans rfl
theorem te_368_1910 : (pT M_368).find? (fun e => e.1 == 1910) = some (1910, .istore 6, 0, 0) := (sk_98 1910 rfl).trans rfl
theorem te_368_1912 : (pT M_368).find? (fun e => e.1 == 1912) = some (1912, .goto 432, 0, 0) := (sk_98 1912 rfl).trans rfl
theorem te_368_1915 : (pT M_368).find? (fun e => e.1 == 1915) = some (1915, .aload_n 1, 0, 0) := (sk_99 1915 rfl).trans rfl
theorem te_368_1916 : (pT M_368).find? (fun e => e.1 == 1916) = some (1916, .aload_n 0, 0, 0) := (sk_99 1916 rfl).trans rfl
theorem te_368_1917 : (pT M_368).find? (fun e => e.1 == 1917) = some (1917, .iload 4, 0, 0) := (sk_99 1917 rfl).trans rfl
theorem te_368_1919 : (pT M_368).find? (fun e => e.1 == 1919) = some (1919, .iconst 1, 0, 0) := (sk_99 1919 rfl).trans rfl
theorem te_368_1920 : (pT M_368).find? (fun e => e.1 == 1920) = some (1920, .iadd, 0, 0) := (sk_99 1920 rfl).trans rfl
theorem te_368_1921 : (pT M_368).find? (fun e => e.1 == 1921) = some (1921, .iaload, 0, 0) := (sk_99 1921 rfl).trans rfl
theorem te_368_1922 : (pT M_368).find? (fun e => e.1 == 1922) = some (1922, .aload_n 3, 0, 0) := (sk_99 1922 rfl).trans rfl
theorem te_368_1923 : (pT M_368).find? (fun e => e.1 == 1923) = some (1923, .invokestatic 306, 195, 8) := (sk_99 1923 rfl).trans rfl
theorem te_368_1926 : (pT M_368).find? (fun e => e.1 == 1926) = some (1926, .istore 5, 0, 0) := (sk_99 1926 rfl).trans rfl
theorem te_368_1928 : (pT M_368).find? (fun e => e.1 == 1928) = some (1928, .aload_n 2, 0, 0) := (sk_99 1928 rfl).trans rfl
theorem te_368_1929 : (pT M_368).find? (fun e => e.1 == 1929) = some (1929, .aload_n 0, 0, 0) := (sk_99 1929 rfl).trans rfl
theorem te_368_1930 : (pT M_368).find? (fun e => e.1 == 1930) = some (1930, .iload 4, 0, 0) := (sk_99 1930 rfl).trans rfl
theorem te_368_1932 : (pT M_368).find? (fun e => e.1 == 1932) = some (1932, .iconst 1, 0, 0) := (sk_100 1932 rfl).trans rfl
theorem te_368_1933 : (pT M_368).find? (fun e => e.1 == 1933) = some (1933, .iadd, 0, 0) := (sk_100 1933 rfl).trans rfl
theorem te_368_1934 : (pT M_368).find? (fun e => e.1 == 1934) = some (1934, .iaload, 0, 0) := (sk_100 1934 rfl).trans rfl
theorem te_368_1935 : (pT M_368).find? (fun e => e.1 == 1935) = some (1935, .invokevirtual 308, 352, 0) := (sk_100 1935 rfl).trans rfl
theorem te_368_1938 : (pT M_368).find? (fun e => e.1 == 1938) = some (1938, .istore 6, 0, 0) := (sk_100 1938 rfl).trans rfl
theorem te_368_1940 : (pT M_368).find? (fun e => e.1 == 1940) = some (1940, .goto 404, 0, 0) := (sk_100 1940 rfl).trans rfl
theorem te_368_1943 : (pT M_368).find? (fun e => e.1 == 1943) = some (1943, .aload_n 1, 0, 0) := (sk_100 1943 rfl).trans rfl
theorem te_368_1944 : (pT M_368).find? (fun e => e.1 == 1944) = some (1944, .aload_n 0, 0, 0) := (sk_100 1944 rfl).trans rfl
theorem te_368_1945 : (pT M_368).find? (fun e => e.1 == 1945) = some (1945, .iload 4, 0, 0) := (sk_100 1945 rfl).trans rfl
theorem te_368_1947 : (pT M_368).find? (fun e => e.1 == 1947) = some (1947, .iconst 1, 0, 0) := (sk_100 1947 rfl).trans rfl
theorem te_368_1948 : (pT M_368).find? (fun e => e.1 == 1948) = some (1948, .iadd, 0, 0) := (sk_100 1948 rfl).trans rfl
theorem te_368_1949 : (pT M_368).find? (fun e => e.1 == 1949) = some (1949, .iaload, 0, 0) := (sk_100 1949 rfl).trans rfl
theorem te_368_1950 : (pT M_368).find? (fun e => e.1 == 1950) = some (1950, .aload_n 3, 0, 0) := (sk_101 1950 rfl).trans rfl
theorem te_368_1951 : (pT M_368).find? (fun e => e.1 == 1951) = some (1951, .invokestatic 309, 197, 8) := (sk_101 1951 rfl).trans rfl
theorem te_368_1954 : (pT M_368).find? (fun e => e.1 == 1954) = some (1954, .istore 5, 0, 0) := (sk_101 1954 rfl).trans rfl
theorem te_368_1956 : (pT M_368).find? (fun e => e.1 == 1956) = some (1956, .aload_n 2, 0, 0) := (sk_101 1956 rfl).trans rfl
theorem te_368_1957 : (pT M_368).find? (fun e => e.1 == 1957) = some (1957, .aload_n 0, 0, 0) := (sk_101 1957 rfl).trans rfl
theorem te_368_1958 : (pT M_368).find? (fun e => e.1 == 1958) = some (1958, .iload 4, 0, 0) := (sk_101 1958 rfl).trans rfl
theorem te_368_1960 : (pT M_368).find? (fun e => e.1 == 1960) = some (1960, .iconst 1, 0, 0) := (sk_101 1960 rfl).trans rfl
theorem te_368_1961 : (pT M_368).find? (fun e => e.1 == 1961) = some (1961, .iadd, 0, 0) := (sk_101 1961 rfl).trans rfl
theorem te_368_1962 : (pT M_368).find? (fun e => e.1 == 1962) = some (1962, .iaload, 0, 0) := (sk_101 1962 rfl).trans rfl
theorem te_368_1963 : (pT M_368).find? (fun e => e.1 == 1963) = some (1963, .invokevirtual 311, 355, 0) := (sk_101 1963 rfl).trans rfl
theorem te_368_1966 : (pT M_368).find? (fun e => e.1 == 1966) = some (1966, .istore 6, 0, 0) := (sk_101 1966 rfl).trans rfl
theorem te_368_1968 : (pT M_368).find? (fun e => e.1 == 1968) = some (1968, .goto 376, 0, 0) := (sk_101 1968 rfl).trans rfl
theorem te_368_1971 : (pT M_368).find? (fun e => e.1 == 1971) = some (1971, .aload_n 1, 0, 0) := (sk_102 1971 rfl).trans rfl
theorem te_368_1972 : (pT M_368).find? (fun e => e.1 == 1972) = some (1972, .aload_n 0, 0, 0) := (sk_102 1972 rfl).trans rfl
theorem te_368_1973 : (pT M_368).find? (fun e => e.1 == 1973) = some (1973, .iload 4, 0, 0) := (sk_102 1973 rfl).trans rfl
theorem te_368_1975 : (pT M_368).find? (fun e => e.1 == 1975) = some (1975, .iconst 1, 0, 0) := (sk_102 1975 rfl).trans rfl
theorem te_368_1976 : (pT M_368).find? (fun e => e.1 == 1976) = some (1976, .iadd, 0, 0) := (sk_102 1976 rfl).trans rfl
theorem te_368_1977 : (pT M_368).find? (fun e => e.1 == 1977) = some (1977, .iaload, 0, 0) := (sk_102 1977 rfl).trans rfl
theorem te_368_1978 : (pT M_368).find? (fun e => e.1 == 1978) = some (1978, .aload_n 0, 0, 0) := (sk_102 1978 rfl).trans rfl
theorem te_368_1979 : (pT M_368).find? (fun e => e.1 == 1979) = some (1979, .iload 4, 0, 0) := (sk_102 1979 rfl).trans rfl
theorem te_368_1981 : (pT M_368).find? (fun e => e.1 == 1981) = some (1981, .iconst 2, 0, 0) := (sk_102 1981 rfl).trans rfl
theorem te_368_1982 : (pT M_368).find? (fun e => e.1 == 1982) = some (1982, .iadd, 0, 0) := (sk_102 1982 rfl).trans rfl
theorem te_368_1983 : (pT M_368).find? (fun e => e.1 == 1983) = some (1983, .iaload, 0, 0) := (sk_102 1983 rfl).trans rfl
theorem te_368_1984 : (pT M_368).find? (fun e => e.1 == 1984) = some (1984, .aload_n 3, 0, 0) := (sk_102 1984 rfl).trans rfl
theorem te_368_1985 : (pT M_368).find? (fun e => e.1 == 1985) = some (1985, .invokestatic 312, 200, 8) := (sk_103 1985 rfl).trans rfl
theorem te_368_1988 : (pT M_368).find? (fun e => e.1 == 1988) = some (1988, .istore 5, 0, 0) := (sk_103 1988 rfl).trans rfl
theorem te_368_1990 : (pT M_368).find? (fun e => e.1 == 1990) = some (1990, .aload_n 2, 0, 0) := (sk_103 1990 rfl).trans rfl
theorem te_368_1991 : (pT M_368).find? (fun e => e.1 == 1991) = some (1991, .aload_n 0, 0, 0) := (sk_103 1991 rfl).trans rfl
theorem te_368_1992 : (pT M_368).find? (fun e => e.1 == 1992) = some (1992, .iload 4, 0, 0) := (sk_103 1992 rfl).trans rfl
theorem te_368_1994 : (pT M_368).find? (fun e => e.1 == 1994) = some (1994, .iconst 1, 0, 0) := (sk_103 1994 rfl).trans rfl
theorem te_368_1995 : (pT M_368).find? (fun e => e.1 == 1995) = some (1995, .iadd, 0, 0) := (sk_103 1995 rfl).trans rfl
theorem te_368_1996 : (pT M_368).find? (fun e => e.1 == 1996) = some (1996, .iaload, 0, 0) := (sk_103 1996 rfl).trans rfl
theorem te_368_1997 : (pT M_368).find? (fun e => e.1 == 1997) = some (1997, .aload_n 0, 0, 0) := (sk_103 1997 rfl).trans rfl
theorem te_368_1998 : (pT M_368).find? (fun e => e.1 == 1998) = some (1998, .iload 4, 0, 0) := (sk_103 1998 rfl).trans rfl
theorem te_368_2000 : (pT M_368).find? (fun e => e.1 == 2000) = some (2000, .iconst 2, 0, 0) := (sk_103 2000 rfl).trans rfl
theorem te_368_2001 : (pT M_368).find? (fun e => e.1 == 2001) = some (2001, .iadd, 0, 0) := (sk_103 2001 rfl).trans rfl
theorem te_368_2002 : (pT M_368).find? (fun e => e.1 == 2002) = some (2002, .iaload, 0, 0) := (sk_104 2002 rfl).trans rfl
theorem te_368_2003 : (pT M_368).find? (fun e => e.1 == 2003) = some (2003, .invokevirtual 314, 356, 0) := (sk_104 2003 rfl).trans rfl
theorem te_368_2006 : (pT M_368).find? (fun e => e.1 == 2006) = some (2006, .istore 6, 0, 0) := (sk_104 2006 rfl).trans rfl
theorem te_368_2008 : (pT M_368).find? (fun e => e.1 == 2008) = some (2008, .goto 336, 0, 0) := (sk_104 2008 rfl).trans rfl
theorem te_368_2011 : (pT M_368).find? (fun e => e.1 == 2011) = some (2011, .aload_n 1, 0, 0) := (sk_104 2011 rfl).trans rfl
theorem te_368_2012 : (pT M_368).find? (fun e => e.1 == 2012) = some (2012, .aload_n 0, 0, 0) := (sk_104 2012 rfl).trans rfl
theorem te_368_2013 : (pT M_368).find? (fun e => e.1 == 2013) = some (2013, .iload 4, 0, 0) := (sk_104 2013 rfl).trans rfl
theorem te_368_2015 : (pT M_368).find? (fun e => e.1 == 2015) = some (2015, .iconst 1, 0, 0) := (sk_104 2015 rfl).trans rfl
theorem te_368_2016 : (pT M_368).find? (fun e => e.1 == 2016) = some (2016, .iadd, 0, 0) := (sk_104 2016 rfl).trans rfl
theorem te_368_2017 : (pT M_368).find? (fun e => e.1 == 2017) = some (2017, .iaload, 0, 0) := (sk_104 2017 rfl).trans rfl
theorem te_368_2018 : (pT M_368).find? (fun e => e.1 == 2018) = some (2018, .aload_n 0, 0, 0) := (sk_104 2018 rfl).trans rfl
theorem te_368_2019 : (pT M_368).find? (fun e => e.1 == 2019) = some (2019, .iload 4, 0, 0) := (sk_104 2019 rfl).trans rfl
theorem te_368_2021 : (pT M_368).find? (fun e => e.1 == 2021) = some (2021, .iconst 2, 0, 0) := (sk_105 2021 rfl).trans rfl
theorem te_368_2022 : (pT M_368).find? (fun e => e.1 == 2022) = some (2022, .iadd, 0, 0) := (sk_105 2022 rfl).trans rfl
theorem te_368_2023 : (pT M_368).find? (fun e => e.1 == 2023) = some (2023, .iaload, 0, 0) := (sk_105 2023 rfl).trans rfl
theorem te_368_2024 : (pT M_368).find? (fun e => e.1 == 2024) = some (2024, .aload_n 0, 0, 0) := (sk_105 2024 rfl).trans rfl
theorem te_368_2025 : (pT M_368).find? (fun e => e.1 == 2025) = some (2025, .iload 4, 0, 0) := (sk_105 2025 rfl).trans rfl
theorem te_368_2027 : (pT M_368).find? (fun e => e.1 == 2027) = some (2027, .iconst 3, 0, 0) := (sk_105 2027 rfl).trans rfl
theorem te_368_2028 : (pT M_368).find? (fun e => e.1 == 2028) = some (2028, .iadd, 0, 0) := (sk_105 2028 rfl).trans rfl
theorem te_368_2029 : (pT M_368).find? (fun e => e.1 == 2029) = some (2029, .iaload, 0, 0) := (sk_105 2029 rfl).trans rfl
theorem te_368_2030 : (pT M_368).find? (fun e => e.1 == 2030) = some (2030, .ifCond .eq 7, 0, 0) := (sk_105 2030 rfl).trans rfl
theorem te_368_2033 : (pT M_368).find? (fun e => e.1 == 2033) = some (2033, .iconst 1, 0, 0) := (sk_105 2033 rfl).trans rfl
theorem te_368_2034 : (pT M_368).find? (fun e => e.1 == 2034) = some (2034, .goto 4, 0, 0) := (sk_105 2034 rfl).trans rfl
theorem te_368_2037 : (pT M_368).find? (fun e => e.1 == 2037) = some (2037, .iconst 0, 0, 0) := (sk_105 2037 rfl).trans rfl
theorem te_368_2038 : (pT M_368).find? (fun e => e.1 == 2038) = some (2038, .aload_n 3, 0, 0) := (sk_106 2038 rfl).trans rfl
theorem te_368_2039 : (pT M_368).find? (fun e => e.1 == 2039) = some (2039, .invokestatic 315, 202, 8) := (sk_106 2039 rfl).trans rfl
theorem te_368_2042 : (pT M_368).find? (fun e => e.1 == 2042) = some (2042, .istore 5, 0, 0) := (sk_106 2042 rfl).trans rfl
theorem te_368_2044 : (pT M_368).find? (fun e => e.1 == 2044) = some (2044, .aload_n 2, 0, 0) := (sk_106 2044 rfl).trans rfl
theorem te_368_2045 : (pT M_368).find? (fun e => e.1 == 2045) = some (2045, .aload_n 0, 0, 0) := (sk_106 2045 rfl).trans rfl
theorem te_368_2046 : (pT M_368).find? (fun e => e.1 == 2046) = some (2046, .iload 4, 0, 0) := (sk_106 2046 rfl).trans rfl
theorem te_368_2048 : (pT M_368).find? (fun e => e.1 == 2048) = some (2048, .iconst 1, 0, 0) := (sk_106 2048 rfl).trans rfl
theorem te_368_2049 : (pT M_368).find? (fun e => e.1 == 2049) = some (2049, .iadd, 0, 0) := (sk_106 2049 rfl).trans rfl
theorem te_368_2050 : (pT M_368).find? (fun e => e.1 == 2050) = some (2050, .iaload, 0, 0) := (sk_106 2050 rfl).trans rfl
theorem te_368_2051 : (pT M_368).find? (fun e => e.1 == 2051) = some (2051, .aload_n 0, 0, 0) := (sk_106 2051 rfl).trans rfl
theorem te_368_2052 : (pT M_368).find? (fun e => e.1 == 2052) = some (2052, .iload 4, 0, 0) := (sk_106 2052 rfl).trans rfl
theorem te_368_2054 : (pT M_368).find? (fun e => e.1 == 2054) = some (2054, .iconst 2, 0, 0) := (sk_106 2054 rfl).trans rfl
theorem te_368_2055 : (pT M_368).find? (fun e => e.1 == 2055) = some (2055, .iadd, 0, 0) := (sk_107 2055 rfl).trans rfl
theorem te_368_2056 : (pT M_368).find? (fun e => e.1 == 2056) = some (2056, .iaload, 0, 0) := (sk_107 2056 rfl).trans rfl
theorem te_368_2057 : (pT M_368).find? (fun e => e.1 == 2057) = some (2057, .aload_n 0, 0, 0) := (sk_107 2057 rfl).trans rfl
theorem te_368_2058 : (pT M_368).find? (fun e => e.1 == 2058) = some (2058, .iload 4, 0, 0) := (sk_107 2058 rfl).trans rfl
theorem te_368_2060 : (pT M_368).find? (fun e => e.1 == 2060) = some (2060, .iconst 3, 0, 0) := (sk_107 2060 rfl).trans rfl
theorem te_368_2061 : (pT M_368).find? (fun e => e.1 == 2061) = some (2061, .iadd, 0, 0) := (sk_107 2061 rfl).trans rfl
theorem te_368_2062 : (pT M_368).find? (fun e => e.1 == 2062) = some (2062, .iaload, 0, 0) := (sk_107 2062 rfl).trans rfl
theorem te_368_2063 : (pT M_368).find? (fun e => e.1 == 2063) = some (2063, .ifCond .eq 7, 0, 0) := (sk_107 2063 rfl).trans rfl
theorem te_368_2066 : (pT M_368).find? (fun e => e.1 == 2066) = some (2066, .iconst 1, 0, 0) := (sk_107 2066 rfl).trans rfl
theorem te_368_2067 : (pT M_368).find? (fun e => e.1 == 2067) = some (2067, .goto 4, 0, 0) := (sk_107 2067 rfl).trans rfl
theorem te_368_2070 : (pT M_368).find? (fun e => e.1 == 2070) = some (2070, .iconst 0, 0, 0) := (sk_107 2070 rfl).trans rfl
theorem te_368_2071 : (pT M_368).find? (fun e => e.1 == 2071) = some (2071, .invokevirtual 317, 359, 0) := (sk_107 2071 rfl).trans rfl
theorem te_368_2074 : (pT M_368).find? (fun e => e.1 == 2074) = some (2074, .istore 6, 0, 0) := (sk_108 2074 rfl).trans rfl
theorem te_368_2076 : (pT M_368).find? (fun e => e.1 == 2076) = some (2076, .goto 268, 0, 0) := (sk_108 2076 rfl).trans rfl
theorem te_368_2079 : (pT M_368).find? (fun e => e.1 == 2079) = some (2079, .aload_n 1, 0, 0) := (sk_108 2079 rfl).trans rfl
theorem te_368_2080 : (pT M_368).find? (fun e => e.1 == 2080) = some (2080, .aload_n 0, 0, 0) := (sk_108 2080 rfl).trans rfl
theorem te_368_2081 : (pT M_368).find? (fun e => e.1 == 2081) = some (2081, .iload 4, 0, 0) := (sk_108 2081 rfl).trans rfl
theorem te_368_2083 : (pT M_368).find? (fun e => e.1 == 2083) = some (2083, .iconst 1, 0, 0) := (sk_108 2083 rfl).trans rfl
theorem te_368_2084 : (pT M_368).find? (fun e => e.1 == 2084) = some (2084, .iadd, 0, 0) := (sk_108 2084 rfl).trans rfl
theorem te_368_2085 : (pT M_368).find? (fun e => e.1 == 2085) = some (2085, .iaload, 0, 0) := (sk_108 2085 rfl).trans rfl
theorem te_368_2086 : (pT M_368).find? (fun e => e.1 == 2086) = some (2086, .aload_n 0, 0, 0) := (sk_108 2086 rfl).trans rfl
theorem te_368_2087 : (pT M_368).find? (fun e => e.1 == 2087) = some (2087, .iload 4, 0, 0) := (sk_108 2087 rfl).trans rfl
theorem te_368_2089 : (pT M_368).find? (fun e => e.1 == 2089) = some (2089, .iconst 2, 0, 0) := (sk_108 2089 rfl).trans rfl
theorem te_368_2090 : (pT M_368).find? (fun e => e.1 == 2090) = some (2090, .iadd, 0, 0) := (sk_108 2090 rfl).trans rfl
theorem te_368_2091 : (pT M_368).find? (fun e => e.1 == 2091) = some (2091, .iaload, 0, 0) := (sk_109 2091 rfl).trans rfl
theorem te_368_2092 : (pT M_368).find? (fun e => e.1 == 2092) = some (2092, .aload_n 0, 0, 0) := (sk_109 2092 rfl).trans rfl
theorem te_368_2093 : (pT M_368).find? (fun e => e.1 == 2093) = some (2093, .iload 4, 0, 0) := (sk_109 2093 rfl).trans rfl
theorem te_368_2095 : (pT M_368).find? (fun e => e.1 == 2095) = some (2095, .iconst 3, 0, 0) := (sk_109 2095 rfl).trans rfl
theorem te_368_2096 : (pT M_368).find? (fun e => e.1 == 2096) = some (2096, .iadd, 0, 0) := (sk_109 2096 rfl).trans rfl
theorem te_368_2097 : (pT M_368).find? (fun e => e.1 == 2097) = some (2097, .iaload, 0, 0) := (sk_109 2097 rfl).trans rfl
theorem te_368_2098 : (pT M_368).find? (fun e => e.1 == 2098) = some (2098, .aload_n 3, 0, 0) := (sk_109 2098 rfl).trans rfl
theorem te_368_2099 : (pT M_368).find? (fun e => e.1 == 2099) = some (2099, .invokestatic 318, 206, 8) := (sk_109 2099 rfl).trans rfl
theorem te_368_2102 : (pT M_368).find? (fun e => e.1 == 2102) = some (2102, .istore 5, 0, 0) := (sk_109 2102 rfl).trans rfl
theorem te_368_2104 : (pT M_368).find? (fun e => e.1 == 2104) = some (2104, .aload_n 2, 0, 0) := (sk_109 2104 rfl).trans rfl
theorem te_368_2105 : (pT M_368).find? (fun e => e.1 == 2105) = some (2105, .aload_n 0, 0, 0) := (sk_109 2105 rfl).trans rfl
theorem te_368_2106 : (pT M_368).find? (fun e => e.1 == 2106) = some (2106, .iload 4, 0, 0) := (sk_109 2106 rfl).trans rfl
theorem te_368_2108 : (pT M_368).find? (fun e => e.1 == 2108) = some (2108, .iconst 1, 0, 0) := (sk_110 2108 rfl).trans rfl
theorem te_368_2109 : (pT M_368).find? (fun e => e.1 == 2109) = some (2109, .iadd, 0, 0) := (sk_110 2109 rfl).trans rfl
theorem te_368_2110 : (pT M_368).find? (fun e => e.1 == 2110) = some (2110, .iaload, 0, 0) := (sk_110 2110 rfl).trans rfl
theorem te_368_2111 : (pT M_368).find? (fun e => e.1 == 2111) = some (2111, .aload_n 0, 0, 0) := (sk_110 2111 rfl).trans rfl
theorem te_368_2112 : (pT M_368).find? (fun e => e.1 == 2112) = some (2112, .iload 4, 0, 0) := (sk_110 2112 rfl).trans rfl
theorem te_368_2114 : (pT M_368).find? (fun e => e.1 == 2114) = some (2114, .iconst 2, 0, 0) := (sk_110 2114 rfl).trans rfl
theorem te_368_2115 : (pT M_368).find? (fun e => e.1 == 2115) = some (2115, .iadd, 0, 0) := (sk_110 2115 rfl).trans rfl
theorem te_368_2116 : (pT M_368).find? (fun e => e.1 == 2116) = some (2116, .iaload, 0, 0) := (sk_110 2116 rfl).trans rfl
theorem te_368_2117 : (pT M_368).find? (fun e => e.1 == 2117) = some (2117, .aload_n 0, 0, 0) := (sk_110 2117 rfl).trans rfl
theorem te_368_2118 : (pT M_368).find? (fun e => e.1 == 2118) = some (2118, .iload 4, 0, 0) := (sk_110 2118 rfl).trans rfl
theorem te_368_2120 : (pT M_368).find? (fun e => e.1 == 2120) = some (2120, .iconst 3, 0, 0) := (sk_110 2120 rfl).trans rfl
theorem te_368_2121 : (pT M_368).find? (fun e => e.1 == 2121) = some (2121, .iadd, 0, 0) := (sk_110 2121 rfl).trans rfl
theorem te_368_2122 : (pT M_368).find? (fun e => e.1 == 2122) = some (2122, .iaload, 0, 0) := (sk_111 2122 rfl).trans rfl
theorem te_368_2123 : (pT M_368).find? (fun e => e.1 == 2123) = some (2123, .invokevirtual 320, 361, 0) := (sk_111 2123 rfl).trans rfl
theorem te_368_2126 : (pT M_368).find? (fun e => e.1 == 2126) = some (2126, .istore 6, 0, 0) := (sk_111 2126 rfl).trans rfl
theorem te_368_2128 : (pT M_368).find? (fun e => e.1 == 2128) = some (2128, .goto 216, 0, 0) := (sk_111 2128 rfl).trans rfl
theorem te_368_2131 : (pT M_368).find? (fun e => e.1 == 2131) = some (2131, .aload_n 1, 0, 0) := (sk_111 2131 rfl).trans rfl
theorem te_368_2132 : (pT M_368).find? (fun e => e.1 == 2132) = some (2132, .aload_n 0, 0, 0) := (sk_111 2132 rfl).trans rfl
theorem te_368_2133 : (pT M_368).find? (fun e => e.1 == 2133) = some (2133, .iload 4, 0, 0) := (sk_111 2133 rfl).trans rfl
theorem te_368_2135 : (pT M_368).find? (fun e => e.1 == 2135) = some (2135, .iconst 1, 0, 0) := (sk_111 2135 rfl).trans rfl
theorem te_368_2136 : (pT M_368).find? (fun e => e.1 == 2136) = some (2136, .iadd, 0, 0) := (sk_111 2136 rfl).trans rfl
theorem te_368_2137 : (pT M_368).find? (fun e => e.1 == 2137) = some (2137, .iaload, 0, 0) := (sk_111 2137 rfl).trans rfl
theorem te_368_2138 : (pT M_368).find? (fun e => e.1 == 2138) = some (2138, .aload_n 0, 0, 0) := (sk_111 2138 rfl).trans rfl
theorem te_368_2139 : (pT M_368).find? (fun e => e.1 == 2139) = some (2139, .iload 4, 0, 0) := (sk_111 2139 rfl).trans rfl
theorem te_368_2141 : (pT M_368).find? (fun e => e.1 == 2141) = some (2141, .iconst 2, 0, 0) := (sk_112 2141 rfl).trans rfl
theorem te_368_2142 : (pT M_368).find? (fun e => e.1 == 2142) = some (2142, .iadd, 0, 0) := (sk_112 2142 rfl).trans rfl
theorem te_368_2143 : (pT M_368).find? (fun e => e.1 == 2143) = some (2143, .iaload, 0, 0) := (sk_112 2143 rfl).trans rfl
theorem te_368_2144 : (pT M_368).find? (fun e => e.1 == 2144) = some (2144, .aload_n 3, 0, 0) := (sk_112 2144 rfl).trans rfl
theorem te_368_2145 : (pT M_368).find? (fun e => e.1 == 2145) = some (2145, .invokestatic 321, 209, 8) := (sk_112 2145 rfl).trans rfl
theorem te_368_2148 : (pT M_368).find? (fun e => e.1 == 2148) = some (2148, .istore 5, 0, 0) := (sk_112 2148 rfl).trans rfl
theorem te_368_2150 : (pT M_368).find? (fun e => e.1 == 2150) = some (2150, .aload_n 2, 0, 0) := (sk_112 2150 rfl).trans rfl
theorem te_368_2151 : (pT M_368).find? (fun e => e.1 == 2151) = some (2151, .aload_n 0, 0, 0) := (sk_112 2151 rfl).trans rfl
theorem te_368_2152 : (pT M_368).find? (fun e => e.1 == 2152) = some (2152, .iload 4, 0, 0) := (sk_112 2152 rfl).trans rfl
theorem te_368_2154 : (pT M_368).find? (fun e => e.1 == 2154) = some (2154, .iconst 1, 0, 0) := (sk_112 2154 rfl).trans rfl
theorem te_368_2155 : (pT M_368).find? (fun e => e.1 == 2155) = some (2155, .iadd, 0, 0) := (sk_112 2155 rfl).trans rfl
theorem te_368_2156 : (pT M_368).find? (fun e => e.1 == 2156) = some (2156, .iaload, 0, 0) := (sk_112 2156 rfl).trans rfl
theorem te_368_2157 : (pT M_368).find? (fun e => e.1 == 2157) = some (2157, .aload_n 0, 0, 0) := (sk_113 2157 rfl).trans rfl
theorem te_368_2158 : (pT M_368).find? (fun e => e.1 == 2158) = some (2158, .iload 4, 0, 0) := (sk_113 2158 rfl).trans rfl
theorem te_368_2160 : (pT M_368).find? (fun e => e.1 == 2160) = some (2160, .iconst 2, 0, 0) := (sk_113 2160 rfl).trans rfl
theorem te_368_2161 : (pT M_368).find? (fun e => e.1 == 2161) = some (2161, .iadd, 0, 0) := (sk_113 2161 rfl).trans rfl
theorem te_368_2162 : (pT M_368).find? (fun e => e.1 == 2162) = some (2162, .iaload, 0, 0) := (sk_113 2162 rfl).trans rfl
theorem te_368_2163 : (pT M_368).find? (fun e => e.1 == 2163) = some (2163, .invokevirtual 323, 362, 0) := (sk_113 2163 rfl).trans rfl
theorem te_368_2166 : (pT M_368).find? (fun e => e.1 == 2166) = some (2166, .istore 6, 0, 0) := (sk_113 2166 rfl).trans rfl
theorem te_368_2168 : (pT M_368).find? (fun e => e.1 == 2168) = some (2168, .goto 176, 0, 0) := (sk_113 2168 rfl).trans rfl
theorem te_368_2171 : (pT M_368).find? (fun e => e.1 == 2171) = some (2171, .aload_n 1, 0, 0) := (sk_113 2171 rfl).trans rfl
theorem te_368_2172 : (pT M_368).find? (fun e => e.1 == 2172) = some (2172, .aload_n 0, 0, 0) := (sk_113 2172 rfl).trans rfl
theorem te_368_2173 : (pT M_368).find? (fun e => e.1 == 2173) = some (2173, .iload 4, 0, 0) := (sk_113 2173 rfl).trans rfl
theorem te_368_2175 : (pT M_368).find? (fun e => e.1 == 2175) = some (2175, .iconst 1, 0, 0) := (sk_113 2175 rfl).trans rfl
theorem te_368_2176 : (pT M_368).find? (fun e => e.1 == 2176) = some (2176, .iadd, 0, 0) := (sk_114 2176 rfl).trans rfl
theorem te_368_2177 : (pT M_368).find? (fun e => e.1 == 2177) = some (2177, .iaload, 0, 0) := (sk_114 2177 rfl).trans rfl
theorem te_368_2178 : (pT M_368).find? (fun e => e.1 == 2178) = some (2178, .aload_n 0, 0, 0) := (sk_114 2178 rfl).trans rfl
theorem te_368_2179 : (pT M_368).find? (fun e => e.1 == 2179) = some (2179, .iload 4, 0, 0) := (sk_114 2179 rfl).trans rfl
theorem te_368_2181 : (pT M_368).find? (fun e => e.1 == 2181) = some (2181, .iconst 2, 0, 0) := (sk_114 2181 rfl).trans rfl
theorem te_368_2182 : (pT M_368).find? (fun e => e.1 == 2182) = some (2182, .iadd, 0, 0) := (sk_114 2182 rfl).trans rfl
theorem te_368_2183 : (pT M_368).find? (fun e => e.1 == 2183) = some (2183, .iaload, 0, 0) := (sk_114 2183 rfl).trans rfl
theorem te_368_2184 : (pT M_368).find? (fun e => e.1 == 2184) = some (2184, .aload_n 0, 0, 0) := (sk_114 2184 rfl).trans rfl
theorem te_368_2185 : (pT M_368).find? (fun e => e.1 == 2185) = some (2185, .iload 4, 0, 0) := (sk_114 2185 rfl).trans rfl
theorem te_368_2187 : (pT M_368).find? (fun e => e.1 == 2187) = some (2187, .iconst 3, 0, 0) := (sk_114 2187 rfl).trans rfl
theorem te_368_2188 : (pT M_368).find? (fun e => e.1 == 2188) = some (2188, .iadd, 0, 0) := (sk_114 2188 rfl).trans rfl
theorem te_368_2189 : (pT M_368).find? (fun e => e.1 == 2189) = some (2189, .iaload, 0, 0) := (sk_114 2189 rfl).trans rfl
theorem te_368_2190 : (pT M_368).find? (fun e => e.1 == 2190) = some (2190, .aload_n 0, 0, 0) := (sk_115 2190 rfl).trans rfl
theorem te_368_2191 : (pT M_368).find? (fun e => e.1 == 2191) = some (2191, .iload 4, 0, 0) := (sk_115 2191 rfl).trans rfl
theorem te_368_2193 : (pT M_368).find? (fun e => e.1 == 2193) = some (2193, .iconst 4, 0, 0) := (sk_115 2193 rfl).trans rfl
theorem te_368_2194 : (pT M_368).find? (fun e => e.1 == 2194) = some (2194, .iadd, 0, 0) := (sk_115 2194 rfl).trans rfl
theorem te_368_2195 : (pT M_368).find? (fun e => e.1 == 2195) = some (2195, .iaload, 0, 0) := (sk_115 2195 rfl).trans rfl
theorem te_368_2196 : (pT M_368).find? (fun e => e.1 == 2196) = some (2196, .aload_n 3, 0, 0) := (sk_115 2196 rfl).trans rfl
theorem te_368_2197 : (pT M_368).find? (fun e => e.1 == 2197) = some (2197, .invokestatic 324, 213, 8) := (sk_115 2197 rfl).trans rfl
theorem te_368_2200 : (pT M_368).find? (fun e => e.1 == 2200) = some (2200, .istore 5, 0, 0) := (sk_115 2200 rfl).trans rfl
theorem te_368_2202 : (pT M_368).find? (fun e => e.1 == 2202) = some (2202, .aload_n 2, 0, 0) := (sk_115 2202 rfl).trans rfl
theorem te_368_2203 : (pT M_368).find? (fun e => e.1 == 2203) = some (2203, .aload_n 0, 0, 0) := (sk_115 2203 rfl).trans rfl
theorem te_368_2204 : (pT M_368).find? (fun e => e.1 == 2204) = some (2204, .iload 4, 0, 0) := (sk_115 2204 rfl).trans rfl
theorem te_368_2206 : (pT M_368).find? (fun e => e.1 == 2206) = some (2206, .iconst 1, 0, 0) := (sk_115 2206 rfl).trans rfl
theorem te_368_2207 : (pT M_368).find? (fun e => e.1 == 2207) = some (2207, .iadd, 0, 0) := (sk_116 2207 rfl).trans rfl
theorem te_368_2208 : (pT M_368).find? (fun e => e.1 == 2208) = some (2208, .iaload, 0, 0) := (sk_116 2208 rfl).trans rfl
theorem te_368_2209 : (pT M_368).find? (fun e => e.1 == 2209) = some (2209, .aload_n 0, 0, 0) := (sk_116 2209 rfl).trans rfl
theorem te_368_2210 : (pT M_368).find? (fun e => e.1 == 2210) = some (2210, .iload 4, 0, 0) := (sk_116 2210 rfl).trans rfl
theorem te_368_2212 : (pT M_368).find? (fun e => e.1 == 2212) = some (2212, .iconst 2, 0, 0) := (sk_116 2212 rfl).trans rfl
theorem te_368_2213 : (pT M_368).find? (fun e => e.1 == 2213) = some (2213, .iadd, 0, 0) := (sk_116 2213 rfl).trans rfl
theorem te_368_2214 : (pT M_368).find? (fun e => e.1 == 2214) = some (2214, .iaload, 0, 0) := (sk_116 2214 rfl).trans rfl
theorem te_368_2215 : (pT M_368).find? (fun e => e.1 == 2215) = some (2215, .aload_n 0, 0, 0) := (sk_116 2215 rfl).trans rfl
theorem te_368_2216 : (pT M_368).find? (fun e => e.1 == 2216) = some (2216, .iload 4, 0, 0) := (sk_116 2216 rfl).trans rfl
theorem te_368_2218 : (pT M_368).find? (fun e => e.1 == 2218) = some (2218, .iconst 3, 0, 0) := (sk_116 2218 rfl).trans rfl
theorem te_368_2219 : (pT M_368).find? (fun e => e.1 == 2219) = some (2219, .iadd, 0, 0) := (sk_116 2219 rfl).trans rfl
theorem te_368_2220 : (pT M_368).find? (fun e => e.1 == 2220) = some (2220, .iaload, 0, 0) := (sk_116 2220 rfl).trans rfl
theorem te_368_2221 : (pT M_368).find? (fun e => e.1 == 2221) = some (2221, .aload_n 0, 0, 0) := (sk_117 2221 rfl).trans rfl
theorem te_368_2222 : (pT M_368).find? (fun e => e.1 == 2222) = some (2222, .iload 4, 0, 0) := (sk_117 2222 rfl).trans rfl
theorem te_368_2224 : (pT M_368).find? (fun e => e.1 == 2224) = some (2224, .iconst 4, 0, 0) := (sk_117 2224 rfl).trans rfl
theorem te_368_2225 : (pT M_368).find? (fun e => e.1 == 2225) = some (2225, .iadd, 0, 0) := (sk_117 2225 rfl).trans rfl
theorem te_368_2226 : (pT M_368).find? (fun e => e.1 == 2226) = some (2226, .iaload, 0, 0) := (sk_117 2226 rfl).trans rfl
theorem te_368_2227 : (pT M_368).find? (fun e => e.1 == 2227) = some (2227, .invokevirtual 326, 364, 0) := (sk_117 2227 rfl).trans rfl
theorem te_368_2230 : (pT M_368).find? (fun e => e.1 == 2230) = some (2230, .istore 6, 0, 0) := (sk_117 2230 rfl).trans rfl
theorem te_368_2232 : (pT M_368).find? (fun e => e.1 == 2232) = some (2232, .goto 112, 0, 0) := (sk_117 2232 rfl).trans rfl
theorem te_368_2235 : (pT M_368).find? (fun e => e.1 == 2235) = some (2235, .aload_n 1, 0, 0) := (sk_117 2235 rfl).trans rfl
theorem te_368_2236 : (pT M_368).find? (fun e => e.1 == 2236) = some (2236, .aload_n 0, 0, 0) := (sk_117 2236 rfl).trans rfl
theorem te_368_2237 : (pT M_368).find? (fun e => e.1 == 2237) = some (2237, .iload 4, 0, 0) := (sk_117 2237 rfl).trans rfl
theorem te_368_2239 : (pT M_368).find? (fun e => e.1 == 2239) = some (2239, .iconst 1, 0, 0) := (sk_117 2239 rfl).trans rfl
theorem te_368_2240 : (pT M_368).find? (fun e => e.1 == 2240) = some (2240, .iadd, 0, 0) := (sk_118 2240 rfl).trans rfl
theorem te_368_2241 : (pT M_368).find? (fun e => e.1 == 2241) = some (2241, .iaload, 0, 0) := (sk_118 2241 rfl).trans rfl
theorem te_368_2242 : (pT M_368).find? (fun e => e.1 == 2242) = some (2242, .aload_n 3, 0, 0) := (sk_118 2242 rfl).trans rfl
theorem te_368_2243 : (pT M_368).find? (fun e => e.1 == 2243) = some (2243, .invokestatic 327, 218, 8) := (sk_118 2243 rfl).trans rfl
theorem te_368_2246 : (pT M_368).find? (fun e => e.1 == 2246) = some (2246, .istore 5, 0, 0) := (sk_118 2246 rfl).trans rfl
theorem te_368_2248 : (pT M_368).find? (fun e => e.1 == 2248) = some (2248, .aload_n 2, 0, 0) := (sk_118 2248 rfl).trans rfl
theorem te_368_2249 : (pT M_368).find? (fun e => e.1 == 2249) = some (2249, .aload_n 0, 0, 0) := (sk_118 2249 rfl).trans rfl
theorem te_368_2250 : (pT M_368).find? (fun e => e.1 == 2250) = some (2250, .iload 4, 0, 0) := (sk_118 2250 rfl).trans rfl
theorem te_368_2252 : (pT M_368).find? (fun e => e.1 == 2252) = some (2252, .iconst 1, 0, 0) := (sk_118 2252 rfl).trans rfl
theorem te_368_2253 : (pT M_368).find? (fun e => e.1 == 2253) = some (2253, .iadd, 0, 0) := (sk_118 2253 rfl).trans rfl
theorem te_368_2254 : (pT M_368).find? (fun e => e.1 == 2254) = some (2254, .iaload, 0, 0) := (sk_118 2254 rfl).trans rfl
theorem te_368_2255 : (pT M_368).find? (fun e => e.1 == 2255) = some (2255, .invokevirtual 329, 336, 0) := (sk_118 2255 rfl).trans rfl
theorem te_368_2258 : (pT M_368).find? (fun e => e.1 == 2258) = some (2258, .istore 6, 0, 0) := (sk_119 2258 rfl).trans rfl
theorem te_368_2260 : (pT M_368).find? (fun e => e.1 == 2260) = some (2260, .goto 84, 0, 0) := (sk_119 2260 rfl).trans rfl
theorem te_368_2263 : (pT M_368).find? (fun e => e.1 == 2263) = some (2263, .aload_n 1, 0, 0) := (sk_119 2263 rfl).trans rfl
theorem te_368_2264 : (pT M_368).find? (fun e => e.1 == 2264) = some (2264, .aload_n 0, 0, 0) := (sk_119 2264 rfl).trans rfl
theorem te_368_2265 : (pT M_368).find? (fun e => e.1 == 2265) = some (2265, .iload 4, 0, 0) := (sk_119 2265 rfl).trans rfl
theorem te_368_2267 : (pT M_368).find? (fun e => e.1 == 2267) = some (2267, .iconst 1, 0, 0) := (sk_119 2267 rfl).trans rfl
theorem te_368_2268 : (pT M_368).find? (fun e => e.1 == 2268) = some (2268, .iadd, 0, 0) := (sk_119 2268 rfl).trans rfl
theorem te_368_2269 : (pT M_368).find? (fun e => e.1 == 2269) = some (2269, .iaload, 0, 0) := (sk_119 2269 rfl).trans rfl
theorem te_368_2270 : (pT M_368).find? (fun e => e.1 == 2270) = some (2270, .aload_n 3, 0, 0) := (sk_119 2270 rfl).trans rfl
theorem te_368_2271 : (pT M_368).find? (fun e => e.1 == 2271) = some (2271, .invokestatic 330, 220, 8) := (sk_119 2271 rfl).trans rfl
theorem te_368_2274 : (pT M_368).find? (fun e => e.1 == 2274) = some (2274, .istore 5, 0, 0) := (sk_119 2274 rfl).trans rfl
theorem te_368_2276 : (pT M_368).find? (fun e => e.1 == 2276) = some (2276, .aload_n 2, 0, 0) := (sk_119 2276 rfl).trans rfl
theorem te_368_2277 : (pT M_368).find? (fun e => e.1 == 2277) = some (2277, .aload_n 0, 0, 0) := (sk_120 2277 rfl).trans rfl
theorem te_368_2278 : (pT M_368).find? (fun e => e.1 == 2278) = some (2278, .iload 4, 0, 0) := (sk_120 2278 rfl).trans rfl
theorem te_368_2280 : (pT M_368).find? (fun e => e.1 == 2280) = some (2280, .iconst 1, 0, 0) := (sk_120 2280 rfl).trans rfl
theorem te_368_2281 : (pT M_368).find? (fun e => e.1 == 2281) = some (2281, .iadd, 0, 0) := (sk_120 2281 rfl).trans rfl
theorem te_368_2282 : (pT M_368).find? (fun e => e.1 == 2282) = some (2282, .iaload, 0, 0) := (sk_120 2282 rfl).trans rfl
theorem te_368_2283 : (pT M_368).find? (fun e => e.1 == 2283) = some (2283, .invokevirtual 332, 357, 0) := (sk_120 2283 rfl).trans rfl
theorem te_368_2286 : (pT M_368).find? (fun e => e.1 == 2286) = some (2286, .istore 6, 0, 0) := (sk_120 2286 rfl).trans rfl
theorem te_368_2288 : (pT M_368).find? (fun e => e.1 == 2288) = some (2288, .goto 56, 0, 0) := (sk_120 2288 rfl).trans rfl
theorem lc_34 {S : Nat × (Nat → Int32)} {lv : LV} {h : PH} {c s : Nat} {i : Int32} (hS : S.1 ≤ 3072) (hl : LwS lv i) (hi : 0 ≤ i.toInt ∧ i.toInt + 5 < S.1) (hL : LR h) (hc : c + 8 ≤ 601024) (hs : s + 48 ≤ 7293033) (Nx : ∀ lv' h' c' s', LwS lv' i → LR h' → c' ≤ c + 8 → s' ≤ s + 48 → Vx (Ex S 24) S M_368 [] Q1 2344 lv' [] h' c' s') : Vx (Ex S 24) S M_368 [] Q1 1811 lv [] h c s := by
  have hC := Ex.mono S 24
  refine Vx.go hC te_368_1811 ?_
  refine ⟨_, hl.2.1, ⟨0, Or.inl rfl⟩, ?_⟩
  refine sc_load hC (k := 1) hl te_368_1812 te_368_1813 te_368_1815 te_368_1816 te_368_1817 (sc_in hS hi (by decide)) ?_
  refine Vx.go hC te_368_1818 ?_
  refine ⟨by decide, fun q => ?_, fun q => ?_⟩
  · show Vx (Ex S 24) S M_368 [] Q1 1825 lv [.ref 0] h c s
    refine Vx.go hC te_368_1825 ?_
    refine Vx.go hC te_368_1826 ?_
    refine ⟨_, hl.2.2.2.1, ⟨173, Or.inl rfl⟩, ?_⟩
    refine Vx.go hC te_368_1827 ?_
    refine Or.inr ⟨by decide, ?_⟩
    refine p_call_mk (av := [.ref 0, .int (Int32.ofInt 0), .ref 173]) (rest := []) mt_187 rfl (by decide) (show c + 1 ≤ 601024 by omega) (show s + 6 ≤ 7293033 by omega) (fun q => by cases q) ?_
    refine g_187 (n := 6) hL (fun r3 h1 hL2 => ?_)
    show Vx (Ex S 24) S M_368 [] Q1 1830 lv [.int r3] h1 (c + 1) (s + 6)
    refine Vx.go hC te_368_1830 ?_
    refine ⟨by decide, ?_⟩
    have hl4 := LwS.st (j := 5) (v := .int r3) (by omega) hl
    show Vx (Ex S 24) S M_368 [] Q1 1832 (px_s1 lv 5 (.int r3)) [] h1 (c + 1) (s + 6)
    refine Vx.go hC te_368_1832 ?_
    refine ⟨_, hl4.2.2.1, ⟨143, Or.inl rfl⟩, ?_⟩
    refine sc_load hC (k := 1) hl4 te_368_1833 te_368_1834 te_368_1836 te_368_1837 te_368_1838 (sc_in hS hi (by decide)) ?_
    refine Vx.go hC te_368_1839 ?_
    refine ⟨by decide, fun q => ?_, fun q => ?_⟩
    · show Vx (Ex S 24) S M_368 [] Q1 1846 (px_s1 lv 5 (.int r3)) [.ref 143] h1 (c + 1) (s + 6)
      refine Vx.go hC te_368_1846 ?_
      refine Vx.go hC te_368_1847 ?_
      obtain ⟨gs8, gs8g⟩ := hL2.obj (A := 143) rfl
      have hcall9 := ref_call (S := S) (n := 24) (μ := 343) (args := [.inr 143, .inl ((Int32.ofInt 0) : Int32).toInt]) (h := h1) (fun v hv => by simp only [List.mem_cons, List.not_mem_nil, or_false] at hv; rcases hv with rfl | rfl <;> first | trivial | exact wiI _) hL2 (fun mem hr => f_343 hr (fun r m' a b => ⟨a, b⟩))
      simp only [List.map_cons, List.map_nil, wv, Int32.ofInt_toInt] at hcall9
      refine p_call_mk (av := [.ref 143, .int (Int32.ofInt 0)]) (rest := []) mt_343 rfl (by decide) (show (c + 1) + 0 ≤ 601024 by omega) (show (s + 6) + 0 ≤ 7293033 by omega) (fun _ => ⟨143, gs8, rfl, gs8g⟩) ?_
      refine hC _ _ _ _ _ ?_ hcall9
      rintro _ h5 ⟨hL6, r7, rfl⟩
      show Vx (Ex S 24) S M_368 [] Q1 1850 (px_s1 lv 5 (.int r3)) [.int r7] h5 (c + 1) (s + 6)
      refine Vx.go hC te_368_1850 ?_
      refine ⟨by decide, ?_⟩
      have hl10 := LwS.st (j := 6) (v := .int r7) (by omega) hl4
      show Vx (Ex S 24) S M_368 [] Q1 1852 (px_s1 (px_s1 lv 5 (.int r3)) 6 (.int r7)) [] h5 (c + 1) (s + 6)
      refine Vx.go hC te_368_1852 ?_
      refine ⟨by decide, ?_⟩
      exact Nx _ _ _ _ hl10 hL6 (by omega) (by omega)
    · show Vx (Ex S 24) S M_368 [] Q1 1842 (px_s1 lv 5 (.int r3)) [.ref 143] h1 (c + 1) (s + 6)
      refine Vx.go hC te_368_1842 ?_
      refine Vx.go hC te_368_1843 ?_
      refine ⟨by decide, ?_⟩
      show Vx (Ex S 24) S M_368 [] Q1 1847 (px_s1 lv 5 (.int r3)) [.int (Int32.ofInt 1), .ref 143] h1 (c + 1) (s + 6)
      refine Vx.go hC te_368_1847 ?_
      obtain ⟨gs14, gs14g⟩ := hL2.obj (A := 143) rfl
      have hcall15 := ref_call (S := S) (n := 24) (μ := 343) (args := [.inr 143, .inl ((Int32.ofInt 1) : Int32).toInt]) (h := h1) (fun v hv => by simp only [List.mem_cons, List.not_mem_nil, or_false] at hv; rcases hv with rfl | rfl <;> first | trivial | exact wiI _) hL2 (fun mem hr => f_343 hr (fun r m' a b => ⟨a, b⟩))
      simp only [List.map_cons, List.map_nil, wv, Int32.ofInt_toInt] at hcall15
      refine p_call_mk (av := [.ref 143, .int (Int32.ofInt 1)]) (rest := []) mt_343 rfl (by decide) (show (c + 1) + 0 ≤ 601024 by omega) (show (s + 6) + 0 ≤ 7293033 by omega) (fun _ => ⟨143, gs14, rfl, gs14g⟩) ?_
      refine hC _ _ _ _ _ ?_ hcall15
      rintro _ h11 ⟨hL12, r13, rfl⟩
      show Vx (Ex S 24) S M_368 [] Q1 1850 (px_s1 lv 5 (.int r3)) [.int r13] h11 (c + 1) (s + 6)
      refine Vx.go hC te_368_1850 ?_
      refine ⟨by decide, ?_⟩
      have hl16 := LwS.st (j := 6) (v := .int r13) (by omega) hl4
      show Vx (Ex S 24) S M_368 [] Q1 1852 (px_s1 (px_s1 lv 5 (.int r3)) 6 (.int r13)) [] h11 (c + 1) (s + 6)
      refine Vx.go hC te_368_1852 ?_
      refine ⟨by decide, ?_⟩
      exact Nx _ _ _ _ hl16 hL12 (by omega) (by omega)
  · show Vx (Ex S 24) S M_368 [] Q1 1821 lv [.ref 0] h c s
    refine Vx.go hC te_368_1821 ?_
    refine Vx.go hC te_368_1822 ?_
    refine ⟨by decide, ?_⟩
    show Vx (Ex S 24) S M_368 [] Q1 1826 lv [.int (Int32.ofInt 1), .ref 0] h c s
    refine Vx.go hC te_368_1826 ?_
    refine ⟨_, hl.2.2.2.1, ⟨173, Or.inl rfl⟩, ?_⟩
    refine Vx.go hC te_368_1827 ?_
    refine Or.inr ⟨by decide, ?_⟩
    refine p_call_mk (av := [.ref 0, .int (Int32.ofInt 1), .ref 173]) (rest := []) mt_187 rfl (by decide) (show c + 1 ≤ 601024 by omega) (show s + 6 ≤ 7293033 by omega) (fun q => by cases q) ?_
    refine g_187 (n := 6) hL (fun r19 h17 hL18 => ?_)
    show Vx (Ex S 24) S M_368 [] Q1 1830 lv [.int r19] h17 (c + 1) (s + 6)
    refine Vx.go hC te_368_1830 ?_
    refine ⟨by decide, ?_⟩
    have hl20 := LwS.st (j := 5) (v := .int r19) (by omega) hl
    show Vx (Ex S 24) S M_368 [] Q1 1832 (px_s1 lv 5 (.int r19)) [] h17 (c + 1) (s + 6)
    refine Vx.go hC te_368_1832 ?_
    refine ⟨_, hl20.2.2.1, ⟨143, Or.inl rfl⟩, ?_⟩
    refine sc_load hC (k := 1) hl20 te_368_1833 te_368_1834 te_368_1836 te_368_1837 te_368_1838 (sc_in hS hi (by decide)) ?_
    refine Vx.go hC te_368_1839 ?_
    refine ⟨by decide, fun q => ?_, fun q => ?_⟩
    · show Vx (Ex S 24) S M_368 [] Q1 1846 (px_s1 lv 5 (.int r19)) [.ref 143] h17 (c + 1) (s + 6)
      refine Vx.go hC te_368_1846 ?_
      refine Vx.go hC te_368_1847 ?_
      obtain ⟨gs24, gs24g⟩ := hL18.obj (A := 143) rfl
      have hcall25 := ref_call (S := S) (n := 24) (μ := 343) (args := [.inr 143, .inl ((Int32.ofInt 0) : Int32).toInt]) (h := h17) (fun v hv => by simp only [List.mem_cons, List.not_mem_nil, or_false] at hv; rcases hv with rfl | rfl <;> first | trivial | exact wiI _) hL18 (fun mem hr => f_343 hr (fun r m' a b => ⟨a, b⟩))
      simp only [List.map_cons, List.map_nil, wv, Int32.ofInt_toInt] at hcall25
      refine p_call_mk (av := [.ref 143, .int (Int32.ofInt 0)]) (rest := []) mt_343 rfl (by decide) (show (c + 1) + 0 ≤ 601024 by omega) (show (s + 6) + 0 ≤ 7293033 by omega) (fun _ => ⟨143, gs24, rfl, gs24g⟩) ?_
      refine hC _ _ _ _ _ ?_ hcall25
      rintro _ h21 ⟨hL22, r23, rfl⟩
      show Vx (Ex S 24) S M_368 [] Q1 1850 (px_s1 lv 5 (.int r19)) [.int r23] h21 (c + 1) (s + 6)
      refine Vx.go hC te_368_1850 ?_
      refine ⟨by decide, ?_⟩
      have hl26 := LwS.st (j := 6) (v := .int r23) (by omega) hl20
      show Vx (Ex S 24) S M_368 [] Q1 1852 (px_s1 (px_s1 lv 5 (.int r19)) 6 (.int r23)) [] h21 (c + 1) (s + 6)
      refine Vx.go hC te_368_1852 ?_
      refine ⟨by decide, ?_⟩
      exact Nx _ _ _ _ hl26 hL22 (by omega) (by omega)
    · show Vx (Ex S 24) S M_368 [] Q1 1842 (px_s1 lv 5 (.int r19)) [.ref 143] h17 (c + 1) (s + 6)
      refine Vx.go hC te_368_1842 ?_
      refine Vx.go hC te_368_1843 ?_
      refine ⟨by decide, ?_⟩
      show Vx (Ex S 24) S M_368 [] Q1 1847 (px_s1 lv 5 (.int r19)) [.int (Int32.ofInt 1), .ref 143] h17 (c + 1) (s + 6)
      refine Vx.go hC te_368_1847 ?_
      obtain ⟨gs30, gs30g⟩ := hL18.obj (A := 143) rfl
      have hcall31 := ref_call (S := S) (n := 24) (μ := 343) (args := [.inr 143, .inl ((Int32.ofInt 1) : Int32).toInt]) (h := h17) (fun v hv => by simp only [List.mem_cons, List.not_mem_nil, or_false] at hv; rcases hv with rfl | rfl <;> first | trivial | exact wiI _) hL18 (fun mem hr => f_343 hr (fun r m' a b => ⟨a, b⟩))
      simp only [List.map_cons, List.map_nil, wv, Int32.ofInt_toInt] at hcall31
      refine p_call_mk (av := [.ref 143, .int (Int32.ofInt 1)]) (rest := []) mt_343 rfl (by decide) (show (c + 1) + 0 ≤ 601024 by omega) (show (s + 6) + 0 ≤ 7293033 by omega) (fun _ => ⟨143, gs30, rfl, gs30g⟩) ?_
      refine hC _ _ _ _ _ ?_ hcall31
      rintro _ h27 ⟨hL28, r29, rfl⟩
      show Vx (Ex S 24) S M_368 [] Q1 1850 (px_s1 lv 5 (.int r19)) [.int r29] h27 (c + 1) (s + 6)
      refine Vx.go hC te_368_1850 ?_
      refine ⟨by decide, ?_⟩
      have hl32 := LwS.st (j := 6) (v := .int r29) (by omega) hl20
      show Vx (Ex S 24) S M_368 [] Q1 1852 (px_s1 (px_s1 lv 5 (.int r19)) 6 (.int r29)) [] h27 (c + 1) (s + 6)
      refine Vx.go hC te_368_1852 ?_
      refine ⟨by decide, ?_⟩
      exact Nx _ _ _ _ hl32 hL28 (by omega) (by omega)
theorem lc_35 {S : Nat × (Nat → Int32)} {lv : LV} {h : PH} {c s : Nat} {i : Int32} (hS : S.1 ≤ 3072) (hl : LwS lv i) (hi : 0 ≤ i.toInt ∧ i.toInt + 5 < S.1) (hL : LR h) (hc : c + 8 ≤ 601024) (hs : s + 48 ≤ 7293033) (Nx : ∀ lv' h' c' s', LwS lv' i → LR h' → c' ≤ c + 8 → s' ≤ s + 48 → Vx (Ex S 24) S M_368 [] Q1 2344 lv' [] h' c' s') : Vx (Ex S 24) S M_368 [] Q1 1855 lv [] h c s := by
  have hC := Ex.mono S 24
  refine Vx.go hC te_368_1855 ?_
  refine ⟨_, hl.2.1, ⟨0, Or.inl rfl⟩, ?_⟩
  refine Vx.go hC te_368_1856 ?_
  refine ⟨_, hl.2.2.2.1, ⟨173, Or.inl rfl⟩, ?_⟩
  refine Vx.go hC te_368_1857 ?_
  refine Or.inr ⟨by decide, ?_⟩
  refine p_call_mk (av := [.ref 0, .ref 173]) (rest := []) mt_189 rfl (by decide) (show c + 1 ≤ 601024 by omega) (show s + 6 ≤ 7293033 by omega) (fun q => by cases q) ?_
  refine g_189 (n := 6) hL (fun r3 h1 hL2 => ?_)
  show Vx (Ex S 24) S M_368 [] Q1 1860 lv [.int r3] h1 (c + 1) (s + 6)
  refine Vx.go hC te_368_1860 ?_
  refine ⟨by decide, ?_⟩
  have hl4 := LwS.st (j := 5) (v := .int r3) (by omega) hl
  show Vx (Ex S 24) S M_368 [] Q1 1862 (px_s1 lv 5 (.int r3)) [] h1 (c + 1) (s + 6)
  refine Vx.go hC te_368_1862 ?_
  refine ⟨_, hl4.2.2.1, ⟨143, Or.inl rfl⟩, ?_⟩
  refine Vx.go hC te_368_1863 ?_
  obtain ⟨gs8, gs8g⟩ := hL2.obj (A := 143) rfl
  have hcall9 := ref_call (S := S) (n := 24) (μ := 348) (args := [.inr 143]) (h := h1) (fun v hv => by simp only [List.mem_cons, List.not_mem_nil, or_false] at hv; rw [hv]; trivial) hL2 (fun mem hr => f_348 hr (fun r m' a b => ⟨a, b⟩))
  simp only [List.map_cons, List.map_nil, wv, Int32.ofInt_toInt] at hcall9
  refine p_call_mk (av := [.ref 143]) (rest := []) mt_348 rfl (by decide) (show (c + 1) + 0 ≤ 601024 by omega) (show (s + 6) + 0 ≤ 7293033 by omega) (fun _ => ⟨143, gs8, rfl, gs8g⟩) ?_
  refine hC _ _ _ _ _ ?_ hcall9
  rintro _ h5 ⟨hL6, r7, rfl⟩
  show Vx (Ex S 24) S M_368 [] Q1 1866 (px_s1 lv 5 (.int r3)) [.int r7] h5 (c + 1) (s + 6)
  refine Vx.go hC te_368_1866 ?_
  refine ⟨by decide, ?_⟩
  have hl10 := LwS.st (j := 6) (v := .int r7) (by omega) hl4
  show Vx (Ex S 24) S M_368 [] Q1 1868 (px_s1 (px_s1 lv 5 (.int r3)) 6 (.int r7)) [] h5 (c + 1) (s + 6)
  refine Vx.go hC te_368_1868 ?_
  refine ⟨by decide, ?_⟩
  exact Nx _ _ _ _ hl10 hL6 (by omega) (by omega)
theorem lc_36 {S : Nat × (Nat → Int32)} {lv : LV} {h : PH} {c s : Nat} {i : Int32} (hS : S.1 ≤ 3072) (hl : LwS lv i) (hi : 0 ≤ i.toInt ∧ i.toInt + 5 < S.1) (hL : LR h) (hc : c + 8 ≤ 601024) (hs : s + 48 ≤ 7293033) (Nx : ∀ lv' h' c' s', LwS lv' i → LR h' → c' ≤ c + 8 → s' ≤ s + 48 → Vx (Ex S 24) S M_368 [] Q1 2344 lv' [] h' c' s') : Vx (Ex S 24) S M_368 [] Q1 1871 lv [] h c s := by
  have hC := Ex.mono S 24
  refine Vx.go hC te_368_1871 ?_
  refine ⟨_, hl.2.1, ⟨0, Or.inl rfl⟩, ?_⟩
  refine sc_load hC (k := 1) hl te_368_1872 te_368_1873 te_368_1875 te_368_1876 te_368_1877 (sc_in hS hi (by decide)) ?_
  refine Vx.go hC te_368_1878 ?_
  refine ⟨_, hl.2.2.2.1, ⟨173, Or.inl rfl⟩, ?_⟩
  refine Vx.go hC te_368_1879 ?_
  refine Or.inr ⟨by decide, ?_⟩
  refine p_call_mk (av := [.ref 0, .int (S.2 (i + Int32.ofInt 1).toNatClampNeg), .ref 173]) (rest := []) mt_191 rfl (by decide) (show c + 2 ≤ 601024 by omega) (show s + 12 ≤ 7293033 by omega) (fun q => by cases q) ?_
  refine g_191 (n := 6) hL (fun r3 h1 hL2 => ?_)
  show Vx (Ex S 24) S M_368 [] Q1 1882 lv [.int r3] h1 (c + 2) (s + 12)
  refine Vx.go hC te_368_1882 ?_
  refine ⟨by decide, ?_⟩
  have hl4 := LwS.st (j := 5) (v := .int r3) (by omega) hl
  show Vx (Ex S 24) S M_368 [] Q1 1884 (px_s1 lv 5 (.int r3)) [] h1 (c + 2) (s + 12)
  refine Vx.go hC te_368_1884 ?_
  refine ⟨_, hl4.2.2.1, ⟨143, Or.inl rfl⟩, ?_⟩
  refine sc_load hC (k := 1) hl4 te_368_1885 te_368_1886 te_368_1888 te_368_1889 te_368_1890 (sc_in hS hi (by decide)) ?_
  refine Vx.go hC te_368_1891 ?_
  obtain ⟨gs8, gs8g⟩ := hL2.obj (A := 143) rfl
  have hcall9 := ref_call (S := S) (n := 24) (μ := 349) (args := [.inr 143, .inl ((S.2 (i + Int32.ofInt 1).toNatClampNeg) : Int32).toInt]) (h := h1) (fun v hv => by simp only [List.mem_cons, List.not_mem_nil, or_false] at hv; rcases hv with rfl | rfl <;> first | trivial | exact wiI _) hL2 (fun mem hr => f_349 hr (fun r m' a b => ⟨a, b⟩))
  simp only [List.map_cons, List.map_nil, wv, Int32.ofInt_toInt] at hcall9
  refine p_call_mk (av := [.ref 143, .int (S.2 (i + Int32.ofInt 1).toNatClampNeg)]) (rest := []) mt_349 rfl (by decide) (show (c + 2) + 0 ≤ 601024 by omega) (show (s + 12) + 0 ≤ 7293033 by omega) (fun _ => ⟨143, gs8, rfl, gs8g⟩) ?_
  refine hC _ _ _ _ _ ?_ hcall9
  rintro _ h5 ⟨hL6, r7, rfl⟩
  show Vx (Ex S 24) S M_368 [] Q1 1894 (px_s1 lv 5 (.int r3)) [.int r7] h5 (c + 2) (s + 12)
  refine Vx.go hC te_368_1894 ?_
  refine ⟨by decide, ?_⟩
  have hl10 := LwS.st (j := 6) (v := .int r7) (by omega) hl4
  show Vx (Ex S 24) S M_368 [] Q1 1896 (px_s1 (px_s1 lv 5 (.int r3)) 6 (.int r7)) [] h5 (c + 2) (s + 12)
  refine Vx.go hC te_368_1896 ?_
  refine ⟨by decide, ?_⟩
  exact Nx _ _ _ _ hl10 hL6 (by omega) (by omega)
theorem lc_37 {S : Nat × (Nat → Int32)} {lv : LV} {h : PH} {c s : Nat} {i : Int32} (hS : S.1 ≤ 3072) (hl : LwS lv i) (hi : 0 ≤ i.toInt ∧ i.toInt + 5 < S.1) (hL : LR h) (hc : c + 8 ≤ 601024) (hs : s + 48 ≤ 7293033) (Nx : ∀ lv' h' c' s', LwS lv' i → LR h' → c' ≤ c + 8 → s' ≤ s + 48 → Vx (Ex S 24) S M_368 [] Q1 2344 lv' [] h' c' s') : Vx (Ex S 24) S M_368 [] Q1 1899 lv [] h c s := by
  have hC := Ex.mono S 24
  refine Vx.go hC te_368_1899 ?_
  refine ⟨_, hl.2.1, ⟨0, Or.inl rfl⟩, ?_⟩
  refine Vx.go hC te_368_1900 ?_
  refine ⟨_, hl.2.2.2.1, ⟨173, Or.inl rfl⟩, ?_⟩
  refine Vx.go hC te_368_1901 ?_
  refine Or.inr ⟨by decide, ?_⟩
  refine p_call_mk (av := [.ref 0, .ref 173]) (rest := []) mt_193 rfl (by decide) (show c + 1 ≤ 601024 by omega) (show s + 6 ≤ 7293033 by omega) (fun q => by cases q) ?_
  refine g_193 (n := 6) hL (fun r3 h1 hL2 => ?_)
  show Vx (Ex S 24) S M_368 [] Q1 1904 lv [.int r3] h1 (c + 1) (s + 6)
  refine Vx.go hC te_368_1904 ?_
  refine ⟨by decide, ?_⟩
  have hl4 := LwS.st (j := 5) (v := .int r3) (by omega) hl
  show Vx (Ex S 24) S M_368 [] Q1 1906 (px_s1 lv 5 (.int r3)) [] h1 (c + 1) (s + 6)
  refine Vx.go hC te_368_1906 ?_
  refine ⟨_, hl4.2.2.1, ⟨143, Or.inl rfl⟩, ?_⟩
  refine Vx.go hC te_368_1907 ?_
  obtain ⟨gs8, gs8g⟩ := hL2.obj (A := 143) rfl
  have hcall9 := ref_call (S := S) (n := 24) (μ := 351) (args := [.inr 143]) (h := h1) (fun v hv => by simp only [List.mem_cons, List.not_mem_nil, or_false] at hv; rw [hv]; trivial) hL2 (fun mem hr => f_351 hr (fun r m' a b => ⟨a, b⟩))
  simp only [List.map_cons, List.map_nil, wv, Int32.ofInt_toInt] at hcall9
  refine p_call_mk (av := [.ref 143]) (rest := []) mt_351 rfl (by decide) (show (c + 1) + 0 ≤ 601024 by omega) (show (s + 6) + 0 ≤ 7293033 by omega) (fun _ => ⟨143, gs8, rfl, gs8g⟩) ?_
  refine hC _ _ _ _ _ ?_ hcall9
  rintro _ h5 ⟨hL6, r7, rfl⟩
  show Vx (Ex S 24) S M_368 [] Q1 1910 (px_s1 lv 5 (.int r3)) [.int r7] h5 (c + 1) (s + 6)
  refine Vx.go hC te_368_1910 ?_
  refine ⟨by decide, ?_⟩
  have hl10 := LwS.st (j := 6) (v := .int r7) (by omega) hl4
  show Vx (Ex S 24) S M_368 [] Q1 1912 (px_s1 (px_s1 lv 5 (.int r3)) 6 (.int r7)) [] h5 (c + 1) (s + 6)
  refine Vx.go hC te_368_1912 ?_
  refine ⟨by decide, ?_⟩
  exact Nx _ _ _ _ hl10 hL6 (by omega) (by omega)
theorem lc_38 {S : Nat × (Nat → Int32)} {lv : LV} {h : PH} {c s : Nat} {i : Int32} (hS : S.1 ≤ 3072) (hl : LwS lv i) (hi : 0 ≤ i.toInt ∧ i.toInt + 5 < S.1) (hL : LR h) (hc : c + 8 ≤ 601024) (hs : s + 48 ≤ 7293033) (Nx : ∀ lv' h' c' s', LwS lv' i → LR h' → c' ≤ c + 8 → s' ≤ s + 48 → Vx (Ex S 24) S M_368 [] Q1 2344 lv' [] h' c' s') : Vx (Ex S 24) S M_368 [] Q1 1915 lv [] h c s := by
  have hC := Ex.mono S 24
  refine Vx.go hC te_368_1915 ?_
  refine ⟨_, hl.2.1, ⟨0, Or.inl rfl⟩, ?_⟩
  refine sc_load hC (k := 1) hl te_368_1916 te_368_1917 te_368_1919 te_368_1920 te_368_1921 (sc_in hS hi (by decide)) ?_
  refine Vx.go hC te_368_1922 ?_
  refine ⟨_, hl.2.2.2.1, ⟨173, Or.inl rfl⟩, ?_⟩
  refine Vx.go hC te_368_1923 ?_
  refine Or.inr ⟨by decide, ?_⟩
  refine p_call_mk (av := [.ref 0, .int (S.2 (i + Int32.ofInt 1).toNatClampNeg), .ref 173]) (rest := []) mt_195 rfl (by decide) (show c + 3 ≤ 601024 by omega) (show s + 18 ≤ 7293033 by omega) (fun q => by cases q) ?_
  refine g_195 (n := 6) hL (fun r3 h1 hL2 => ?_)
  show Vx (Ex S 24) S M_368 [] Q1 1926 lv [.int r3] h1 (c + 3) (s + 18)
  refine Vx.go hC te_368_1926 ?_
  refine ⟨by decide, ?_⟩
  have hl4 := LwS.st (j := 5) (v := .int r3) (by omega) hl
  show Vx (Ex S 24) S M_368 [] Q1 1928 (px_s1 lv 5 (.int r3)) [] h1 (c + 3) (s + 18)
  refine Vx.go hC te_368_1928 ?_
  refine ⟨_, hl4.2.2.1, ⟨143, Or.inl rfl⟩, ?_⟩
  refine sc_load hC (k := 1) hl4 te_368_1929 te_368_1930 te_368_1932 te_368_1933 te_368_1934 (sc_in hS hi (by decide)) ?_
  refine Vx.go hC te_368_1935 ?_
  obtain ⟨gs8, gs8g⟩ := hL2.obj (A := 143) rfl
  have hcall9 := ref_call (S := S) (n := 24) (μ := 352) (args := [.inr 143, .inl ((S.2 (i + Int32.ofInt 1).toNatClampNeg) : Int32).toInt]) (h := h1) (fun v hv => by simp only [List.mem_cons, List.not_mem_nil, or_false] at hv; rcases hv with rfl | rfl <;> first | trivial | exact wiI _) hL2 (fun mem hr => f_352 hr (fun r m' a b => ⟨a, b⟩))
  simp only [List.map_cons, List.map_nil, wv, Int32.ofInt_toInt] at hcall9
  refine p_call_mk (av := [.ref 143, .int (S.2 (i + Int32.ofInt 1).toNatClampNeg)]) (rest := []) mt_352 rfl (by decide) (show (c + 3) + 0 ≤ 601024 by omega) (show (s + 18) + 0 ≤ 7293033 by omega) (fun _ => ⟨143, gs8, rfl, gs8g⟩) ?_
  refine hC _ _ _ _ _ ?_ hcall9
  rintro _ h5 ⟨hL6, r7, rfl⟩
  show Vx (Ex S 24) S M_368 [] Q1 1938 (px_s1 lv 5 (.int r3)) [.int r7] h5 (c + 3) (s + 18)
  refine Vx.go hC te_368_1938 ?_
  refine ⟨by decide, ?_⟩
  have hl10 := LwS.st (j := 6) (v := .int r7) (by omega) hl4
  show Vx (Ex S 24) S M_368 [] Q1 1940 (px_s1 (px_s1 lv 5 (.int r3)) 6 (.int r7)) [] h5 (c + 3) (s + 18)
  refine Vx.go hC te_368_1940 ?_
  refine ⟨by decide, ?_⟩
  exact Nx _ _ _ _ hl10 hL6 (by omega) (by omega)
theorem lc_39 {S : Nat × (Nat → Int32)} {lv : LV} {h : PH} {c s : Nat} {i : Int32} (hS : S.1 ≤ 3072) (hl : LwS lv i) (hi : 0 ≤ i.toInt ∧ i.toInt + 5 < S.1) (hL : LR h) (hc : c + 8 ≤ 601024) (hs : s + 48 ≤ 7293033) (Nx : ∀ lv' h' c' s', LwS lv' i → LR h' → c' ≤ c + 8 → s' ≤ s + 48 → Vx (Ex S 24) S M_368 [] Q1 2344 lv' [] h' c' s') : Vx (Ex S 24) S M_368 [] Q1 1943 lv [] h c s := by
  have hC := Ex.mono S 24
  refine Vx.go hC te_368_1943 ?_
  refine ⟨_, hl.2.1, ⟨0, Or.inl rfl⟩, ?_⟩
  refine sc_load hC (k := 1) hl te_368_1944 te_368_1945 te_368_1947 te_368_1948 te_368_1949 (sc_in hS hi (by decide)) ?_
  refine Vx.go hC te_368_1950 ?_
  refine ⟨_, hl.2.2.2.1, ⟨173, Or.inl rfl⟩, ?_⟩
  refine Vx.go hC te_368_1951 ?_
  refine Or.inr ⟨by decide, ?_⟩
  refine p_call_mk (av := [.ref 0, .int (S.2 (i + Int32.ofInt 1).toNatClampNeg), .ref 173]) (rest := []) mt_197 rfl (by decide) (show c + 2 ≤ 601024 by omega) (show s + 12 ≤ 7293033 by omega) (fun q => by cases q) ?_
  refine g_197 (n := 6) hL (fun r3 h1 hL2 => ?_)
  show Vx (Ex S 24) S M_368 [] Q1 1954 lv [.int r3] h1 (c + 2) (s + 12)
  refine Vx.go hC te_368_1954 ?_
  refine ⟨by decide, ?_⟩
  have hl4 := LwS.st (j := 5) (v := .int r3) (by omega) hl
  show Vx (Ex S 24) S M_368 [] Q1 1956 (px_s1 lv 5 (.int r3)) [] h1 (c + 2) (s + 12)
  refine Vx.go hC te_368_1956 ?_
  refine ⟨_, hl4.2.2.1, ⟨143, Or.inl rfl⟩, ?_⟩
  refine sc_load hC (k := 1) hl4 te_368_1957 te_368_1958 te_368_1960 te_368_1961 te_368_1962 (sc_in hS hi (by decide)) ?_
  refine Vx.go hC te_368_1963 ?_
  obtain ⟨gs8, gs8g⟩ := hL2.obj (A := 143) rfl
  have hcall9 := ref_call (S := S) (n := 24) (μ := 355) (args := [.inr 143, .inl ((S.2 (i + Int32.ofInt 1).toNatClampNeg) : Int32).toInt]) (h := h1) (fun v hv => by simp only [List.mem_cons, List.not_mem_nil, or_false] at hv; rcases hv with rfl | rfl <;> first | trivial | exact wiI _) hL2 (fun mem hr => f_355 hr (fun r m' a b => ⟨a, b⟩))
  simp only [List.map_cons, List.map_nil, wv, Int32.ofInt_toInt] at hcall9
  refine p_call_mk (av := [.ref 143, .int (S.2 (i + Int32.ofInt 1).toNatClampNeg)]) (rest := []) mt_355 rfl (by decide) (show (c + 2) + 0 ≤ 601024 by omega) (show (s + 12) + 0 ≤ 7293033 by omega) (fun _ => ⟨143, gs8, rfl, gs8g⟩) ?_
  refine hC _ _ _ _ _ ?_ hcall9
  rintro _ h5 ⟨hL6, r7, rfl⟩
  show Vx (Ex S 24) S M_368 [] Q1 1966 (px_s1 lv 5 (.int r3)) [.int r7] h5 (c + 2) (s + 12)
  refine Vx.go hC te_368_1966 ?_
  refine ⟨by decide, ?_⟩
  have hl10 := LwS.st (j := 6) (v := .int r7) (by omega) hl4
  show Vx (Ex S 24) S M_368 [] Q1 1968 (px_s1 (px_s1 lv 5 (.int r3)) 6 (.int r7)) [] h5 (c + 2) (s + 12)
  refine Vx.go hC te_368_1968 ?_
  refine ⟨by decide, ?_⟩
  exact Nx _ _ _ _ hl10 hL6 (by omega) (by omega)
theorem lc_40 {S : Nat × (Nat → Int32)} {lv : LV} {h : PH} {c s : Nat} {i : Int32} (hS : S.1 ≤ 3072) (hl : LwS lv i) (hi : 0 ≤ i.toInt ∧ i.toInt + 5 < S.1) (hL : LR h) (hc : c + 8 ≤ 601024) (hs : s + 48 ≤ 7293033) (Nx : ∀ lv' h' c' s', LwS lv' i → LR h' → c' ≤ c + 8 → s' ≤ s + 48 → Vx (Ex S 24) S M_368 [] Q1 2344 lv' [] h' c' s') : Vx (Ex S 24) S M_368 [] Q1 1971 lv [] h c s := by
  have hC := Ex.mono S 24
  refine Vx.go hC te_368_1971 ?_
  refine ⟨_, hl.2.1, ⟨0, Or.inl rfl⟩, ?_⟩
  refine sc_load hC (k := 1) hl te_368_1972 te_368_1973 te_368_1975 te_368_1976 te_368_1977 (sc_in hS hi (by decide)) ?_
  refine sc_load hC (k := 2) hl te_368_1978 te_368_1979 te_368_1981 te_368_1982 te_368_1983 (sc_in hS hi (by decide)) ?_
  refine Vx.go hC te_368_1984 ?_
  refine ⟨_, hl.2.2.2.1, ⟨173, Or.inl rfl⟩, ?_⟩
  refine Vx.go hC te_368_1985 ?_
  refine Or.inr ⟨by decide, ?_⟩
  refine p_call_mk (av := [.ref 0, .int (S.2 (i + Int32.ofInt 1).toNatClampNeg), .int (S.2 (i + Int32.ofInt 2).toNatClampNeg), .ref 173]) (rest := []) mt_200 rfl (by decide) (show c + 4 ≤ 601024 by omega) (show s + 24 ≤ 7293033 by omega) (fun q => by cases q) ?_
  refine g_200 (n := 6) hL (fun r3 h1 hL2 => ?_)
  show Vx (Ex S 24) S M_368 [] Q1 1988 lv [.int r3] h1 (c + 4) (s + 24)
  refine Vx.go hC te_368_1988 ?_
  refine ⟨by decide, ?_⟩
  have hl4 := LwS.st (j := 5) (v := .int r3) (by omega) hl
  show Vx (Ex S 24) S M_368 [] Q1 1990 (px_s1 lv 5 (.int r3)) [] h1 (c + 4) (s + 24)
  refine Vx.go hC te_368_1990 ?_
  refine ⟨_, hl4.2.2.1, ⟨143, Or.inl rfl⟩, ?_⟩
  refine sc_load hC (k := 1) hl4 te_368_1991 te_368_1992 te_368_1994 te_368_1995 te_368_1996 (sc_in hS hi (by decide)) ?_
  refine sc_load hC (k := 2) hl4 te_368_1997 te_368_1998 te_368_2000 te_368_2001 te_368_2002 (sc_in hS hi (by decide)) ?_
  refine Vx.go hC te_368_2003 ?_
  obtain ⟨gs8, gs8g⟩ := hL2.obj (A := 143) rfl
  have hcall9 := ref_call (S := S) (n := 24) (μ := 356) (args := [.inr 143, .inl ((S.2 (i + Int32.ofInt 1).toNatClampNeg) : Int32).toInt, .inl ((S.2 (i + Int32.ofInt 2).toNatClampNeg) : Int32).toInt]) (h := h1) (fun v hv => by simp only [List.mem_cons, List.not_mem_nil, or_false] at hv; rcases hv with rfl | rfl | rfl <;> first | trivial | exact wiI _) hL2 (fun mem hr => f_356 hr (fun r m' a b => ⟨a, b⟩))
  simp only [List.map_cons, List.map_nil, wv, Int32.ofInt_toInt] at hcall9
  refine p_call_mk (av := [.ref 143, .int (S.2 (i + Int32.ofInt 1).toNatClampNeg), .int (S.2 (i + Int32.ofInt 2).toNatClampNeg)]) (rest := []) mt_356 rfl (by decide) (show (c + 4) + 0 ≤ 601024 by omega) (show (s + 24) + 0 ≤ 7293033 by omega) (fun _ => ⟨143, gs8, rfl, gs8g⟩) ?_
  refine hC _ _ _ _ _ ?_ hcall9
  rintro _ h5 ⟨hL6, r7, rfl⟩
  show Vx (Ex S 24) S M_368 [] Q1 2006 (px_s1 lv 5 (.int r3)) [.int r7] h5 (c + 4) (s + 24)
  refine Vx.go hC te_368_2006 ?_
  refine ⟨by decide, ?_⟩
  have hl10 := LwS.st (j := 6) (v := .int r7) (by omega) hl4
  show Vx (Ex S 24) S M_368 [] Q1 2008 (px_s1 (px_s1 lv 5 (.int r3)) 6 (.int r7)) [] h5 (c + 4) (s + 24)
  refine Vx.go hC te_368_2008 ?_
  refine ⟨by decide, ?_⟩
  exact Nx _ _ _ _ hl10 hL6 (by omega) (by omega)
theorem lc_41 {S : Nat × (Nat → Int32)} {lv : LV} {h : PH} {c s : Nat} {i : Int32} (hS : S.1 ≤ 3072) (hl : LwS lv i) (hi : 0 ≤ i.toInt ∧ i.toInt + 5 < S.1) (hL : LR h) (hc : c + 8 ≤ 601024) (hs : s + 48 ≤ 7293033) (Nx : ∀ lv' h' c' s', LwS lv' i → LR h' → c' ≤ c + 8 → s' ≤ s + 48 → Vx (Ex S 24) S M_368 [] Q1 2344 lv' [] h' c' s') : Vx (Ex S 24) S M_368 [] Q1 2011 lv [] h c s := by
  have hC := Ex.mono S 24
  refine Vx.go hC te_368_2011 ?_
  refine ⟨_, hl.2.1, ⟨0, Or.inl rfl⟩, ?_⟩
  refine sc_load hC (k := 1) hl te_368_2012 te_368_2013 te_368_2015 te_368_2016 te_368_2017 (sc_in hS hi (by decide)) ?_
  refine sc_load hC (k := 2) hl te_368_2018 te_368_2019 te_368_2021 te_368_2022 te_368_2023 (sc_in hS hi (by decide)) ?_
  refine sc_load hC (k := 3) hl te_368_2024 te_368_2025 te_368_2027 te_368_2028 te_368_2029 (sc_in hS hi (by decide)) ?_
  refine Vx.go hC te_368_2030 ?_
  refine ⟨by decide, fun q => ?_, fun q => ?_⟩
  · show Vx (Ex S 24) S M_368 [] Q1 2037 lv [.int (S.2 (i + Int32.ofInt 2).toNatClampNeg), .int (S.2 (i + Int32.ofInt 1).toNatClampNeg), .ref 0] h c s
    refine Vx.go hC te_368_2037 ?_
    refine Vx.go hC te_368_2038 ?_
    refine ⟨_, hl.2.2.2.1, ⟨173, Or.inl rfl⟩, ?_⟩
    refine Vx.go hC te_368_2039 ?_
    refine Or.inr ⟨by decide, ?_⟩
    refine p_call_mk (av := [.ref 0, .int (S.2 (i + Int32.ofInt 1).toNatClampNeg), .int (S.2 (i + Int32.ofInt 2).toNatClampNeg), .int (Int32.ofInt 0), .ref 173]) (rest := []) mt_202 rfl (by decide) (show c + 4 ≤ 601024 by omega) (show s + 24 ≤ 7293033 by omega) (fun q => by cases q) ?_
    refine g_202 (n := 6) hL (fun r3 h1 hL2 => ?_)
    show Vx (Ex S 24) S M_368 [] Q1 2042 lv [.int r3] h1 (c + 4) (s + 24)
    refine Vx.go hC te_368_2042 ?_
    refine ⟨by decide, ?_⟩
    have hl4 := LwS.st (j := 5) (v := .int r3) (by omega) hl
    show Vx (Ex S 24) S M_368 [] Q1 2044 (px_s1 lv 5 (.int r3)) [] h1 (c + 4) (s + 24)
    refine Vx.go hC te_368_2044 ?_
    refine ⟨_, hl4.2.2.1, ⟨143, Or.inl rfl⟩, ?_⟩
    refine sc_load hC (k := 1) hl4 te_368_2045 te_368_2046 te_368_2048 te_368_2049 te_368_2050 (sc_in hS hi (by decide)) ?_
    refine sc_load hC (k := 2) hl4 te_368_2051 te_368_2052 te_368_2054 te_368_2055 te_368_2056 (sc_in hS hi (by decide)) ?_
    refine sc_load hC (k := 3) hl4 te_368_2057 te_368_2058 te_368_2060 te_368_2061 te_368_2062 (sc_in hS hi (by decide)) ?_
    refine Vx.go hC te_368_2063 ?_
    refine ⟨by decide, fun q => ?_, fun q => ?_⟩
    · show Vx (Ex S 24) S M_368 [] Q1 2070 (px_s1 lv 5 (.int r3)) [.int (S.2 (i + Int32.ofInt 2).toNatClampNeg), .int (S.2 (i + Int32.ofInt 1).toNatClampNeg), .ref 143] h1 (c + 4) (s + 24)
      refine Vx.go hC te_368_2070 ?_
      refine Vx.go hC te_368_2071 ?_
      obtain ⟨gs8, gs8g⟩ := hL2.obj (A := 143) rfl
      have hcall9 := ref_call (S := S) (n := 24) (μ := 359) (args := [.inr 143, .inl ((S.2 (i + Int32.ofInt 1).toNatClampNeg) : Int32).toInt, .inl ((S.2 (i + Int32.ofInt 2).toNatClampNeg) : Int32).toInt, .inl ((Int32.ofInt 0) : Int32).toInt]) (h := h1) (fun v hv => by simp only [List.mem_cons, List.not_mem_nil, or_false] at hv; rcases hv with rfl | rfl | rfl | rfl <;> first | trivial | exact wiI _) hL2 (fun mem hr => f_359 hr (fun r m' a b => ⟨a, b⟩))
      simp only [List.map_cons, List.map_nil, wv, Int32.ofInt_toInt] at hcall9
      refine p_call_mk (av := [.ref 143, .int (S.2 (i + Int32.ofInt 1).toNatClampNeg), .int (S.2 (i + Int32.ofInt 2).toNatClampNeg), .int (Int32.ofInt 0)]) (rest := []) mt_359 rfl (by decide) (show (c + 4) + 0 ≤ 601024 by omega) (show (s + 24) + 0 ≤ 7293033 by omega) (fun _ => ⟨143, gs8, rfl, gs8g⟩) ?_
      refine hC _ _ _ _ _ ?_ hcall9
      rintro _ h5 ⟨hL6, r7, rfl⟩
      show Vx (Ex S 24) S M_368 [] Q1 2074 (px_s1 lv 5 (.int r3)) [.int r7] h5 (c + 4) (s + 24)
      refine Vx.go hC te_368_2074 ?_
      refine ⟨by decide, ?_⟩
      have hl10 := LwS.st (j := 6) (v := .int r7) (by omega) hl4
      show Vx (Ex S 24) S M_368 [] Q1 2076 (px_s1 (px_s1 lv 5 (.int r3)) 6 (.int r7)) [] h5 (c + 4) (s + 24)
      refine Vx.go hC te_368_2076 ?_
      refine ⟨by decide, ?_⟩
      exact Nx _ _ _ _ hl10 hL6 (by omega) (by omega)
    · show Vx (Ex S 24) S M_368 [] Q1 2066 (px_s1 lv 5 (.int r3)) [.int (S.2 (i + Int32.ofInt 2).toNatClampNeg), .int (S.2 (i + Int32.ofInt 1).toNatClampNeg), .ref 143] h1 (c + 4) (s + 24)
      refine Vx.go hC te_368_2066 ?_
      refine Vx.go hC te_368_2067 ?_
      refine ⟨by decide, ?_⟩
      show Vx (Ex S 24) S M_368 [] Q1 2071 (px_s1 lv 5 (.int r3)) [.int (Int32.ofInt 1), .int (S.2 (i + Int32.ofInt 2).toNatClampNeg), .int (S.2 (i + Int32.ofInt 1).toNatClampNeg), .ref 143] h1 (c + 4) (s + 24)
      refine Vx.go hC te_368_2071 ?_
      obtain ⟨gs14, gs14g⟩ := hL2.obj (A := 143) rfl
      have hcall15 := ref_call (S := S) (n := 24) (μ := 359) (args := [.inr 143, .inl ((S.2 (i + Int32.ofInt 1).toNatClampNeg) : Int32).toInt, .inl ((S.2 (i + Int32.ofInt 2).toNatClampNeg) : Int32).toInt, .inl ((Int32.ofInt 1) : Int32).toInt]) (h := h1) (fun v hv => by simp only [List.mem_cons, List.not_mem_nil, or_false] at hv; rcases hv with rfl | rfl | rfl | rfl <;> first | trivial | exact wiI _) hL2 (fun mem hr => f_359 hr (fun r m' a b => ⟨a, b⟩))
      simp only [List.map_cons, List.map_nil, wv, Int32.ofInt_toInt] at hcall15
      refine p_call_mk (av := [.ref 143, .int (S.2 (i + Int32.ofInt 1).toNatClampNeg), .int (S.2 (i + Int32.ofInt 2).toNatClampNeg), .int (Int32.ofInt 1)]) (rest := []) mt_359 rfl (by decide) (show (c + 4) + 0 ≤ 601024 by omega) (show (s + 24) + 0 ≤ 7293033 by omega) (fun _ => ⟨143, gs14, rfl, gs14g⟩) ?_
      refine hC _ _ _ _ _ ?_ hcall15
      rintro _ h11 ⟨hL12, r13, rfl⟩
      show Vx (Ex S 24) S M_368 [] Q1 2074 (px_s1 lv 5 (.int r3)) [.int r13] h11 (c + 4) (s + 24)
      refine Vx.go hC te_368_2074 ?_
      refine ⟨by decide, ?_⟩
      have hl16 := LwS.st (j := 6) (v := .int r13) (by omega) hl4
      show Vx (Ex S 24) S M_368 [] Q1 2076 (px_s1 (px_s1 lv 5 (.int r3)) 6 (.int r13)) [] h11 (c + 4) (s + 24)
      refine Vx.go hC te_368_2076 ?_
      refine ⟨by decide, ?_⟩
      exact Nx _ _ _ _ hl16 hL12 (by omega) (by omega)
  · show Vx (Ex S 24) S M_368 [] Q1 2033 lv [.int (S.2 (i + Int32.ofInt 2).toNatClampNeg), .int (S.2 (i + Int32.ofInt 1).toNatClampNeg), .ref 0] h c s
    refine Vx.go hC te_368_2033 ?_
    refine Vx.go hC te_368_2034 ?_
    refine ⟨by decide, ?_⟩
    show Vx (Ex S 24) S M_368 [] Q1 2038 lv [.int (Int32.ofInt 1), .int (S.2 (i + Int32.ofInt 2).toNatClampNeg), .int (S.2 (i + Int32.ofInt 1).toNatClampNeg), .ref 0] h c s
    refine Vx.go hC te_368_2038 ?_
    refine ⟨_, hl.2.2.2.1, ⟨173, Or.inl rfl⟩, ?_⟩
    refine Vx.go hC te_368_2039 ?_
    refine Or.inr ⟨by decide, ?_⟩
    refine p_call_mk (av := [.ref 0, .int (S.2 (i + Int32.ofInt 1).toNatClampNeg), .int (S.2 (i + Int32.ofInt 2).toNatClampNeg), .int (Int32.ofInt 1), .ref 173]) (rest := []) mt_202 rfl (by decide) (show c + 4 ≤ 601024 by omega) (show s + 24 ≤ 7293033 by omega) (fun q => by cases q) ?_
    refine g_202 (n := 6) hL (fun r19 h17 hL18 => ?_)
    show Vx (Ex S 24) S M_368 [] Q1 2042 lv [.int r19] h17 (c + 4) (s + 24)
    refine Vx.go hC te_368_2042 ?_
    refine ⟨by decide, ?_⟩
    have hl20 := LwS.st (j := 5) (v := .int r19) (by omega) hl
    show Vx (Ex S 24) S M_368 [] Q1 2044 (px_s1 lv 5 (.int r19)) [] h17 (c + 4) (s + 24)
    refine Vx.go hC te_368_2044 ?_
    refine ⟨_, hl20.2.2.1, ⟨143, Or.inl rfl⟩, ?_⟩
    refine sc_load hC (k := 1) hl20 te_368_2045 te_368_2046 te_368_2048 te_368_2049 te_368_2050 (sc_in hS hi (by decide)) ?_
    refine sc_load hC (k := 2) hl20 te_368_2051 te_368_2052 te_368_2054 te_368_2055 te_368_2056 (sc_in hS hi (by decide)) ?_
    refine sc_load hC (k := 3) hl20 te_368_2057 te_368_2058 te_368_2060 te_368_2061 te_368_2062 (sc_in hS hi (by decide)) ?_
    refine Vx.go hC te_368_2063 ?_
    refine ⟨by decide, fun q => ?_, fun q => ?_⟩
    · show Vx (Ex S 24) S M_368 [] Q1 2070 (px_s1 lv 5 (.int r19)) [.int (S.2 (i + Int32.ofInt 2).toNatClampNeg), .int (S.2 (i + Int32.ofInt 1).toNatClampNeg), .ref 143] h17 (c + 4) (s + 24)
      refine Vx.go hC te_368_2070 ?_
      refine Vx.go hC te_368_2071 ?_
      obtain ⟨gs24, gs24g⟩ := hL18.obj (A := 143) rfl
      have hcall25 := ref_call (S := S) (n := 24) (μ := 359) (args := [.inr 143, .inl ((S.2 (i + Int32.ofInt 1).toNatClampNeg) : Int32).toInt, .inl ((S.2 (i + Int32.ofInt 2).toNatClampNeg) : Int32).toInt, .inl ((Int32.ofInt 0) : Int32).toInt]) (h := h17) (fun v hv => by simp only [List.mem_cons, List.not_mem_nil, or_false] at hv; rcases hv with rfl | rfl | rfl | rfl <;> first | trivial | exact wiI _) hL18 (fun mem hr => f_359 hr (fun r m' a b => ⟨a, b⟩))
      simp only [List.map_cons, List.map_nil, wv, Int32.ofInt_toInt] at hcall25
      refine p_call_mk (av := [.ref 143, .int (S.2 (i + Int32.ofInt 1).toNatClampNeg), .int (S.2 (i + Int32.ofInt 2).toNatClampNeg), .int (Int32.ofInt 0)]) (rest := []) mt_359 rfl (by decide) (show (c + 4) + 0 ≤ 601024 by omega) (show (s + 24) + 0 ≤ 7293033 by omega) (fun _ => ⟨143, gs24, rfl, gs24g⟩) ?_
      refine hC _ _ _ _ _ ?_ hcall25
      rintro _ h21 ⟨hL22, r23, rfl⟩
      show Vx (Ex S 24) S M_368 [] Q1 2074 (px_s1 lv 5 (.int r19)) [.int r23] h21 (c + 4) (s + 24)
      refine Vx.go hC te_368_2074 ?_
      refine ⟨by decide, ?_⟩
      have hl26 := LwS.st (j := 6) (v := .int r23) (by omega) hl20
      show Vx (Ex S 24) S M_368 [] Q1 2076 (px_s1 (px_s1 lv 5 (.int r19)) 6 (.int r23)) [] h21 (c + 4) (s + 24)
      refine Vx.go hC te_368_2076 ?_
      refine ⟨by decide, ?_⟩
      exact Nx _ _ _ _ hl26 hL22 (by omega) (by omega)
    · show Vx (Ex S 24) S M_368 [] Q1 2066 (px_s1 lv 5 (.int r19)) [.int (S.2 (i + Int32.ofInt 2).toNatClampNeg), .int (S.2 (i + Int32.ofInt 1).toNatClampNeg), .ref 143] h17 (c + 4) (s + 24)
      refine Vx.go hC te_368_2066 ?_
      refine Vx.go hC te_368_2067 ?_
      refine ⟨by decide, ?_⟩
      show Vx (Ex S 24) S M_368 [] Q1 2071 (px_s1 lv 5 (.int r19)) [.int (Int32.ofInt 1), .int (S.2 (i + Int32.ofInt 2).toNatClampNeg), .int (S.2 (i + Int32.ofInt 1).toNatClampNeg), .ref 143] h17 (c + 4) (s + 24)
      refine Vx.go hC te_368_2071 ?_
      obtain ⟨gs30, gs30g⟩ := hL18.obj (A := 143) rfl
      have hcall31 := ref_call (S := S) (n := 24) (μ := 359) (args := [.inr 143, .inl ((S.2 (i + Int32.ofInt 1).toNatClampNeg) : Int32).toInt, .inl ((S.2 (i + Int32.ofInt 2).toNatClampNeg) : Int32).toInt, .inl ((Int32.ofInt 1) : Int32).toInt]) (h := h17) (fun v hv => by simp only [List.mem_cons, List.not_mem_nil, or_false] at hv; rcases hv with rfl | rfl | rfl | rfl <;> first | trivial | exact wiI _) hL18 (fun mem hr => f_359 hr (fun r m' a b => ⟨a, b⟩))
      simp only [List.map_cons, List.map_nil, wv, Int32.ofInt_toInt] at hcall31
      refine p_call_mk (av := [.ref 143, .int (S.2 (i + Int32.ofInt 1).toNatClampNeg), .int (S.2 (i + Int32.ofInt 2).toNatClampNeg), .int (Int32.ofInt 1)]) (rest := []) mt_359 rfl (by decide) (show (c + 4) + 0 ≤ 601024 by omega) (show (s + 24) + 0 ≤ 7293033 by omega) (fun _ => ⟨143, gs30, rfl, gs30g⟩) ?_
      refine hC _ _ _ _ _ ?_ hcall31
      rintro _ h27 ⟨hL28, r29, rfl⟩
      show Vx (Ex S 24) S M_368 [] Q1 2074 (px_s1 lv 5 (.int r19)) [.int r29] h27 (c + 4) (s + 24)
      refine Vx.go hC te_368_2074 ?_
      refine ⟨by decide, ?_⟩
      have hl32 := LwS.st (j := 6) (v := .int r29) (by omega) hl20
      show Vx (Ex S 24) S M_368 [] Q1 2076 (px_s1 (px_s1 lv 5 (.int r19)) 6 (.int r29)) [] h27 (c + 4) (s + 24)
      refine Vx.go hC te_368_2076 ?_
      refine ⟨by decide, ?_⟩
      exact Nx _ _ _ _ hl32 hL28 (by omega) (by omega)
theorem lc_42 {S : Nat × (Nat → Int32)} {lv : LV} {h : PH} {c s : Nat} {i : Int32} (hS : S.1 ≤ 3072) (hl : LwS lv i) (hi : 0 ≤ i.toInt ∧ i.toInt + 5 < S.1) (hL : LR h) (hc : c + 8 ≤ 601024) (hs : s + 48 ≤ 7293033) (Nx : ∀ lv' h' c' s', LwS lv' i → LR h' → c' ≤ c + 8 → s' ≤ s + 48 → Vx (Ex S 24) S M_368 [] Q1 2344 lv' [] h' c' s') : Vx (Ex S 24) S M_368 [] Q1 2079 lv [] h c s := by
  have hC := Ex.mono S 24
  refine Vx.go hC te_368_2079 ?_
  refine ⟨_, hl.2.1, ⟨0, Or.inl rfl⟩, ?_⟩
  refine sc_load hC (k := 1) hl te_368_2080 te_368_2081 te_368_2083 te_368_2084 te_368_2085 (sc_in hS hi (by decide)) ?_
  refine sc_load hC (k := 2) hl te_368_2086 te_368_2087 te_368_2089 te_368_2090 te_368_2091 (sc_in hS hi (by decide)) ?_
  refine sc_load hC (k := 3) hl te_368_2092 te_368_2093 te_368_2095 te_368_2096 te_368_2097 (sc_in hS hi (by decide)) ?_
  refine Vx.go hC te_368_2098 ?_
  refine ⟨_, hl.2.2.2.1, ⟨173, Or.inl rfl⟩, ?_⟩
  refine Vx.go hC te_368_2099 ?_
  refine Or.inr ⟨by decide, ?_⟩
  refine p_call_mk (av := [.ref 0, .int (S.2 (i + Int32.ofInt 1).toNatClampNeg), .int (S.2 (i + Int32.ofInt 2).toNatClampNeg), .int (S.2 (i + Int32.ofInt 3).toNatClampNeg), .ref 173]) (rest := []) mt_206 rfl (by decide) (show c + 6 ≤ 601024 by omega) (show s + 36 ≤ 7293033 by omega) (fun q => by cases q) ?_
  refine g_206 (n := 6) hL (fun r3 h1 hL2 => ?_)
  show Vx (Ex S 24) S M_368 [] Q1 2102 lv [.int r3] h1 (c + 6) (s + 36)
  refine Vx.go hC te_368_2102 ?_
  refine ⟨by decide, ?_⟩
  have hl4 := LwS.st (j := 5) (v := .int r3) (by omega) hl
  show Vx (Ex S 24) S M_368 [] Q1 2104 (px_s1 lv 5 (.int r3)) [] h1 (c + 6) (s + 36)
  refine Vx.go hC te_368_2104 ?_
  refine ⟨_, hl4.2.2.1, ⟨143, Or.inl rfl⟩, ?_⟩
  refine sc_load hC (k := 1) hl4 te_368_2105 te_368_2106 te_368_2108 te_368_2109 te_368_2110 (sc_in hS hi (by decide)) ?_
  refine sc_load hC (k := 2) hl4 te_368_2111 te_368_2112 te_368_2114 te_368_2115 te_368_2116 (sc_in hS hi (by decide)) ?_
  refine sc_load hC (k := 3) hl4 te_368_2117 te_368_2118 te_368_2120 te_368_2121 te_368_2122 (sc_in hS hi (by decide)) ?_
  refine Vx.go hC te_368_2123 ?_
  obtain ⟨gs8, gs8g⟩ := hL2.obj (A := 143) rfl
  have hcall9 := ref_call (S := S) (n := 24) (μ := 361) (args := [.inr 143, .inl ((S.2 (i + Int32.ofInt 1).toNatClampNeg) : Int32).toInt, .inl ((S.2 (i + Int32.ofInt 2).toNatClampNeg) : Int32).toInt, .inl ((S.2 (i + Int32.ofInt 3).toNatClampNeg) : Int32).toInt]) (h := h1) (fun v hv => by simp only [List.mem_cons, List.not_mem_nil, or_false] at hv; rcases hv with rfl | rfl | rfl | rfl <;> first | trivial | exact wiI _) hL2 (fun mem hr => f_361 hr (fun r m' a b => ⟨a, b⟩))
  simp only [List.map_cons, List.map_nil, wv, Int32.ofInt_toInt] at hcall9
  refine p_call_mk (av := [.ref 143, .int (S.2 (i + Int32.ofInt 1).toNatClampNeg), .int (S.2 (i + Int32.ofInt 2).toNatClampNeg), .int (S.2 (i + Int32.ofInt 3).toNatClampNeg)]) (rest := []) mt_361 rfl (by decide) (show (c + 6) + 0 ≤ 601024 by omega) (show (s + 36) + 0 ≤ 7293033 by omega) (fun _ => ⟨143, gs8, rfl, gs8g⟩) ?_
  refine hC _ _ _ _ _ ?_ hcall9
  rintro _ h5 ⟨hL6, r7, rfl⟩
  show Vx (Ex S 24) S M_368 [] Q1 2126 (px_s1 lv 5 (.int r3)) [.int r7] h5 (c + 6) (s + 36)
  refine Vx.go hC te_368_2126 ?_
  refine ⟨by decide, ?_⟩
  have hl10 := LwS.st (j := 6) (v := .int r7) (by omega) hl4
  show Vx (Ex S 24) S M_368 [] Q1 2128 (px_s1 (px_s1 lv 5 (.int r3)) 6 (.int r7)) [] h5 (c + 6) (s + 36)
  refine Vx.go hC te_368_2128 ?_
  refine ⟨by decide, ?_⟩
  exact Nx _ _ _ _ hl10 hL6 (by omega) (by omega)
theorem lc_43 {S : Nat × (Nat → Int32)} {lv : LV} {h : PH} {c s : Nat} {i : Int32} (hS : S.1 ≤ 3072) (hl : LwS lv i) (hi : 0 ≤ i.toInt ∧ i.toInt + 5 < S.1) (hL : LR h) (hc : c + 8 ≤ 601024) (hs : s + 48 ≤ 7293033) (Nx : ∀ lv' h' c' s', LwS lv' i → LR h' → c' ≤ c + 8 → s' ≤ s + 48 → Vx (Ex S 24) S M_368 [] Q1 2344 lv' [] h' c' s') : Vx (Ex S 24) S M_368 [] Q1 2131 lv [] h c s := by
  have hC := Ex.mono S 24
  refine Vx.go hC te_368_2131 ?_
  refine ⟨_, hl.2.1, ⟨0, Or.inl rfl⟩, ?_⟩
  refine sc_load hC (k := 1) hl te_368_2132 te_368_2133 te_368_2135 te_368_2136 te_368_2137 (sc_in hS hi (by decide)) ?_
  refine sc_load hC (k := 2) hl te_368_2138 te_368_2139 te_368_2141 te_368_2142 te_368_2143 (sc_in hS hi (by decide)) ?_
  refine Vx.go hC te_368_2144 ?_
  refine ⟨_, hl.2.2.2.1, ⟨173, Or.inl rfl⟩, ?_⟩
  refine Vx.go hC te_368_2145 ?_
  refine Or.inr ⟨by decide, ?_⟩
  refine p_call_mk (av := [.ref 0, .int (S.2 (i + Int32.ofInt 1).toNatClampNeg), .int (S.2 (i + Int32.ofInt 2).toNatClampNeg), .ref 173]) (rest := []) mt_209 rfl (by decide) (show c + 5 ≤ 601024 by omega) (show s + 30 ≤ 7293033 by omega) (fun q => by cases q) ?_
  refine g_209 (n := 6) hL (fun r3 h1 hL2 => ?_)
  show Vx (Ex S 24) S M_368 [] Q1 2148 lv [.int r3] h1 (c + 5) (s + 30)
  refine Vx.go hC te_368_2148 ?_
  refine ⟨by decide, ?_⟩
  have hl4 := LwS.st (j := 5) (v := .int r3) (by omega) hl
  show Vx (Ex S 24) S M_368 [] Q1 2150 (px_s1 lv 5 (.int r3)) [] h1 (c + 5) (s + 30)
  refine Vx.go hC te_368_2150 ?_
  refine ⟨_, hl4.2.2.1, ⟨143, Or.inl rfl⟩, ?_⟩
  refine sc_load hC (k := 1) hl4 te_368_2151 te_368_2152 te_368_2154 te_368_2155 te_368_2156 (sc_in hS hi (by decide)) ?_
  refine sc_load hC (k := 2) hl4 te_368_2157 te_368_2158 te_368_2160 te_368_2161 te_368_2162 (sc_in hS hi (by decide)) ?_
  refine Vx.go hC te_368_2163 ?_
  obtain ⟨gs8, gs8g⟩ := hL2.obj (A := 143) rfl
  have hcall9 := ref_call (S := S) (n := 24) (μ := 362) (args := [.inr 143, .inl ((S.2 (i + Int32.ofInt 1).toNatClampNeg) : Int32).toInt, .inl ((S.2 (i + Int32.ofInt 2).toNatClampNeg) : Int32).toInt]) (h := h1) (fun v hv => by simp only [List.mem_cons, List.not_mem_nil, or_false] at hv; rcases hv with rfl | rfl | rfl <;> first | trivial | exact wiI _) hL2 (fun mem hr => f_362 hr (fun r m' a b => ⟨a, b⟩))
  simp only [List.map_cons, List.map_nil, wv, Int32.ofInt_toInt] at hcall9
  refine p_call_mk (av := [.ref 143, .int (S.2 (i + Int32.ofInt 1).toNatClampNeg), .int (S.2 (i + Int32.ofInt 2).toNatClampNeg)]) (rest := []) mt_362 rfl (by decide) (show (c + 5) + 0 ≤ 601024 by omega) (show (s + 30) + 0 ≤ 7293033 by omega) (fun _ => ⟨143, gs8, rfl, gs8g⟩) ?_
  refine hC _ _ _ _ _ ?_ hcall9
  rintro _ h5 ⟨hL6, r7, rfl⟩
  show Vx (Ex S 24) S M_368 [] Q1 2166 (px_s1 lv 5 (.int r3)) [.int r7] h5 (c + 5) (s + 30)
  refine Vx.go hC te_368_2166 ?_
  refine ⟨by decide, ?_⟩
  have hl10 := LwS.st (j := 6) (v := .int r7) (by omega) hl4
  show Vx (Ex S 24) S M_368 [] Q1 2168 (px_s1 (px_s1 lv 5 (.int r3)) 6 (.int r7)) [] h5 (c + 5) (s + 30)
  refine Vx.go hC te_368_2168 ?_
  refine ⟨by decide, ?_⟩
  exact Nx _ _ _ _ hl10 hL6 (by omega) (by omega)
theorem lc_44 {S : Nat × (Nat → Int32)} {lv : LV} {h : PH} {c s : Nat} {i : Int32} (hS : S.1 ≤ 3072) (hl : LwS lv i) (hi : 0 ≤ i.toInt ∧ i.toInt + 5 < S.1) (hL : LR h) (hc : c + 8 ≤ 601024) (hs : s + 48 ≤ 7293033) (Nx : ∀ lv' h' c' s', LwS lv' i → LR h' → c' ≤ c + 8 → s' ≤ s + 48 → Vx (Ex S 24) S M_368 [] Q1 2344 lv' [] h' c' s') : Vx (Ex S 24) S M_368 [] Q1 2171 lv [] h c s := by
  have hC := Ex.mono S 24
  refine Vx.go hC te_368_2171 ?_
  refine ⟨_, hl.2.1, ⟨0, Or.inl rfl⟩, ?_⟩
  refine sc_load hC (k := 1) hl te_368_2172 te_368_2173 te_368_2175 te_368_2176 te_368_2177 (sc_in hS hi (by decide)) ?_
  refine sc_load hC (k := 2) hl te_368_2178 te_368_2179 te_368_2181 te_368_2182 te_368_2183 (sc_in hS hi (by decide)) ?_
  refine sc_load hC (k := 3) hl te_368_2184 te_368_2185 te_368_2187 te_368_2188 te_368_2189 (sc_in hS hi (by decide)) ?_
  refine sc_load hC (k := 4) hl te_368_2190 te_368_2191 te_368_2193 te_368_2194 te_368_2195 (sc_in hS hi (by decide)) ?_
  refine Vx.go hC te_368_2196 ?_
  refine ⟨_, hl.2.2.2.1, ⟨173, Or.inl rfl⟩, ?_⟩
  refine Vx.go hC te_368_2197 ?_
  refine Or.inr ⟨by decide, ?_⟩
  refine p_call_mk (av := [.ref 0, .int (S.2 (i + Int32.ofInt 1).toNatClampNeg), .int (S.2 (i + Int32.ofInt 2).toNatClampNeg), .int (S.2 (i + Int32.ofInt 3).toNatClampNeg), .int (S.2 (i + Int32.ofInt 4).toNatClampNeg), .ref 173]) (rest := []) mt_213 rfl (by decide) (show c + 6 ≤ 601024 by omega) (show s + 36 ≤ 7293033 by omega) (fun q => by cases q) ?_
  refine g_213 (n := 6) hL (fun r3 h1 hL2 => ?_)
  show Vx (Ex S 24) S M_368 [] Q1 2200 lv [.int r3] h1 (c + 6) (s + 36)
  refine Vx.go hC te_368_2200 ?_
  refine ⟨by decide, ?_⟩
  have hl4 := LwS.st (j := 5) (v := .int r3) (by omega) hl
  show Vx (Ex S 24) S M_368 [] Q1 2202 (px_s1 lv 5 (.int r3)) [] h1 (c + 6) (s + 36)
  refine Vx.go hC te_368_2202 ?_
  refine ⟨_, hl4.2.2.1, ⟨143, Or.inl rfl⟩, ?_⟩
  refine sc_load hC (k := 1) hl4 te_368_2203 te_368_2204 te_368_2206 te_368_2207 te_368_2208 (sc_in hS hi (by decide)) ?_
  refine sc_load hC (k := 2) hl4 te_368_2209 te_368_2210 te_368_2212 te_368_2213 te_368_2214 (sc_in hS hi (by decide)) ?_
  refine sc_load hC (k := 3) hl4 te_368_2215 te_368_2216 te_368_2218 te_368_2219 te_368_2220 (sc_in hS hi (by decide)) ?_
  refine sc_load hC (k := 4) hl4 te_368_2221 te_368_2222 te_368_2224 te_368_2225 te_368_2226 (sc_in hS hi (by decide)) ?_
  refine Vx.go hC te_368_2227 ?_
  obtain ⟨gs8, gs8g⟩ := hL2.obj (A := 143) rfl
  have hcall9 := ref_call (S := S) (n := 24) (μ := 364) (args := [.inr 143, .inl ((S.2 (i + Int32.ofInt 1).toNatClampNeg) : Int32).toInt, .inl ((S.2 (i + Int32.ofInt 2).toNatClampNeg) : Int32).toInt, .inl ((S.2 (i + Int32.ofInt 3).toNatClampNeg) : Int32).toInt, .inl ((S.2 (i + Int32.ofInt 4).toNatClampNeg) : Int32).toInt]) (h := h1) (fun v hv => by simp only [List.mem_cons, List.not_mem_nil, or_false] at hv; rcases hv with rfl | rfl | rfl | rfl | rfl <;> first | trivial | exact wiI _) hL2 (fun mem hr => f_364 hr (fun r m' a b => ⟨a, b⟩))
  simp only [List.map_cons, List.map_nil, wv, Int32.ofInt_toInt] at hcall9
  refine p_call_mk (av := [.ref 143, .int (S.2 (i + Int32.ofInt 1).toNatClampNeg), .int (S.2 (i + Int32.ofInt 2).toNatClampNeg), .int (S.2 (i + Int32.ofInt 3).toNatClampNeg), .int (S.2 (i + Int32.ofInt 4).toNatClampNeg)]) (rest := []) mt_364 rfl (by decide) (show (c + 6) + 0 ≤ 601024 by omega) (show (s + 36) + 0 ≤ 7293033 by omega) (fun _ => ⟨143, gs8, rfl, gs8g⟩) ?_
  refine hC _ _ _ _ _ ?_ hcall9
  rintro _ h5 ⟨hL6, r7, rfl⟩
  show Vx (Ex S 24) S M_368 [] Q1 2230 (px_s1 lv 5 (.int r3)) [.int r7] h5 (c + 6) (s + 36)
  refine Vx.go hC te_368_2230 ?_
  refine ⟨by decide, ?_⟩
  have hl10 := LwS.st (j := 6) (v := .int r7) (by omega) hl4
  show Vx (Ex S 24) S M_368 [] Q1 2232 (px_s1 (px_s1 lv 5 (.int r3)) 6 (.int r7)) [] h5 (c + 6) (s + 36)
  refine Vx.go hC te_368_2232 ?_
  refine ⟨by decide, ?_⟩
  exact Nx _ _ _ _ hl10 hL6 (by omega) (by omega)
theorem lc_45 {S : Nat × (Nat → Int32)} {lv : LV} {h : PH} {c s : Nat} {i : Int32} (hS : S.1 ≤ 3072) (hl : LwS lv i) (hi : 0 ≤ i.toInt ∧ i.toInt + 5 < S.1) (hL : LR h) (hc : c + 8 ≤ 601024) (hs : s + 48 ≤ 7293033) (Nx : ∀ lv' h' c' s', LwS lv' i → LR h' → c' ≤ c + 8 → s' ≤ s + 48 → Vx (Ex S 24) S M_368 [] Q1 2344 lv' [] h' c' s') : Vx (Ex S 24) S M_368 [] Q1 2235 lv [] h c s := by
  have hC := Ex.mono S 24
  refine Vx.go hC te_368_2235 ?_
  refine ⟨_, hl.2.1, ⟨0, Or.inl rfl⟩, ?_⟩
  refine sc_load hC (k := 1) hl te_368_2236 te_368_2237 te_368_2239 te_368_2240 te_368_2241 (sc_in hS hi (by decide)) ?_
  refine Vx.go hC te_368_2242 ?_
  refine ⟨_, hl.2.2.2.1, ⟨173, Or.inl rfl⟩, ?_⟩
  refine Vx.go hC te_368_2243 ?_
  refine Or.inr ⟨by decide, ?_⟩
  refine p_call_mk (av := [.ref 0, .int (S.2 (i + Int32.ofInt 1).toNatClampNeg), .ref 173]) (rest := []) mt_218 rfl (by decide) (show c + 3 ≤ 601024 by omega) (show s + 18 ≤ 7293033 by omega) (fun q => by cases q) ?_
  refine g_218 (n := 6) hL (fun r3 h1 hL2 => ?_)
  show Vx (Ex S 24) S M_368 [] Q1 2246 lv [.int r3] h1 (c + 3) (s + 18)
  refine Vx.go hC te_368_2246 ?_
  refine ⟨by decide, ?_⟩
  have hl4 := LwS.st (j := 5) (v := .int r3) (by omega) hl
  show Vx (Ex S 24) S M_368 [] Q1 2248 (px_s1 lv 5 (.int r3)) [] h1 (c + 3) (s + 18)
  refine Vx.go hC te_368_2248 ?_
  refine ⟨_, hl4.2.2.1, ⟨143, Or.inl rfl⟩, ?_⟩
  refine sc_load hC (k := 1) hl4 te_368_2249 te_368_2250 te_368_2252 te_368_2253 te_368_2254 (sc_in hS hi (by decide)) ?_
  refine Vx.go hC te_368_2255 ?_
  obtain ⟨gs8, gs8g⟩ := hL2.obj (A := 143) rfl
  have hcall9 := ref_call (S := S) (n := 24) (μ := 336) (args := [.inr 143, .inl ((S.2 (i + Int32.ofInt 1).toNatClampNeg) : Int32).toInt]) (h := h1) (fun v hv => by simp only [List.mem_cons, List.not_mem_nil, or_false] at hv; rcases hv with rfl | rfl <;> first | trivial | exact wiI _) hL2 (fun mem hr => f_336 hr (fun r m' a b => ⟨a, b⟩))
  simp only [List.map_cons, List.map_nil, wv, Int32.ofInt_toInt] at hcall9
  refine p_call_mk (av := [.ref 143, .int (S.2 (i + Int32.ofInt 1).toNatClampNeg)]) (rest := []) mt_336 rfl (by decide) (show (c + 3) + 0 ≤ 601024 by omega) (show (s + 18) + 0 ≤ 7293033 by omega) (fun _ => ⟨143, gs8, rfl, gs8g⟩) ?_
  refine hC _ _ _ _ _ ?_ hcall9
  rintro _ h5 ⟨hL6, r7, rfl⟩
  show Vx (Ex S 24) S M_368 [] Q1 2258 (px_s1 lv 5 (.int r3)) [.int r7] h5 (c + 3) (s + 18)
  refine Vx.go hC te_368_2258 ?_
  refine ⟨by decide, ?_⟩
  have hl10 := LwS.st (j := 6) (v := .int r7) (by omega) hl4
  show Vx (Ex S 24) S M_368 [] Q1 2260 (px_s1 (px_s1 lv 5 (.int r3)) 6 (.int r7)) [] h5 (c + 3) (s + 18)
  refine Vx.go hC te_368_2260 ?_
  refine ⟨by decide, ?_⟩
  exact Nx _ _ _ _ hl10 hL6 (by omega) (by omega)
theorem lc_46 {S : Nat × (Nat → Int32)} {lv : LV} {h : PH} {c s : Nat} {i : Int32} (hS : S.1 ≤ 3072) (hl : LwS lv i) (hi : 0 ≤ i.toInt ∧ i.toInt + 5 < S.1) (hL : LR h) (hc : c + 8 ≤ 601024) (hs : s + 48 ≤ 7293033) (Nx : ∀ lv' h' c' s', LwS lv' i → LR h' → c' ≤ c + 8 → s' ≤ s + 48 → Vx (Ex S 24) S M_368 [] Q1 2344 lv' [] h' c' s') : Vx (Ex S 24) S M_368 [] Q1 2263 lv [] h c s := by
  have hC := Ex.mono S 24
  refine Vx.go hC te_368_2263 ?_
  refine ⟨_, hl.2.1, ⟨0, Or.inl rfl⟩, ?_⟩
  refine sc_load hC (k := 1) hl te_368_2264 te_368_2265 te_368_2267 te_368_2268 te_368_2269 (sc_in hS hi (by decide)) ?_
  refine Vx.go hC te_368_2270 ?_
  refine ⟨_, hl.2.2.2.1, ⟨173, Or.inl rfl⟩, ?_⟩
  refine Vx.go hC te_368_2271 ?_
  refine Or.inr ⟨by decide, ?_⟩
  refine p_call_mk (av := [.ref 0, .int (S.2 (i + Int32.ofInt 1).toNatClampNeg), .ref 173]) (rest := []) mt_220 rfl (by decide) (show c + 2 ≤ 601024 by omega) (show s + 12 ≤ 7293033 by omega) (fun q => by cases q) ?_
  refine g_220 (n := 6) hL (fun r3 h1 hL2 => ?_)
  show Vx (Ex S 24) S M_368 [] Q1 2274 lv [.int r3] h1 (c + 2) (s + 12)
  refine Vx.go hC te_368_2274 ?_
  refine ⟨by decide, ?_⟩
  have hl4 := LwS.st (j := 5) (v := .int r3) (by omega) hl
  show Vx (Ex S 24) S M_368 [] Q1 2276 (px_s1 lv 5 (.int r3)) [] h1 (c + 2) (s + 12)
  refine Vx.go hC te_368_2276 ?_
  refine ⟨_, hl4.2.2.1, ⟨143, Or.inl rfl⟩, ?_⟩
  refine sc_load hC (k := 1) hl4 te_368_2277 te_368_2278 te_368_2280 te_368_2281 te_368_2282 (sc_in hS hi (by decide)) ?_
  refine Vx.go hC te_368_2283 ?_
  obtain ⟨gs8, gs8g⟩ := hL2.obj (A := 143) rfl
  have hcall9 := ref_call (S := S) (n := 24) (μ := 357) (args := [.inr 143, .inl ((S.2 (i + Int32.ofInt 1).toNatClampNeg) : Int32).toInt]) (h := h1) (fun v hv => by simp only [List.mem_cons, List.not_mem_nil, or_false] at hv; rcases hv with rfl | rfl <;> first | trivial | exact wiI _) hL2 (fun mem hr => f_357 hr (fun r m' a b => ⟨a, b⟩))
  simp only [List.map_cons, List.map_nil, wv, Int32.ofInt_toInt] at hcall9
  refine p_call_mk (av := [.ref 143, .int (S.2 (i + Int32.ofInt 1).toNatClampNeg)]) (rest := []) mt_357 rfl (by decide) (show (c + 2) + 0 ≤ 601024 by omega) (show (s + 12) + 0 ≤ 7293033 by omega) (fun _ => ⟨143, gs8, rfl, gs8g⟩) ?_
  refine hC _ _ _ _ _ ?_ hcall9
  rintro _ h5 ⟨hL6, r7, rfl⟩
  show Vx (Ex S 24) S M_368 [] Q1 2286 (px_s1 lv 5 (.int r3)) [.int r7] h5 (c + 2) (s + 12)
  refine Vx.go hC te_368_2286 ?_
  refine ⟨by decide, ?_⟩
  have hl10 := LwS.st (j := 6) (v := .int r7) (by omega) hl4
  show Vx (Ex S 24) S M_368 [] Q1 2288 (px_s1 (px_s1 lv 5 (.int r3)) 6 (.int r7)) [] h5 (c + 2) (s + 12)
  refine Vx.go hC te_368_2288 ?_
  refine ⟨by decide, ?_⟩
  exact Nx _ _ _ _ hl10 hL6 (by omega) (by omega)
/-! laid by wip/hand/lw.py: cases of the law -/
theorem te_368_2291 : (pT M_368).find? (fun e => e.1 == 2291) = some (2291, .aload_n 1, 0, 0) := (sk_120 2291 rfl).trans rfl
theorem te_368_2292 : (pT M_368).find? (fun e => e.1 == 2292) = some (2292, .aload_n 0, 0, 0) := (sk_120 2292 rfl).trans rfl
theorem te_368_2293 : (pT M_368).find? (fun e => e.1 == 2293) = some (2293, .iload 4, 0, 0) := (sk_120 2293 rfl).trans rfl
theorem te_368_2295 : (pT M_368).find? (fun e => e.1 == 2295) = some (2295, .iconst 1, 0, 0) := (sk_120 2295 rfl).trans rfl
theorem te_368_2296 : (pT M_368).find? (fun e => e.1 == 2296) = some (2296, .iadd, 0, 0) := (sk_121 2296 rfl).trans rfl
theorem te_368_2297 : (pT M_368).find? (fun e => e.1 == 2297) = some (2297, .iaload, 0, 0) := (sk_121 2297 rfl).trans rfl
theorem te_368_2298 : (pT M_368).find? (fun e => e.1 == 2298) = some (2298, .aload_n 3, 0, 0) := (sk_121 2298 rfl).trans rfl
theorem te_368_2299 : (pT M_368).find? (fun e => e.1 == 2299) = some (2299, .invokestatic 333, 222, 8) := (sk_121 2299 rfl).trans rfl
theorem te_368_2302 : (pT M_368).find? (fun e => e.1 == 2302) = some (2302, .istore 5, 0, 0) := (sk_121 2302 rfl).trans rfl
theorem te_368_2304 : (pT M_368).find? (fun e => e.1 == 2304) = some (2304, .aload_n 2, 0, 0) := (sk_121 2304 rfl).trans rfl
theorem te_368_2305 : (pT M_368).find? (fun e => e.1 == 2305) = some (2305, .aload_n 0, 0, 0) := (sk_121 2305 rfl).trans rfl
theorem te_368_2306 : (pT M_368).find? (fun e => e.1 == 2306) = some (2306, .iload 4, 0, 0) := (sk_121 2306 rfl).trans rfl
theorem te_368_2308 : (pT M_368).find? (fun e => e.1 == 2308) = some (2308, .iconst 1, 0, 0) := (sk_121 2308 rfl).trans rfl
theorem te_368_2309 : (pT M_368).find? (fun e => e.1 == 2309) = some (2309, .iadd, 0, 0) := (sk_121 2309 rfl).trans rfl
theorem te_368_2310 : (pT M_368).find? (fun e => e.1 == 2310) = some (2310, .iaload, 0, 0) := (sk_121 2310 rfl).trans rfl
theorem te_368_2311 : (pT M_368).find? (fun e => e.1 == 2311) = some (2311, .invokevirtual 335, 358, 0) := (sk_121 2311 rfl).trans rfl
theorem te_368_2314 : (pT M_368).find? (fun e => e.1 == 2314) = some (2314, .istore 6, 0, 0) := (sk_122 2314 rfl).trans rfl
theorem te_368_2316 : (pT M_368).find? (fun e => e.1 == 2316) = some (2316, .goto 28, 0, 0) := (sk_122 2316 rfl).trans rfl
theorem te_368_2319 : (pT M_368).find? (fun e => e.1 == 2319) = some (2319, .aload_n 1, 0, 0) := (sk_122 2319 rfl).trans rfl
theorem te_368_2320 : (pT M_368).find? (fun e => e.1 == 2320) = some (2320, .aload_n 0, 0, 0) := (sk_122 2320 rfl).trans rfl
theorem te_368_2321 : (pT M_368).find? (fun e => e.1 == 2321) = some (2321, .iload 4, 0, 0) := (sk_122 2321 rfl).trans rfl
theorem te_368_2323 : (pT M_368).find? (fun e => e.1 == 2323) = some (2323, .iconst 1, 0, 0) := (sk_122 2323 rfl).trans rfl
theorem te_368_2324 : (pT M_368).find? (fun e => e.1 == 2324) = some (2324, .iadd, 0, 0) := (sk_122 2324 rfl).trans rfl
theorem te_368_2325 : (pT M_368).find? (fun e => e.1 == 2325) = some (2325, .iaload, 0, 0) := (sk_122 2325 rfl).trans rfl
theorem te_368_2326 : (pT M_368).find? (fun e => e.1 == 2326) = some (2326, .invokevirtual 336, 31, 0) := (sk_122 2326 rfl).trans rfl
theorem te_368_2329 : (pT M_368).find? (fun e => e.1 == 2329) = some (2329, .pop, 0, 0) := (sk_122 2329 rfl).trans rfl
theorem te_368_2330 : (pT M_368).find? (fun e => e.1 == 2330) = some (2330, .aload_n 2, 0, 0) := (sk_122 2330 rfl).trans rfl
theorem te_368_2331 : (pT M_368).find? (fun e => e.1 == 2331) = some (2331, .aload_n 0, 0, 0) := (sk_122 2331 rfl).trans rfl
theorem te_368_2332 : (pT M_368).find? (fun e => e.1 == 2332) = some (2332, .iload 4, 0, 0) := (sk_123 2332 rfl).trans rfl
theorem te_368_2334 : (pT M_368).find? (fun e => e.1 == 2334) = some (2334, .iconst 1, 0, 0) := (sk_123 2334 rfl).trans rfl
theorem te_368_2335 : (pT M_368).find? (fun e => e.1 == 2335) = some (2335, .iadd, 0, 0) := (sk_123 2335 rfl).trans rfl
theorem te_368_2336 : (pT M_368).find? (fun e => e.1 == 2336) = some (2336, .iaload, 0, 0) := (sk_123 2336 rfl).trans rfl
theorem te_368_2337 : (pT M_368).find? (fun e => e.1 == 2337) = some (2337, .invokevirtual 339, 366, 0) := (sk_123 2337 rfl).trans rfl
theorem te_368_2340 : (pT M_368).find? (fun e => e.1 == 2340) = some (2340, .pop, 0, 0) := (sk_123 2340 rfl).trans rfl
theorem te_368_2341 : (pT M_368).find? (fun e => e.1 == 2341) = some (2341, .goto 3, 0, 0) := (sk_123 2341 rfl).trans rfl
theorem lc_47 {S : Nat × (Nat → Int32)} {lv : LV} {h : PH} {c s : Nat} {i : Int32} (hS : S.1 ≤ 3072) (hl : LwS lv i) (hi : 0 ≤ i.toInt ∧ i.toInt + 5 < S.1) (hL : LR h) (hc : c + 8 ≤ 601024) (hs : s + 48 ≤ 7293033) (Nx : ∀ lv' h' c' s', LwS lv' i → LR h' → c' ≤ c + 8 → s' ≤ s + 48 → Vx (Ex S 24) S M_368 [] Q1 2344 lv' [] h' c' s') : Vx (Ex S 24) S M_368 [] Q1 2291 lv [] h c s := by
  have hC := Ex.mono S 24
  refine Vx.go hC te_368_2291 ?_
  refine ⟨_, hl.2.1, ⟨0, Or.inl rfl⟩, ?_⟩
  refine sc_load hC (k := 1) hl te_368_2292 te_368_2293 te_368_2295 te_368_2296 te_368_2297 (sc_in hS hi (by decide)) ?_
  refine Vx.go hC te_368_2298 ?_
  refine ⟨_, hl.2.2.2.1, ⟨173, Or.inl rfl⟩, ?_⟩
  refine Vx.go hC te_368_2299 ?_
  refine Or.inr ⟨by decide, ?_⟩
  refine p_call_mk (av := [.ref 0, .int (S.2 (i + Int32.ofInt 1).toNatClampNeg), .ref 173]) (rest := []) mt_222 rfl (by decide) (show c + 2 ≤ 601024 by omega) (show s + 12 ≤ 7293033 by omega) (fun q => by cases q) ?_
  refine g_222 (n := 6) hL (fun r3 h1 hL2 => ?_)
  show Vx (Ex S 24) S M_368 [] Q1 2302 lv [.int r3] h1 (c + 2) (s + 12)
  refine Vx.go hC te_368_2302 ?_
  refine ⟨by decide, ?_⟩
  have hl4 := LwS.st (j := 5) (v := .int r3) (by omega) hl
  show Vx (Ex S 24) S M_368 [] Q1 2304 (px_s1 lv 5 (.int r3)) [] h1 (c + 2) (s + 12)
  refine Vx.go hC te_368_2304 ?_
  refine ⟨_, hl4.2.2.1, ⟨143, Or.inl rfl⟩, ?_⟩
  refine sc_load hC (k := 1) hl4 te_368_2305 te_368_2306 te_368_2308 te_368_2309 te_368_2310 (sc_in hS hi (by decide)) ?_
  refine Vx.go hC te_368_2311 ?_
  obtain ⟨gs8, gs8g⟩ := hL2.obj (A := 143) rfl
  have hcall9 := ref_call (S := S) (n := 24) (μ := 358) (args := [.inr 143, .inl ((S.2 (i + Int32.ofInt 1).toNatClampNeg) : Int32).toInt]) (h := h1) (fun v hv => by simp only [List.mem_cons, List.not_mem_nil, or_false] at hv; rcases hv with rfl | rfl <;> first | trivial | exact wiI _) hL2 (fun mem hr => f_358 hr (fun r m' a b => ⟨a, b⟩))
  simp only [List.map_cons, List.map_nil, wv, Int32.ofInt_toInt] at hcall9
  refine p_call_mk (av := [.ref 143, .int (S.2 (i + Int32.ofInt 1).toNatClampNeg)]) (rest := []) mt_358 rfl (by decide) (show (c + 2) + 0 ≤ 601024 by omega) (show (s + 12) + 0 ≤ 7293033 by omega) (fun _ => ⟨143, gs8, rfl, gs8g⟩) ?_
  refine hC _ _ _ _ _ ?_ hcall9
  rintro _ h5 ⟨hL6, r7, rfl⟩
  show Vx (Ex S 24) S M_368 [] Q1 2314 (px_s1 lv 5 (.int r3)) [.int r7] h5 (c + 2) (s + 12)
  refine Vx.go hC te_368_2314 ?_
  refine ⟨by decide, ?_⟩
  have hl10 := LwS.st (j := 6) (v := .int r7) (by omega) hl4
  show Vx (Ex S 24) S M_368 [] Q1 2316 (px_s1 (px_s1 lv 5 (.int r3)) 6 (.int r7)) [] h5 (c + 2) (s + 12)
  refine Vx.go hC te_368_2316 ?_
  refine ⟨by decide, ?_⟩
  exact Nx _ _ _ _ hl10 hL6 (by omega) (by omega)
theorem lc_48 {S : Nat × (Nat → Int32)} {lv : LV} {h : PH} {c s : Nat} {i : Int32} (hS : S.1 ≤ 3072) (hl : LwS lv i) (hi : 0 ≤ i.toInt ∧ i.toInt + 5 < S.1) (hL : LR h) (hc : c + 8 ≤ 601024) (hs : s + 48 ≤ 7293033) (Nx : ∀ lv' h' c' s', LwS lv' i → LR h' → c' ≤ c + 8 → s' ≤ s + 48 → Vx (Ex S 24) S M_368 [] Q1 2344 lv' [] h' c' s') : Vx (Ex S 24) S M_368 [] Q1 2319 lv [] h c s := by
  have hC := Ex.mono S 24
  refine Vx.go hC te_368_2319 ?_
  refine ⟨_, hl.2.1, ⟨0, Or.inl rfl⟩, ?_⟩
  refine sc_load hC (k := 1) hl te_368_2320 te_368_2321 te_368_2323 te_368_2324 te_368_2325 (sc_in hS hi (by decide)) ?_
  refine Vx.go hC te_368_2326 ?_
  obtain ⟨gs4, gs4g⟩ := hL.obj (A := 0) rfl
  have hcall5 := cls_call (S := S) (n := 24) (μ := 31) (args := [.inr 0, .inl ((S.2 (i + Int32.ofInt 1).toNatClampNeg) : Int32).toInt]) (h := h) (es := fun _ => False) (fun v hv => by simp only [List.mem_cons, List.not_mem_nil, or_false] at hv; rcases hv with rfl | rfl <;> first | trivial | exact wiI _) hL (fun mem hr => f_31 hr (fun r m' a b => ⟨a, b⟩))
  simp only [List.map_cons, List.map_nil, wv, Int32.ofInt_toInt] at hcall5
  refine p_call_mk (av := [.ref 0, .int (S.2 (i + Int32.ofInt 1).toNatClampNeg)]) (rest := []) mt_31 rfl (by decide) (show c + 0 ≤ 601024 by omega) (show s + 0 ≤ 7293033 by omega) (fun _ => ⟨0, gs4, rfl, gs4g⟩) ?_
  refine hC _ _ _ _ _ ?_ hcall5
  rintro _ h1 ⟨hL2, hor⟩
  obtain ⟨r3, rfl⟩ := hor.resolve_right (fun ⟨_, q, _⟩ => q)
  show Vx (Ex S 24) S M_368 [] Q1 2329 lv [.int r3] h1 c s
  refine Vx.go hC te_368_2329 ?_
  refine ⟨_, _, rfl, rfl, ?_⟩
  show Vx (Ex S 24) S M_368 [] Q1 2330 lv [] h1 c s
  refine Vx.go hC te_368_2330 ?_
  refine ⟨_, hl.2.2.1, ⟨143, Or.inl rfl⟩, ?_⟩
  refine sc_load hC (k := 1) hl te_368_2331 te_368_2332 te_368_2334 te_368_2335 te_368_2336 (sc_in hS hi (by decide)) ?_
  refine Vx.go hC te_368_2337 ?_
  obtain ⟨gs9, gs9g⟩ := hL2.obj (A := 143) rfl
  have hcall10 := ref_call (S := S) (n := 24) (μ := 366) (args := [.inr 143, .inl ((S.2 (i + Int32.ofInt 1).toNatClampNeg) : Int32).toInt]) (h := h1) (fun v hv => by simp only [List.mem_cons, List.not_mem_nil, or_false] at hv; rcases hv with rfl | rfl <;> first | trivial | exact wiI _) hL2 (fun mem hr => f_366 hr (fun r m' a b => ⟨a, b⟩))
  simp only [List.map_cons, List.map_nil, wv, Int32.ofInt_toInt] at hcall10
  refine p_call_mk (av := [.ref 143, .int (S.2 (i + Int32.ofInt 1).toNatClampNeg)]) (rest := []) mt_366 rfl (by decide) (show c + 0 ≤ 601024 by omega) (show s + 0 ≤ 7293033 by omega) (fun _ => ⟨143, gs9, rfl, gs9g⟩) ?_
  refine hC _ _ _ _ _ ?_ hcall10
  rintro _ h6 ⟨hL7, r8, rfl⟩
  show Vx (Ex S 24) S M_368 [] Q1 2340 lv [.int r8] h6 c s
  refine Vx.go hC te_368_2340 ?_
  refine ⟨_, _, rfl, rfl, ?_⟩
  show Vx (Ex S 24) S M_368 [] Q1 2341 lv [] h6 c s
  refine Vx.go hC te_368_2341 ?_
  refine ⟨by decide, ?_⟩
  exact Nx _ _ _ _ hl hL7 (by omega) (by omega)
/-! reckon on both sides -/
def Hf0 (p0 p1 p2 p3 p4 t y : Int) (m' : MM) : Prop := ClS m' ∧ RefOK m' ∧ ∃ m, RelB m ∧ ((t = 0 ∧ ((0 ≤ p0 ∧ p0 < 4) ∧ srcX p1 p2 ∧ srcX p3 p4) ∧ m 1 0 < 8 ∧ y = m 1 0 ∧ m' = upm (putM m (m 1 0).toNat p0 p1 p2 p3 p4) 0 11 1) ∨ (t = 1 ∧ ¬ ((0 ≤ p0 ∧ p0 < 4) ∧ srcX p1 p2 ∧ srcX p3 p4) ∧ m' = m) ∨ (t = 2 ∧ ((0 ≤ p0 ∧ p0 < 4) ∧ srcX p1 p2 ∧ srcX p3 p4) ∧ ¬ m 1 0 < 8 ∧ m' = m))
theorem cl0 {S : Nat × (Nat → Int32)} {n : Nat} {m : MM} {p0 p1 p2 p3 p4 : Int} (hc : ClS m) (hr : RefOK m) (hb : RelB m) : CQI (Ex S (n + 3)) 44 [.inr 0, .inl p0, .inl p1, .inl p2, .inl p3, .inl p4] m (fun y m' => Hf0 p0 p1 p2 p3 p4 0 y m') (fun e m' => (e = 0 ∧ Hf0 p0 p1 p2 p3 p4 1 0 m') ∨ (e = 1 ∧ Hf0 p0 p1 p2 p3 p4 2 0 m')) :=
  f_44x hc (fun q h8 r m' er hc' em => ⟨hc', hr.fr (fun A i a b => by rw [em]; unfold putM; repeat rw [upm_ne (by omega)]), m, hb, Or.inl ⟨rfl, q, h8, er, em⟩⟩) (fun q => Or.inl ⟨rfl, hc, hr, m, hb, Or.inr (Or.inl ⟨rfl, q, rfl⟩)⟩) (fun q h8 => Or.inr ⟨rfl, hc, hr, m, hb, Or.inr (Or.inr ⟨rfl, q, h8, rfl⟩)⟩)
theorem rf0 {S : Nat × (Nat → Int32)} {n : Nat} {m' : MM} {p0 p1 p2 p3 p4 t y : Int} (H : Hf0 p0 p1 p2 p3 p4 t y m') : CQI (Ex S (n + 3)) 226 [.inr 143, .inl p0, .inl p1, .inl p2, .inl p3, .inl p4] m' (fun r m2 => ClS m2 ∧ RefOK m2 ∧ RelB m2 ∧ m2 143 0 = t ∧ (t = 0 → r = y)) (fun _ _ => False) := by
  obtain ⟨hc, hr, m, hb, H⟩ := H
  have h8 : 0 ≤ m' 143 1 ∧ m' 143 1 ≤ 8 := hr.ops.1
  have hz := hb.1
  have e1 : m' 143 1 = m 143 1 := by
    rcases H with ⟨-, -, -, -, e⟩ | ⟨-, -, e⟩ | ⟨-, -, -, e⟩ <;> rw [e]
    unfold putM
    repeat rw [upm_ne (by omega)]
  refine f_226x h8 (fun q l r m2 er em => ?_) (fun q => ?_) (fun q l => ?_)
  · rcases H with ⟨rfl, q', l', ey, e⟩ | ⟨rfl, q', e⟩ | ⟨rfl, q', l', e⟩
    · have en : (m' 143 1).toNat = (m 1 0).toNat := by rw [e1, hz]
      refine ⟨hc.ref (fun A i w => ?_), ?_, ?_, ?_, fun _ => by rw [er, ey, e1, hz]⟩
      · unfold pRf at w
        rw [em]; unfold addM
        repeat rw [upm_ne (by omega)]
      · rw [em]
        have es : upm m' 143 0 0 143 1 = m' 143 1 := upm_ne (by omega)
        refine RefOK.add (hr.th' (by omega)) (by rw [es]; omega) (by rw [es]; exact l) (by omega) (fun _ => ⟨q.2.1.ok, q.2.2.ok⟩) (fun z => by omega) (fun z => by omega) ?_
        have := q.2.2
        unfold srcX at this
        omega
      · rw [em, en]
        refine RelB.add hb (by omega) (fun A i a b => ?_)
        rw [upm_ne (by omega), e, upm_ne (by omega)]
      · rw [em]; unfold addM
        repeat rw [upm_ne (by omega)]
        exact upm_eq
    · exact absurd q q'
    · omega
  · rcases H with ⟨rfl, q', l', ey, e⟩ | ⟨rfl, q', e⟩ | ⟨rfl, q', l', e⟩
    · exact absurd q' q
    · subst e
      exact ⟨hc.ref (fun A i w => upm_ne (by unfold pRf at w; omega)), hr.th' (by omega), hb.one (by omega), upm_eq, fun z => by omega⟩
    · exact absurd q' q
  · rcases H with ⟨rfl, q', l', ey, e⟩ | ⟨rfl, q', e⟩ | ⟨rfl, q', l', e⟩
    · omega
    · exact absurd q q'
    · subst e
      exact ⟨hc.ref (fun A i w => upm_ne (by unfold pRf at w; omega)), hr.th' (by omega), hb.one (by omega), upm_eq, fun z => by omega⟩
/-! load, store, drop, first, kind, unit on both sides (wip/hand/pair.py) -/
def Hf1 (p0 p1 t y : Int) (m' : MM) : Prop := ClS m' ∧ RefOK m' ∧ ∃ m, RelB m ∧ ((t = 0 ∧ (rowX p0 p1) ∧ m 1 0 < 8 ∧ y = m 1 0 ∧ m' = upm (putM m (m 1 0).toNat 4 p0 p1 0 0) 0 11 1) ∨ (t = 1 ∧ ¬ (rowX p0 p1) ∧ m' = m) ∨ (t = 2 ∧ (rowX p0 p1) ∧ ¬ m 1 0 < 8 ∧ m' = m))
theorem cl1 {S : Nat × (Nat → Int32)} {n : Nat} {m : MM} {p0 p1 : Int} (hc : ClS m) (hr : RefOK m) (hb : RelB m) : CQI (Ex S (n + 3)) 49 [.inr 0, .inl p0, .inl p1] m (fun y m' => Hf1 p0 p1 0 y m') (fun e m' => (e = 0 ∧ Hf1 p0 p1 1 0 m') ∨ (e = 1 ∧ Hf1 p0 p1 2 0 m')) :=
  f_49x hc (fun q h8 r m' er hc' em => ⟨hc', hr.fr (fun A i a b => by rw [em]; unfold putM; repeat rw [upm_ne (by omega)]), m, hb, Or.inl ⟨rfl, q, h8, er, em⟩⟩) (fun q => Or.inl ⟨rfl, hc, hr, m, hb, Or.inr (Or.inl ⟨rfl, q, rfl⟩)⟩) (fun q h8 => Or.inr ⟨rfl, hc, hr, m, hb, Or.inr (Or.inr ⟨rfl, q, h8, rfl⟩)⟩)
theorem rf1 {S : Nat × (Nat → Int32)} {n : Nat} {m' : MM} {p0 p1 t y : Int} (H : Hf1 p0 p1 t y m') : CQI (Ex S (n + 3)) 230 [.inr 143, .inl p0, .inl p1] m' (fun r m2 => ClS m2 ∧ RefOK m2 ∧ RelB m2 ∧ m2 143 0 = t ∧ (t = 0 → r = y)) (fun _ _ => False) := by
  obtain ⟨hc, hr, m, hb, H⟩ := H
  have h8 : 0 ≤ m' 143 1 ∧ m' 143 1 ≤ 8 := hr.ops.1
  have hz := hb.1
  have e1 : m' 143 1 = m 143 1 := by
    rcases H with ⟨-, -, -, -, e⟩ | ⟨-, -, e⟩ | ⟨-, -, -, e⟩ <;> rw [e]
    unfold putM
    repeat rw [upm_ne (by omega)]
  refine f_230x h8 (fun q l r m2 er em => ?_) (fun q => ?_) (fun q l => ?_)
  · rcases H with ⟨rfl, q', l', ey, e⟩ | ⟨rfl, q', e⟩ | ⟨rfl, q', l', e⟩
    · have en : (m' 143 1).toNat = (m 1 0).toNat := by rw [e1, hz]
      refine ⟨hc.ref (fun A i w => ?_), ?_, ?_, ?_, fun _ => by rw [er, ey, e1, hz]⟩
      · unfold pRf at w
        rw [em]; unfold addM
        repeat rw [upm_ne (by omega)]
      · rw [em]
        have es : upm m' 143 0 0 143 1 = m' 143 1 := upm_ne (by omega)
        refine RefOK.add (hr.th' (by omega)) (by rw [es]; omega) (by rw [es]; exact l) (by omega) (fun z => by omega) (fun _ => q.w) (fun z => by omega) ?_
        omega
      · rw [em, en]
        refine RelB.add hb (by omega) (fun A i a b => ?_)
        rw [upm_ne (by omega), e, upm_ne (by omega)]
      · rw [em]; unfold addM
        repeat rw [upm_ne (by omega)]
        exact upm_eq
    · exact absurd q q'
    · omega
  · rcases H with ⟨rfl, q', l', ey, e⟩ | ⟨rfl, q', e⟩ | ⟨rfl, q', l', e⟩
    · exact absurd q' q
    · subst e
      exact ⟨hc.ref (fun A i w => upm_ne (by unfold pRf at w; omega)), hr.th' (by omega), hb.one (by omega), upm_eq, fun z => by omega⟩
    · exact absurd q' q
  · rcases H with ⟨rfl, q', l', ey, e⟩ | ⟨rfl, q', e⟩ | ⟨rfl, q', l', e⟩
    · omega
    · exact absurd q q'
    · subst e
      exact ⟨hc.ref (fun A i w => upm_ne (by unfold pRf at w; omega)), hr.th' (by omega), hb.one (by omega), upm_eq, fun z => by omega⟩
def Hf2 (p0 p1 p2 p3 t y : Int) (m' : MM) : Prop := ClS m' ∧ RefOK m' ∧ ∃ m, RelB m ∧ ((t = 0 ∧ (srcX p0 p1 ∧ rowX p2 p3) ∧ m 1 0 < 8 ∧ y = m 1 0 ∧ m' = upm (putM m (m 1 0).toNat 5 p0 p1 p2 p3) 0 11 1) ∨ (t = 1 ∧ ¬ (srcX p0 p1 ∧ rowX p2 p3) ∧ m' = m) ∨ (t = 2 ∧ (srcX p0 p1 ∧ rowX p2 p3) ∧ ¬ m 1 0 < 8 ∧ m' = m))
theorem cl2 {S : Nat × (Nat → Int32)} {n : Nat} {m : MM} {p0 p1 p2 p3 : Int} (hc : ClS m) (hr : RefOK m) (hb : RelB m) : CQI (Ex S (n + 3)) 52 [.inr 0, .inl p0, .inl p1, .inl p2, .inl p3] m (fun y m' => Hf2 p0 p1 p2 p3 0 y m') (fun e m' => (e = 0 ∧ Hf2 p0 p1 p2 p3 1 0 m') ∨ (e = 1 ∧ Hf2 p0 p1 p2 p3 2 0 m')) :=
  f_52x hc (fun q h8 r m' er hc' em => ⟨hc', hr.fr (fun A i a b => by rw [em]; unfold putM; repeat rw [upm_ne (by omega)]), m, hb, Or.inl ⟨rfl, q, h8, er, em⟩⟩) (fun q => Or.inl ⟨rfl, hc, hr, m, hb, Or.inr (Or.inl ⟨rfl, q, rfl⟩)⟩) (fun q h8 => Or.inr ⟨rfl, hc, hr, m, hb, Or.inr (Or.inr ⟨rfl, q, h8, rfl⟩)⟩)
theorem rf2 {S : Nat × (Nat → Int32)} {n : Nat} {m' : MM} {p0 p1 p2 p3 t y : Int} (H : Hf2 p0 p1 p2 p3 t y m') : CQI (Ex S (n + 3)) 232 [.inr 143, .inl p0, .inl p1, .inl p2, .inl p3] m' (fun r m2 => ClS m2 ∧ RefOK m2 ∧ RelB m2 ∧ m2 143 0 = t ∧ (t = 0 → r = y)) (fun _ _ => False) := by
  obtain ⟨hc, hr, m, hb, H⟩ := H
  have h8 : 0 ≤ m' 143 1 ∧ m' 143 1 ≤ 8 := hr.ops.1
  have hz := hb.1
  have e1 : m' 143 1 = m 143 1 := by
    rcases H with ⟨-, -, -, -, e⟩ | ⟨-, -, e⟩ | ⟨-, -, -, e⟩ <;> rw [e]
    unfold putM
    repeat rw [upm_ne (by omega)]
  refine f_232x h8 (fun q l r m2 er em => ?_) (fun q => ?_) (fun q l => ?_)
  · rcases H with ⟨rfl, q', l', ey, e⟩ | ⟨rfl, q', e⟩ | ⟨rfl, q', l', e⟩
    · have en : (m' 143 1).toNat = (m 1 0).toNat := by rw [e1, hz]
      refine ⟨hc.ref (fun A i w => ?_), ?_, ?_, ?_, fun _ => by rw [er, ey, e1, hz]⟩
      · unfold pRf at w
        rw [em]; unfold addM
        repeat rw [upm_ne (by omega)]
      · rw [em]
        have es : upm m' 143 0 0 143 1 = m' 143 1 := upm_ne (by omega)
        refine RefOK.add (hr.th' (by omega)) (by rw [es]; omega) (by rw [es]; exact l) (by omega) (fun z => by omega) (fun z => by omega) (fun _ => ⟨q.1.ok, q.2.w⟩) ?_
        have := q.2.w; omega
      · rw [em, en]
        refine RelB.add hb (by omega) (fun A i a b => ?_)
        rw [upm_ne (by omega), e, upm_ne (by omega)]
      · rw [em]; unfold addM
        repeat rw [upm_ne (by omega)]
        exact upm_eq
    · exact absurd q q'
    · omega
  · rcases H with ⟨rfl, q', l', ey, e⟩ | ⟨rfl, q', e⟩ | ⟨rfl, q', l', e⟩
    · exact absurd q' q
    · subst e
      exact ⟨hc.ref (fun A i w => upm_ne (by unfold pRf at w; omega)), hr.th' (by omega), hb.one (by omega), upm_eq, fun z => by omega⟩
    · exact absurd q' q
  · rcases H with ⟨rfl, q', l', ey, e⟩ | ⟨rfl, q', e⟩ | ⟨rfl, q', l', e⟩
    · omega
    · exact absurd q q'
    · subst e
      exact ⟨hc.ref (fun A i w => upm_ne (by unfold pRf at w; omega)), hr.th' (by omega), hb.one (by omega), upm_eq, fun z => by omega⟩
def Hf3 (t y : Int) (m' : MM) : Prop := ClS m' ∧ RefOK m' ∧ ∃ m, RelB m ∧ ((t = 0 ∧ 0 < m 1 0 ∧ y = m 1 0 - 1 ∧ m' = upm (upm m 1 0 (m 1 0 - 1)) 0 11 1) ∨ (t = 1 ∧ ¬ 0 < m 1 0 ∧ m' = m))
theorem cl3 {S : Nat × (Nat → Int32)} {n : Nat} {m : MM} (hc : ClS m) (hr : RefOK m) (hb : RelB m) : CQI (Ex S (n + 3)) 54 [.inr 0] m (fun y m' => Hf3 0 y m') (fun e m' => (e = 1 ∧ Hf3 1 0 m')) :=
  f_54x hc (fun q r m' er hc' em => ⟨hc', hr.fr (fun A i a b => by rw [em]; repeat rw [upm_ne (by omega)]), m, hb, Or.inl ⟨rfl, q, er, em⟩⟩) (fun q => ⟨rfl, hc, hr, m, hb, Or.inr ⟨rfl, q, rfl⟩⟩)
theorem rf3 {S : Nat × (Nat → Int32)} {n : Nat} {m' : MM} {t y : Int} (H : Hf3 t y m') : CQI (Ex S (n + 3)) 233 [.inr 143] m' (fun r m2 => ClS m2 ∧ RefOK m2 ∧ RelB m2 ∧ m2 143 0 = t ∧ (t = 0 → r = y)) (fun _ _ => False) := by
  obtain ⟨hc, hr, m, hb, H⟩ := H
  have h8 : 0 ≤ m' 143 1 ∧ m' 143 1 ≤ 8 := hr.ops.1
  have hz := hb.1
  have e1 : m' 143 1 = m 143 1 := by
    rcases H with ⟨-, -, -, e⟩ | ⟨-, -, e⟩ <;> rw [e]
    repeat rw [upm_ne (by omega)]
  refine f_233x h8 (fun q r m2 er em => ?_) (fun q => ?_)
  · rcases H with ⟨rfl, q', ey, e⟩ | ⟨rfl, q', e⟩
    · refine ⟨hc.ref (fun A i w => ?_), ?_, ?_, ?_, fun _ => by rw [er, ey, e1, hz]⟩
      · unfold pRf at w
        rw [em]
        repeat rw [upm_ne (by omega)]
      · rw [em]
        exact RefOK.up (hr.th' (by omega)) (Or.inl ⟨rfl, rfl, by omega, by omega⟩)
      · rw [em, e1]
        refine RelB.size (z := m 1 0 - 1) hb ?_ ?_ (fun A i w => ?_)
        · rw [upm_ne (by omega), upm_ne (by omega), e, upm_ne (by omega), upm_eq]
        · rw [upm_eq, hz]
        · rw [upm_ne (by omega), upm_ne (by omega), e, upm_ne (by omega), upm_ne (by omega)]
      · rw [em, upm_ne (by omega), upm_eq]
    · omega
  · rcases H with ⟨rfl, q', ey, e⟩ | ⟨rfl, q', e⟩
    · omega
    · subst e
      exact ⟨hc.ref (fun A i w => upm_ne (by unfold pRf at w; omega)), hr.th' (by omega), hb.one (by omega), upm_eq, fun z => by omega⟩
def Hf4 (p0 p1 t y : Int) (m' : MM) : Prop := ClS m' ∧ RefOK m' ∧ ∃ m, RelB m ∧ ((t = 0 ∧ (0 ≤ p0 ∧ p0 < m 1 0) ∧ (-9999 ≤ p1 ∧ p1 ≤ 9999) ∧ y = m 4 p0.toNat ∧ m' = upm m 4 p0.toNat p1) ∨ (t = 1 ∧ ¬ (0 ≤ p0 ∧ p0 < m 1 0) ∧ m' = m) ∨ (t = 2 ∧ (0 ≤ p0 ∧ p0 < m 1 0) ∧ ¬ (-9999 ≤ p1 ∧ p1 ≤ 9999) ∧ m' = m))
theorem cl4 {S : Nat × (Nat → Int32)} {n : Nat} {m : MM} {p0 p1 : Int} (hc : ClS m) (hr : RefOK m) (hb : RelB m) : CQI (Ex S (n + 3)) 56 [.inr 0, .inl p0, .inl p1] m (fun y m' => Hf4 p0 p1 0 y m') (fun e m' => (e = 2 ∧ Hf4 p0 p1 1 0 m') ∨ (e = 0 ∧ Hf4 p0 p1 2 0 m')) :=
  f_56x (n := n + 1) hc (fun q l r m' er hc' em => ⟨hc', hr.fr (fun A i a b => by rw [em]; repeat rw [upm_ne (by omega)]), m, hb, Or.inl ⟨rfl, q, l, er, em⟩⟩) (fun q => Or.inl ⟨rfl, hc, hr, m, hb, Or.inr (Or.inl ⟨rfl, q, rfl⟩)⟩) (fun q l => Or.inr ⟨rfl, hc, hr, m, hb, Or.inr (Or.inr ⟨rfl, q, l, rfl⟩)⟩)
theorem rf4 {S : Nat × (Nat → Int32)} {n : Nat} {m' : MM} {p0 p1 t y : Int} (H : Hf4 p0 p1 t y m') : CQI (Ex S (n + 4)) 234 [.inr 143, .inl p0, .inl p1] m' (fun r m2 => ClS m2 ∧ RefOK m2 ∧ RelB m2 ∧ m2 143 0 = t ∧ (t = 0 → r = y)) (fun _ _ => False) := by
  obtain ⟨hc, hr, m, hb, H⟩ := H
  have h8 : 0 ≤ m' 143 1 ∧ m' 143 1 ≤ 8 := hr.ops.1
  have hz := hb.1
  have e1 : m' 143 1 = m 143 1 := by
    rcases H with ⟨-, -, -, -, e⟩ | ⟨-, -, e⟩ | ⟨-, -, -, e⟩ <;> rw [e]
    repeat rw [upm_ne (by omega)]
  refine f_234x h8 (fun q l r m2 er em => ?_) (fun q => ?_) (fun q l => ?_)
  · rcases H with ⟨rfl, q', l', ey, e⟩ | ⟨rfl, q', e⟩ | ⟨rfl, q', l', e⟩
    · have er2 : m' 149 p0.toNat = m 149 p0.toNat := by
        rw [e]
        repeat rw [upm_ne (by omega)]
      have er3 : m 149 p0.toNat = m 4 p0.toNat := (hb.2.1 p0.toNat (by omega)).2.2.2.2.2.symm
      refine ⟨hc.ref (fun A i w => ?_), ?_, ?_, ?_, fun _ => by rw [er, ey, er2, er3]⟩
      · unfold pRf at w
        rw [em]
        repeat rw [upm_ne (by omega)]
      · rw [em]
        exact RefOK.up (hr.th' (by omega)) (by omega)
      · rw [em]
        refine RelB.row (A := 4) (B := 149) hb (by omega) (fun C j a b => ?_)
        rw [upm_ne (by omega), e]
      · rw [em, upm_ne (by omega), upm_eq]
    · omega
    · omega
  · rcases H with ⟨rfl, q', l', ey, e⟩ | ⟨rfl, q', e⟩ | ⟨rfl, q', l', e⟩
    · omega
    · subst e
      exact ⟨hc.ref (fun A i w => upm_ne (by unfold pRf at w; omega)), hr.th' (by omega), hb.one (by omega), upm_eq, fun z => by omega⟩
    · omega
  · rcases H with ⟨rfl, q', l', ey, e⟩ | ⟨rfl, q', e⟩ | ⟨rfl, q', l', e⟩
    · omega
    · omega
    · subst e
      exact ⟨hc.ref (fun A i w => upm_ne (by unfold pRf at w; omega)), hr.th' (by omega), hb.one (by omega), upm_eq, fun z => by omega⟩
def Hf6 (p0 p1 t y : Int) (m' : MM) : Prop := ClS m' ∧ RefOK m' ∧ ∃ m, RelB m ∧ ((t = 0 ∧ (0 ≤ p0 ∧ p0 < 3) ∧ (1 ≤ p1 ∧ p1 ≤ 3) ∧ y = m 8 p0.toNat ∧ m' = upm (upm m 8 p0.toNat p1) 0 11 1) ∨ (t = 1 ∧ ¬ (0 ≤ p0 ∧ p0 < 3) ∧ m' = m) ∨ (t = 2 ∧ (0 ≤ p0 ∧ p0 < 3) ∧ ¬ (1 ≤ p1 ∧ p1 ≤ 3) ∧ m' = m))
theorem cl6 {S : Nat × (Nat → Int32)} {n : Nat} {m : MM} {p0 p1 : Int} (hc : ClS m) (hr : RefOK m) (hb : RelB m) : CQI (Ex S (n + 3)) 62 [.inr 0, .inl p0, .inl p1] m (fun y m' => Hf6 p0 p1 0 y m') (fun e m' => (e = 2 ∧ Hf6 p0 p1 1 0 m') ∨ (e = 0 ∧ Hf6 p0 p1 2 0 m')) :=
  f_62x (n := n + 1) hc (fun q l r m' er hc' em => ⟨hc', hr.fr (fun A i a b => by rw [em]; repeat rw [upm_ne (by omega)]), m, hb, Or.inl ⟨rfl, q, l, er, em⟩⟩) (fun q => Or.inl ⟨rfl, hc, hr, m, hb, Or.inr (Or.inl ⟨rfl, q, rfl⟩)⟩) (fun q l => Or.inr ⟨rfl, hc, hr, m, hb, Or.inr (Or.inr ⟨rfl, q, l, rfl⟩)⟩)
theorem rf6 {S : Nat × (Nat → Int32)} {n : Nat} {m' : MM} {p0 p1 t y : Int} (H : Hf6 p0 p1 t y m') : CQI (Ex S (n + 4)) 237 [.inr 143, .inl p0, .inl p1] m' (fun r m2 => ClS m2 ∧ RefOK m2 ∧ RelB m2 ∧ m2 143 0 = t ∧ (t = 0 → r = y)) (fun _ _ => False) := by
  obtain ⟨hc, hr, m, hb, H⟩ := H
  have h8 : 0 ≤ m' 143 1 ∧ m' 143 1 ≤ 8 := hr.ops.1
  have hz := hb.1
  have e1 : m' 143 1 = m 143 1 := by
    rcases H with ⟨-, -, -, -, e⟩ | ⟨-, -, e⟩ | ⟨-, -, -, e⟩ <;> rw [e]
    repeat rw [upm_ne (by omega)]
  refine f_237x h8 (fun q l r m2 er em => ?_) (fun q => ?_) (fun q l => ?_)
  · rcases H with ⟨rfl, q', l', ey, e⟩ | ⟨rfl, q', e⟩ | ⟨rfl, q', l', e⟩
    · have er2 : m' 153 p0.toNat = m 153 p0.toNat := by
        rw [e]
        repeat rw [upm_ne (by omega)]
      have er3 : m 153 p0.toNat = m 8 p0.toNat := (hb.2.2.2 p0.toNat (by omega)).symm
      refine ⟨hc.ref (fun A i w => ?_), ?_, ?_, ?_, fun _ => by rw [er, ey, er2, er3]⟩
      · unfold pRf at w
        rw [em]
        repeat rw [upm_ne (by omega)]
      · rw [em]
        exact RefOK.up (hr.th' (by omega)) (by omega)
      · rw [em]
        refine RelB.row (A := 8) (B := 153) hb (by omega) (fun C j a b => ?_)
        rw [upm_ne (by omega), e, upm_ne (by omega)]
      · rw [em, upm_ne (by omega), upm_eq]
    · omega
    · omega
  · rcases H with ⟨rfl, q', l', ey, e⟩ | ⟨rfl, q', e⟩ | ⟨rfl, q', l', e⟩
    · omega
    · subst e
      exact ⟨hc.ref (fun A i w => upm_ne (by unfold pRf at w; omega)), hr.th' (by omega), hb.one (by omega), upm_eq, fun z => by omega⟩
    · omega
  · rcases H with ⟨rfl, q', l', ey, e⟩ | ⟨rfl, q', e⟩ | ⟨rfl, q', l', e⟩
    · omega
    · omega
    · subst e
      exact ⟨hc.ref (fun A i w => upm_ne (by unfold pRf at w; omega)), hr.th' (by omega), hb.one (by omega), upm_eq, fun z => by omega⟩
def Hf5 (p0 p1 p2 p3 t y : Int) (m' : MM) : Prop := ClS m' ∧ RefOK m' ∧ ∃ m, RelB m ∧ ((t = 0 ∧ (0 ≤ p0 ∧ p0 < 6) ∧ ((0 ≤ p1 ∧ p1 < 3) ∧ (1 ≤ p2 ∧ p2 ≤ 6) ∧ 1 ≤ p3 ∧ p3 ≤ 15) ∧ y = 0 ∧ m' = upm (upm (upm (upm m 5 p0.toNat p1) 6 p0.toNat p2) 7 p0.toNat p3) 0 11 1) ∨ (t = 1 ∧ ¬ (0 ≤ p0 ∧ p0 < 6) ∧ m' = m) ∨ (t = 2 ∧ (0 ≤ p0 ∧ p0 < 6) ∧ ¬ ((0 ≤ p1 ∧ p1 < 3) ∧ (1 ≤ p2 ∧ p2 ≤ 6) ∧ 1 ≤ p3 ∧ p3 ≤ 15) ∧ m' = m))
theorem cl5 {S : Nat × (Nat → Int32)} {n : Nat} {m : MM} {p0 p1 p2 p3 : Int} (hc : ClS m) (hr : RefOK m) (hb : RelB m) : CQV (Ex S (n + 3)) 59 [.inr 0, .inl p0, .inl p1, .inl p2, .inl p3] m (fun m' => Hf5 p0 p1 p2 p3 0 0 m') (fun e m' => (e = 2 ∧ Hf5 p0 p1 p2 p3 1 0 m') ∨ (e = 0 ∧ Hf5 p0 p1 p2 p3 2 0 m')) :=
  f_59x (n := n + 1) hc (fun q l m' hc' em => ⟨hc', hr.fr (fun A i a b => by rw [em]; repeat rw [upm_ne (by omega)]), m, hb, Or.inl ⟨rfl, q, l, rfl, em⟩⟩) (fun q => Or.inl ⟨rfl, hc, hr, m, hb, Or.inr (Or.inl ⟨rfl, q, rfl⟩)⟩) (fun q l => Or.inr ⟨rfl, hc, hr, m, hb, Or.inr (Or.inr ⟨rfl, q, l, rfl⟩)⟩)
theorem rf5 {S : Nat × (Nat → Int32)} {n : Nat} {m' : MM} {p0 p1 p2 p3 t y : Int} (H : Hf5 p0 p1 p2 p3 t y m') : CQI (Ex S (n + 4)) 236 [.inr 143, .inl p0, .inl p1, .inl p2, .inl p3] m' (fun r m2 => ClS m2 ∧ RefOK m2 ∧ RelB m2 ∧ m2 143 0 = t ∧ (t = 0 → r = y)) (fun _ _ => False) := by
  obtain ⟨hc, hr, m, hb, H⟩ := H
  have h8 : 0 ≤ m' 143 1 ∧ m' 143 1 ≤ 8 := hr.ops.1
  refine f_236x h8 (fun q l m2 em => ?_) (fun q => ?_) (fun q l => ?_)
  · rcases H with ⟨rfl, q', l', ey, e⟩ | ⟨rfl, q', e⟩ | ⟨rfl, q', l', e⟩
    · refine ⟨hc.ref (fun A i w => ?_), ?_, ?_, ?_, fun _ => ey.symm⟩
      · unfold pRf at w
        rw [em]
        repeat rw [upm_ne (by omega)]
      · rw [em]
        exact RefOK.up (RefOK.up (RefOK.up (hr.th' (by omega)) (by omega)) (by omega)) (by omega)
      · have b1 := RelB.row (A := 5) (B := 150) (i := p0.toNat) (x := p1) hb (by omega) (m2 := upm m 5 p0.toNat p1) (fun C j a b => rfl)
        have b2 := RelB.row (A := 6) (B := 151) (i := p0.toNat) (x := p2) b1 (by omega) (fun C j a b => rfl)
        have b3 := RelB.row (A := 7) (B := 152) (i := p0.toNat) (x := p3) b2 (by omega) (fun C j a b => rfl)
        refine b3.fr (fun A i w => ?_)
        rw [em, e]
        unfold upm
        repeat' split
        all_goals first | rfl | omega
      · rw [em]
        repeat rw [upm_ne (by omega)]
        exact upm_eq
    · omega
    · omega
  · rcases H with ⟨rfl, q', l', ey, e⟩ | ⟨rfl, q', e⟩ | ⟨rfl, q', l', e⟩
    · omega
    · subst e
      exact ⟨hc.ref (fun A i w => upm_ne (by unfold pRf at w; omega)), hr.th' (by omega), hb.one (by omega), upm_eq, fun z => by omega⟩
    · omega
  · rcases H with ⟨rfl, q', l', ey, e⟩ | ⟨rfl, q', e⟩ | ⟨rfl, q', l', e⟩
    · omega
    · omega
    · subst e
      exact ⟨hc.ref (fun A i w => upm_ne (by unfold pRf at w; omega)), hr.th' (by omega), hb.one (by omega), upm_eq, fun z => by omega⟩
/-! op and uses on both sides: nothing of the ops changes -/
def Hf7 (p0 p1 t y : Int) (m : MM) : Prop := ClS m ∧ RefOK m ∧ RelB m ∧ ((t = 0 ∧ (0 ≤ p0 ∧ p0 < m 1 0) ∧ (0 ≤ p1 ∧ p1 ≤ 5) ∧ y = opF m p0.toNat p1) ∨ (t = 1 ∧ ¬ (0 ≤ p0 ∧ p0 < m 1 0)) ∨ (t = 2 ∧ (0 ≤ p0 ∧ p0 < m 1 0) ∧ ¬ (0 ≤ p1 ∧ p1 ≤ 5)))
theorem cl7 {S : Nat × (Nat → Int32)} {n : Nat} {m : MM} {p0 p1 : Int} (hc : ClS m) (hr : RefOK m) (hb : RelB m) : CQI (Ex S (n + 3)) 65 [.inr 0, .inl p0, .inl p1] m (fun y m' => Hf7 p0 p1 0 y m') (fun e m' => (e = 2 ∧ Hf7 p0 p1 1 0 m') ∨ (e = 3 ∧ Hf7 p0 p1 2 0 m')) :=
  f_65x (n := n + 1) hc (fun q l r er => ⟨hc, hr, hb, Or.inl ⟨rfl, q, l, er⟩⟩) (fun q => Or.inl ⟨rfl, hc, hr, hb, Or.inr (Or.inl ⟨rfl, q⟩)⟩) (fun q l => Or.inr ⟨rfl, hc, hr, hb, Or.inr (Or.inr ⟨rfl, q, l⟩)⟩)
theorem rf7 {S : Nat × (Nat → Int32)} {n : Nat} {m : MM} {p0 p1 t y : Int} (H : Hf7 p0 p1 t y m) : CQI (Ex S (n + 4)) 238 [.inr 143, .inl p0, .inl p1] m (fun r m2 => ClS m2 ∧ RefOK m2 ∧ RelB m2 ∧ m2 143 0 = t ∧ (t = 0 → r = y)) (fun _ _ => False) := by
  obtain ⟨hc, hr, hb, H⟩ := H
  have hz := hb.1
  have h8 := hr.ops.1
  refine f_238x hr.ops.1 (fun q l r er => ?_) (fun q => ?_) (fun q l => ?_)
  · rcases H with ⟨rfl, q', l', e⟩ | ⟨rfl, q'⟩ | ⟨rfl, q', l'⟩
    · exact ⟨hc.ref (fun A i w => upm_ne (by unfold pRf at w; omega)), hr.th' (by omega), hb.one (by omega), upm_eq, fun _ => by rw [er, e]; exact (hb.op (by omega) (by omega)).symm⟩
    · omega
    · omega
  · rcases H with ⟨rfl, q', l', e⟩ | ⟨rfl, q'⟩ | ⟨rfl, q', l'⟩
    · omega
    · exact ⟨hc.ref (fun A i w => upm_ne (by unfold pRf at w; omega)), hr.th' (by omega), hb.one (by omega), upm_eq, fun z => by omega⟩
    · omega
  · rcases H with ⟨rfl, q', l', e⟩ | ⟨rfl, q'⟩ | ⟨rfl, q', l'⟩
    · omega
    · omega
    · exact ⟨hc.ref (fun A i w => upm_ne (by unfold pRf at w; omega)), hr.th' (by omega), hb.one (by omega), upm_eq, fun z => by omega⟩
def Hf12 (p0 t y : Int) (m : MM) : Prop := ClS m ∧ RefOK m ∧ RelB m ∧ ((t = 0 ∧ (0 ≤ p0 ∧ p0 < 3) ∧ y = usC m p0) ∨ (t = 1 ∧ ¬ (0 ≤ p0 ∧ p0 < 3)))
theorem cl12 {S : Nat × (Nat → Int32)} {n : Nat} {m : MM} {p0 : Int} (hc : ClS m) (hr : RefOK m) (hb : RelB m) : CQI (Ex S (n + 3)) 82 [.inr 0, .inl p0] m (fun y m' => Hf12 p0 0 y m') (fun e m' => (e = 2 ∧ Hf12 p0 1 0 m')) :=
  f_82x hc (fun q r er => ⟨hc, hr, hb, Or.inl ⟨rfl, q, er⟩⟩) (fun q => ⟨rfl, hc, hr, hb, Or.inr ⟨rfl, q⟩⟩)
theorem rf12 {S : Nat × (Nat → Int32)} {n : Nat} {m : MM} {p0 t y : Int} (H : Hf12 p0 t y m) : CQI (Ex S (n + 3)) 262 [.inr 143, .inl p0] m (fun r m2 => ClS m2 ∧ RefOK m2 ∧ RelB m2 ∧ m2 143 0 = t ∧ (t = 0 → r = y)) (fun _ _ => False) := by
  obtain ⟨hc, hr, hb, H⟩ := H
  refine f_262x hr (fun q r er => ?_) (fun q => ?_)
  · rcases H with ⟨rfl, q', e⟩ | ⟨rfl, q'⟩
    · exact ⟨hc.ref (fun A i w => upm_ne (by unfold pRf at w; omega)), hr.th' (by omega), hb.one (by omega), upm_eq, fun _ => by rw [er, e]; exact (hb.uses hc.1.b p0).symm⟩
    · omega
  · rcases H with ⟨rfl, q', e⟩ | ⟨rfl, q'⟩
    · omega
    · exact ⟨hc.ref (fun A i w => upm_ne (by unfold pRf at w; omega)), hr.th' (by omega), hb.one (by omega), upm_eq, fun z => by omega⟩
/-! isSound and need on both sides -/
theorem RelB.ops {m : MM} (h : RelB m) {o : Nat} (ho : o < 8) : csN m o = srcN m o ∧ (∀ k : Nat, k < 2 → m 3 (4 * o + 2 * k) = srcA m o k ∧ m 3 (4 * o + 2 * k + 1) = srcB m o k) := by
  have q := h.2.1 o ho
  refine ⟨by unfold csN srcN; rw [q.1], fun k hk => ?_⟩
  have a : k = 0 ∨ k = 1 := by omega
  rcases a with rfl | rfl
  · exact ⟨q.2.1, q.2.2.1⟩
  · exact ⟨q.2.2.2.1, q.2.2.2.2.1⟩
theorem csN_rg (m : MM) (o : Nat) : 0 ≤ csN m o ∧ csN m o ≤ 2 := csN_le m o
/-- soundness is one thing on both sides -/
theorem RelB.snd {m : MM} (h : RelB m) (hr : RefOK m) : SndX m ↔ SoundM m := by
  have h8 := hr.ops.1
  have hz := h.1
  constructor
  · intro hs o ho k hk hn
    have q := h.ops (o := o) (by omega)
    have w := csN_rg m o
    have s := hs o k.toNat (by omega) (by rw [q.1]; omega)
    have e := q.2 k.toNat (by rw [q.1] at w; omega)
    have ek : ((k.toNat : Nat) : Int) = k := by omega
    unfold SrcC at s
    rw [e.1, e.2, ek] at s
    unfold SrcS
    rcases s with s | ⟨s1, s2, s3⟩
    · exact Or.inl s
    · have kk : m 2 (srcA m o k).toNat = m 144 (srcA m o k).toNat := by
        have so := hr.ops.src (o := o) (by omega) hk hn
        unfold srcOK at so
        exact (h.2.1 _ (by omega)).1
      rw [kk] at s2
      exact Or.inr ⟨by omega, s2, by omega⟩
  · intro hs o k ho hn
    have q := h.ops (o := o) (by omega)
    have w := csN_rg m o
    have s := hs o (by omega) k (by omega) (by rw [← q.1]; exact hn)
    have e := q.2 k (by omega)
    unfold SrcC
    rw [e.1, e.2]
    have so := hr.ops.src (o := o) (by omega) (k := (k : Int)) (by omega) (by rw [← q.1]; exact hn)
    unfold SrcS at s
    unfold srcOK at so
    rcases s with s | ⟨s1, s2, s3⟩
    · exact Or.inl s
    · by_cases w2 : srcA m o k < 0
      · exact Or.inl w2
      · have kk : m 2 (srcA m o k).toNat = m 144 (srcA m o k).toNat := (h.2.1 _ (by omega)).1
        rw [kk]
        exact Or.inr ⟨by omega, s2, by omega⟩
theorem RelB.rpl {m : MM} (h : RelB m) (hB : BodyOK m) {o : Nat} (ho : o < 8) : m 2 o = m 144 o ∧ laB m (-1) o = latF m o ∧ (m 2 o = 4 ∨ m 2 o = 5 → rowB m o = rowF m o ∧ plcB m o = plcF m o) := by
  have q := h.2.1 o ho
  have kd := hB.kd ho
  have w := h.2.2.1 (m 2 o).toNat (by omega)
  refine ⟨q.1, ?_, fun k => ?_⟩
  · unfold laB cLa2 latF
    rw [if_neg (by omega), w.2.1, q.1]
  · unfold rowB rowF plcB plcF
    rw [← q.1]
    rcases k with k | k
    · rw [if_neg (by omega), if_pos k, if_neg (by omega), if_pos k]; exact ⟨q.2.1, q.2.2.1⟩
    · rw [if_pos k, if_neg (by omega), if_pos k, if_neg (by omega)]; exact ⟨q.2.2.2.1, q.2.2.2.2.1⟩
theorem NdR.cg {kd row pl la kd2 row2 pl2 la2 : Nat → Int} {s o : Nat} {x : Q4} (h : NdR kd row pl la s o x) (es : kd s = kd2 s ∧ la s = la2 s ∧ (kd s = 4 ∨ kd s = 5 → row s = row2 s ∧ pl s = pl2 s)) (eo : kd o = kd2 o ∧ la o = la2 o ∧ (kd o = 4 ∨ kd o = 5 → row o = row2 o ∧ pl o = pl2 o)) : NdR kd2 row2 pl2 la2 s o x := by
  obtain ⟨h1, h2, h3⟩ := h
  have e1 := es.2.2 (Or.inr h1)
  have e2 := eo.2.2 (by rcases h3 with h | h | h <;> omega)
  unfold NdR
  rw [← es.1, ← es.2.1, ← eo.1, ← e1.1, ← e1.2, ← e2.1, ← e2.2]
  exact ⟨h1, h2, h3⟩
/-- the needs are one thing on both sides -/
theorem RelB.nd {m : MM} (h : RelB m) (hB : BodyOK m) (hr : RefOK m) (x : Q4) : NdC m (-1) x ↔ NdF m x := by
  have h8 := hr.ops.1
  have hz := h.1
  have la : ∀ a : Int, 0 ≤ a → a ≤ 7 → laB m (-1) a.toNat = latF m a.toNat := fun a b c => (h.rpl hB (o := a.toNat) (by omega)).2.1
  have sy : ∀ o : Nat, o < 8 → (m 2 o = m 144 o ∧ laB m (-1) o = latF m o ∧ (m 2 o = 4 ∨ m 2 o = 5 → rowB m o = rowF m o ∧ plcB m o = plcF m o)) := fun o ho => h.rpl hB ho
  have ys : ∀ o : Nat, o < 8 → (m 144 o = m 2 o ∧ latF m o = laB m (-1) o ∧ (m 144 o = 4 ∨ m 144 o = 5 → rowF m o = rowB m o ∧ plcF m o = plcB m o)) := fun o ho => by
    have q := sy o ho
    exact ⟨q.1.symm, q.2.1.symm, fun k => by
      have w := q.2.2 (by rw [q.1]; exact k)
      exact ⟨w.1.symm, w.2.symm⟩⟩
  constructor
  · rintro (⟨o, k, h1, h2, h3, h4⟩ | ⟨s, o, h1, h2, h3, h4⟩)
    · have q := h.ops (o := o) (by omega)
      have w := csN_rg m o
      have e := q.2 k (by omega)
      have so := hr.ops.src (o := o) (by omega) (k := (k : Int)) (by omega) (by rw [← q.1]; exact h2)
      rw [e.1] at h3 h4
      rw [e.2] at h4
      unfold srcOK at so
      rw [la _ h3 (by omega)] at h4
      exact Or.inl ⟨o, k, by omega, by rw [← q.1]; exact h2, h3, h4⟩
    · exact Or.inr ⟨s, o, by omega, by omega, h3, NdR.cg h4 (sy s (by omega)) (sy o (by omega))⟩
  · rintro (⟨o, k, h1, h2, h3, h4⟩ | ⟨s, o, h1, h2, h3, h4⟩)
    · have q := h.ops (o := o) (by omega)
      have w := csN_rg m o
      rw [q.1] at w
      have e := q.2 k (by omega)
      have so := hr.ops.src (o := o) (by omega) (k := (k : Int)) (by omega) h2
      unfold srcOK at so
      rw [← la _ h3 (by omega), ← e.1, ← e.2] at h4
      rw [← e.1] at h3
      exact Or.inl ⟨o, k, by omega, by rw [q.1]; exact h2, h3, h4⟩
    · exact Or.inr ⟨s, o, by omega, by omega, h3, NdR.cg h4 (ys s (by omega)) (ys o (by omega))⟩
/-- both rows of needs are one -/
theorem RelB.webs {m m' : MM} (h : RelB m) (hB : BodyOK m) (hr : RefOK m) (w0 : 0 ≤ m 9 0) (v0 : 0 ≤ m' 143 12) (h1 : Enum (cwq m 9) (m 9 0).toNat (NdC m (-1))) (h2 : Enum (rq m') (m' 143 12).toNat (NdF m)) : m 9 0 = m' 143 12 ∧ ∀ i : Nat, (i : Int) < m 9 0 → cwq m 9 i = rq m' i := by
  have u := h1.uniq h2 (h.nd hB hr)
  exact ⟨by omega, fun i hi => u.2 i (by omega)⟩
section GB
variable {S : Nat × (Nat → Int32)} {n : Nat} {mem : MM} {K : Int → MM → Prop}
def ndR (m : MM) (a w : Int) : Int := if w = 0 then m 154 a.toNat else if w = 1 then m 155 a.toNat else if w = 2 then m 156 a.toNat else m 157 a.toNat
theorem f_244e {x y : Int} (h : RefOK mem) (H1 : ∀ m', RefOK m' → FrQ mem m' → ¬ SoundM mem → m' 143 0 = 1 → K 0 m') (H : ∀ m' r t, RefOK m' → FrQ mem m' → SoundM mem → 0 ≤ m' 143 12 → Enum (rq m') (m' 143 12).toNat (NdF mem) → m' 143 0 = t → ((t = 2 ∧ ¬ (0 ≤ x ∧ x < m' 143 12)) ∨ (t = 3 ∧ (0 ≤ x ∧ x < m' 143 12) ∧ ¬ (0 ≤ y ∧ y ≤ 3)) ∨ (t = 0 ∧ (0 ≤ x ∧ x < m' 143 12) ∧ (0 ≤ y ∧ y ≤ 3) ∧ r = ndR m' x y)) → K r m') : CWI (Ex S (n + 4)) 244 [.inr 143, .inl x, .inl y] mem K := by
  refine CW.of (k := 0) mt_244 rfl rfl (w_244_0 (Ex.mono S (n + 3)) (f_240 h.ops (fun hS _ => ⟨fun _ => ?_, fun z => absurd (by decide) z⟩) (fun hS _ => ⟨fun z => absurd rfl z, fun _ _ => ⟨_, rfl, H1 _ (h.th' (by omega)) FrQ.th hS upm_eq⟩⟩)))
  have h' := h.th' (z := 0) (by omega)
  refine f_245e h'.ops hS.th (fun m4 g1 g5 g2 g3 g4 gE v5 e5 _ => ⟨by unfold InI; omega, ?_⟩)
  have hm : RefOK m4 := g1.w.rest ⟨g5, fun _ => ⟨g2, g3⟩⟩ h'
  have hq : FrQ mem m4 := FrQ.th.tr g1.w.f.q
  have eN : ∀ z x, NdF (upm mem 143 0 z) x ↔ NdF mem x := fun z x => Iff.rfl
  have eE : ∀ z, Enum (rq (upm m4 143 0 z)) ((upm m4 143 0 z) 143 12).toNat (NdF mem) := fun z => by
    rw [upm_ne (by omega)]
    refine gE.cg rfl (fun i _ => ?_) (fun x => eN 0 x)
    unfold rq
    rw [upm_ne (by omega), upm_ne (by omega), upm_ne (by omega), upm_ne (by omega)]
  have fin : ∀ (r t : Int), (0 ≤ t ∧ t ≤ 4) → ((t = 2 ∧ ¬ (0 ≤ x ∧ x < m4 143 12)) ∨ (t = 3 ∧ (0 ≤ x ∧ x < m4 143 12) ∧ ¬ (0 ≤ y ∧ y ≤ 3)) ∨ (t = 0 ∧ (0 ≤ x ∧ x < m4 143 12) ∧ (0 ≤ y ∧ y ≤ 3) ∧ r = ndR m4 x y)) → ∃ z, some r = some z ∧ K z (upm m4 143 0 t) := fun r t ht q => ⟨_, rfl, H _ r t (hm.th' ht) (hq.tr FrQ.th) hS (by rw [upm_ne (by omega)]; exact g2) (eE t) upm_eq (by
    rw [upm_ne (by omega)]
    have e : ndR (upm m4 143 0 t) x y = ndR m4 x y := by
      unfold ndR
      rw [upm_ne (by omega), upm_ne (by omega), upm_ne (by omega), upm_ne (by omega)]
    rw [e]; exact q)⟩
  refine f_227 (fun a1 a2 _ => ⟨fun _ => f_227 (fun b1 b2 _ => ⟨fun _ => ?_, fun z => absurd (by decide) z⟩) (fun b1 _ => ⟨fun z => absurd rfl z, fun _ _ => fin 0 3 (by omega) (by omega)⟩), fun z => absurd (by decide) z⟩) (fun b1 _ => ⟨fun z => absurd rfl z, fun _ _ => fin 0 2 (by omega) (by omega)⟩)
  have hx : 0 ≤ x ∧ x < 48 := by omega
  refine ⟨fun q0 => ⟨fun q1 => ⟨fun q2 => ⟨hx, fun v e _ _ => fin v 0 (by omega) (Or.inr (Or.inr ⟨rfl, by omega, by omega, ?_⟩))⟩, fun q2 => ⟨hx, fun v e _ _ => fin v 0 (by omega) (Or.inr (Or.inr ⟨rfl, by omega, by omega, ?_⟩))⟩⟩, fun q1 => ⟨hx, fun v e _ _ => fin v 0 (by omega) (Or.inr (Or.inr ⟨rfl, by omega, by omega, ?_⟩))⟩⟩, fun q0 => ⟨hx, fun v e _ _ => fin v 0 (by omega) (Or.inr (Or.inr ⟨rfl, by omega, by omega, ?_⟩))⟩⟩
  all_goals (rw [upm_ne (by omega)] at e; unfold ndR)
  · rw [if_neg q0, if_neg q1, if_neg q2]; exact e
  · rw [if_neg q0, if_neg q1, if_pos (by omega)]; exact e
  · rw [if_neg q0, if_pos (by omega)]; exact e
  · rw [if_pos (by omega)]; exact e
theorem f_239e (h : RefOK mem) (H : ∀ r m', RefOK m' → FrQ mem m' → m' 143 0 = 0 → (r = 0 ∨ r = 1) → (r = 1 ↔ SoundM mem) → K r m') : CWI (Ex S (n + 3)) 239 [.inr 143] mem K := by
  have h' := h.th' (z := 0) (by omega)
  exact CW.of (k := 0) mt_239 rfl rfl (w_239_0 (Ex.mono S (n + 2)) (f_240 h'.ops (fun hS _ => ⟨Or.inr rfl, _, rfl, H 1 _ h' FrQ.th upm_eq (Or.inr rfl) ⟨fun _ => hS, fun _ => rfl⟩⟩) (fun hS _ => ⟨Or.inl rfl, _, rfl, H 0 _ h' FrQ.th upm_eq (Or.inl rfl) ⟨fun z => by omega, fun z => absurd z hS⟩⟩)))
end GB
def Hf9 (p0 p1 t y : Int) (m : MM) : Prop := ClS m ∧ RefOK m ∧ RelB m ∧ ((t = 1 ∧ ¬ SndX m) ∨ (SndX m ∧ Enum (cwq m 9) (m 9 0).toNat (NdC m (-1)) ∧ ((t = 2 ∧ ¬ (0 ≤ p0 ∧ p0 < m 9 0)) ∨ (t = 3 ∧ (0 ≤ p0 ∧ p0 < m 9 0) ∧ ¬ (0 ≤ p1 ∧ p1 ≤ 3)) ∨ (t = 0 ∧ (0 ≤ p0 ∧ p0 < m 9 0) ∧ (0 ≤ p1 ∧ p1 ≤ 3) ∧ y = ndQ m p0 p1))))
theorem krf {m m' : MM} (hr : RefOK m) (hF : Frm pNb m m') : RefOK m' := hr.fr (fun A i a b => hF A i (by unfold pNb; omega))
theorem krb {m m' : MM} (hb : RelB m) (hF : Frm pNb m m') : RelB m' := hb.fr (fun A i q => hF A i (by unfold pNb; omega))
theorem cl9 {S : Nat × (Nat → Int32)} {n : Nat} {m : MM} {p0 p1 : Int} (hc : ClS m) (hr : RefOK m) (hb : RelB m) : CQI (Ex S (n + 17)) 68 [.inr 0, .inl p0, .inl p1] m (fun y m' => Hf9 p0 p1 0 y m') (fun e m' => (e = 1 ∧ Hf9 p0 p1 1 0 m') ∨ (e = 2 ∧ Hf9 p0 p1 2 0 m') ∨ (e = 3 ∧ Hf9 p0 p1 3 0 m')) :=
  f_68x hc (fun r m' c f s w q l er => ⟨c, krf hr f, krb hb f, Or.inr ⟨s, w, Or.inr (Or.inr ⟨rfl, q, l, er⟩)⟩⟩) (fun m' c f s => Or.inl ⟨rfl, c, krf hr f, krb hb f, Or.inl ⟨rfl, s⟩⟩) (fun m' c f s w q => Or.inr (Or.inl ⟨rfl, c, krf hr f, krb hb f, Or.inr ⟨s, w, Or.inl ⟨rfl, q⟩⟩⟩)) (fun m' c f s w q l => Or.inr (Or.inr ⟨rfl, c, krf hr f, krb hb f, Or.inr ⟨s, w, Or.inr (Or.inl ⟨rfl, q, l⟩)⟩⟩))
theorem qQ {m m' : MM} (hc : ClS m) (hb : RelB m) (hF : FrQ m m') : ClS m' ∧ RelB m' := ⟨hc.ref (fun A i q => hF A i (by unfold pRf at q; omega)), hb.fr (fun A i q => hF A i (by omega))⟩
theorem rf9 {S : Nat × (Nat → Int32)} {n : Nat} {m : MM} {p0 p1 t y : Int} (H : Hf9 p0 p1 t y m) : CQI (Ex S (n + 4)) 244 [.inr 143, .inl p0, .inl p1] m (fun r m2 => ClS m2 ∧ RefOK m2 ∧ RelB m2 ∧ m2 143 0 = t ∧ (t = 0 → r = y)) (fun _ _ => False) := by
  obtain ⟨hc, hr, hb, H⟩ := H
  have hs := hb.snd hr
  refine CWI.q (Ex.mono S (n + 4)) (f_244e hr (fun m' r1 f1 s1 t1 => ?_) (fun m' r t' r1 f1 s1 c1 w1 t1 q1 => ?_))
  · rcases H with ⟨rfl, h1⟩ | ⟨h1, -⟩
    · exact ⟨(qQ hc hb f1).1, r1, (qQ hc hb f1).2, t1, fun z => by omega⟩
    · exact absurd (hs.mp h1) s1
  · rcases H with ⟨-, h1⟩ | ⟨h1, h2, h3⟩
    · exact absurd (hs.mpr s1) h1
    · have hw0 := hc.1.w.2.1
      have u := hb.webs hc.1.b hr hw0 c1 h2 w1
      have tt : t' = t := by rw [← u.1] at q1; omega
      refine ⟨(qQ hc hb f1).1, r1, (qQ hc hb f1).2, by omega, fun z => ?_⟩
      rw [← u.1] at q1
      have q2 : r = ndR m' p0 p1 := by rcases q1 with q | q | q <;> first | omega | exact q.2.2.2
      have q3 : y = ndQ m p0 p1 := by rcases h3 with q | q | q <;> first | omega | exact q.2.2.2
      have q4 : 0 ≤ p0 ∧ p0 < m 9 0 := by omega
      have e := u.2 p0.toNat (by omega)
      unfold cwq rq at e
      simp only [Prod.mk.injEq] at e
      rw [q2, q3]
      unfold ndR ndQ
      rw [← e.1, ← e.2.1, ← e.2.2.1, ← e.2.2.2]
def Hf8 (y : Int) (m : MM) : Prop := ClS m ∧ RefOK m ∧ RelB m ∧ (y = 0 ∨ y = 1) ∧ (y = 1 ↔ SndX m)
theorem cl8 {S : Nat × (Nat → Int32)} {n : Nat} {m : MM} (hc : ClS m) (hr : RefOK m) (hb : RelB m) : CQI (Ex S (n + 14)) 10 [.inr 0] m Hf8 (fun _ _ => False) :=
  f_10x hc (fun r m' c f a b => ⟨c, krf hr f, krb hb f, a, b⟩)
theorem rf8 {S : Nat × (Nat → Int32)} {n : Nat} {m : MM} {y : Int} (H : Hf8 y m) : CQI (Ex S (n + 3)) 239 [.inr 143] m (fun r m2 => ClS m2 ∧ RefOK m2 ∧ RelB m2 ∧ r = y) (fun _ _ => False) := by
  obtain ⟨hc, hr, hb, a, b⟩ := H
  have hs := hb.snd hr
  refine CWI.q (Ex.mono S (n + 3)) (f_239e hr (fun r m' r1 f1 t1 a1 b1 => ⟨(qQ hc hb f1).1, r1, (qQ hc hb f1).2, ?_⟩))
  rw [hs, ← b1] at b
  omega
/-! plain on both sides -/
theorem RelB.ag {m : MM} (h : RelB m) (hB : BodyOK m) (hr : RefOK m) {o : Nat} (ho : o < 8) : AgO (acsC m) (acsR m) o := by
  have q := h.rpl hB ho
  have w := h.ops ho
  have hab := hr.ab o ho
  refine ⟨q.1, q.2.2, fun k hk => ?_⟩
  have e := w.2 k hk
  have rg : -2 ≤ srcA m o k ∧ srcA m o k ≤ 7 := by
    have a : k = 0 ∨ k = 1 := by omega
    rcases a with rfl | rfl
    · exact hab.1
    · exact hab.2
  refine ⟨e.1, e.2, fun z => ?_, ?_⟩
  · show m 4 (m 3 (4 * o + 2 * k)).toNat = m 149 (m 3 (4 * o + 2 * k)).toNat
    rw [e.1]
    exact (h.2.1 _ (by omega)).2.2.2.2.2
  · show -2 ≤ m 3 (4 * o + 2 * k)
    rw [e.1]; exact rg.1
def plOK (p0 p1 p2 : Int) : Prop := ((0 ≤ p0 ∧ p0 ≤ 1) ∧ 0 ≤ p1 ∧ p1 ≤ 63) ∧ 0 ≤ p2 ∧ p2 ≤ 40
def Hf27 (p0 p1 p2 t y : Int) (m : MM) : Prop := ClS m ∧ RefOK m ∧ RelB m ∧ ((t = 1 ∧ ¬ plOK p0 p1 p2) ∨ (t = 2 ∧ plOK p0 p1 p2 ∧ ¬ SndX m) ∨ (t = 0 ∧ plOK p0 p1 p2 ∧ SndX m ∧ y = (trM (acsC m) (m 1 0).toNat p2.toNat).1 p0.toNat p1.toNat))
theorem cl27 {S : Nat × (Nat → Int32)} {n : Nat} {m : MM} {p0 p1 p2 : Int} (hc : ClS m) (hr : RefOK m) (hb : RelB m) : CQI (Ex S (n + 17)) 169 [.inr 0, .inl p0, .inl p1, .inl p2] m (fun y m' => Hf27 p0 p1 p2 0 y m') (fun e m' => (e = 0 ∧ Hf27 p0 p1 p2 1 0 m') ∨ (e = 1 ∧ Hf27 p0 p1 p2 2 0 m')) :=
  f_169x hc (fun q r m' c f s er => ⟨c, krf hr f, krb hb f, Or.inr (Or.inr ⟨rfl, q, s, er⟩)⟩) (fun q => Or.inl ⟨rfl, hc, hr, hb, Or.inl ⟨rfl, q⟩⟩) (fun q m' c f s => Or.inr ⟨rfl, c, krf hr f, krb hb f, Or.inr (Or.inl ⟨rfl, q, s⟩)⟩)
theorem rf27 {S : Nat × (Nat → Int32)} {n : Nat} {m : MM} {p0 p1 p2 t y : Int} (H : Hf27 p0 p1 p2 t y m) : CQI (Ex S (n + 5)) 327 [.inr 143, .inl p0, .inl p1, .inl p2] m (fun r m2 => ClS m2 ∧ RefOK m2 ∧ RelB m2 ∧ m2 143 0 = t ∧ (t = 0 → r = y)) (fun _ _ => False) := by
  obtain ⟨hc, hr, hb, H⟩ := H
  have hs := hb.snd hr
  have hz := hb.1
  have hB := hc.1.b
  have h8 := hB.1
  refine f_327x hr (fun q s m' f p r er => ?_) (fun q => ?_) (fun q s => ?_)
  · have h0 := hr.th' (z := 0) (by omega)
    have fq : FrQ m m' := fun A i w => by rw [f A i (by unfold pPr; omega), upm_ne (by omega)]
    have r1 : RefOK m' := h0.fr0 f
    have th : m' 143 0 = 0 := by rw [f 143 0 (by unfold pPr; omega)]; exact upm_eq
    rcases H with ⟨-, h1⟩ | ⟨-, -, h1⟩ | ⟨rfl, -, -, ey⟩
    · exact absurd q h1
    · exact absurd (hs.mpr s) h1
    · refine ⟨(qQ hc hb fq).1, r1, (qQ hc hb fq).2, th, fun _ => ?_⟩
      rw [er, ey, p.1 p0.toNat p1.toNat (by omega) (by omega), ← hz, trM.cg (A := acsC m) (B := acsR m) (fun o ho => hb.ag hB hr (by omega))]
  · rcases H with ⟨rfl, h1⟩ | ⟨-, h1, -⟩ | ⟨-, h1, -⟩
    · exact ⟨hc.ref (fun A i w => upm_ne (by unfold pRf at w; omega)), hr.th' (by omega), hb.one (by omega), upm_eq, fun z => by omega⟩
    · exact absurd h1 q
    · exact absurd h1 q
  · rcases H with ⟨-, h1⟩ | ⟨rfl, h1, -⟩ | ⟨-, h1, h2, -⟩
    · exact absurd q h1
    · exact ⟨hc.ref (fun A i w => upm_ne (by unfold pRf at w; omega)), hr.th' (by omega), hb.one (by omega), upm_eq, fun z => by omega⟩
    · exact absurd (hs.mp h2) s
/-! laid by wip/hand/lw.py: the cases of the law by pairs -/
theorem te_368_0 : (pT M_368).find? (fun e => e.1 == 0) = some (0, .new 8, 9, 0) := (sk_0 0 rfl).trans rfl
theorem te_368_3 : (pT M_368).find? (fun e => e.1 == 3) = some (3, .dup, 0, 0) := (sk_0 3 rfl).trans rfl
theorem te_368_4 : (pT M_368).find? (fun e => e.1 == 4) = some (4, .invokespecial 170, 0, 4) := (sk_0 4 rfl).trans rfl
theorem te_368_7 : (pT M_368).find? (fun e => e.1 == 7) = some (7, .astore_n 1, 0, 0) := (sk_0 7 rfl).trans rfl
theorem te_368_8 : (pT M_368).find? (fun e => e.1 == 8) = some (8, .new 171, 10, 0) := (sk_0 8 rfl).trans rfl
theorem te_368_11 : (pT M_368).find? (fun e => e.1 == 11) = some (11, .dup, 0, 0) := (sk_0 11 rfl).trans rfl
theorem te_368_12 : (pT M_368).find? (fun e => e.1 == 12) = some (12, .invokespecial 173, 224, 4) := (sk_0 12 rfl).trans rfl
theorem te_368_15 : (pT M_368).find? (fun e => e.1 == 15) = some (15, .astore_n 2, 0, 0) := (sk_0 15 rfl).trans rfl
theorem te_368_16 : (pT M_368).find? (fun e => e.1 == 16) = some (16, .iconst 1, 0, 0) := (sk_0 16 rfl).trans rfl
theorem te_368_17 : (pT M_368).find? (fun e => e.1 == 17) = some (17, .newarray .long, 0, 0) := (sk_0 17 rfl).trans rfl
theorem te_368_19 : (pT M_368).find? (fun e => e.1 == 19) = some (19, .astore_n 3, 0, 0) := (sk_0 19 rfl).trans rfl
theorem te_368_20 : (pT M_368).find? (fun e => e.1 == 20) = some (20, .iconst 0, 0, 0) := (sk_0 20 rfl).trans rfl
theorem te_368_21 : (pT M_368).find? (fun e => e.1 == 21) = some (21, .istore 4, 0, 0) := (sk_1 21 rfl).trans rfl
theorem te_368_23 : (pT M_368).find? (fun e => e.1 == 23) = some (23, .iload 4, 0, 0) := (sk_1 23 rfl).trans rfl
theorem te_368_25 : (pT M_368).find? (fun e => e.1 == 25) = some (25, .aload_n 0, 0, 0) := (sk_1 25 rfl).trans rfl
theorem te_368_26 : (pT M_368).find? (fun e => e.1 == 26) = some (26, .arraylength, 0, 0) := (sk_1 26 rfl).trans rfl
theorem te_368_27 : (pT M_368).find? (fun e => e.1 == 27) = some (27, .bipush 6, 0, 0) := (sk_1 27 rfl).trans rfl
theorem te_368_29 : (pT M_368).find? (fun e => e.1 == 29) = some (29, .isub, 0, 0) := (sk_1 29 rfl).trans rfl
theorem te_368_30 : (pT M_368).find? (fun e => e.1 == 30) = some (30, .if_icmp .gt 2320, 0, 0) := (sk_1 30 rfl).trans rfl
theorem te_368_33 : (pT M_368).find? (fun e => e.1 == 33) = some (33, .aload_n 0, 0, 0) := (sk_1 33 rfl).trans rfl
theorem te_368_34 : (pT M_368).find? (fun e => e.1 == 34) = some (34, .iload 4, 0, 0) := (sk_1 34 rfl).trans rfl
theorem te_368_36 : (pT M_368).find? (fun e => e.1 == 36) = some (36, .iaload, 0, 0) := (sk_1 36 rfl).trans rfl
theorem te_368_37 : (pT M_368).find? (fun e => e.1 == 37) = some (37, .bipush 63, 0, 0) := (sk_1 37 rfl).trans rfl
theorem te_368_39 : (pT M_368).find? (fun e => e.1 == 39) = some (39, .iand, 0, 0) := (sk_1 39 rfl).trans rfl
theorem te_368_40 : (pT M_368).find? (fun e => e.1 == 40) = some (40, .tableswitch 2304 0 48 #[212, 288, 328, 392, 408, 448, 510, 550, 590, 603, 671, 723, 763, 791, 819, 835, 875, 927, 967, 995, 1011, 1051, 1103, 1143, 1207, 1259, 1323, 1375, 1427, 1491, 1547, 1615, 1643, 1695, 1771, 1815, 1831, 1859, 1875, 1903, 1931, 1971, 2039, 2091, 2131, 2195, 2223, 2251, 2279], 212, 0) := (sk_2 40 rfl).trans rfl
theorem te_368_252 : (pT M_368).find? (fun e => e.1 == 252) = some (252, .aload_n 1, 0, 0) := (sk_2 252 rfl).trans rfl
theorem te_368_253 : (pT M_368).find? (fun e => e.1 == 253) = some (253, .aload_n 0, 0, 0) := (sk_2 253 rfl).trans rfl
theorem te_368_254 : (pT M_368).find? (fun e => e.1 == 254) = some (254, .iload 4, 0, 0) := (sk_2 254 rfl).trans rfl
theorem te_368_256 : (pT M_368).find? (fun e => e.1 == 256) = some (256, .iconst 1, 0, 0) := (sk_2 256 rfl).trans rfl
theorem te_368_257 : (pT M_368).find? (fun e => e.1 == 257) = some (257, .iadd, 0, 0) := (sk_2 257 rfl).trans rfl
theorem te_368_258 : (pT M_368).find? (fun e => e.1 == 258) = some (258, .iaload, 0, 0) := (sk_2 258 rfl).trans rfl
theorem te_368_259 : (pT M_368).find? (fun e => e.1 == 259) = some (259, .aload_n 0, 0, 0) := (sk_2 259 rfl).trans rfl
theorem te_368_260 : (pT M_368).find? (fun e => e.1 == 260) = some (260, .iload 4, 0, 0) := (sk_2 260 rfl).trans rfl
theorem te_368_262 : (pT M_368).find? (fun e => e.1 == 262) = some (262, .iconst 2, 0, 0) := (sk_2 262 rfl).trans rfl
theorem te_368_263 : (pT M_368).find? (fun e => e.1 == 263) = some (263, .iadd, 0, 0) := (sk_2 263 rfl).trans rfl
theorem te_368_264 : (pT M_368).find? (fun e => e.1 == 264) = some (264, .iaload, 0, 0) := (sk_2 264 rfl).trans rfl
theorem te_368_265 : (pT M_368).find? (fun e => e.1 == 265) = some (265, .aload_n 0, 0, 0) := (sk_3 265 rfl).trans rfl
theorem te_368_266 : (pT M_368).find? (fun e => e.1 == 266) = some (266, .iload 4, 0, 0) := (sk_3 266 rfl).trans rfl
theorem te_368_268 : (pT M_368).find? (fun e => e.1 == 268) = some (268, .iconst 3, 0, 0) := (sk_3 268 rfl).trans rfl
theorem te_368_269 : (pT M_368).find? (fun e => e.1 == 269) = some (269, .iadd, 0, 0) := (sk_3 269 rfl).trans rfl
theorem te_368_270 : (pT M_368).find? (fun e => e.1 == 270) = some (270, .iaload, 0, 0) := (sk_3 270 rfl).trans rfl
theorem te_368_271 : (pT M_368).find? (fun e => e.1 == 271) = some (271, .aload_n 0, 0, 0) := (sk_3 271 rfl).trans rfl
theorem te_368_272 : (pT M_368).find? (fun e => e.1 == 272) = some (272, .iload 4, 0, 0) := (sk_3 272 rfl).trans rfl
theorem te_368_274 : (pT M_368).find? (fun e => e.1 == 274) = some (274, .iconst 4, 0, 0) := (sk_3 274 rfl).trans rfl
theorem te_368_275 : (pT M_368).find? (fun e => e.1 == 275) = some (275, .iadd, 0, 0) := (sk_3 275 rfl).trans rfl
theorem te_368_276 : (pT M_368).find? (fun e => e.1 == 276) = some (276, .iaload, 0, 0) := (sk_3 276 rfl).trans rfl
theorem te_368_277 : (pT M_368).find? (fun e => e.1 == 277) = some (277, .aload_n 0, 0, 0) := (sk_3 277 rfl).trans rfl
theorem te_368_278 : (pT M_368).find? (fun e => e.1 == 278) = some (278, .iload 4, 0, 0) := (sk_3 278 rfl).trans rfl
theorem te_368_280 : (pT M_368).find? (fun e => e.1 == 280) = some (280, .iconst 5, 0, 0) := (sk_4 280 rfl).trans rfl
theorem te_368_281 : (pT M_368).find? (fun e => e.1 == 281) = some (281, .iadd, 0, 0) := (sk_4 281 rfl).trans rfl
theorem te_368_282 : (pT M_368).find? (fun e => e.1 == 282) = some (282, .iaload, 0, 0) := (sk_4 282 rfl).trans rfl
theorem te_368_283 : (pT M_368).find? (fun e => e.1 == 283) = some (283, .aload_n 3, 0, 0) := (sk_4 283 rfl).trans rfl
theorem te_368_284 : (pT M_368).find? (fun e => e.1 == 284) = some (284, .invokestatic 174, 43, 8) := (sk_4 284 rfl).trans rfl
theorem te_368_287 : (pT M_368).find? (fun e => e.1 == 287) = some (287, .istore 5, 0, 0) := (sk_4 287 rfl).trans rfl
theorem te_368_289 : (pT M_368).find? (fun e => e.1 == 289) = some (289, .aload_n 2, 0, 0) := (sk_4 289 rfl).trans rfl
theorem te_368_290 : (pT M_368).find? (fun e => e.1 == 290) = some (290, .aload_n 0, 0, 0) := (sk_4 290 rfl).trans rfl
theorem te_368_291 : (pT M_368).find? (fun e => e.1 == 291) = some (291, .iload 4, 0, 0) := (sk_4 291 rfl).trans rfl
theorem te_368_293 : (pT M_368).find? (fun e => e.1 == 293) = some (293, .iconst 1, 0, 0) := (sk_4 293 rfl).trans rfl
theorem te_368_294 : (pT M_368).find? (fun e => e.1 == 294) = some (294, .iadd, 0, 0) := (sk_4 294 rfl).trans rfl
theorem te_368_295 : (pT M_368).find? (fun e => e.1 == 295) = some (295, .iaload, 0, 0) := (sk_4 295 rfl).trans rfl
theorem te_368_296 : (pT M_368).find? (fun e => e.1 == 296) = some (296, .aload_n 0, 0, 0) := (sk_5 296 rfl).trans rfl
theorem te_368_297 : (pT M_368).find? (fun e => e.1 == 297) = some (297, .iload 4, 0, 0) := (sk_5 297 rfl).trans rfl
theorem te_368_299 : (pT M_368).find? (fun e => e.1 == 299) = some (299, .iconst 2, 0, 0) := (sk_5 299 rfl).trans rfl
theorem te_368_300 : (pT M_368).find? (fun e => e.1 == 300) = some (300, .iadd, 0, 0) := (sk_5 300 rfl).trans rfl
theorem te_368_301 : (pT M_368).find? (fun e => e.1 == 301) = some (301, .iaload, 0, 0) := (sk_5 301 rfl).trans rfl
theorem te_368_302 : (pT M_368).find? (fun e => e.1 == 302) = some (302, .aload_n 0, 0, 0) := (sk_5 302 rfl).trans rfl
theorem te_368_303 : (pT M_368).find? (fun e => e.1 == 303) = some (303, .iload 4, 0, 0) := (sk_5 303 rfl).trans rfl
theorem te_368_305 : (pT M_368).find? (fun e => e.1 == 305) = some (305, .iconst 3, 0, 0) := (sk_5 305 rfl).trans rfl
theorem te_368_306 : (pT M_368).find? (fun e => e.1 == 306) = some (306, .iadd, 0, 0) := (sk_5 306 rfl).trans rfl
theorem te_368_307 : (pT M_368).find? (fun e => e.1 == 307) = some (307, .iaload, 0, 0) := (sk_5 307 rfl).trans rfl
theorem te_368_308 : (pT M_368).find? (fun e => e.1 == 308) = some (308, .aload_n 0, 0, 0) := (sk_5 308 rfl).trans rfl
theorem te_368_309 : (pT M_368).find? (fun e => e.1 == 309) = some (309, .iload 4, 0, 0) := (sk_5 309 rfl).trans rfl
theorem te_368_311 : (pT M_368).find? (fun e => e.1 == 311) = some (311, .iconst 4, 0, 0) := (sk_6 311 rfl).trans rfl
theorem te_368_312 : (pT M_368).find? (fun e => e.1 == 312) = some (312, .iadd, 0, 0) := (sk_6 312 rfl).trans rfl
theorem te_368_313 : (pT M_368).find? (fun e => e.1 == 313) = some (313, .iaload, 0, 0) := (sk_6 313 rfl).trans rfl
theorem te_368_314 : (pT M_368).find? (fun e => e.1 == 314) = some (314, .aload_n 0, 0, 0) := (sk_6 314 rfl).trans rfl
theorem te_368_315 : (pT M_368).find? (fun e => e.1 == 315) = some (315, .iload 4, 0, 0) := (sk_6 315 rfl).trans rfl
theorem te_368_317 : (pT M_368).find? (fun e => e.1 == 317) = some (317, .iconst 5, 0, 0) := (sk_6 317 rfl).trans rfl
theorem te_368_318 : (pT M_368).find? (fun e => e.1 == 318) = some (318, .iadd, 0, 0) := (sk_6 318 rfl).trans rfl
theorem te_368_319 : (pT M_368).find? (fun e => e.1 == 319) = some (319, .iaload, 0, 0) := (sk_6 319 rfl).trans rfl
theorem te_368_320 : (pT M_368).find? (fun e => e.1 == 320) = some (320, .invokevirtual 179, 226, 0) := (sk_6 320 rfl).trans rfl
theorem te_368_323 : (pT M_368).find? (fun e => e.1 == 323) = some (323, .istore 6, 0, 0) := (sk_6 323 rfl).trans rfl
theorem te_368_325 : (pT M_368).find? (fun e => e.1 == 325) = some (325, .goto 2019, 0, 0) := (sk_6 325 rfl).trans rfl
theorem te_368_328 : (pT M_368).find? (fun e => e.1 == 328) = some (328, .aload_n 1, 0, 0) := (sk_6 328 rfl).trans rfl
theorem te_368_329 : (pT M_368).find? (fun e => e.1 == 329) = some (329, .aload_n 0, 0, 0) := (sk_7 329 rfl).trans rfl
theorem te_368_330 : (pT M_368).find? (fun e => e.1 == 330) = some (330, .iload 4, 0, 0) := (sk_7 330 rfl).trans rfl
theorem te_368_332 : (pT M_368).find? (fun e => e.1 == 332) = some (332, .iconst 1, 0, 0) := (sk_7 332 rfl).trans rfl
theorem te_368_333 : (pT M_368).find? (fun e => e.1 == 333) = some (333, .iadd, 0, 0) := (sk_7 333 rfl).trans rfl
theorem te_368_334 : (pT M_368).find? (fun e => e.1 == 334) = some (334, .iaload, 0, 0) := (sk_7 334 rfl).trans rfl
theorem te_368_335 : (pT M_368).find? (fun e => e.1 == 335) = some (335, .aload_n 0, 0, 0) := (sk_7 335 rfl).trans rfl
theorem te_368_336 : (pT M_368).find? (fun e => e.1 == 336) = some (336, .iload 4, 0, 0) := (sk_7 336 rfl).trans rfl
theorem te_368_338 : (pT M_368).find? (fun e => e.1 == 338) = some (338, .iconst 2, 0, 0) := (sk_7 338 rfl).trans rfl
theorem te_368_339 : (pT M_368).find? (fun e => e.1 == 339) = some (339, .iadd, 0, 0) := (sk_7 339 rfl).trans rfl
theorem te_368_340 : (pT M_368).find? (fun e => e.1 == 340) = some (340, .iaload, 0, 0) := (sk_7 340 rfl).trans rfl
theorem te_368_341 : (pT M_368).find? (fun e => e.1 == 341) = some (341, .aload_n 3, 0, 0) := (sk_7 341 rfl).trans rfl
theorem te_368_342 : (pT M_368).find? (fun e => e.1 == 342) = some (342, .invokestatic 180, 48, 8) := (sk_7 342 rfl).trans rfl
theorem te_368_345 : (pT M_368).find? (fun e => e.1 == 345) = some (345, .istore 5, 0, 0) := (sk_8 345 rfl).trans rfl
theorem te_368_347 : (pT M_368).find? (fun e => e.1 == 347) = some (347, .aload_n 2, 0, 0) := (sk_8 347 rfl).trans rfl
theorem te_368_348 : (pT M_368).find? (fun e => e.1 == 348) = some (348, .aload_n 0, 0, 0) := (sk_8 348 rfl).trans rfl
theorem te_368_349 : (pT M_368).find? (fun e => e.1 == 349) = some (349, .iload 4, 0, 0) := (sk_8 349 rfl).trans rfl
theorem te_368_351 : (pT M_368).find? (fun e => e.1 == 351) = some (351, .iconst 1, 0, 0) := (sk_8 351 rfl).trans rfl
theorem te_368_352 : (pT M_368).find? (fun e => e.1 == 352) = some (352, .iadd, 0, 0) := (sk_8 352 rfl).trans rfl
theorem te_368_353 : (pT M_368).find? (fun e => e.1 == 353) = some (353, .iaload, 0, 0) := (sk_8 353 rfl).trans rfl
theorem te_368_354 : (pT M_368).find? (fun e => e.1 == 354) = some (354, .aload_n 0, 0, 0) := (sk_8 354 rfl).trans rfl
theorem te_368_355 : (pT M_368).find? (fun e => e.1 == 355) = some (355, .iload 4, 0, 0) := (sk_8 355 rfl).trans rfl
theorem te_368_357 : (pT M_368).find? (fun e => e.1 == 357) = some (357, .iconst 2, 0, 0) := (sk_8 357 rfl).trans rfl
theorem te_368_358 : (pT M_368).find? (fun e => e.1 == 358) = some (358, .iadd, 0, 0) := (sk_8 358 rfl).trans rfl
theorem te_368_359 : (pT M_368).find? (fun e => e.1 == 359) = some (359, .iaload, 0, 0) := (sk_8 359 rfl).trans rfl
theorem te_368_360 : (pT M_368).find? (fun e => e.1 == 360) = some (360, .invokevirtual 183, 230, 0) := (sk_9 360 rfl).trans rfl
theorem te_368_363 : (pT M_368).find? (fun e => e.1 == 363) = some (363, .istore 6, 0, 0) := (sk_9 363 rfl).trans rfl
theorem te_368_365 : (pT M_368).find? (fun e => e.1 == 365) = some (365, .goto 1979, 0, 0) := (sk_9 365 rfl).trans rfl
theorem te_368_368 : (pT M_368).find? (fun e => e.1 == 368) = some (368, .aload_n 1, 0, 0) := (sk_9 368 rfl).trans rfl
theorem te_368_369 : (pT M_368).find? (fun e => e.1 == 369) = some (369, .aload_n 0, 0, 0) := (sk_9 369 rfl).trans rfl
theorem te_368_370 : (pT M_368).find? (fun e => e.1 == 370) = some (370, .iload 4, 0, 0) := (sk_9 370 rfl).trans rfl
theorem te_368_372 : (pT M_368).find? (fun e => e.1 == 372) = some (372, .iconst 1, 0, 0) := (sk_9 372 rfl).trans rfl
theorem te_368_373 : (pT M_368).find? (fun e => e.1 == 373) = some (373, .iadd, 0, 0) := (sk_9 373 rfl).trans rfl
theorem te_368_374 : (pT M_368).find? (fun e => e.1 == 374) = some (374, .iaload, 0, 0) := (sk_9 374 rfl).trans rfl
theorem te_368_375 : (pT M_368).find? (fun e => e.1 == 375) = some (375, .aload_n 0, 0, 0) := (sk_9 375 rfl).trans rfl
theorem te_368_376 : (pT M_368).find? (fun e => e.1 == 376) = some (376, .iload 4, 0, 0) := (sk_9 376 rfl).trans rfl
theorem te_368_378 : (pT M_368).find? (fun e => e.1 == 378) = some (378, .iconst 2, 0, 0) := (sk_9 378 rfl).trans rfl
theorem te_368_379 : (pT M_368).find? (fun e => e.1 == 379) = some (379, .iadd, 0, 0) := (sk_10 379 rfl).trans rfl
theorem te_368_380 : (pT M_368).find? (fun e => e.1 == 380) = some (380, .iaload, 0, 0) := (sk_10 380 rfl).trans rfl
theorem te_368_381 : (pT M_368).find? (fun e => e.1 == 381) = some (381, .aload_n 0, 0, 0) := (sk_10 381 rfl).trans rfl
theorem te_368_382 : (pT M_368).find? (fun e => e.1 == 382) = some (382, .iload 4, 0, 0) := (sk_10 382 rfl).trans rfl
theorem te_368_384 : (pT M_368).find? (fun e => e.1 == 384) = some (384, .iconst 3, 0, 0) := (sk_10 384 rfl).trans rfl
theorem te_368_385 : (pT M_368).find? (fun e => e.1 == 385) = some (385, .iadd, 0, 0) := (sk_10 385 rfl).trans rfl
theorem te_368_386 : (pT M_368).find? (fun e => e.1 == 386) = some (386, .iaload, 0, 0) := (sk_10 386 rfl).trans rfl
theorem te_368_387 : (pT M_368).find? (fun e => e.1 == 387) = some (387, .aload_n 0, 0, 0) := (sk_10 387 rfl).trans rfl
theorem te_368_388 : (pT M_368).find? (fun e => e.1 == 388) = some (388, .iload 4, 0, 0) := (sk_10 388 rfl).trans rfl
theorem te_368_390 : (pT M_368).find? (fun e => e.1 == 390) = some (390, .iconst 4, 0, 0) := (sk_10 390 rfl).trans rfl
theorem te_368_391 : (pT M_368).find? (fun e => e.1 == 391) = some (391, .iadd, 0, 0) := (sk_10 391 rfl).trans rfl
theorem te_368_392 : (pT M_368).find? (fun e => e.1 == 392) = some (392, .iaload, 0, 0) := (sk_10 392 rfl).trans rfl
theorem te_368_393 : (pT M_368).find? (fun e => e.1 == 393) = some (393, .aload_n 3, 0, 0) := (sk_11 393 rfl).trans rfl
theorem te_368_394 : (pT M_368).find? (fun e => e.1 == 394) = some (394, .invokestatic 184, 51, 8) := (sk_11 394 rfl).trans rfl
theorem te_368_397 : (pT M_368).find? (fun e => e.1 == 397) = some (397, .istore 5, 0, 0) := (sk_11 397 rfl).trans rfl
theorem te_368_399 : (pT M_368).find? (fun e => e.1 == 399) = some (399, .aload_n 2, 0, 0) := (sk_11 399 rfl).trans rfl
theorem te_368_400 : (pT M_368).find? (fun e => e.1 == 400) = some (400, .aload_n 0, 0, 0) := (sk_11 400 rfl).trans rfl
theorem te_368_401 : (pT M_368).find? (fun e => e.1 == 401) = some (401, .iload 4, 0, 0) := (sk_11 401 rfl).trans rfl
theorem te_368_403 : (pT M_368).find? (fun e => e.1 == 403) = some (403, .iconst 1, 0, 0) := (sk_11 403 rfl).trans rfl
theorem te_368_404 : (pT M_368).find? (fun e => e.1 == 404) = some (404, .iadd, 0, 0) := (sk_11 404 rfl).trans rfl
theorem te_368_405 : (pT M_368).find? (fun e => e.1 == 405) = some (405, .iaload, 0, 0) := (sk_11 405 rfl).trans rfl
theorem te_368_406 : (pT M_368).find? (fun e => e.1 == 406) = some (406, .aload_n 0, 0, 0) := (sk_11 406 rfl).trans rfl
theorem te_368_407 : (pT M_368).find? (fun e => e.1 == 407) = some (407, .iload 4, 0, 0) := (sk_11 407 rfl).trans rfl
theorem te_368_409 : (pT M_368).find? (fun e => e.1 == 409) = some (409, .iconst 2, 0, 0) := (sk_11 409 rfl).trans rfl
theorem te_368_410 : (pT M_368).find? (fun e => e.1 == 410) = some (410, .iadd, 0, 0) := (sk_12 410 rfl).trans rfl
theorem te_368_411 : (pT M_368).find? (fun e => e.1 == 411) = some (411, .iaload, 0, 0) := (sk_12 411 rfl).trans rfl
theorem te_368_412 : (pT M_368).find? (fun e => e.1 == 412) = some (412, .aload_n 0, 0, 0) := (sk_12 412 rfl).trans rfl
theorem te_368_413 : (pT M_368).find? (fun e => e.1 == 413) = some (413, .iload 4, 0, 0) := (sk_12 413 rfl).trans rfl
theorem te_368_415 : (pT M_368).find? (fun e => e.1 == 415) = some (415, .iconst 3, 0, 0) := (sk_12 415 rfl).trans rfl
theorem te_368_416 : (pT M_368).find? (fun e => e.1 == 416) = some (416, .iadd, 0, 0) := (sk_12 416 rfl).trans rfl
theorem te_368_417 : (pT M_368).find? (fun e => e.1 == 417) = some (417, .iaload, 0, 0) := (sk_12 417 rfl).trans rfl
theorem te_368_418 : (pT M_368).find? (fun e => e.1 == 418) = some (418, .aload_n 0, 0, 0) := (sk_12 418 rfl).trans rfl
theorem te_368_419 : (pT M_368).find? (fun e => e.1 == 419) = some (419, .iload 4, 0, 0) := (sk_12 419 rfl).trans rfl
theorem te_368_421 : (pT M_368).find? (fun e => e.1 == 421) = some (421, .iconst 4, 0, 0) := (sk_12 421 rfl).trans rfl
theorem te_368_422 : (pT M_368).find? (fun e => e.1 == 422) = some (422, .iadd, 0, 0) := (sk_12 422 rfl).trans rfl
theorem te_368_423 : (pT M_368).find? (fun e => e.1 == 423) = some (423, .iaload, 0, 0) := (sk_12 423 rfl).trans rfl
theorem te_368_424 : (pT M_368).find? (fun e => e.1 == 424) = some (424, .invokevirtual 187, 232, 0) := (sk_13 424 rfl).trans rfl
theorem te_368_427 : (pT M_368).find? (fun e => e.1 == 427) = some (427, .istore 6, 0, 0) := (sk_13 427 rfl).trans rfl
theorem te_368_429 : (pT M_368).find? (fun e => e.1 == 429) = some (429, .goto 1915, 0, 0) := (sk_13 429 rfl).trans rfl
theorem te_368_432 : (pT M_368).find? (fun e => e.1 == 432) = some (432, .aload_n 1, 0, 0) := (sk_13 432 rfl).trans rfl
theorem te_368_433 : (pT M_368).find? (fun e => e.1 == 433) = some (433, .aload_n 3, 0, 0) := (sk_13 433 rfl).trans rfl
theorem te_368_434 : (pT M_368).find? (fun e => e.1 == 434) = some (434, .invokestatic 188, 53, 8) := (sk_13 434 rfl).trans rfl
theorem te_368_437 : (pT M_368).find? (fun e => e.1 == 437) = some (437, .istore 5, 0, 0) := (sk_13 437 rfl).trans rfl
theorem te_368_439 : (pT M_368).find? (fun e => e.1 == 439) = some (439, .aload_n 2, 0, 0) := (sk_13 439 rfl).trans rfl
theorem te_368_440 : (pT M_368).find? (fun e => e.1 == 440) = some (440, .invokevirtual 191, 233, 0) := (sk_13 440 rfl).trans rfl
theorem te_368_443 : (pT M_368).find? (fun e => e.1 == 443) = some (443, .istore 6, 0, 0) := (sk_13 443 rfl).trans rfl
theorem te_368_445 : (pT M_368).find? (fun e => e.1 == 445) = some (445, .goto 1899, 0, 0) := (sk_13 445 rfl).trans rfl
theorem te_368_448 : (pT M_368).find? (fun e => e.1 == 448) = some (448, .aload_n 1, 0, 0) := (sk_13 448 rfl).trans rfl
theorem te_368_449 : (pT M_368).find? (fun e => e.1 == 449) = some (449, .aload_n 0, 0, 0) := (sk_14 449 rfl).trans rfl
theorem te_368_450 : (pT M_368).find? (fun e => e.1 == 450) = some (450, .iload 4, 0, 0) := (sk_14 450 rfl).trans rfl
theorem te_368_452 : (pT M_368).find? (fun e => e.1 == 452) = some (452, .iconst 1, 0, 0) := (sk_14 452 rfl).trans rfl
theorem te_368_453 : (pT M_368).find? (fun e => e.1 == 453) = some (453, .iadd, 0, 0) := (sk_14 453 rfl).trans rfl
theorem te_368_454 : (pT M_368).find? (fun e => e.1 == 454) = some (454, .iaload, 0, 0) := (sk_14 454 rfl).trans rfl
theorem te_368_455 : (pT M_368).find? (fun e => e.1 == 455) = some (455, .aload_n 0, 0, 0) := (sk_14 455 rfl).trans rfl
theorem te_368_456 : (pT M_368).find? (fun e => e.1 == 456) = some (456, .iload 4, 0, 0) := (sk_14 456 rfl).trans rfl
theorem te_368_458 : (pT M_368).find? (fun e => e.1 == 458) = some (458, .iconst 2, 0, 0) := (sk_14 458 rfl).trans rfl
theorem te_368_459 : (pT M_368).find? (fun e => e.1 == 459) = some (459, .iadd, 0, 0) := (sk_14 459 rfl).trans rfl
theorem te_368_460 : (pT M_368).find? (fun e => e.1 == 460) = some (460, .iaload, 0, 0) := (sk_14 460 rfl).trans rfl
theorem te_368_461 : (pT M_368).find? (fun e => e.1 == 461) = some (461, .aload_n 3, 0, 0) := (sk_14 461 rfl).trans rfl
theorem te_368_462 : (pT M_368).find? (fun e => e.1 == 462) = some (462, .invokestatic 192, 55, 8) := (sk_14 462 rfl).trans rfl
theorem te_368_465 : (pT M_368).find? (fun e => e.1 == 465) = some (465, .istore 5, 0, 0) := (sk_15 465 rfl).trans rfl
theorem te_368_467 : (pT M_368).find? (fun e => e.1 == 467) = some (467, .aload_n 2, 0, 0) := (sk_15 467 rfl).trans rfl
theorem te_368_468 : (pT M_368).find? (fun e => e.1 == 468) = some (468, .aload_n 0, 0, 0) := (sk_15 468 rfl).trans rfl
theorem te_368_469 : (pT M_368).find? (fun e => e.1 == 469) = some (469, .iload 4, 0, 0) := (sk_15 469 rfl).trans rfl
theorem te_368_471 : (pT M_368).find? (fun e => e.1 == 471) = some (471, .iconst 1, 0, 0) := (sk_15 471 rfl).trans rfl
theorem te_368_472 : (pT M_368).find? (fun e => e.1 == 472) = some (472, .iadd, 0, 0) := (sk_15 472 rfl).trans rfl
theorem te_368_473 : (pT M_368).find? (fun e => e.1 == 473) = some (473, .iaload, 0, 0) := (sk_15 473 rfl).trans rfl
theorem te_368_474 : (pT M_368).find? (fun e => e.1 == 474) = some (474, .aload_n 0, 0, 0) := (sk_15 474 rfl).trans rfl
theorem te_368_475 : (pT M_368).find? (fun e => e.1 == 475) = some (475, .iload 4, 0, 0) := (sk_15 475 rfl).trans rfl
theorem te_368_477 : (pT M_368).find? (fun e => e.1 == 477) = some (477, .iconst 2, 0, 0) := (sk_15 477 rfl).trans rfl
theorem te_368_478 : (pT M_368).find? (fun e => e.1 == 478) = some (478, .iadd, 0, 0) := (sk_15 478 rfl).trans rfl
theorem te_368_479 : (pT M_368).find? (fun e => e.1 == 479) = some (479, .iaload, 0, 0) := (sk_15 479 rfl).trans rfl
theorem te_368_480 : (pT M_368).find? (fun e => e.1 == 480) = some (480, .invokevirtual 194, 234, 0) := (sk_16 480 rfl).trans rfl
theorem te_368_483 : (pT M_368).find? (fun e => e.1 == 483) = some (483, .istore 6, 0, 0) := (sk_16 483 rfl).trans rfl
theorem te_368_485 : (pT M_368).find? (fun e => e.1 == 485) = some (485, .goto 1859, 0, 0) := (sk_16 485 rfl).trans rfl
theorem te_368_488 : (pT M_368).find? (fun e => e.1 == 488) = some (488, .aload_n 1, 0, 0) := (sk_16 488 rfl).trans rfl
theorem te_368_489 : (pT M_368).find? (fun e => e.1 == 489) = some (489, .aload_n 0, 0, 0) := (sk_16 489 rfl).trans rfl
theorem te_368_490 : (pT M_368).find? (fun e => e.1 == 490) = some (490, .iload 4, 0, 0) := (sk_16 490 rfl).trans rfl
theorem te_368_492 : (pT M_368).find? (fun e => e.1 == 492) = some (492, .iconst 1, 0, 0) := (sk_16 492 rfl).trans rfl
theorem te_368_493 : (pT M_368).find? (fun e => e.1 == 493) = some (493, .iadd, 0, 0) := (sk_16 493 rfl).trans rfl
theorem te_368_494 : (pT M_368).find? (fun e => e.1 == 494) = some (494, .iaload, 0, 0) := (sk_16 494 rfl).trans rfl
theorem te_368_495 : (pT M_368).find? (fun e => e.1 == 495) = some (495, .aload_n 0, 0, 0) := (sk_16 495 rfl).trans rfl
theorem te_368_496 : (pT M_368).find? (fun e => e.1 == 496) = some (496, .iload 4, 0, 0) := (sk_16 496 rfl).trans rfl
theorem te_368_498 : (pT M_368).find? (fun e => e.1 == 498) = some (498, .iconst 2, 0, 0) := (sk_16 498 rfl).trans rfl
theorem te_368_499 : (pT M_368).find? (fun e => e.1 == 499) = some (499, .iadd, 0, 0) := (sk_17 499 rfl).trans rfl
theorem te_368_500 : (pT M_368).find? (fun e => e.1 == 500) = some (500, .iaload, 0, 0) := (sk_17 500 rfl).trans rfl
theorem te_368_501 : (pT M_368).find? (fun e => e.1 == 501) = some (501, .aload_n 0, 0, 0) := (sk_17 501 rfl).trans rfl
theorem te_368_502 : (pT M_368).find? (fun e => e.1 == 502) = some (502, .iload 4, 0, 0) := (sk_17 502 rfl).trans rfl
theorem te_368_504 : (pT M_368).find? (fun e => e.1 == 504) = some (504, .iconst 3, 0, 0) := (sk_17 504 rfl).trans rfl
theorem te_368_505 : (pT M_368).find? (fun e => e.1 == 505) = some (505, .iadd, 0, 0) := (sk_17 505 rfl).trans rfl
theorem te_368_506 : (pT M_368).find? (fun e => e.1 == 506) = some (506, .iaload, 0, 0) := (sk_17 506 rfl).trans rfl
theorem te_368_507 : (pT M_368).find? (fun e => e.1 == 507) = some (507, .aload_n 0, 0, 0) := (sk_17 507 rfl).trans rfl
theorem te_368_508 : (pT M_368).find? (fun e => e.1 == 508) = some (508, .iload 4, 0, 0) := (sk_17 508 rfl).trans rfl
theorem te_368_510 : (pT M_368).find? (fun e => e.1 == 510) = some (510, .iconst 4, 0, 0) := (sk_17 510 rfl).trans rfl
theorem te_368_511 : (pT M_368).find? (fun e => e.1 == 511) = some (511, .iadd, 0, 0) := (sk_17 511 rfl).trans rfl
theorem te_368_512 : (pT M_368).find? (fun e => e.1 == 512) = some (512, .iaload, 0, 0) := (sk_17 512 rfl).trans rfl
theorem te_368_513 : (pT M_368).find? (fun e => e.1 == 513) = some (513, .invokestatic 195, 58, 8) := (sk_18 513 rfl).trans rfl
theorem te_368_516 : (pT M_368).find? (fun e => e.1 == 516) = some (516, .istore 5, 0, 0) := (sk_18 516 rfl).trans rfl
theorem te_368_518 : (pT M_368).find? (fun e => e.1 == 518) = some (518, .aload_n 2, 0, 0) := (sk_18 518 rfl).trans rfl
theorem te_368_519 : (pT M_368).find? (fun e => e.1 == 519) = some (519, .aload_n 0, 0, 0) := (sk_18 519 rfl).trans rfl
theorem te_368_520 : (pT M_368).find? (fun e => e.1 == 520) = some (520, .iload 4, 0, 0) := (sk_18 520 rfl).trans rfl
theorem te_368_522 : (pT M_368).find? (fun e => e.1 == 522) = some (522, .iconst 1, 0, 0) := (sk_18 522 rfl).trans rfl
theorem te_368_523 : (pT M_368).find? (fun e => e.1 == 523) = some (523, .iadd, 0, 0) := (sk_18 523 rfl).trans rfl
theorem te_368_524 : (pT M_368).find? (fun e => e.1 == 524) = some (524, .iaload, 0, 0) := (sk_18 524 rfl).trans rfl
theorem te_368_525 : (pT M_368).find? (fun e => e.1 == 525) = some (525, .aload_n 0, 0, 0) := (sk_18 525 rfl).trans rfl
theorem te_368_526 : (pT M_368).find? (fun e => e.1 == 526) = some (526, .iload 4, 0, 0) := (sk_18 526 rfl).trans rfl
theorem te_368_528 : (pT M_368).find? (fun e => e.1 == 528) = some (528, .iconst 2, 0, 0) := (sk_18 528 rfl).trans rfl
theorem te_368_529 : (pT M_368).find? (fun e => e.1 == 529) = some (529, .iadd, 0, 0) := (sk_18 529 rfl).trans rfl
theorem te_368_530 : (pT M_368).find? (fun e => e.1 == 530) = some (530, .iaload, 0, 0) := (sk_19 530 rfl).trans rfl
theorem te_368_531 : (pT M_368).find? (fun e => e.1 == 531) = some (531, .aload_n 0, 0, 0) := (sk_19 531 rfl).trans rfl
theorem te_368_532 : (pT M_368).find? (fun e => e.1 == 532) = some (532, .iload 4, 0, 0) := (sk_19 532 rfl).trans rfl
theorem te_368_534 : (pT M_368).find? (fun e => e.1 == 534) = some (534, .iconst 3, 0, 0) := (sk_19 534 rfl).trans rfl
theorem te_368_535 : (pT M_368).find? (fun e => e.1 == 535) = some (535, .iadd, 0, 0) := (sk_19 535 rfl).trans rfl
theorem te_368_536 : (pT M_368).find? (fun e => e.1 == 536) = some (536, .iaload, 0, 0) := (sk_19 536 rfl).trans rfl
theorem te_368_537 : (pT M_368).find? (fun e => e.1 == 537) = some (537, .aload_n 0, 0, 0) := (sk_19 537 rfl).trans rfl
theorem te_368_538 : (pT M_368).find? (fun e => e.1 == 538) = some (538, .iload 4, 0, 0) := (sk_19 538 rfl).trans rfl
theorem te_368_540 : (pT M_368).find? (fun e => e.1 == 540) = some (540, .iconst 4, 0, 0) := (sk_19 540 rfl).trans rfl
theorem te_368_541 : (pT M_368).find? (fun e => e.1 == 541) = some (541, .iadd, 0, 0) := (sk_19 541 rfl).trans rfl
theorem te_368_542 : (pT M_368).find? (fun e => e.1 == 542) = some (542, .iaload, 0, 0) := (sk_19 542 rfl).trans rfl
theorem te_368_543 : (pT M_368).find? (fun e => e.1 == 543) = some (543, .invokevirtual 198, 236, 0) := (sk_19 543 rfl).trans rfl
theorem te_368_546 : (pT M_368).find? (fun e => e.1 == 546) = some (546, .pop, 0, 0) := (sk_20 546 rfl).trans rfl
theorem te_368_547 : (pT M_368).find? (fun e => e.1 == 547) = some (547, .goto 1797, 0, 0) := (sk_20 547 rfl).trans rfl
theorem te_368_550 : (pT M_368).find? (fun e => e.1 == 550) = some (550, .aload_n 1, 0, 0) := (sk_20 550 rfl).trans rfl
theorem te_368_551 : (pT M_368).find? (fun e => e.1 == 551) = some (551, .aload_n 0, 0, 0) := (sk_20 551 rfl).trans rfl
theorem te_368_552 : (pT M_368).find? (fun e => e.1 == 552) = some (552, .iload 4, 0, 0) := (sk_20 552 rfl).trans rfl
theorem te_368_554 : (pT M_368).find? (fun e => e.1 == 554) = some (554, .iconst 1, 0, 0) := (sk_20 554 rfl).trans rfl
theorem te_368_555 : (pT M_368).find? (fun e => e.1 == 555) = some (555, .iadd, 0, 0) := (sk_20 555 rfl).trans rfl
theorem te_368_556 : (pT M_368).find? (fun e => e.1 == 556) = some (556, .iaload, 0, 0) := (sk_20 556 rfl).trans rfl
theorem te_368_557 : (pT M_368).find? (fun e => e.1 == 557) = some (557, .aload_n 0, 0, 0) := (sk_20 557 rfl).trans rfl
theorem te_368_558 : (pT M_368).find? (fun e => e.1 == 558) = some (558, .iload 4, 0, 0) := (sk_20 558 rfl).trans rfl
theorem te_368_560 : (pT M_368).find? (fun e => e.1 == 560) = some (560, .iconst 2, 0, 0) := (sk_20 560 rfl).trans rfl
theorem te_368_561 : (pT M_368).find? (fun e => e.1 == 561) = some (561, .iadd, 0, 0) := (sk_20 561 rfl).trans rfl
theorem te_368_562 : (pT M_368).find? (fun e => e.1 == 562) = some (562, .iaload, 0, 0) := (sk_21 562 rfl).trans rfl
theorem te_368_563 : (pT M_368).find? (fun e => e.1 == 563) = some (563, .aload_n 3, 0, 0) := (sk_21 563 rfl).trans rfl
theorem te_368_564 : (pT M_368).find? (fun e => e.1 == 564) = some (564, .invokestatic 200, 61, 8) := (sk_21 564 rfl).trans rfl
theorem te_368_567 : (pT M_368).find? (fun e => e.1 == 567) = some (567, .istore 5, 0, 0) := (sk_21 567 rfl).trans rfl
theorem te_368_569 : (pT M_368).find? (fun e => e.1 == 569) = some (569, .aload_n 2, 0, 0) := (sk_21 569 rfl).trans rfl
theorem te_368_570 : (pT M_368).find? (fun e => e.1 == 570) = some (570, .aload_n 0, 0, 0) := (sk_21 570 rfl).trans rfl
theorem te_368_571 : (pT M_368).find? (fun e => e.1 == 571) = some (571, .iload 4, 0, 0) := (sk_21 571 rfl).trans rfl
theorem te_368_573 : (pT M_368).find? (fun e => e.1 == 573) = some (573, .iconst 1, 0, 0) := (sk_21 573 rfl).trans rfl
theorem te_368_574 : (pT M_368).find? (fun e => e.1 == 574) = some (574, .iadd, 0, 0) := (sk_21 574 rfl).trans rfl
theorem te_368_575 : (pT M_368).find? (fun e => e.1 == 575) = some (575, .iaload, 0, 0) := (sk_21 575 rfl).trans rfl
theorem te_368_576 : (pT M_368).find? (fun e => e.1 == 576) = some (576, .aload_n 0, 0, 0) := (sk_21 576 rfl).trans rfl
theorem te_368_577 : (pT M_368).find? (fun e => e.1 == 577) = some (577, .iload 4, 0, 0) := (sk_21 577 rfl).trans rfl
theorem te_368_579 : (pT M_368).find? (fun e => e.1 == 579) = some (579, .iconst 2, 0, 0) := (sk_22 579 rfl).trans rfl
theorem te_368_580 : (pT M_368).find? (fun e => e.1 == 580) = some (580, .iadd, 0, 0) := (sk_22 580 rfl).trans rfl
theorem te_368_581 : (pT M_368).find? (fun e => e.1 == 581) = some (581, .iaload, 0, 0) := (sk_22 581 rfl).trans rfl
theorem te_368_582 : (pT M_368).find? (fun e => e.1 == 582) = some (582, .invokevirtual 202, 237, 0) := (sk_22 582 rfl).trans rfl
theorem te_368_585 : (pT M_368).find? (fun e => e.1 == 585) = some (585, .istore 6, 0, 0) := (sk_22 585 rfl).trans rfl
theorem te_368_587 : (pT M_368).find? (fun e => e.1 == 587) = some (587, .goto 1757, 0, 0) := (sk_22 587 rfl).trans rfl
theorem te_368_643 : (pT M_368).find? (fun e => e.1 == 643) = some (643, .aload_n 1, 0, 0) := (sk_25 643 rfl).trans rfl
theorem te_368_644 : (pT M_368).find? (fun e => e.1 == 644) = some (644, .aload_n 0, 0, 0) := (sk_25 644 rfl).trans rfl
theorem te_368_645 : (pT M_368).find? (fun e => e.1 == 645) = some (645, .iload 4, 0, 0) := (sk_25 645 rfl).trans rfl
theorem te_368_647 : (pT M_368).find? (fun e => e.1 == 647) = some (647, .iconst 1, 0, 0) := (sk_25 647 rfl).trans rfl
theorem te_368_648 : (pT M_368).find? (fun e => e.1 == 648) = some (648, .iadd, 0, 0) := (sk_25 648 rfl).trans rfl
theorem te_368_649 : (pT M_368).find? (fun e => e.1 == 649) = some (649, .iaload, 0, 0) := (sk_25 649 rfl).trans rfl
theorem te_368_650 : (pT M_368).find? (fun e => e.1 == 650) = some (650, .aload_n 0, 0, 0) := (sk_25 650 rfl).trans rfl
theorem te_368_651 : (pT M_368).find? (fun e => e.1 == 651) = some (651, .iload 4, 0, 0) := (sk_26 651 rfl).trans rfl
theorem te_368_653 : (pT M_368).find? (fun e => e.1 == 653) = some (653, .iconst 2, 0, 0) := (sk_26 653 rfl).trans rfl
theorem te_368_654 : (pT M_368).find? (fun e => e.1 == 654) = some (654, .iadd, 0, 0) := (sk_26 654 rfl).trans rfl
theorem te_368_655 : (pT M_368).find? (fun e => e.1 == 655) = some (655, .iaload, 0, 0) := (sk_26 655 rfl).trans rfl
theorem te_368_656 : (pT M_368).find? (fun e => e.1 == 656) = some (656, .aload_n 3, 0, 0) := (sk_26 656 rfl).trans rfl
theorem te_368_657 : (pT M_368).find? (fun e => e.1 == 657) = some (657, .invokestatic 211, 67, 8) := (sk_26 657 rfl).trans rfl
theorem te_368_660 : (pT M_368).find? (fun e => e.1 == 660) = some (660, .istore 5, 0, 0) := (sk_26 660 rfl).trans rfl
theorem te_368_662 : (pT M_368).find? (fun e => e.1 == 662) = some (662, .aload_n 2, 0, 0) := (sk_26 662 rfl).trans rfl
theorem te_368_663 : (pT M_368).find? (fun e => e.1 == 663) = some (663, .aload_n 0, 0, 0) := (sk_26 663 rfl).trans rfl
theorem te_368_664 : (pT M_368).find? (fun e => e.1 == 664) = some (664, .iload 4, 0, 0) := (sk_26 664 rfl).trans rfl
theorem te_368_666 : (pT M_368).find? (fun e => e.1 == 666) = some (666, .iconst 1, 0, 0) := (sk_26 666 rfl).trans rfl
theorem te_368_667 : (pT M_368).find? (fun e => e.1 == 667) = some (667, .iadd, 0, 0) := (sk_26 667 rfl).trans rfl
theorem te_368_668 : (pT M_368).find? (fun e => e.1 == 668) = some (668, .iaload, 0, 0) := (sk_27 668 rfl).trans rfl
theorem te_368_669 : (pT M_368).find? (fun e => e.1 == 669) = some (669, .aload_n 0, 0, 0) := (sk_27 669 rfl).trans rfl
theorem te_368_670 : (pT M_368).find? (fun e => e.1 == 670) = some (670, .iload 4, 0, 0) := (sk_27 670 rfl).trans rfl
theorem te_368_672 : (pT M_368).find? (fun e => e.1 == 672) = some (672, .iconst 2, 0, 0) := (sk_27 672 rfl).trans rfl
theorem te_368_673 : (pT M_368).find? (fun e => e.1 == 673) = some (673, .iadd, 0, 0) := (sk_27 673 rfl).trans rfl
theorem te_368_674 : (pT M_368).find? (fun e => e.1 == 674) = some (674, .iaload, 0, 0) := (sk_27 674 rfl).trans rfl
theorem te_368_675 : (pT M_368).find? (fun e => e.1 == 675) = some (675, .invokevirtual 213, 244, 0) := (sk_27 675 rfl).trans rfl
theorem te_368_678 : (pT M_368).find? (fun e => e.1 == 678) = some (678, .istore 6, 0, 0) := (sk_27 678 rfl).trans rfl
theorem te_368_680 : (pT M_368).find? (fun e => e.1 == 680) = some (680, .aload_n 2, 0, 0) := (sk_27 680 rfl).trans rfl
theorem te_368_681 : (pT M_368).find? (fun e => e.1 == 681) = some (681, .invokevirtual 214, 225, 0) := (sk_27 681 rfl).trans rfl
theorem te_368_684 : (pT M_368).find? (fun e => e.1 == 684) = some (684, .iload 5, 0, 0) := (sk_27 684 rfl).trans rfl
theorem te_368_686 : (pT M_368).find? (fun e => e.1 == 686) = some (686, .if_icmp .eq 5, 0, 0) := (sk_27 686 rfl).trans rfl
theorem te_368_691 : (pT M_368).find? (fun e => e.1 == 691) = some (691, .iload 5, 0, 0) := (sk_28 691 rfl).trans rfl
theorem te_368_693 : (pT M_368).find? (fun e => e.1 == 693) = some (693, .ifCond .ne 15, 0, 0) := (sk_28 693 rfl).trans rfl
theorem te_368_696 : (pT M_368).find? (fun e => e.1 == 696) = some (696, .aload_n 3, 0, 0) := (sk_28 696 rfl).trans rfl
theorem te_368_697 : (pT M_368).find? (fun e => e.1 == 697) = some (697, .iconst 0, 0, 0) := (sk_28 697 rfl).trans rfl
theorem te_368_698 : (pT M_368).find? (fun e => e.1 == 698) = some (698, .laload, 0, 0) := (sk_28 698 rfl).trans rfl
theorem te_368_699 : (pT M_368).find? (fun e => e.1 == 699) = some (699, .iload 6, 0, 0) := (sk_28 699 rfl).trans rfl
theorem te_368_701 : (pT M_368).find? (fun e => e.1 == 701) = some (701, .i2l, 0, 0) := (sk_28 701 rfl).trans rfl
theorem te_368_702 : (pT M_368).find? (fun e => e.1 == 702) = some (702, .lcmp, 0, 0) := (sk_28 702 rfl).trans rfl
theorem te_368_703 : (pT M_368).find? (fun e => e.1 == 703) = some (703, .ifCond .eq 5, 0, 0) := (sk_28 703 rfl).trans rfl
theorem te_368_708 : (pT M_368).find? (fun e => e.1 == 708) = some (708, .goto 1636, 0, 0) := (sk_29 708 rfl).trans rfl
theorem te_368_2344 : (pT M_368).find? (fun e => e.1 == 2344) = some (2344, .iinc 4 6, 0, 0) := (sk_123 2344 rfl).trans rfl
theorem te_368_2347 : (pT M_368).find? (fun e => e.1 == 2347) = some (2347, .goto (-2324), 0, 0) := (sk_123 2347 rfl).trans rfl
theorem te_368_2350 : (pT M_368).find? (fun e => e.1 == 2350) = some (2350, .iconst 1, 0, 0) := (sk_123 2350 rfl).trans rfl
theorem te_368_2351 : (pT M_368).find? (fun e => e.1 == 2351) = some (2351, .ireturn, 0, 0) := (sk_123 2351 rfl).trans rfl
theorem lg_self (x : Int64) : lg_cmp x x = 0 := by unfold lg_cmp; simp
theorem lc_0 {S : Nat × (Nat → Int32)} {lv : LV} {h : PH} {c s : Nat} {i : Int32} (hS : S.1 ≤ 3072) (hl : LwS lv i) (hi : 0 ≤ i.toInt ∧ i.toInt + 5 < S.1) (hL : LR h) (hc : c + 8 ≤ 601024) (hs : s + 48 ≤ 7293033) (Nx : ∀ lv' h' c' s', LwS lv' i → LR h' → c' ≤ c + 8 → s' ≤ s + 48 → Vx (Ex S 24) S M_368 [] Q1 2344 lv' [] h' c' s') : Vx (Ex S 24) S M_368 [] Q1 252 lv [] h c s := by
  have hC := Ex.mono S 24
  obtain ⟨m, g, hM, hcl, hr, hb⟩ := hL
  refine Vx.go hC te_368_252 ⟨_, hl.2.1, ⟨0, Or.inl rfl⟩, ?_⟩
  refine sc_load hC (k := 1) hl te_368_253 te_368_254 te_368_256 te_368_257 te_368_258 (sc_in hS hi (by decide)) ?_
  refine sc_load hC (k := 2) hl te_368_259 te_368_260 te_368_262 te_368_263 te_368_264 (sc_in hS hi (by decide)) ?_
  refine sc_load hC (k := 3) hl te_368_265 te_368_266 te_368_268 te_368_269 te_368_270 (sc_in hS hi (by decide)) ?_
  refine sc_load hC (k := 4) hl te_368_271 te_368_272 te_368_274 te_368_275 te_368_276 (sc_in hS hi (by decide)) ?_
  refine sc_load hC (k := 5) hl te_368_277 te_368_278 te_368_280 te_368_281 te_368_282 (sc_in hS hi (by decide)) ?_
  refine Vx.go hC te_368_283 ⟨_, hl.2.2.2.1, ⟨173, Or.inl rfl⟩, ?_⟩
  refine Vx.go hC te_368_284 ?_
  refine Or.inr ⟨by decide, ?_⟩
  refine p_call_mk (av := [.ref 0, .int (S.2 (i + Int32.ofInt 1).toNatClampNeg), .int (S.2 (i + Int32.ofInt 2).toNatClampNeg), .int (S.2 (i + Int32.ofInt 3).toNatClampNeg), .int (S.2 (i + Int32.ofInt 4).toNatClampNeg), .int (S.2 (i + Int32.ofInt 5).toNatClampNeg), .ref 173]) (rest := []) mt_43 rfl (by decide) (show c + 2 ≤ 601024 by omega) (show s + 12 ≤ 7293033 by omega) (fun q => by cases q) ?_
  have HH : ∀ (t y : Int) (h1 : PH) (m1 : MM) (g1 : Nat → Int64), LM h1 m1 g1 → Hf0 (S.2 (i + Int32.ofInt 1).toNatClampNeg).toInt (S.2 (i + Int32.ofInt 2).toNatClampNeg).toInt (S.2 (i + Int32.ofInt 3).toNatClampNeg).toInt (S.2 (i + Int32.ofInt 4).toNatClampNeg).toInt (S.2 (i + Int32.ofInt 5).toNatClampNeg).toInt t y m1 → 0 ≤ t ∧ t ≤ 4 → (t = 0 → InI y ∧ g1 0 = ((Int32.ofInt y).toInt64)) → Vx (Ex S 24) S M_368 [] Q1 287 lv [.int (Int32.ofInt t)] h1 (c + 2) (s + 12) := by
    intro t y h1 m1 g1 hM1 hF ht hg
    refine Vx.go hC te_368_287 ⟨by decide, ?_⟩
    have hl2 := LwS.st (j := 5) (v := .int (Int32.ofInt t)) (by omega) hl
    show Vx (Ex S 24) S M_368 [] Q1 289 (px_s1 lv 5 (.int (Int32.ofInt t))) [] h1 (c + 2) (s + 12)
    refine Vx.go hC te_368_289 ⟨_, hl2.2.2.1, ⟨143, Or.inl rfl⟩, ?_⟩
    refine sc_load hC (k := 1) hl2 te_368_290 te_368_291 te_368_293 te_368_294 te_368_295 (sc_in hS hi (by decide)) ?_
    refine sc_load hC (k := 2) hl2 te_368_296 te_368_297 te_368_299 te_368_300 te_368_301 (sc_in hS hi (by decide)) ?_
    refine sc_load hC (k := 3) hl2 te_368_302 te_368_303 te_368_305 te_368_306 te_368_307 (sc_in hS hi (by decide)) ?_
    refine sc_load hC (k := 4) hl2 te_368_308 te_368_309 te_368_311 te_368_312 te_368_313 (sc_in hS hi (by decide)) ?_
    refine sc_load hC (k := 5) hl2 te_368_314 te_368_315 te_368_317 te_368_318 te_368_319 (sc_in hS hi (by decide)) ?_
    refine Vx.go hC te_368_320 ?_
    obtain ⟨gs, hgs⟩ := hM1.obj (A := 143) rfl
    refine p_call_mk (av := [.ref 143, .int (S.2 (i + Int32.ofInt 1).toNatClampNeg), .int (S.2 (i + Int32.ofInt 2).toNatClampNeg), .int (S.2 (i + Int32.ofInt 3).toNatClampNeg), .int (S.2 (i + Int32.ofInt 4).toNatClampNeg), .int (S.2 (i + Int32.ofInt 5).toNatClampNeg)]) (rest := []) mt_226 rfl (by decide) (show c + 2 + 0 ≤ 601024 by omega) (show s + 12 + 0 ≤ 7293033 by omega) (fun _ => ⟨143, gs, rfl, hgs⟩) ?_
    have hcall := callQM (S := S) (n := 24) (μ := 226) (args := [.inr 143, .inl ((S.2 (i + Int32.ofInt 1).toNatClampNeg) : Int32).toInt, .inl ((S.2 (i + Int32.ofInt 2).toNatClampNeg) : Int32).toInt, .inl ((S.2 (i + Int32.ofInt 3).toNatClampNeg) : Int32).toInt, .inl ((S.2 (i + Int32.ofInt 4).toNatClampNeg) : Int32).toInt, .inl ((S.2 (i + Int32.ofInt 5).toNatClampNeg) : Int32).toInt]) (fun v hv => by simp only [List.mem_cons, List.not_mem_nil, or_false] at hv; rcases hv with rfl | rfl | rfl | rfl | rfl | rfl <;> first | trivial | exact wiI _) hM1 (rf0 hF)
    simp only [List.map_cons, List.map_nil, wv, Int32.ofInt_toInt] at hcall
    refine hC _ _ _ _ _ ?_ hcall
    intro r0 h2 hz
    refine hz.elim ?_ (fun ⟨_, _, _, _, hE⟩ => False.elim hE)
    rintro ⟨y2, m2, rfl, hy2, hM2, hc2, hr2, hb2, e2, er⟩
    show Vx (Ex S 24) S M_368 [] Q1 323 (px_s1 lv 5 (.int (Int32.ofInt t))) [.int (Int32.ofInt y2)] h2 (c + 2) (s + 12)
    refine Vx.go hC te_368_323 ⟨by decide, ?_⟩
    have hl3 := LwS.st (j := 6) (v := .int (Int32.ofInt y2)) (by omega) hl2
    show Vx (Ex S 24) S M_368 [] Q1 325 (px_s1 (px_s1 lv 5 (.int (Int32.ofInt t))) 6 (.int (Int32.ofInt y2))) [] h2 (c + 2) (s + 12)
    refine Vx.go hC te_368_325 ⟨by decide, ?_⟩
    exact Nx _ _ _ _ hl3 ⟨m2, g1, hM2, hc2, hr2, hb2⟩ (by omega) (by omega)
  refine gx_43 (n := 6) (K := fun y m' => Hf0 (S.2 (i + Int32.ofInt 1).toNatClampNeg).toInt (S.2 (i + Int32.ofInt 2).toNatClampNeg).toInt (S.2 (i + Int32.ofInt 3).toNatClampNeg).toInt (S.2 (i + Int32.ofInt 4).toNatClampNeg).toInt (S.2 (i + Int32.ofInt 5).toNatClampNeg).toInt 0 y m') (E := fun e m' => (e = 0 ∧ Hf0 (S.2 (i + Int32.ofInt 1).toNatClampNeg).toInt (S.2 (i + Int32.ofInt 2).toNatClampNeg).toInt (S.2 (i + Int32.ofInt 3).toNatClampNeg).toInt (S.2 (i + Int32.ofInt 4).toNatClampNeg).toInt (S.2 (i + Int32.ofInt 5).toNatClampNeg).toInt 1 0 m') ∨ (e = 1 ∧ Hf0 (S.2 (i + Int32.ofInt 1).toNatClampNeg).toInt (S.2 (i + Int32.ofInt 2).toNatClampNeg).toInt (S.2 (i + Int32.ofInt 3).toNatClampNeg).toInt (S.2 (i + Int32.ofInt 4).toNatClampNeg).toInt (S.2 (i + Int32.ofInt 5).toNatClampNeg).toInt 2 0 m')) hM (cl0 hcl hr hb) (fun y h' m' g' hy hL' eg hK => HH 0 y h' m' g' hL' hK (by omega) (fun _ => ⟨hy, eg⟩)) (fun e h' m' hL' hE => ?_)
  rcases hE with ⟨rfl, hE⟩ | ⟨rfl, hE⟩
  · exact Or.inl (⟨rfl, HH 1 0 h' m' g hL' hE (by omega) (fun z => by omega)⟩)
  · exact Or.inr (⟨rfl, HH 2 0 h' m' g hL' hE (by omega) (fun z => by omega)⟩)
theorem lc_1 {S : Nat × (Nat → Int32)} {lv : LV} {h : PH} {c s : Nat} {i : Int32} (hS : S.1 ≤ 3072) (hl : LwS lv i) (hi : 0 ≤ i.toInt ∧ i.toInt + 5 < S.1) (hL : LR h) (hc : c + 8 ≤ 601024) (hs : s + 48 ≤ 7293033) (Nx : ∀ lv' h' c' s', LwS lv' i → LR h' → c' ≤ c + 8 → s' ≤ s + 48 → Vx (Ex S 24) S M_368 [] Q1 2344 lv' [] h' c' s') : Vx (Ex S 24) S M_368 [] Q1 328 lv [] h c s := by
  have hC := Ex.mono S 24
  obtain ⟨m, g, hM, hcl, hr, hb⟩ := hL
  refine Vx.go hC te_368_328 ⟨_, hl.2.1, ⟨0, Or.inl rfl⟩, ?_⟩
  refine sc_load hC (k := 1) hl te_368_329 te_368_330 te_368_332 te_368_333 te_368_334 (sc_in hS hi (by decide)) ?_
  refine sc_load hC (k := 2) hl te_368_335 te_368_336 te_368_338 te_368_339 te_368_340 (sc_in hS hi (by decide)) ?_
  refine Vx.go hC te_368_341 ⟨_, hl.2.2.2.1, ⟨173, Or.inl rfl⟩, ?_⟩
  refine Vx.go hC te_368_342 ?_
  refine Or.inr ⟨by decide, ?_⟩
  refine p_call_mk (av := [.ref 0, .int (S.2 (i + Int32.ofInt 1).toNatClampNeg), .int (S.2 (i + Int32.ofInt 2).toNatClampNeg), .ref 173]) (rest := []) mt_48 rfl (by decide) (show c + 2 ≤ 601024 by omega) (show s + 12 ≤ 7293033 by omega) (fun q => by cases q) ?_
  have HH : ∀ (t y : Int) (h1 : PH) (m1 : MM) (g1 : Nat → Int64), LM h1 m1 g1 → Hf1 (S.2 (i + Int32.ofInt 1).toNatClampNeg).toInt (S.2 (i + Int32.ofInt 2).toNatClampNeg).toInt t y m1 → 0 ≤ t ∧ t ≤ 4 → (t = 0 → InI y ∧ g1 0 = ((Int32.ofInt y).toInt64)) → Vx (Ex S 24) S M_368 [] Q1 345 lv [.int (Int32.ofInt t)] h1 (c + 2) (s + 12) := by
    intro t y h1 m1 g1 hM1 hF ht hg
    refine Vx.go hC te_368_345 ⟨by decide, ?_⟩
    have hl2 := LwS.st (j := 5) (v := .int (Int32.ofInt t)) (by omega) hl
    show Vx (Ex S 24) S M_368 [] Q1 347 (px_s1 lv 5 (.int (Int32.ofInt t))) [] h1 (c + 2) (s + 12)
    refine Vx.go hC te_368_347 ⟨_, hl2.2.2.1, ⟨143, Or.inl rfl⟩, ?_⟩
    refine sc_load hC (k := 1) hl2 te_368_348 te_368_349 te_368_351 te_368_352 te_368_353 (sc_in hS hi (by decide)) ?_
    refine sc_load hC (k := 2) hl2 te_368_354 te_368_355 te_368_357 te_368_358 te_368_359 (sc_in hS hi (by decide)) ?_
    refine Vx.go hC te_368_360 ?_
    obtain ⟨gs, hgs⟩ := hM1.obj (A := 143) rfl
    refine p_call_mk (av := [.ref 143, .int (S.2 (i + Int32.ofInt 1).toNatClampNeg), .int (S.2 (i + Int32.ofInt 2).toNatClampNeg)]) (rest := []) mt_230 rfl (by decide) (show c + 2 + 0 ≤ 601024 by omega) (show s + 12 + 0 ≤ 7293033 by omega) (fun _ => ⟨143, gs, rfl, hgs⟩) ?_
    have hcall := callQM (S := S) (n := 24) (μ := 230) (args := [.inr 143, .inl ((S.2 (i + Int32.ofInt 1).toNatClampNeg) : Int32).toInt, .inl ((S.2 (i + Int32.ofInt 2).toNatClampNeg) : Int32).toInt]) (fun v hv => by simp only [List.mem_cons, List.not_mem_nil, or_false] at hv; rcases hv with rfl | rfl | rfl <;> first | trivial | exact wiI _) hM1 (rf1 hF)
    simp only [List.map_cons, List.map_nil, wv, Int32.ofInt_toInt] at hcall
    refine hC _ _ _ _ _ ?_ hcall
    intro r0 h2 hz
    refine hz.elim ?_ (fun ⟨_, _, _, _, hE⟩ => False.elim hE)
    rintro ⟨y2, m2, rfl, hy2, hM2, hc2, hr2, hb2, e2, er⟩
    show Vx (Ex S 24) S M_368 [] Q1 363 (px_s1 lv 5 (.int (Int32.ofInt t))) [.int (Int32.ofInt y2)] h2 (c + 2) (s + 12)
    refine Vx.go hC te_368_363 ⟨by decide, ?_⟩
    have hl3 := LwS.st (j := 6) (v := .int (Int32.ofInt y2)) (by omega) hl2
    show Vx (Ex S 24) S M_368 [] Q1 365 (px_s1 (px_s1 lv 5 (.int (Int32.ofInt t))) 6 (.int (Int32.ofInt y2))) [] h2 (c + 2) (s + 12)
    refine Vx.go hC te_368_365 ⟨by decide, ?_⟩
    exact Nx _ _ _ _ hl3 ⟨m2, g1, hM2, hc2, hr2, hb2⟩ (by omega) (by omega)
  refine gx_48 (n := 6) (K := fun y m' => Hf1 (S.2 (i + Int32.ofInt 1).toNatClampNeg).toInt (S.2 (i + Int32.ofInt 2).toNatClampNeg).toInt 0 y m') (E := fun e m' => (e = 0 ∧ Hf1 (S.2 (i + Int32.ofInt 1).toNatClampNeg).toInt (S.2 (i + Int32.ofInt 2).toNatClampNeg).toInt 1 0 m') ∨ (e = 1 ∧ Hf1 (S.2 (i + Int32.ofInt 1).toNatClampNeg).toInt (S.2 (i + Int32.ofInt 2).toNatClampNeg).toInt 2 0 m')) hM (cl1 hcl hr hb) (fun y h' m' g' hy hL' eg hK => HH 0 y h' m' g' hL' hK (by omega) (fun _ => ⟨hy, eg⟩)) (fun e h' m' hL' hE => ?_)
  rcases hE with ⟨rfl, hE⟩ | ⟨rfl, hE⟩
  · exact Or.inl (⟨rfl, HH 1 0 h' m' g hL' hE (by omega) (fun z => by omega)⟩)
  · exact Or.inr (⟨rfl, HH 2 0 h' m' g hL' hE (by omega) (fun z => by omega)⟩)
theorem lc_2 {S : Nat × (Nat → Int32)} {lv : LV} {h : PH} {c s : Nat} {i : Int32} (hS : S.1 ≤ 3072) (hl : LwS lv i) (hi : 0 ≤ i.toInt ∧ i.toInt + 5 < S.1) (hL : LR h) (hc : c + 8 ≤ 601024) (hs : s + 48 ≤ 7293033) (Nx : ∀ lv' h' c' s', LwS lv' i → LR h' → c' ≤ c + 8 → s' ≤ s + 48 → Vx (Ex S 24) S M_368 [] Q1 2344 lv' [] h' c' s') : Vx (Ex S 24) S M_368 [] Q1 368 lv [] h c s := by
  have hC := Ex.mono S 24
  obtain ⟨m, g, hM, hcl, hr, hb⟩ := hL
  refine Vx.go hC te_368_368 ⟨_, hl.2.1, ⟨0, Or.inl rfl⟩, ?_⟩
  refine sc_load hC (k := 1) hl te_368_369 te_368_370 te_368_372 te_368_373 te_368_374 (sc_in hS hi (by decide)) ?_
  refine sc_load hC (k := 2) hl te_368_375 te_368_376 te_368_378 te_368_379 te_368_380 (sc_in hS hi (by decide)) ?_
  refine sc_load hC (k := 3) hl te_368_381 te_368_382 te_368_384 te_368_385 te_368_386 (sc_in hS hi (by decide)) ?_
  refine sc_load hC (k := 4) hl te_368_387 te_368_388 te_368_390 te_368_391 te_368_392 (sc_in hS hi (by decide)) ?_
  refine Vx.go hC te_368_393 ⟨_, hl.2.2.2.1, ⟨173, Or.inl rfl⟩, ?_⟩
  refine Vx.go hC te_368_394 ?_
  refine Or.inr ⟨by decide, ?_⟩
  refine p_call_mk (av := [.ref 0, .int (S.2 (i + Int32.ofInt 1).toNatClampNeg), .int (S.2 (i + Int32.ofInt 2).toNatClampNeg), .int (S.2 (i + Int32.ofInt 3).toNatClampNeg), .int (S.2 (i + Int32.ofInt 4).toNatClampNeg), .ref 173]) (rest := []) mt_51 rfl (by decide) (show c + 2 ≤ 601024 by omega) (show s + 12 ≤ 7293033 by omega) (fun q => by cases q) ?_
  have HH : ∀ (t y : Int) (h1 : PH) (m1 : MM) (g1 : Nat → Int64), LM h1 m1 g1 → Hf2 (S.2 (i + Int32.ofInt 1).toNatClampNeg).toInt (S.2 (i + Int32.ofInt 2).toNatClampNeg).toInt (S.2 (i + Int32.ofInt 3).toNatClampNeg).toInt (S.2 (i + Int32.ofInt 4).toNatClampNeg).toInt t y m1 → 0 ≤ t ∧ t ≤ 4 → (t = 0 → InI y ∧ g1 0 = ((Int32.ofInt y).toInt64)) → Vx (Ex S 24) S M_368 [] Q1 397 lv [.int (Int32.ofInt t)] h1 (c + 2) (s + 12) := by
    intro t y h1 m1 g1 hM1 hF ht hg
    refine Vx.go hC te_368_397 ⟨by decide, ?_⟩
    have hl2 := LwS.st (j := 5) (v := .int (Int32.ofInt t)) (by omega) hl
    show Vx (Ex S 24) S M_368 [] Q1 399 (px_s1 lv 5 (.int (Int32.ofInt t))) [] h1 (c + 2) (s + 12)
    refine Vx.go hC te_368_399 ⟨_, hl2.2.2.1, ⟨143, Or.inl rfl⟩, ?_⟩
    refine sc_load hC (k := 1) hl2 te_368_400 te_368_401 te_368_403 te_368_404 te_368_405 (sc_in hS hi (by decide)) ?_
    refine sc_load hC (k := 2) hl2 te_368_406 te_368_407 te_368_409 te_368_410 te_368_411 (sc_in hS hi (by decide)) ?_
    refine sc_load hC (k := 3) hl2 te_368_412 te_368_413 te_368_415 te_368_416 te_368_417 (sc_in hS hi (by decide)) ?_
    refine sc_load hC (k := 4) hl2 te_368_418 te_368_419 te_368_421 te_368_422 te_368_423 (sc_in hS hi (by decide)) ?_
    refine Vx.go hC te_368_424 ?_
    obtain ⟨gs, hgs⟩ := hM1.obj (A := 143) rfl
    refine p_call_mk (av := [.ref 143, .int (S.2 (i + Int32.ofInt 1).toNatClampNeg), .int (S.2 (i + Int32.ofInt 2).toNatClampNeg), .int (S.2 (i + Int32.ofInt 3).toNatClampNeg), .int (S.2 (i + Int32.ofInt 4).toNatClampNeg)]) (rest := []) mt_232 rfl (by decide) (show c + 2 + 0 ≤ 601024 by omega) (show s + 12 + 0 ≤ 7293033 by omega) (fun _ => ⟨143, gs, rfl, hgs⟩) ?_
    have hcall := callQM (S := S) (n := 24) (μ := 232) (args := [.inr 143, .inl ((S.2 (i + Int32.ofInt 1).toNatClampNeg) : Int32).toInt, .inl ((S.2 (i + Int32.ofInt 2).toNatClampNeg) : Int32).toInt, .inl ((S.2 (i + Int32.ofInt 3).toNatClampNeg) : Int32).toInt, .inl ((S.2 (i + Int32.ofInt 4).toNatClampNeg) : Int32).toInt]) (fun v hv => by simp only [List.mem_cons, List.not_mem_nil, or_false] at hv; rcases hv with rfl | rfl | rfl | rfl | rfl <;> first | trivial | exact wiI _) hM1 (rf2 hF)
    simp only [List.map_cons, List.map_nil, wv, Int32.ofInt_toInt] at hcall
    refine hC _ _ _ _ _ ?_ hcall
    intro r0 h2 hz
    refine hz.elim ?_ (fun ⟨_, _, _, _, hE⟩ => False.elim hE)
    rintro ⟨y2, m2, rfl, hy2, hM2, hc2, hr2, hb2, e2, er⟩
    show Vx (Ex S 24) S M_368 [] Q1 427 (px_s1 lv 5 (.int (Int32.ofInt t))) [.int (Int32.ofInt y2)] h2 (c + 2) (s + 12)
    refine Vx.go hC te_368_427 ⟨by decide, ?_⟩
    have hl3 := LwS.st (j := 6) (v := .int (Int32.ofInt y2)) (by omega) hl2
    show Vx (Ex S 24) S M_368 [] Q1 429 (px_s1 (px_s1 lv 5 (.int (Int32.ofInt t))) 6 (.int (Int32.ofInt y2))) [] h2 (c + 2) (s + 12)
    refine Vx.go hC te_368_429 ⟨by decide, ?_⟩
    exact Nx _ _ _ _ hl3 ⟨m2, g1, hM2, hc2, hr2, hb2⟩ (by omega) (by omega)
  refine gx_51 (n := 6) (K := fun y m' => Hf2 (S.2 (i + Int32.ofInt 1).toNatClampNeg).toInt (S.2 (i + Int32.ofInt 2).toNatClampNeg).toInt (S.2 (i + Int32.ofInt 3).toNatClampNeg).toInt (S.2 (i + Int32.ofInt 4).toNatClampNeg).toInt 0 y m') (E := fun e m' => (e = 0 ∧ Hf2 (S.2 (i + Int32.ofInt 1).toNatClampNeg).toInt (S.2 (i + Int32.ofInt 2).toNatClampNeg).toInt (S.2 (i + Int32.ofInt 3).toNatClampNeg).toInt (S.2 (i + Int32.ofInt 4).toNatClampNeg).toInt 1 0 m') ∨ (e = 1 ∧ Hf2 (S.2 (i + Int32.ofInt 1).toNatClampNeg).toInt (S.2 (i + Int32.ofInt 2).toNatClampNeg).toInt (S.2 (i + Int32.ofInt 3).toNatClampNeg).toInt (S.2 (i + Int32.ofInt 4).toNatClampNeg).toInt 2 0 m')) hM (cl2 hcl hr hb) (fun y h' m' g' hy hL' eg hK => HH 0 y h' m' g' hL' hK (by omega) (fun _ => ⟨hy, eg⟩)) (fun e h' m' hL' hE => ?_)
  rcases hE with ⟨rfl, hE⟩ | ⟨rfl, hE⟩
  · exact Or.inl (⟨rfl, HH 1 0 h' m' g hL' hE (by omega) (fun z => by omega)⟩)
  · exact Or.inr (⟨rfl, HH 2 0 h' m' g hL' hE (by omega) (fun z => by omega)⟩)
theorem lc_3 {S : Nat × (Nat → Int32)} {lv : LV} {h : PH} {c s : Nat} {i : Int32} (hS : S.1 ≤ 3072) (hl : LwS lv i) (hi : 0 ≤ i.toInt ∧ i.toInt + 5 < S.1) (hL : LR h) (hc : c + 8 ≤ 601024) (hs : s + 48 ≤ 7293033) (Nx : ∀ lv' h' c' s', LwS lv' i → LR h' → c' ≤ c + 8 → s' ≤ s + 48 → Vx (Ex S 24) S M_368 [] Q1 2344 lv' [] h' c' s') : Vx (Ex S 24) S M_368 [] Q1 432 lv [] h c s := by
  have hC := Ex.mono S 24
  obtain ⟨m, g, hM, hcl, hr, hb⟩ := hL
  refine Vx.go hC te_368_432 ⟨_, hl.2.1, ⟨0, Or.inl rfl⟩, ?_⟩
  refine Vx.go hC te_368_433 ⟨_, hl.2.2.2.1, ⟨173, Or.inl rfl⟩, ?_⟩
  refine Vx.go hC te_368_434 ?_
  refine Or.inr ⟨by decide, ?_⟩
  refine p_call_mk (av := [.ref 0, .ref 173]) (rest := []) mt_53 rfl (by decide) (show c + 1 ≤ 601024 by omega) (show s + 6 ≤ 7293033 by omega) (fun q => by cases q) ?_
  have HH : ∀ (t y : Int) (h1 : PH) (m1 : MM) (g1 : Nat → Int64), LM h1 m1 g1 → Hf3 t y m1 → 0 ≤ t ∧ t ≤ 4 → (t = 0 → InI y ∧ g1 0 = ((Int32.ofInt y).toInt64)) → Vx (Ex S 24) S M_368 [] Q1 437 lv [.int (Int32.ofInt t)] h1 (c + 1) (s + 6) := by
    intro t y h1 m1 g1 hM1 hF ht hg
    refine Vx.go hC te_368_437 ⟨by decide, ?_⟩
    have hl2 := LwS.st (j := 5) (v := .int (Int32.ofInt t)) (by omega) hl
    show Vx (Ex S 24) S M_368 [] Q1 439 (px_s1 lv 5 (.int (Int32.ofInt t))) [] h1 (c + 1) (s + 6)
    refine Vx.go hC te_368_439 ⟨_, hl2.2.2.1, ⟨143, Or.inl rfl⟩, ?_⟩
    refine Vx.go hC te_368_440 ?_
    obtain ⟨gs, hgs⟩ := hM1.obj (A := 143) rfl
    refine p_call_mk (av := [.ref 143]) (rest := []) mt_233 rfl (by decide) (show c + 1 + 0 ≤ 601024 by omega) (show s + 6 + 0 ≤ 7293033 by omega) (fun _ => ⟨143, gs, rfl, hgs⟩) ?_
    have hcall := callQM (S := S) (n := 24) (μ := 233) (args := [.inr 143]) (fun v hv => by simp only [List.mem_cons, List.not_mem_nil, or_false] at hv; rw [hv]; trivial) hM1 (rf3 hF)
    simp only [List.map_cons, List.map_nil, wv, Int32.ofInt_toInt] at hcall
    refine hC _ _ _ _ _ ?_ hcall
    intro r0 h2 hz
    refine hz.elim ?_ (fun ⟨_, _, _, _, hE⟩ => False.elim hE)
    rintro ⟨y2, m2, rfl, hy2, hM2, hc2, hr2, hb2, e2, er⟩
    show Vx (Ex S 24) S M_368 [] Q1 443 (px_s1 lv 5 (.int (Int32.ofInt t))) [.int (Int32.ofInt y2)] h2 (c + 1) (s + 6)
    refine Vx.go hC te_368_443 ⟨by decide, ?_⟩
    have hl3 := LwS.st (j := 6) (v := .int (Int32.ofInt y2)) (by omega) hl2
    show Vx (Ex S 24) S M_368 [] Q1 445 (px_s1 (px_s1 lv 5 (.int (Int32.ofInt t))) 6 (.int (Int32.ofInt y2))) [] h2 (c + 1) (s + 6)
    refine Vx.go hC te_368_445 ⟨by decide, ?_⟩
    exact Nx _ _ _ _ hl3 ⟨m2, g1, hM2, hc2, hr2, hb2⟩ (by omega) (by omega)
  refine gx_53 (n := 6) (K := fun y m' => Hf3 0 y m') (E := fun e m' => (e = 1 ∧ Hf3 1 0 m')) hM (cl3 hcl hr hb) (fun y h' m' g' hy hL' eg hK => HH 0 y h' m' g' hL' hK (by omega) (fun _ => ⟨hy, eg⟩)) (fun e h' m' hL' hE => ?_)
  obtain ⟨rfl, hE⟩ := hE
  exact ⟨rfl, HH 1 0 h' m' g hL' hE (by omega) (fun z => by omega)⟩
theorem lc_4 {S : Nat × (Nat → Int32)} {lv : LV} {h : PH} {c s : Nat} {i : Int32} (hS : S.1 ≤ 3072) (hl : LwS lv i) (hi : 0 ≤ i.toInt ∧ i.toInt + 5 < S.1) (hL : LR h) (hc : c + 8 ≤ 601024) (hs : s + 48 ≤ 7293033) (Nx : ∀ lv' h' c' s', LwS lv' i → LR h' → c' ≤ c + 8 → s' ≤ s + 48 → Vx (Ex S 24) S M_368 [] Q1 2344 lv' [] h' c' s') : Vx (Ex S 24) S M_368 [] Q1 448 lv [] h c s := by
  have hC := Ex.mono S 24
  obtain ⟨m, g, hM, hcl, hr, hb⟩ := hL
  refine Vx.go hC te_368_448 ⟨_, hl.2.1, ⟨0, Or.inl rfl⟩, ?_⟩
  refine sc_load hC (k := 1) hl te_368_449 te_368_450 te_368_452 te_368_453 te_368_454 (sc_in hS hi (by decide)) ?_
  refine sc_load hC (k := 2) hl te_368_455 te_368_456 te_368_458 te_368_459 te_368_460 (sc_in hS hi (by decide)) ?_
  refine Vx.go hC te_368_461 ⟨_, hl.2.2.2.1, ⟨173, Or.inl rfl⟩, ?_⟩
  refine Vx.go hC te_368_462 ?_
  refine Or.inr ⟨by decide, ?_⟩
  refine p_call_mk (av := [.ref 0, .int (S.2 (i + Int32.ofInt 1).toNatClampNeg), .int (S.2 (i + Int32.ofInt 2).toNatClampNeg), .ref 173]) (rest := []) mt_55 rfl (by decide) (show c + 2 ≤ 601024 by omega) (show s + 12 ≤ 7293033 by omega) (fun q => by cases q) ?_
  have HH : ∀ (t y : Int) (h1 : PH) (m1 : MM) (g1 : Nat → Int64), LM h1 m1 g1 → Hf4 (S.2 (i + Int32.ofInt 1).toNatClampNeg).toInt (S.2 (i + Int32.ofInt 2).toNatClampNeg).toInt t y m1 → 0 ≤ t ∧ t ≤ 4 → (t = 0 → InI y ∧ g1 0 = ((Int32.ofInt y).toInt64)) → Vx (Ex S 24) S M_368 [] Q1 465 lv [.int (Int32.ofInt t)] h1 (c + 2) (s + 12) := by
    intro t y h1 m1 g1 hM1 hF ht hg
    refine Vx.go hC te_368_465 ⟨by decide, ?_⟩
    have hl2 := LwS.st (j := 5) (v := .int (Int32.ofInt t)) (by omega) hl
    show Vx (Ex S 24) S M_368 [] Q1 467 (px_s1 lv 5 (.int (Int32.ofInt t))) [] h1 (c + 2) (s + 12)
    refine Vx.go hC te_368_467 ⟨_, hl2.2.2.1, ⟨143, Or.inl rfl⟩, ?_⟩
    refine sc_load hC (k := 1) hl2 te_368_468 te_368_469 te_368_471 te_368_472 te_368_473 (sc_in hS hi (by decide)) ?_
    refine sc_load hC (k := 2) hl2 te_368_474 te_368_475 te_368_477 te_368_478 te_368_479 (sc_in hS hi (by decide)) ?_
    refine Vx.go hC te_368_480 ?_
    obtain ⟨gs, hgs⟩ := hM1.obj (A := 143) rfl
    refine p_call_mk (av := [.ref 143, .int (S.2 (i + Int32.ofInt 1).toNatClampNeg), .int (S.2 (i + Int32.ofInt 2).toNatClampNeg)]) (rest := []) mt_234 rfl (by decide) (show c + 2 + 0 ≤ 601024 by omega) (show s + 12 + 0 ≤ 7293033 by omega) (fun _ => ⟨143, gs, rfl, hgs⟩) ?_
    have hcall := callQM (S := S) (n := 24) (μ := 234) (args := [.inr 143, .inl ((S.2 (i + Int32.ofInt 1).toNatClampNeg) : Int32).toInt, .inl ((S.2 (i + Int32.ofInt 2).toNatClampNeg) : Int32).toInt]) (fun v hv => by simp only [List.mem_cons, List.not_mem_nil, or_false] at hv; rcases hv with rfl | rfl | rfl <;> first | trivial | exact wiI _) hM1 (rf4 hF)
    simp only [List.map_cons, List.map_nil, wv, Int32.ofInt_toInt] at hcall
    refine hC _ _ _ _ _ ?_ hcall
    intro r0 h2 hz
    refine hz.elim ?_ (fun ⟨_, _, _, _, hE⟩ => False.elim hE)
    rintro ⟨y2, m2, rfl, hy2, hM2, hc2, hr2, hb2, e2, er⟩
    show Vx (Ex S 24) S M_368 [] Q1 483 (px_s1 lv 5 (.int (Int32.ofInt t))) [.int (Int32.ofInt y2)] h2 (c + 2) (s + 12)
    refine Vx.go hC te_368_483 ⟨by decide, ?_⟩
    have hl3 := LwS.st (j := 6) (v := .int (Int32.ofInt y2)) (by omega) hl2
    show Vx (Ex S 24) S M_368 [] Q1 485 (px_s1 (px_s1 lv 5 (.int (Int32.ofInt t))) 6 (.int (Int32.ofInt y2))) [] h2 (c + 2) (s + 12)
    refine Vx.go hC te_368_485 ⟨by decide, ?_⟩
    exact Nx _ _ _ _ hl3 ⟨m2, g1, hM2, hc2, hr2, hb2⟩ (by omega) (by omega)
  refine gx_55 (n := 6) (K := fun y m' => Hf4 (S.2 (i + Int32.ofInt 1).toNatClampNeg).toInt (S.2 (i + Int32.ofInt 2).toNatClampNeg).toInt 0 y m') (E := fun e m' => (e = 2 ∧ Hf4 (S.2 (i + Int32.ofInt 1).toNatClampNeg).toInt (S.2 (i + Int32.ofInt 2).toNatClampNeg).toInt 1 0 m') ∨ (e = 0 ∧ Hf4 (S.2 (i + Int32.ofInt 1).toNatClampNeg).toInt (S.2 (i + Int32.ofInt 2).toNatClampNeg).toInt 2 0 m')) hM (cl4 hcl hr hb) (fun y h' m' g' hy hL' eg hK => HH 0 y h' m' g' hL' hK (by omega) (fun _ => ⟨hy, eg⟩)) (fun e h' m' hL' hE => ?_)
  rcases hE with ⟨rfl, hE⟩ | ⟨rfl, hE⟩
  · exact Or.inl (⟨rfl, HH 1 0 h' m' g hL' hE (by omega) (fun z => by omega)⟩)
  · exact Or.inr (⟨rfl, HH 2 0 h' m' g hL' hE (by omega) (fun z => by omega)⟩)
theorem lc_5 {S : Nat × (Nat → Int32)} {lv : LV} {h : PH} {c s : Nat} {i : Int32} (hS : S.1 ≤ 3072) (hl : LwS lv i) (hi : 0 ≤ i.toInt ∧ i.toInt + 5 < S.1) (hL : LR h) (hc : c + 8 ≤ 601024) (hs : s + 48 ≤ 7293033) (Nx : ∀ lv' h' c' s', LwS lv' i → LR h' → c' ≤ c + 8 → s' ≤ s + 48 → Vx (Ex S 24) S M_368 [] Q1 2344 lv' [] h' c' s') : Vx (Ex S 24) S M_368 [] Q1 488 lv [] h c s := by
  have hC := Ex.mono S 24
  obtain ⟨m, g, hM, hcl, hr, hb⟩ := hL
  refine Vx.go hC te_368_488 ⟨_, hl.2.1, ⟨0, Or.inl rfl⟩, ?_⟩
  refine sc_load hC (k := 1) hl te_368_489 te_368_490 te_368_492 te_368_493 te_368_494 (sc_in hS hi (by decide)) ?_
  refine sc_load hC (k := 2) hl te_368_495 te_368_496 te_368_498 te_368_499 te_368_500 (sc_in hS hi (by decide)) ?_
  refine sc_load hC (k := 3) hl te_368_501 te_368_502 te_368_504 te_368_505 te_368_506 (sc_in hS hi (by decide)) ?_
  refine sc_load hC (k := 4) hl te_368_507 te_368_508 te_368_510 te_368_511 te_368_512 (sc_in hS hi (by decide)) ?_
  refine Vx.go hC te_368_513 ?_
  refine Or.inr ⟨by decide, ?_⟩
  refine p_call_mk (av := [.ref 0, .int (S.2 (i + Int32.ofInt 1).toNatClampNeg), .int (S.2 (i + Int32.ofInt 2).toNatClampNeg), .int (S.2 (i + Int32.ofInt 3).toNatClampNeg), .int (S.2 (i + Int32.ofInt 4).toNatClampNeg)]) (rest := []) mt_58 rfl (by decide) (show c + 2 ≤ 601024 by omega) (show s + 12 ≤ 7293033 by omega) (fun q => by cases q) ?_
  have HH : ∀ (t y : Int) (h1 : PH) (m1 : MM) (g1 : Nat → Int64), LM h1 m1 g1 → Hf5 (S.2 (i + Int32.ofInt 1).toNatClampNeg).toInt (S.2 (i + Int32.ofInt 2).toNatClampNeg).toInt (S.2 (i + Int32.ofInt 3).toNatClampNeg).toInt (S.2 (i + Int32.ofInt 4).toNatClampNeg).toInt t y m1 → 0 ≤ t ∧ t ≤ 4 → (t = 0 → True) → Vx (Ex S 24) S M_368 [] Q1 516 lv [.int (Int32.ofInt t)] h1 (c + 2) (s + 12) := by
    intro t y h1 m1 g1 hM1 hF ht hg
    refine Vx.go hC te_368_516 ⟨by decide, ?_⟩
    have hl2 := LwS.st (j := 5) (v := .int (Int32.ofInt t)) (by omega) hl
    show Vx (Ex S 24) S M_368 [] Q1 518 (px_s1 lv 5 (.int (Int32.ofInt t))) [] h1 (c + 2) (s + 12)
    refine Vx.go hC te_368_518 ⟨_, hl2.2.2.1, ⟨143, Or.inl rfl⟩, ?_⟩
    refine sc_load hC (k := 1) hl2 te_368_519 te_368_520 te_368_522 te_368_523 te_368_524 (sc_in hS hi (by decide)) ?_
    refine sc_load hC (k := 2) hl2 te_368_525 te_368_526 te_368_528 te_368_529 te_368_530 (sc_in hS hi (by decide)) ?_
    refine sc_load hC (k := 3) hl2 te_368_531 te_368_532 te_368_534 te_368_535 te_368_536 (sc_in hS hi (by decide)) ?_
    refine sc_load hC (k := 4) hl2 te_368_537 te_368_538 te_368_540 te_368_541 te_368_542 (sc_in hS hi (by decide)) ?_
    refine Vx.go hC te_368_543 ?_
    obtain ⟨gs, hgs⟩ := hM1.obj (A := 143) rfl
    refine p_call_mk (av := [.ref 143, .int (S.2 (i + Int32.ofInt 1).toNatClampNeg), .int (S.2 (i + Int32.ofInt 2).toNatClampNeg), .int (S.2 (i + Int32.ofInt 3).toNatClampNeg), .int (S.2 (i + Int32.ofInt 4).toNatClampNeg)]) (rest := []) mt_236 rfl (by decide) (show c + 2 + 0 ≤ 601024 by omega) (show s + 12 + 0 ≤ 7293033 by omega) (fun _ => ⟨143, gs, rfl, hgs⟩) ?_
    have hcall := callQM (S := S) (n := 24) (μ := 236) (args := [.inr 143, .inl ((S.2 (i + Int32.ofInt 1).toNatClampNeg) : Int32).toInt, .inl ((S.2 (i + Int32.ofInt 2).toNatClampNeg) : Int32).toInt, .inl ((S.2 (i + Int32.ofInt 3).toNatClampNeg) : Int32).toInt, .inl ((S.2 (i + Int32.ofInt 4).toNatClampNeg) : Int32).toInt]) (fun v hv => by simp only [List.mem_cons, List.not_mem_nil, or_false] at hv; rcases hv with rfl | rfl | rfl | rfl | rfl <;> first | trivial | exact wiI _) hM1 (rf5 hF)
    simp only [List.map_cons, List.map_nil, wv, Int32.ofInt_toInt] at hcall
    refine hC _ _ _ _ _ ?_ hcall
    intro r0 h2 hz
    refine hz.elim ?_ (fun ⟨_, _, _, _, hE⟩ => False.elim hE)
    rintro ⟨y2, m2, rfl, hy2, hM2, hc2, hr2, hb2, e2, er⟩
    show Vx (Ex S 24) S M_368 [] Q1 546 (px_s1 lv 5 (.int (Int32.ofInt t))) [.int (Int32.ofInt y2)] h2 (c + 2) (s + 12)
    refine Vx.go hC te_368_546 ⟨_, _, rfl, rfl, ?_⟩
    show Vx (Ex S 24) S M_368 [] Q1 547 (px_s1 lv 5 (.int (Int32.ofInt t))) [] h2 (c + 2) (s + 12)
    refine Vx.go hC te_368_547 ⟨by decide, ?_⟩
    exact Nx _ _ _ _ hl2 ⟨m2, g1, hM2, hc2, hr2, hb2⟩ (by omega) (by omega)
  refine gx_58 (n := 6) (K := fun m' => Hf5 (S.2 (i + Int32.ofInt 1).toNatClampNeg).toInt (S.2 (i + Int32.ofInt 2).toNatClampNeg).toInt (S.2 (i + Int32.ofInt 3).toNatClampNeg).toInt (S.2 (i + Int32.ofInt 4).toNatClampNeg).toInt 0 0 m') (E := fun e m' => (e = 2 ∧ Hf5 (S.2 (i + Int32.ofInt 1).toNatClampNeg).toInt (S.2 (i + Int32.ofInt 2).toNatClampNeg).toInt (S.2 (i + Int32.ofInt 3).toNatClampNeg).toInt (S.2 (i + Int32.ofInt 4).toNatClampNeg).toInt 1 0 m') ∨ (e = 0 ∧ Hf5 (S.2 (i + Int32.ofInt 1).toNatClampNeg).toInt (S.2 (i + Int32.ofInt 2).toNatClampNeg).toInt (S.2 (i + Int32.ofInt 3).toNatClampNeg).toInt (S.2 (i + Int32.ofInt 4).toNatClampNeg).toInt 2 0 m')) hM (cl5 hcl hr hb) (fun h' m' hL' hK => HH 0 0 h' m' g hL' hK (by omega) (fun _ => True.intro)) (fun e h' m' hL' hE => ?_)
  rcases hE with ⟨rfl, hE⟩ | ⟨rfl, hE⟩
  · exact Or.inl (⟨rfl, HH 1 0 h' m' g hL' hE (by omega) (fun z => by omega)⟩)
  · exact Or.inr (⟨rfl, HH 2 0 h' m' g hL' hE (by omega) (fun z => by omega)⟩)
theorem lc_6 {S : Nat × (Nat → Int32)} {lv : LV} {h : PH} {c s : Nat} {i : Int32} (hS : S.1 ≤ 3072) (hl : LwS lv i) (hi : 0 ≤ i.toInt ∧ i.toInt + 5 < S.1) (hL : LR h) (hc : c + 8 ≤ 601024) (hs : s + 48 ≤ 7293033) (Nx : ∀ lv' h' c' s', LwS lv' i → LR h' → c' ≤ c + 8 → s' ≤ s + 48 → Vx (Ex S 24) S M_368 [] Q1 2344 lv' [] h' c' s') : Vx (Ex S 24) S M_368 [] Q1 550 lv [] h c s := by
  have hC := Ex.mono S 24
  obtain ⟨m, g, hM, hcl, hr, hb⟩ := hL
  refine Vx.go hC te_368_550 ⟨_, hl.2.1, ⟨0, Or.inl rfl⟩, ?_⟩
  refine sc_load hC (k := 1) hl te_368_551 te_368_552 te_368_554 te_368_555 te_368_556 (sc_in hS hi (by decide)) ?_
  refine sc_load hC (k := 2) hl te_368_557 te_368_558 te_368_560 te_368_561 te_368_562 (sc_in hS hi (by decide)) ?_
  refine Vx.go hC te_368_563 ⟨_, hl.2.2.2.1, ⟨173, Or.inl rfl⟩, ?_⟩
  refine Vx.go hC te_368_564 ?_
  refine Or.inr ⟨by decide, ?_⟩
  refine p_call_mk (av := [.ref 0, .int (S.2 (i + Int32.ofInt 1).toNatClampNeg), .int (S.2 (i + Int32.ofInt 2).toNatClampNeg), .ref 173]) (rest := []) mt_61 rfl (by decide) (show c + 2 ≤ 601024 by omega) (show s + 12 ≤ 7293033 by omega) (fun q => by cases q) ?_
  have HH : ∀ (t y : Int) (h1 : PH) (m1 : MM) (g1 : Nat → Int64), LM h1 m1 g1 → Hf6 (S.2 (i + Int32.ofInt 1).toNatClampNeg).toInt (S.2 (i + Int32.ofInt 2).toNatClampNeg).toInt t y m1 → 0 ≤ t ∧ t ≤ 4 → (t = 0 → InI y ∧ g1 0 = ((Int32.ofInt y).toInt64)) → Vx (Ex S 24) S M_368 [] Q1 567 lv [.int (Int32.ofInt t)] h1 (c + 2) (s + 12) := by
    intro t y h1 m1 g1 hM1 hF ht hg
    refine Vx.go hC te_368_567 ⟨by decide, ?_⟩
    have hl2 := LwS.st (j := 5) (v := .int (Int32.ofInt t)) (by omega) hl
    show Vx (Ex S 24) S M_368 [] Q1 569 (px_s1 lv 5 (.int (Int32.ofInt t))) [] h1 (c + 2) (s + 12)
    refine Vx.go hC te_368_569 ⟨_, hl2.2.2.1, ⟨143, Or.inl rfl⟩, ?_⟩
    refine sc_load hC (k := 1) hl2 te_368_570 te_368_571 te_368_573 te_368_574 te_368_575 (sc_in hS hi (by decide)) ?_
    refine sc_load hC (k := 2) hl2 te_368_576 te_368_577 te_368_579 te_368_580 te_368_581 (sc_in hS hi (by decide)) ?_
    refine Vx.go hC te_368_582 ?_
    obtain ⟨gs, hgs⟩ := hM1.obj (A := 143) rfl
    refine p_call_mk (av := [.ref 143, .int (S.2 (i + Int32.ofInt 1).toNatClampNeg), .int (S.2 (i + Int32.ofInt 2).toNatClampNeg)]) (rest := []) mt_237 rfl (by decide) (show c + 2 + 0 ≤ 601024 by omega) (show s + 12 + 0 ≤ 7293033 by omega) (fun _ => ⟨143, gs, rfl, hgs⟩) ?_
    have hcall := callQM (S := S) (n := 24) (μ := 237) (args := [.inr 143, .inl ((S.2 (i + Int32.ofInt 1).toNatClampNeg) : Int32).toInt, .inl ((S.2 (i + Int32.ofInt 2).toNatClampNeg) : Int32).toInt]) (fun v hv => by simp only [List.mem_cons, List.not_mem_nil, or_false] at hv; rcases hv with rfl | rfl | rfl <;> first | trivial | exact wiI _) hM1 (rf6 hF)
    simp only [List.map_cons, List.map_nil, wv, Int32.ofInt_toInt] at hcall
    refine hC _ _ _ _ _ ?_ hcall
    intro r0 h2 hz
    refine hz.elim ?_ (fun ⟨_, _, _, _, hE⟩ => False.elim hE)
    rintro ⟨y2, m2, rfl, hy2, hM2, hc2, hr2, hb2, e2, er⟩
    show Vx (Ex S 24) S M_368 [] Q1 585 (px_s1 lv 5 (.int (Int32.ofInt t))) [.int (Int32.ofInt y2)] h2 (c + 2) (s + 12)
    refine Vx.go hC te_368_585 ⟨by decide, ?_⟩
    have hl3 := LwS.st (j := 6) (v := .int (Int32.ofInt y2)) (by omega) hl2
    show Vx (Ex S 24) S M_368 [] Q1 587 (px_s1 (px_s1 lv 5 (.int (Int32.ofInt t))) 6 (.int (Int32.ofInt y2))) [] h2 (c + 2) (s + 12)
    refine Vx.go hC te_368_587 ⟨by decide, ?_⟩
    exact Nx _ _ _ _ hl3 ⟨m2, g1, hM2, hc2, hr2, hb2⟩ (by omega) (by omega)
  refine gx_61 (n := 6) (K := fun y m' => Hf6 (S.2 (i + Int32.ofInt 1).toNatClampNeg).toInt (S.2 (i + Int32.ofInt 2).toNatClampNeg).toInt 0 y m') (E := fun e m' => (e = 2 ∧ Hf6 (S.2 (i + Int32.ofInt 1).toNatClampNeg).toInt (S.2 (i + Int32.ofInt 2).toNatClampNeg).toInt 1 0 m') ∨ (e = 0 ∧ Hf6 (S.2 (i + Int32.ofInt 1).toNatClampNeg).toInt (S.2 (i + Int32.ofInt 2).toNatClampNeg).toInt 2 0 m')) hM (cl6 hcl hr hb) (fun y h' m' g' hy hL' eg hK => HH 0 y h' m' g' hL' hK (by omega) (fun _ => ⟨hy, eg⟩)) (fun e h' m' hL' hE => ?_)
  rcases hE with ⟨rfl, hE⟩ | ⟨rfl, hE⟩
  · exact Or.inl (⟨rfl, HH 1 0 h' m' g hL' hE (by omega) (fun z => by omega)⟩)
  · exact Or.inr (⟨rfl, HH 2 0 h' m' g hL' hE (by omega) (fun z => by omega)⟩)
theorem lc_9 {S : Nat × (Nat → Int32)} {lv : LV} {h : PH} {c s : Nat} {i : Int32} (hS : S.1 ≤ 3072) (hl : LwS lv i) (hi : 0 ≤ i.toInt ∧ i.toInt + 5 < S.1) (hL : LR h) (hc : c + 8 ≤ 601024) (hs : s + 48 ≤ 7293033) (Nx : ∀ lv' h' c' s', LwS lv' i → LR h' → c' ≤ c + 8 → s' ≤ s + 48 → Vx (Ex S 24) S M_368 [] Q1 2344 lv' [] h' c' s') : Vx (Ex S 24) S M_368 [] Q1 643 lv [] h c s := by
  have hC := Ex.mono S 24
  obtain ⟨m, g, hM, hcl, hr, hb⟩ := hL
  refine Vx.go hC te_368_643 ⟨_, hl.2.1, ⟨0, Or.inl rfl⟩, ?_⟩
  refine sc_load hC (k := 1) hl te_368_644 te_368_645 te_368_647 te_368_648 te_368_649 (sc_in hS hi (by decide)) ?_
  refine sc_load hC (k := 2) hl te_368_650 te_368_651 te_368_653 te_368_654 te_368_655 (sc_in hS hi (by decide)) ?_
  refine Vx.go hC te_368_656 ⟨_, hl.2.2.2.1, ⟨173, Or.inl rfl⟩, ?_⟩
  refine Vx.go hC te_368_657 ?_
  refine Or.inr ⟨by decide, ?_⟩
  refine p_call_mk (av := [.ref 0, .int (S.2 (i + Int32.ofInt 1).toNatClampNeg), .int (S.2 (i + Int32.ofInt 2).toNatClampNeg), .ref 173]) (rest := []) mt_67 rfl (by decide) (show c + 3 ≤ 601024 by omega) (show s + 18 ≤ 7293033 by omega) (fun q => by cases q) ?_
  have HH : ∀ (t y : Int) (h1 : PH) (m1 : MM) (g1 : Nat → Int64), LM h1 m1 g1 → Hf9 (S.2 (i + Int32.ofInt 1).toNatClampNeg).toInt (S.2 (i + Int32.ofInt 2).toNatClampNeg).toInt t y m1 → 0 ≤ t ∧ t ≤ 4 → (t = 0 → InI y ∧ g1 0 = ((Int32.ofInt y).toInt64)) → Vx (Ex S 24) S M_368 [] Q1 660 lv [.int (Int32.ofInt t)] h1 (c + 3) (s + 18) := by
    intro t y h1 m1 g1 hM1 hF ht hg
    refine Vx.go hC te_368_660 ⟨by decide, ?_⟩
    have hl2 := LwS.st (j := 5) (v := .int (Int32.ofInt t)) (by omega) hl
    show Vx (Ex S 24) S M_368 [] Q1 662 (px_s1 lv 5 (.int (Int32.ofInt t))) [] h1 (c + 3) (s + 18)
    refine Vx.go hC te_368_662 ⟨_, hl2.2.2.1, ⟨143, Or.inl rfl⟩, ?_⟩
    refine sc_load hC (k := 1) hl2 te_368_663 te_368_664 te_368_666 te_368_667 te_368_668 (sc_in hS hi (by decide)) ?_
    refine sc_load hC (k := 2) hl2 te_368_669 te_368_670 te_368_672 te_368_673 te_368_674 (sc_in hS hi (by decide)) ?_
    refine Vx.go hC te_368_675 ?_
    obtain ⟨gs, hgs⟩ := hM1.obj (A := 143) rfl
    refine p_call_mk (av := [.ref 143, .int (S.2 (i + Int32.ofInt 1).toNatClampNeg), .int (S.2 (i + Int32.ofInt 2).toNatClampNeg)]) (rest := []) mt_244 rfl (by decide) (show c + 3 + 0 ≤ 601024 by omega) (show s + 18 + 0 ≤ 7293033 by omega) (fun _ => ⟨143, gs, rfl, hgs⟩) ?_
    have hcall := callQM (S := S) (n := 24) (μ := 244) (args := [.inr 143, .inl ((S.2 (i + Int32.ofInt 1).toNatClampNeg) : Int32).toInt, .inl ((S.2 (i + Int32.ofInt 2).toNatClampNeg) : Int32).toInt]) (fun v hv => by simp only [List.mem_cons, List.not_mem_nil, or_false] at hv; rcases hv with rfl | rfl | rfl <;> first | trivial | exact wiI _) hM1 (rf9 hF)
    simp only [List.map_cons, List.map_nil, wv, Int32.ofInt_toInt] at hcall
    refine hC _ _ _ _ _ ?_ hcall
    intro r0 h2 hz
    refine hz.elim ?_ (fun ⟨_, _, _, _, hE⟩ => False.elim hE)
    rintro ⟨y2, m2, rfl, hy2, hM2, hc2, hr2, hb2, e2, er⟩
    show Vx (Ex S 24) S M_368 [] Q1 678 (px_s1 lv 5 (.int (Int32.ofInt t))) [.int (Int32.ofInt y2)] h2 (c + 3) (s + 18)
    refine Vx.go hC te_368_678 ⟨by decide, ?_⟩
    have hl3 := LwS.st (j := 6) (v := .int (Int32.ofInt y2)) (by omega) hl2
    show Vx (Ex S 24) S M_368 [] Q1 680 (px_s1 (px_s1 lv 5 (.int (Int32.ofInt t))) 6 (.int (Int32.ofInt y2))) [] h2 (c + 3) (s + 18)
    refine Vx.go hC te_368_680 ⟨_, hl3.2.2.1, ⟨143, Or.inl rfl⟩, ?_⟩
    refine Vx.go hC te_368_681 ?_
    obtain ⟨gs2, hgs2⟩ := hM2.obj (A := 143) rfl
    refine p_call_mk (av := [.ref 143]) (rest := []) mt_225 rfl (by decide) (show c + 3 + 0 ≤ 601024 by omega) (show s + 18 + 0 ≤ 7293033 by omega) (fun _ => ⟨143, gs2, rfl, hgs2⟩) ?_
    have hcall2 := callQM (S := S) (n := 24) (μ := 225) (args := [.inr 143]) (fun v hv => by simp only [List.mem_cons, List.not_mem_nil, or_false] at hv; rw [hv]; trivial) hM2 ((f_225 (S := S) (n := 23) (mem := m2) (K := fun z m' => z = m2 143 0 ∧ m' = m2) ⟨rfl, rfl⟩).q (E := fun _ _ => False) (Ex.mono S 24))
    simp only [List.map_cons, List.map_nil, wv] at hcall2
    refine hC _ _ _ _ _ ?_ hcall2
    intro r1 h3 hz
    refine hz.elim ?_ (fun ⟨_, _, _, _, hE⟩ => False.elim hE)
    rintro ⟨y3, m3, rfl, hy3, hM3, e3, e4⟩
    subst e4
    rw [e2] at e3
    subst e3
    show Vx (Ex S 24) S M_368 [] Q1 684 (px_s1 (px_s1 lv 5 (.int (Int32.ofInt y3))) 6 (.int (Int32.ofInt y2))) [.int (Int32.ofInt y3)] h3 (c + 3) (s + 18)
    have e5 : px_g (px_s1 (px_s1 lv 5 (.int (Int32.ofInt y3))) 6 (.int (Int32.ofInt y2))) 5 = some (.int (Int32.ofInt y3)) := pg_ne2 (by omega) (pg_self _ _ _) (fun _ => rfl)
    refine Vx.go hC te_368_684 ⟨_, e5, ?_⟩
    refine Vx.go hC te_368_686 ?_
    refine ⟨by decide, fun _ => ?_, fun q => absurd rfl q⟩
    show Vx (Ex S 24) S M_368 [] Q1 691 (px_s1 (px_s1 lv 5 (.int (Int32.ofInt y3))) 6 (.int (Int32.ofInt y2))) [] h3 (c + 3) (s + 18)
    refine Vx.go hC te_368_691 ⟨_, e5, ?_⟩
    refine Vx.go hC te_368_693 ?_
    refine ⟨by decide, fun q => ?_, fun q => ?_⟩
    · show Vx (Ex S 24) S M_368 [] Q1 708 (px_s1 (px_s1 lv 5 (.int (Int32.ofInt y3))) 6 (.int (Int32.ofInt y2))) [] h3 (c + 3) (s + 18)
      refine Vx.go hC te_368_708 ⟨by decide, ?_⟩
      exact Nx _ _ _ _ hl3 ⟨m3, g1, hM3, hc2, hr2, hb2⟩ (by omega) (by omega)
    · show Vx (Ex S 24) S M_368 [] Q1 696 (px_s1 (px_s1 lv 5 (.int (Int32.ofInt y3))) 6 (.int (Int32.ofInt y2))) [] h3 (c + 3) (s + 18)
      have z : y3 = 0 := by
        have q1 : Int32.ofInt y3 = 0 := Classical.byContradiction q
        have q2 := wi (x := y3) (by unfold InI; omega)
        rw [q1] at q2
        exact q2.symm
      obtain ⟨hy, eg⟩ := hg z
      have er := er z
      subst er
      have e6 : px_g (px_s1 (px_s1 lv 5 (.int (Int32.ofInt y3))) 6 (.int (Int32.ofInt y2))) 6 = some (.int (Int32.ofInt y2)) := pg_self _ _ _
      refine Vx.go hC te_368_696 ⟨_, hl3.2.2.2.1, ⟨173, Or.inl rfl⟩, ?_⟩
      refine Vx.go hC te_368_697 ?_
      refine Vx.go hC te_368_698 (show p_lald h3 _ (fun st => Vx (Ex S 24) S M_368 [] Q1 699 (px_s1 (px_s1 lv 5 (.int (Int32.ofInt y3))) 6 (.int (Int32.ofInt y2))) st h3 (c + 3) (s + 18)) from lald_mk hM3.2.1 vp00 ?_)
      rw [show (Int32.ofInt 0).toNatClampNeg = 0 by decide, eg]
      refine Vx.go hC te_368_699 ⟨_, e6, ?_⟩
      refine Vx.go hC te_368_701 ?_
      refine Vx.go hC te_368_702 ?_
      show Vx (Ex S 24) S M_368 [] Q1 703 (px_s1 (px_s1 lv 5 (.int (Int32.ofInt y3))) 6 (.int (Int32.ofInt y2))) [.int (lg_cmp (Int32.ofInt y2).toInt64 (Int32.ofInt y2).toInt64)] h3 (c + 3) (s + 18)
      rw [lg_self]
      refine Vx.go hC te_368_703 ?_
      refine ⟨by decide, fun _ => ?_, fun q => absurd rfl q⟩
      show Vx (Ex S 24) S M_368 [] Q1 708 (px_s1 (px_s1 lv 5 (.int (Int32.ofInt y3))) 6 (.int (Int32.ofInt y2))) [] h3 (c + 3) (s + 18)
      refine Vx.go hC te_368_708 ⟨by decide, ?_⟩
      exact Nx _ _ _ _ hl3 ⟨m3, g1, hM3, hc2, hr2, hb2⟩ (by omega) (by omega)
  refine gx_67 (n := 6) (K := fun y m' => Hf9 (S.2 (i + Int32.ofInt 1).toNatClampNeg).toInt (S.2 (i + Int32.ofInt 2).toNatClampNeg).toInt 0 y m') (E := fun e m' => (e = 1 ∧ Hf9 (S.2 (i + Int32.ofInt 1).toNatClampNeg).toInt (S.2 (i + Int32.ofInt 2).toNatClampNeg).toInt 1 0 m') ∨ (e = 2 ∧ Hf9 (S.2 (i + Int32.ofInt 1).toNatClampNeg).toInt (S.2 (i + Int32.ofInt 2).toNatClampNeg).toInt 2 0 m') ∨ (e = 3 ∧ Hf9 (S.2 (i + Int32.ofInt 1).toNatClampNeg).toInt (S.2 (i + Int32.ofInt 2).toNatClampNeg).toInt 3 0 m')) hM (cl9 hcl hr hb) (fun y h' m' g' hy hL' eg hK => HH 0 y h' m' g' hL' hK (by omega) (fun _ => ⟨hy, eg⟩)) (fun e h' m' hL' hE => ?_)
  rcases hE with ⟨rfl, hE⟩ | ⟨rfl, hE⟩ | ⟨rfl, hE⟩
  · exact Or.inl (⟨rfl, HH 1 0 h' m' g hL' hE (by omega) (fun z => by omega)⟩)
  · exact Or.inr (Or.inl (⟨rfl, HH 2 0 h' m' g hL' hE (by omega) (fun z => by omega)⟩))
  · exact Or.inr (Or.inr (⟨rfl, HH 3 0 h' m' g hL' hE (by omega) (fun z => by omega)⟩))
