/-! laid by wip/safe/gsafe.py: regions, and methods gone through at their calls -/
def rg_0 : List Nat × CS := ([0], .inr (.inr (.inr (9, [.inr 1, .inr 9, .inr 14, .inr 19, .inr 21, .inr 37, .inr 45, .inr 50, .inr 54, .inr 56, .inl (.ofNat 0, .ofNat 1), .inl (.ofNat 0, .ofNat 1)]))))
def rg_1 : List Nat × CS := ([1], .inr (.inr (.inr (0, [.inl (.ofNat 0, .ofNat 8), .inr 2, .inr 3, .inr 4, .inr 5, .inr 6, .inr 7, .inr 8]))))
def rg_2 : List Nat × CS := ([2], .inl (8, .ofNat 0, .ofNat 5))
def rg_3 : List Nat × CS := ([3], .inl (32, .negSucc 2147483647, .ofNat 2147483647))
def rg_4 : List Nat × CS := ([4], .inl (8, .negSucc 9998, .ofNat 9999))
def rg_5 : List Nat × CS := ([5], .inl (6, .ofNat 0, .ofNat 2))
def rg_6 : List Nat × CS := ([6], .inl (6, .ofNat 1, .ofNat 6))
def rg_7 : List Nat × CS := ([7], .inl (6, .ofNat 1, .ofNat 15))
def rg_8 : List Nat × CS := ([8], .inl (3, .ofNat 1, .ofNat 3))
def rg_9 : List Nat × CS := ([9], .inr (.inr (.inr (7, [.inl (.ofNat 0, .ofNat 64), .inr 10, .inr 11, .inr 12, .inr 13, .inl (.ofNat 0, .ofNat 2147483647), .inl (.ofNat 0, .ofNat 2147483647), .inl (.negSucc 2147483647, .ofNat 2147483647)]))))
def rg_10 : List Nat × CS := ([10], .inl (64, .ofNat 0, .ofNat 7))
def rg_11 : List Nat × CS := ([11], .inl (64, .ofNat 0, .ofNat 7))
def rg_12 : List Nat × CS := ([12], .inl (64, .negSucc 2147483647, .ofNat 2147483647))
def rg_13 : List Nat × CS := ([13], .inl (64, .negSucc 1, .ofNat 3))
def rg_14 : List Nat × CS := ([14], .inr (.inr (.inr (7, [.inl (.ofNat 0, .ofNat 64), .inr 15, .inr 16, .inr 17, .inr 18, .inl (.ofNat 0, .ofNat 2147483647), .inl (.ofNat 0, .ofNat 2147483647), .inl (.negSucc 2147483647, .ofNat 2147483647)]))))
def rg_15 : List Nat × CS := ([15], .inl (64, .ofNat 0, .ofNat 7))
def rg_16 : List Nat × CS := ([16], .inl (64, .ofNat 0, .ofNat 7))
def rg_17 : List Nat × CS := ([17], .inl (64, .negSucc 2147483647, .ofNat 2147483647))
def rg_18 : List Nat × CS := ([18], .inl (64, .negSucc 4, .ofNat 6))
def rg_19 : List Nat × CS := ([19], .inr (.inr (.inr (5, [.inl (.ofNat 0, .ofNat 8), .inl (.ofNat 0, .ofNat 12), .inr 20]))))
def rg_20 : List Nat × CS := ([20], .inl (64, .negSucc 99999, .ofNat 2147483647))
def rg_21 : List Nat × CS := ([21], .inr (.inr (.inr (6, [.inl (.ofNat 0, .ofNat 8), .inl (.ofNat 0, .ofNat 12), .inl (.negSucc 2147483647, .ofNat 2147483647), .inl (.negSucc 2147483647, .ofNat 2147483647), .inl (.negSucc 2147483647, .ofNat 2147483647), .inr 22, .inr 23, .inr 24, .inr 25, .inr 26, .inr 27, .inr 28, .inr 29, .inr 30, .inr 31, .inr 32, .inr 33, .inr 34, .inr 35, .inr 36]))))
def rg_22 : List Nat × CS := ([22], .inl (8, .ofNat 0, .ofNat 12))
def rg_23 : List Nat × CS := ([23], .inl (8, .ofNat 0, .ofNat 12))
def rg_24 : List Nat × CS := ([24], .inl (8, .ofNat 0, .ofNat 2))
def rg_25 : List Nat × CS := ([25], .inl (3, .ofNat 0, .ofNat 3))
def rg_26 : List Nat × CS := ([26], .inl (3, .negSucc 2147483647, .ofNat 2147483647))
def rg_27 : List Nat × CS := ([27], .inl (32, .ofNat 0, .ofNat 5))
def rg_28 : List Nat × CS := ([28], .inl (12, .negSucc 2147483647, .ofNat 2147483647))
def rg_29 : List Nat × CS := ([29], .inl (32, .negSucc 2147483647, .ofNat 2147483647))
def rg_30 : List Nat × CS := ([30], .inl (64, .negSucc 2147483647, .ofNat 2147483647))
def rg_31 : List Nat × CS := ([31], .inl (512, .negSucc 2147483647, .ofNat 2147483647))
def rg_32 : List Nat × CS := ([32], .inl (8, .negSucc 2147483647, .ofNat 2147483647))
def rg_33 : List Nat × CS := ([33], .inl (8, .negSucc 2147483647, .ofNat 2147483647))
def rg_34 : List Nat × CS := ([34], .inl (8, .negSucc 2147483647, .ofNat 2147483647))
def rg_35 : List Nat × CS := ([35], .inl (8, .negSucc 2147483647, .ofNat 2147483647))
def rg_36 : List Nat × CS := ([36], .inl (8, .negSucc 2147483647, .ofNat 2147483647))
def rg_37 : List Nat × CS := ([37], .inr (.inr (.inl (2, 38))))
def rg_38 : List Nat × CS := ([38, 45, 52, 59, 66, 73, 80, 87, 94, 101, 108, 115, 122], .inr (.inr (.inr (1, [.inl (.ofNat 0, .ofNat 1), .inl (.ofNat 0, .ofNat 1), .inl (.ofNat 0, .ofNat 8), .inl (.ofNat 1, .ofNat 12), .inl (.ofNat 0, .ofNat 2147483647), .inl (.ofNat 0, .ofNat 2147483647), .inl (.negSucc 2147483647, .ofNat 2147483647), .inl (.ofNat 0, .ofNat 1), .inr 39, .inr 40, .inr 41, .inr 42, .inr 43, .inr 44]))))
def rg_39 : List Nat × CS := ([39, 46, 53, 60, 67, 74, 81, 88, 95, 102, 109, 116, 123], .inl (8, .ofNat 0, .ofNat 12))
def rg_40 : List Nat × CS := ([40, 47, 54, 61, 68, 75, 82, 89, 96, 103, 110, 117, 124], .inl (8, .negSucc 2147483647, .ofNat 2147483647))
def rg_41 : List Nat × CS := ([41, 48, 55, 62, 69, 76, 83, 90, 97, 104, 111, 118, 125], .inl (8, .negSucc 2147483647, .ofNat 2147483647))
def rg_42 : List Nat × CS := ([42, 49, 56, 63, 70, 77, 84, 91, 98, 105, 112, 119, 126], .inl (8, .ofNat 0, .ofNat 0))
def rg_43 : List Nat × CS := ([43, 50, 57, 64, 71, 78, 85, 92, 99, 106, 113, 120, 127], .inl (8, .ofNat 0, .ofNat 1))
def rg_44 : List Nat × CS := ([44, 51, 58, 65, 72, 79, 86, 93, 100, 107, 114, 121, 128], .inl (8, .ofNat 0, .ofNat 1))
def rg_45 : List Nat × CS := ([129], .inr (.inr (.inr (2, [.inl (.ofNat 0, .ofNat 12), .inl (.ofNat 0, .ofNat 1), .inl (.ofNat 0, .ofNat 48), .inl (.negSucc 2147483647, .ofNat 2147483647), .inr 46, .inr 47, .inr 48, .inr 49]))))
def rg_46 : List Nat × CS := ([130], .inl (8, .ofNat 0, .ofNat 2147483647))
def rg_47 : List Nat × CS := ([131], .inl (8, .negSucc 0, .ofNat 2147483647))
def rg_48 : List Nat × CS := ([132], .inl (12, .negSucc 2147483647, .ofNat 2147483647))
def rg_49 : List Nat × CS := ([133], .inl (8, .ofNat 0, .ofNat 2147483647))
def rg_50 : List Nat × CS := ([134], .inr (.inr (.inr (4, [.inr 51, .inr 53]))))
def rg_51 : List Nat × CS := ([135], .inr (.inr (.inl (3, 52))))
def rg_52 : List Nat × CS := ([136, 137], .inl (64, .negSucc 63, .ofNat 511))
def rg_53 : List Nat × CS := ([138], .inl (320, .negSucc 2147483647, .ofNat 2147483647))
def rg_54 : List Nat × CS := ([139], .inr (.inr (.inr (8, [.inr 55]))))
def rg_55 : List Nat × CS := ([140], .inl (8, .negSucc 0, .ofNat 0))
def rg_56 : List Nat × CS := ([141], .inr (.inr (.inr (3, [.inr 57, .inl (.ofNat 0, .ofNat 9), .inl (.ofNat 0, .ofNat 9)]))))
def rg_57 : List Nat × CS := ([142], .inl (1024, .ofNat 0, .ofNat 0))
def rg_58 : List Nat × CS := ([143], .inr (.inr (.inr (10, [.inl (.ofNat 0, .ofNat 4), .inl (.ofNat 0, .ofNat 8), .inr 59, .inr 60, .inr 61, .inr 62, .inr 63, .inr 64, .inr 65, .inr 66, .inr 67, .inr 68, .inl (.ofNat 0, .ofNat 63), .inr 69, .inr 70, .inr 71, .inr 72, .inr 73, .inl (.negSucc 0, .ofNat 48), .inr 74, .inr 75, .inr 76, .inr 77, .inr 78, .inr 79, .inl (.ofNat 0, .ofNat 48), .inr 80, .inr 81, .inr 82, .inr 83, .inr 84, .inl (.ofNat 0, .ofNat 0), .inl (.ofNat 0, .ofNat 1), .inl (.ofNat 0, .ofNat 0), .inr 85, .inr 86, .inr 87]))))
def rg_59 : List Nat × CS := ([144], .inl (8, .ofNat 0, .ofNat 5))
def rg_60 : List Nat × CS := ([145], .inl (8, .negSucc 1, .ofNat 7))
def rg_61 : List Nat × CS := ([146], .inl (8, .negSucc 2147483647, .ofNat 2147483647))
def rg_62 : List Nat × CS := ([147], .inl (8, .negSucc 1, .ofNat 7))
def rg_63 : List Nat × CS := ([148], .inl (8, .negSucc 2147483647, .ofNat 2147483647))
def rg_64 : List Nat × CS := ([149], .inl (8, .negSucc 9998, .ofNat 9999))
def rg_65 : List Nat × CS := ([150], .inl (6, .ofNat 0, .ofNat 2))
def rg_66 : List Nat × CS := ([151], .inl (6, .ofNat 1, .ofNat 6))
def rg_67 : List Nat × CS := ([152], .inl (6, .ofNat 1, .ofNat 15))
def rg_68 : List Nat × CS := ([153], .inl (3, .negSucc 2147483647, .ofNat 2147483647))
def rg_69 : List Nat × CS := ([154], .inl (48, .ofNat 0, .ofNat 7))
def rg_70 : List Nat × CS := ([155], .inl (48, .ofNat 0, .ofNat 7))
def rg_71 : List Nat × CS := ([156], .inl (48, .negSucc 2147483647, .ofNat 2147483647))
def rg_72 : List Nat × CS := ([157], .inl (48, .negSucc 4, .ofNat 6))
def rg_73 : List Nat × CS := ([158], .inl (64, .negSucc 999, .ofNat 2147483647))
def rg_74 : List Nat × CS := ([159], .inl (36, .ofNat 0, .ofNat 5))
def rg_75 : List Nat × CS := ([160], .inl (8, .negSucc 2147483647, .ofNat 2147483647))
def rg_76 : List Nat × CS := ([161], .inl (8, .negSucc 2147483647, .ofNat 2147483647))
def rg_77 : List Nat × CS := ([162], .inl (64, .negSucc 2147483647, .ofNat 2147483647))
def rg_78 : List Nat × CS := ([163], .inl (8, .negSucc 0, .ofNat 2147483647))
def rg_79 : List Nat × CS := ([164], .inl (8, .negSucc 0, .ofNat 2147483647))
def rg_80 : List Nat × CS := ([165], .inl (128, .negSucc 2147483647, .ofNat 2147483647))
def rg_81 : List Nat × CS := ([166], .inl (640, .negSucc 9998, .ofNat 9999))
def rg_82 : List Nat × CS := ([167], .inl (328, .negSucc 2147483647, .ofNat 2147483647))
def rg_83 : List Nat × CS := ([168], .inl (8, .ofNat 0, .ofNat 2147483647))
def rg_84 : List Nat × CS := ([169], .inl (8, .negSucc 0, .ofNat 44))
def rg_85 : List Nat × CS := ([170], .inl (9, .negSucc 2147483647, .ofNat 2147483647))
def rg_86 : List Nat × CS := ([171], .inl (8, .ofNat 0, .ofNat 2147483647))
def rg_87 : List Nat × CS := ([172], .inl (8, .negSucc 2147483647, .ofNat 2147483646))
def rg_88 : List Nat × CS := ([173], .inr (.inl 1))
def RS0 : RS := [rg_0, rg_1, rg_2, rg_3, rg_4, rg_5, rg_6, rg_7, rg_8, rg_9, rg_10, rg_11, rg_12, rg_13, rg_14, rg_15, rg_16, rg_17, rg_18, rg_19, rg_20, rg_21, rg_22, rg_23, rg_24, rg_25, rg_26, rg_27, rg_28, rg_29, rg_30, rg_31, rg_32, rg_33, rg_34, rg_35, rg_36, rg_37, rg_38, rg_39, rg_40, rg_41, rg_42, rg_43, rg_44, rg_45, rg_46, rg_47, rg_48, rg_49, rg_50, rg_51, rg_52, rg_53, rg_54, rg_55, rg_56, rg_57, rg_58, rg_59, rg_60, rg_61, rg_62, rg_63, rg_64, rg_65, rg_66, rg_67, rg_68, rg_69, rg_70, rg_71, rg_72, rg_73, rg_74, rg_75, rg_76, rg_77, rg_78, rg_79, rg_80, rg_81, rg_82, rg_83, rg_84, rg_85, rg_86, rg_87, rg_88]
theorem RS0_dj : DJ RS0 := DJ.of (by decide +kernel)
noncomputable def gi_13 : GT := [(0, .inl (g_aload 0 1)), (1, .inl (g_get 0 1 4)), (4, .inl (g_iload 1 5)), (5, .inl (g_iald 6)), (6, .inl (g_push (.inl (.ofNat 4)) 7)), (7, .inl (g_icmp .ne 12 10)), (10, .inl (g_push (.inl (.ofNat 0)) 11)), (11, .inl (g_iret)), (12, .inl (g_aload 0 13)), (13, .inl (g_get 0 1 16)), (16, .inl (g_iload 1 17)), (17, .inl (g_iald 18)), (18, .inl (g_push (.inl (.ofNat 5)) 19)), (19, .inl (g_icmp .ne 26 22)), (22, .inl (g_push (.inl (.ofNat 1)) 23)), (23, .inl (g_goto 27)), (26, .inl (g_push (.inl (.ofNat 2)) 27)), (27, .inl (g_iret))]
set_option maxRecDepth 1000000 in
theorem giq_13 : gi_13 = (pT M_13).map (mkT []) := rfl
noncomputable def gi_14 : GT := [(0, .inl (g_aload 0 1)), (1, .inl (g_get 0 2 4)), (4, .inl (g_iload 1 5)), (5, .inl (g_push (.inl (.ofNat 4)) 6)), (6, .inl (g_bin gMul 7)), (7, .inl (g_iload 2 8)), (8, .inl (g_push (.inl (.ofNat 2)) 9)), (9, .inl (g_bin gMul 10)), (10, .inl (g_bin gAdd 11)), (11, .inl (g_iald 12)), (12, .inl (g_iret))]
set_option maxRecDepth 1000000 in
theorem giq_14 : gi_14 = (pT M_14).map (mkT []) := rfl
noncomputable def gi_15 : GT := [(0, .inl (g_aload 0 1)), (1, .inl (g_get 0 2 4)), (4, .inl (g_iload 1 5)), (5, .inl (g_push (.inl (.ofNat 4)) 6)), (6, .inl (g_bin gMul 7)), (7, .inl (g_iload 2 8)), (8, .inl (g_push (.inl (.ofNat 2)) 9)), (9, .inl (g_bin gMul 10)), (10, .inl (g_bin gAdd 11)), (11, .inl (g_push (.inl (.ofNat 1)) 12)), (12, .inl (g_bin gAdd 13)), (13, .inl (g_iald 14)), (14, .inl (g_iret))]
set_option maxRecDepth 1000000 in
theorem giq_15 : gi_15 = (pT M_15).map (mkT []) := rfl
noncomputable def gi_16 : GT := [(0, .inl (g_iload 2 1)), (1, .inl (g_if .ge 6 4)), (4, .inl (g_push (.inl (.ofNat 1)) 5)), (5, .inl (g_iret)), (6, .inl (g_iload 2 7)), (7, .inl (g_aload 0 8)), (8, .inl (g_get 0 0 11)), (11, .inl (g_icmp .ge 24 14)), (14, .inl (g_aload 0 15)), (15, .inl (g_get 0 1 18)), (18, .inl (g_iload 2 19)), (19, .inl (g_iald 20)), (20, .inl (g_push (.inl (.ofNat 5)) 21)), (21, .inl (g_icmp .ne 26 24)), (24, .inl (g_push (.inl (.ofNat 0)) 25)), (25, .inl (g_iret)), (26, .inl (g_iload 3 27)), (27, .inl (g_if .gt 35 30)), (30, .inl (g_iload 2 31)), (31, .inl (g_iload 1 32)), (32, .inl (g_icmp .ge 39 35)), (35, .inl (g_push (.inl (.ofNat 1)) 36)), (36, .inl (g_goto 40)), (39, .inl (g_push (.inl (.ofNat 0)) 40)), (40, .inl (g_iret))]
set_option maxRecDepth 1000000 in
theorem giq_16 : gi_16 = (pT M_16).map (mkT []) := rfl
noncomputable def gi_18 : GT := [(0, .inl (g_aload 0 1)), (1, .inl (g_iload 1 2)), (2, .inl (g_call 19 true)), (5, .inl (g_istore2 3 6)), (6, .inl (g_aload 0 7)), (7, .inl (g_get 0 1 10)), (10, .inl (g_iload 1 11)), (11, .inl (g_iald 12)), (12, .inl (g_iload 2 13)), (13, .inl (g_icmp .ne 22 16)), (16, .inl (g_iload 3 17)), (17, .inl (g_push (.inl (.ofNat 1)) 18)), (18, .inl (g_bin gSub 19)), (19, .inl (g_goto 23)), (22, .inl (g_iload 3 23)), (23, .inl (g_iret))]
set_option maxRecDepth 1000000 in
theorem giq_18 : gi_18 = (pT M_18).map (mkT []) := rfl
noncomputable def gi_19 : GT := [(0, .inl (g_aload 0 1)), (1, .inl (g_get 0 5 4)), (4, .inl (g_aload 0 5)), (5, .inl (g_get 0 1 8)), (8, .inl (g_iload 1 9)), (9, .inl (g_iald 10)), (10, .inl (g_iald 11)), (11, .inl (g_iret))]
set_option maxRecDepth 1000000 in
theorem giq_19 : gi_19 = (pT M_19).map (mkT []) := rfl
noncomputable def gi_21_p1 : GT := [(60, .inl (g_get 7 4 63)), (63, .inl (g_iload 1 64)), (64, .inl (g_iald 65)), (65, .inl (g_iload 5 67)), (67, .inl (g_bin gSub 68)), (68, .inl (g_iret))]
noncomputable def gi_21 : GT := (0, .inl (g_aload 0 1)) :: (1, .inl (g_get 7 1 4)) :: (4, .inl (g_iload 1 5)) :: (5, .inl (g_iald 6)) :: (6, .inl (g_iload 2 7)) :: (7, .inl (g_icmp .eq 19 10)) :: (10, .inl (g_aload 0 11)) :: (11, .inl (g_get 7 1 14)) :: (14, .inl (g_iload 1 15)) :: (15, .inl (g_iald 16)) :: (16, .inl (g_iload 2 17)) :: (17, .inl (g_bin gSub 18)) :: (18, .inl (g_iret)) :: (19, .inl (g_aload 0 20)) :: (20, .inl (g_get 7 2 23)) :: (23, .inl (g_iload 1 24)) :: (24, .inl (g_iald 25)) :: (25, .inl (g_iload 3 26)) :: (26, .inl (g_icmp .eq 38 29)) :: (29, .inl (g_aload 0 30)) :: (30, .inl (g_get 7 2 33)) :: (33, .inl (g_iload 1 34)) :: (34, .inl (g_iald 35)) :: (35, .inl (g_iload 3 36)) :: (36, .inl (g_bin gSub 37)) :: (37, .inl (g_iret)) :: (38, .inl (g_aload 0 39)) :: (39, .inl (g_get 7 3 42)) :: (42, .inl (g_iload 1 43)) :: (43, .inl (g_iald 44)) :: (44, .inl (g_iload 4 46)) :: (46, .inl (g_icmp .eq 59 49)) :: (49, .inl (g_aload 0 50)) :: (50, .inl (g_get 7 3 53)) :: (53, .inl (g_iload 1 54)) :: (54, .inl (g_iald 55)) :: (55, .inl (g_iload 4 57)) :: (57, .inl (g_bin gSub 58)) :: (58, .inl (g_iret)) :: (59, .inl (g_aload 0 60)) :: gi_21_p1
set_option maxRecDepth 1000000 in
theorem giq_21 : gi_21 = (pT M_21).map (mkT []) := rfl
noncomputable def gi_22 : GT := [(0, .inl (g_aload 0 1)), (1, .inl (g_get 7 1 4)), (4, .inl (g_iload 1 5)), (5, .inl (g_iload 2 6)), (6, .inl (g_iast 7)), (7, .inl (g_aload 0 8)), (8, .inl (g_get 7 2 11)), (11, .inl (g_iload 1 12)), (12, .inl (g_iload 3 13)), (13, .inl (g_iast 14)), (14, .inl (g_aload 0 15)), (15, .inl (g_get 7 3 18)), (18, .inl (g_iload 1 19)), (19, .inl (g_iload 4 21)), (21, .inl (g_iast 22)), (22, .inl (g_aload 0 23)), (23, .inl (g_get 7 4 26)), (26, .inl (g_iload 1 27)), (27, .inl (g_iload 5 29)), (29, .inl (g_iast 30)), (30, .inl (g_ret))]
set_option maxRecDepth 1000000 in
theorem giq_22 : gi_22 = (pT M_22).map (mkT []) := rfl
noncomputable def gi_24 : GT := [(0, .inl (g_aload 0 1)), (1, .inl (g_get 0 1 4)), (4, .inl (g_iload 1 5)), (5, .inl (g_iald 6)), (6, .inl (g_push (.inl (.ofNat 5)) 7)), (7, .inl (g_icmp .ne 23 10)), (10, .inl (g_aload 0 11)), (11, .inl (g_get 0 2 14)), (14, .inl (g_iload 1 15)), (15, .inl (g_push (.inl (.ofNat 4)) 16)), (16, .inl (g_bin gMul 17)), (17, .inl (g_push (.inl (.ofNat 2)) 18)), (18, .inl (g_bin gAdd 19)), (19, .inl (g_iald 20)), (20, .inl (g_goto 31)), (23, .inl (g_aload 0 24)), (24, .inl (g_get 0 2 27)), (27, .inl (g_iload 1 28)), (28, .inl (g_push (.inl (.ofNat 4)) 29)), (29, .inl (g_bin gMul 30)), (30, .inl (g_iald 31)), (31, .inl (g_iret))]
set_option maxRecDepth 1000000 in
theorem giq_24 : gi_24 = (pT M_24).map (mkT []) := rfl
noncomputable def gi_25 : GT := [(0, .inl (g_aload 0 1)), (1, .inl (g_get 0 1 4)), (4, .inl (g_iload 1 5)), (5, .inl (g_iald 6)), (6, .inl (g_push (.inl (.ofNat 5)) 7)), (7, .inl (g_icmp .ne 23 10)), (10, .inl (g_aload 0 11)), (11, .inl (g_get 0 2 14)), (14, .inl (g_iload 1 15)), (15, .inl (g_push (.inl (.ofNat 4)) 16)), (16, .inl (g_bin gMul 17)), (17, .inl (g_push (.inl (.ofNat 3)) 18)), (18, .inl (g_bin gAdd 19)), (19, .inl (g_iald 20)), (20, .inl (g_goto 33)), (23, .inl (g_aload 0 24)), (24, .inl (g_get 0 2 27)), (27, .inl (g_iload 1 28)), (28, .inl (g_push (.inl (.ofNat 4)) 29)), (29, .inl (g_bin gMul 30)), (30, .inl (g_push (.inl (.ofNat 1)) 31)), (31, .inl (g_bin gAdd 32)), (32, .inl (g_iald 33)), (33, .inl (g_iret))]
set_option maxRecDepth 1000000 in
theorem giq_25 : gi_25 = (pT M_25).map (mkT []) := rfl
noncomputable def gi_28 : GT := [(0, .inl (g_iload 2 1)), (1, .inl (g_if .le 8 4)), (4, .inl (g_iload 3 5)), (5, .inl (g_if .gt 9 8)), (8, .inl (g_ret)), (9, .inl (g_iload 2 10)), (10, .inl (g_aload 0 11)), (11, .inl (g_get 7 6 14)), (14, .inl (g_bin gMul 15)), (15, .inl (g_aload 0 16)), (16, .inl (g_get 7 5 19)), (19, .inl (g_iload 3 20)), (20, .inl (g_bin gMul 21)), (21, .inl (g_bin gSub 22)), (22, .inl (g_istore2 4 24)), (24, .inl (g_iload 4 26)), (26, .inl (g_if .le 47 29)), (29, .inl (g_aload 0 30)), (30, .inl (g_iload 2 31)), (31, .inl (g_put 7 5 34)), (34, .inl (g_aload 0 35)), (35, .inl (g_iload 3 36)), (36, .inl (g_put 7 6 39)), (39, .inl (g_aload 0 40)), (40, .inl (g_iload 1 41)), (41, .inl (g_put 7 7 44)), (44, .inl (g_goto 64)), (47, .inl (g_iload 4 49)), (49, .inl (g_if .ne 64 52)), (52, .inl (g_aload 0 53)), (53, .inl (g_aload 0 54)), (54, .inl (g_get 7 7 57)), (57, .inl (g_iload 1 58)), (58, .inl (g_call 29 false)), (61, .inl (g_put 7 7 64)), (64, .inl (g_ret))]
set_option maxRecDepth 1000000 in
theorem giq_28 : gi_28 = (pT M_28).map (mkT []) := rfl
noncomputable def gi_29 : GT := [(0, .inl (g_iload 0 1)), (1, .inl (g_iload 1 2)), (2, .inl (g_icmp .gt 9 5)), (5, .inl (g_iload 0 6)), (6, .inl (g_goto 10)), (9, .inl (g_iload 1 10)), (10, .inl (g_iret))]
set_option maxRecDepth 1000000 in
theorem giq_29 : gi_29 = (pT M_29).map (mkT []) := rfl
noncomputable def gi_32 : GT := [(0, .inl (g_aload 0 1)), (1, .inl (g_get 7 5 4)), (4, .inl (g_aload 0 5)), (5, .inl (g_get 7 6 8)), (8, .inl (g_call 33 false)), (11, .inl (g_iret))]
set_option maxRecDepth 1000000 in
theorem giq_32 : gi_32 = (pT M_32).map (mkT []) := rfl
noncomputable def gi_33 : GT := [(0, .inl (g_iload 1 1)), (1, .inl (g_if .gt 8 4)), (4, .inl (g_push (.inl (.ofNat 0)) 5)), (5, .inl (g_goto 15)), (8, .inl (g_iload 0 9)), (9, .inl (g_neg 10)), (10, .inl (g_iload 1 11)), (11, .inl (g_call 34 false)), (14, .inl (g_neg 15)), (15, .inl (g_iret))]
set_option maxRecDepth 1000000 in
theorem giq_33 : gi_33 = (pT M_33).map (mkT []) := rfl
noncomputable def gi_34 : GT := [(0, .inl (g_iload 0 1)), (1, .inl (g_iload 1 2)), (2, .inl (g_bin gDiv 3)), (3, .inl (g_istore2 2 4)), (4, .inl (g_iload 0 5)), (5, .inl (g_iload 1 6)), (6, .inl (g_bin (fun env x y => gAny env x y (· ^^^ ·)) 7)), (7, .inl (g_if .ge 21 10)), (10, .inl (g_iload 2 11)), (11, .inl (g_iload 1 12)), (12, .inl (g_bin gMul 13)), (13, .inl (g_iload 0 14)), (14, .inl (g_icmp .eq 21 17)), (17, .inl (g_iload 2 18)), (18, .inl (g_push (.inl (.ofNat 1)) 19)), (19, .inl (g_bin gSub 20)), (20, .inl (g_iret)), (21, .inl (g_iload 2 22)), (22, .inl (g_iret))]
set_option maxRecDepth 1000000 in
theorem giq_34 : gi_34 = (pT M_34).map (mkT []) := rfl
noncomputable def gi_37 : GT := [(0, .inl (g_aload 0 1)), (1, .inl (g_get 0 4 4)), (4, .inl (g_aload 0 5)), (5, .inl (g_get 0 1 8)), (8, .inl (g_iload 1 9)), (9, .inl (g_iald 10)), (10, .inl (g_iald 11)), (11, .inl (g_iret))]
set_option maxRecDepth 1000000 in
theorem giq_37 : gi_37 = (pT M_37).map (mkT []) := rfl
noncomputable def gi_38 : GT := [(0, .inl (g_aload 0 1)), (1, .inl (g_get 0 6 4)), (4, .inl (g_aload 0 5)), (5, .inl (g_get 0 1 8)), (8, .inl (g_iload 1 9)), (9, .inl (g_iald 10)), (10, .inl (g_iald 11)), (11, .inl (g_iret))]
set_option maxRecDepth 1000000 in
theorem giq_38 : gi_38 = (pT M_38).map (mkT []) := rfl
noncomputable def gi_39_p1 : GT := [(51, .inl (g_bin (fun env x y => gAny env x y (· &&& ·)) 52)), (52, .inl (g_iret))]
noncomputable def gi_39 : GT := (0, .inl (g_iload 0 1)) :: (1, .inl (g_iload 0 2)) :: (2, .inl (g_push (.inl (.ofNat 1)) 3)) :: (3, .inl (g_bin (fun env x y => gAny env x y (fun x y => (x.toUInt32 >>> (y.toUInt32 &&& Int32.toUInt32 31)).toInt32)) 4)) :: (4, .inl (g_push (.inl (.ofNat 1431655765)) 7)) :: (7, .inl (g_bin (fun env x y => gAny env x y (· &&& ·)) 8)) :: (8, .inl (g_bin gSub 9)) :: (9, .inl (g_istore2 0 10)) :: (10, .inl (g_iload 0 11)) :: (11, .inl (g_push (.inl (.ofNat 858993459)) 14)) :: (14, .inl (g_bin (fun env x y => gAny env x y (· &&& ·)) 15)) :: (15, .inl (g_iload 0 16)) :: (16, .inl (g_push (.inl (.ofNat 2)) 17)) :: (17, .inl (g_bin (fun env x y => gAny env x y (fun x y => (x.toUInt32 >>> (y.toUInt32 &&& Int32.toUInt32 31)).toInt32)) 18)) :: (18, .inl (g_push (.inl (.ofNat 858993459)) 21)) :: (21, .inl (g_bin (fun env x y => gAny env x y (· &&& ·)) 22)) :: (22, .inl (g_bin gAdd 23)) :: (23, .inl (g_istore2 0 24)) :: (24, .inl (g_iload 0 25)) :: (25, .inl (g_iload 0 26)) :: (26, .inl (g_push (.inl (.ofNat 4)) 27)) :: (27, .inl (g_bin (fun env x y => gAny env x y (fun x y => (x.toUInt32 >>> (y.toUInt32 &&& Int32.toUInt32 31)).toInt32)) 28)) :: (28, .inl (g_bin gAdd 29)) :: (29, .inl (g_push (.inl (.ofNat 252645135)) 32)) :: (32, .inl (g_bin (fun env x y => gAny env x y (· &&& ·)) 33)) :: (33, .inl (g_istore2 0 34)) :: (34, .inl (g_iload 0 35)) :: (35, .inl (g_iload 0 36)) :: (36, .inl (g_push (.inl (.ofNat 8)) 38)) :: (38, .inl (g_bin (fun env x y => gAny env x y (fun x y => (x.toUInt32 >>> (y.toUInt32 &&& Int32.toUInt32 31)).toInt32)) 39)) :: (39, .inl (g_bin gAdd 40)) :: (40, .inl (g_istore2 0 41)) :: (41, .inl (g_iload 0 42)) :: (42, .inl (g_iload 0 43)) :: (43, .inl (g_push (.inl (.ofNat 16)) 45)) :: (45, .inl (g_bin (fun env x y => gAny env x y (fun x y => (x.toUInt32 >>> (y.toUInt32 &&& Int32.toUInt32 31)).toInt32)) 46)) :: (46, .inl (g_bin gAdd 47)) :: (47, .inl (g_istore2 0 48)) :: (48, .inl (g_iload 0 49)) :: (49, .inl (g_push (.inl (.ofNat 63)) 51)) :: gi_39_p1
set_option maxRecDepth 1000000 in
theorem giq_39 : gi_39 = (pT M_39).map (mkT []) := rfl
noncomputable def gi_40 : GT := [(0, .inl (g_iload 0 1)), (1, .inl (g_iload 1 2)), (2, .inl (g_icmp .lt 9 5)), (5, .inl (g_iload 0 6)), (6, .inl (g_goto 10)), (9, .inl (g_iload 1 10)), (10, .inl (g_iret))]
set_option maxRecDepth 1000000 in
theorem giq_40 : gi_40 = (pT M_40).map (mkT []) := rfl
noncomputable def gi_41 : GT := [(0, .inl (g_push (.inl (.ofNat 1)) 1)), (1, .inl (g_iload 1 2)), (2, .inl (g_aload 0 3)), (3, .inl (g_get 9 1 6)), (6, .inl (g_get 7 5 9)), (9, .inl (g_bin gMul 10)), (10, .inl (g_aload 0 11)), (11, .inl (g_get 9 1 14)), (14, .inl (g_get 7 6 17)), (17, .inl (g_call 33 false)), (20, .inl (g_aload 0 21)), (21, .inl (g_get 9 0 24)), (24, .inl (g_push (.inl (.negSucc 0)) 25)), (25, .inl (g_iload 1 26)), (26, .inl (g_call 35 true)), (29, .inl (g_call 40 false)), (32, .inl (g_call 40 false)), (35, .inl (g_iret))]
set_option maxRecDepth 1000000 in
theorem giq_41 : gi_41 = (pT M_41).map (mkT []) := rfl
noncomputable def gi_44 : GT := [(0, .inl (g_iload 1 1)), (1, .inl (g_if .lt 27 4)), (4, .inl (g_iload 1 5)), (5, .inl (g_push (.inl (.ofNat 4)) 6)), (6, .inl (g_icmp .ge 27 9)), (9, .inl (g_iload 2 10)), (10, .inl (g_iload 3 11)), (11, .inl (g_call 45 false)), (14, .inl (g_if .eq 27 17)), (17, .inl (g_iload 4 19)), (19, .inl (g_iload 5 21)), (21, .inl (g_call 45 false)), (24, .inl (g_if .ne 37 27)), (27, .inl (g_throw 0)), (30, .inl (g_dup 31)), (31, .inl (g_no)), (33, .inl (g_no)), (36, .inl (g_no)), (37, .inl (g_aload 0 38)), (38, .inl (g_iload 1 39)), (39, .inl (g_iload 2 40)), (40, .inl (g_iload 3 41)), (41, .inl (g_iload 4 43)), (43, .inl (g_iload 5 45)), (45, .inl (g_call 46 true)), (48, .inl (g_iret))]
set_option maxRecDepth 1000000 in
theorem giq_44 : gi_44 = (pT M_44).map (mkT []) := rfl
noncomputable def gi_45 : GT := [(0, .inl (g_iload 0 1)), (1, .inl (g_push (.inl (.negSucc 0)) 2)), (2, .inl (g_icmp .ne 7 5)), (5, .inl (g_push (.inl (.ofNat 1)) 6)), (6, .inl (g_iret)), (7, .inl (g_iload 0 8)), (8, .inl (g_push (.inl (.negSucc 1)) 10)), (10, .inl (g_icmp .ne 31 13)), (13, .inl (g_iload 1 14)), (14, .inl (g_push (.inl (.negSucc 98)) 16)), (16, .inl (g_icmp .lt 29 19)), (19, .inl (g_iload 1 20)), (20, .inl (g_push (.inl (.ofNat 99)) 22)), (22, .inl (g_icmp .gt 29 25)), (25, .inl (g_push (.inl (.ofNat 1)) 26)), (26, .inl (g_goto 30)), (29, .inl (g_push (.inl (.ofNat 0)) 30)), (30, .inl (g_iret)), (31, .inl (g_iload 0 32)), (32, .inl (g_if .lt 54 35)), (35, .inl (g_iload 0 36)), (36, .inl (g_push (.inl (.ofNat 8)) 38)), (38, .inl (g_icmp .ge 54 41)), (41, .inl (g_iload 1 42)), (42, .inl (g_if .lt 54 45)), (45, .inl (g_iload 1 46)), (46, .inl (g_push (.inl (.ofNat 3)) 47)), (47, .inl (g_icmp .gt 54 50)), (50, .inl (g_push (.inl (.ofNat 1)) 51)), (51, .inl (g_goto 55)), (54, .inl (g_push (.inl (.ofNat 0)) 55)), (55, .inl (g_iret))]
set_option maxRecDepth 1000000 in
theorem giq_45 : gi_45 = (pT M_45).map (mkT []) := rfl
noncomputable def gi_46 : GT := [(0, .inl (g_aload 0 1)), (1, .inl (g_get 9 0 4)), (4, .inl (g_get 0 0 7)), (7, .inl (g_push (.inl (.ofNat 8)) 9)), (9, .inl (g_icmp .lt 23 12)), (12, .inl (g_throw 1)), (15, .inl (g_dup 16)), (16, .inl (g_no)), (19, .inl (g_no)), (22, .inl (g_no)), (23, .inl (g_aload 0 24)), (24, .inl (g_get 9 0 27)), (27, .inl (g_iload 1 28)), (28, .inl (g_iload 2 29)), (29, .inl (g_iload 3 30)), (30, .inl (g_iload 4 32)), (32, .inl (g_iload 5 34)), (34, .inl (g_call 47 true)), (37, .inl (g_aload 0 38)), (38, .inl (g_push (.inl (.ofNat 1)) 39)), (39, .inl (g_putb 9 11 42)), (42, .inl (g_aload 0 43)), (43, .inl (g_get 9 0 46)), (46, .inl (g_get 0 0 49)), (49, .inl (g_push (.inl (.ofNat 1)) 50)), (50, .inl (g_bin gSub 51)), (51, .inl (g_iret))]
set_option maxRecDepth 1000000 in
theorem giq_46 : gi_46 = (pT M_46).map (mkT []) := rfl
noncomputable def gi_47_p1 : GT := [(61, .inl (g_push (.inl (.ofNat 3)) 62)), (62, .inl (g_bin gAdd 63)), (63, .inl (g_iload 5 65)), (65, .inl (g_iast 66)), (66, .inl (g_aload 0 67)), (67, .inl (g_get 0 3 70)), (70, .inl (g_aload 0 71)), (71, .inl (g_get 0 0 74)), (74, .inl (g_push (.inl (.ofNat 0)) 75)), (75, .inl (g_iast 76)), (76, .inl (g_aload 0 77)), (77, .inl (g_dup 78)), (78, .inl (g_get 0 0 81)), (81, .inl (g_push (.inl (.ofNat 1)) 82)), (82, .inl (g_bin gAdd 83)), (83, .inl (g_put 0 0 86)), (86, .inl (g_ret))]
noncomputable def gi_47 : GT := (0, .inl (g_aload 0 1)) :: (1, .inl (g_get 0 1 4)) :: (4, .inl (g_aload 0 5)) :: (5, .inl (g_get 0 0 8)) :: (8, .inl (g_iload 1 9)) :: (9, .inl (g_iast 10)) :: (10, .inl (g_aload 0 11)) :: (11, .inl (g_get 0 2 14)) :: (14, .inl (g_aload 0 15)) :: (15, .inl (g_get 0 0 18)) :: (18, .inl (g_push (.inl (.ofNat 4)) 19)) :: (19, .inl (g_bin gMul 20)) :: (20, .inl (g_iload 2 21)) :: (21, .inl (g_iast 22)) :: (22, .inl (g_aload 0 23)) :: (23, .inl (g_get 0 2 26)) :: (26, .inl (g_aload 0 27)) :: (27, .inl (g_get 0 0 30)) :: (30, .inl (g_push (.inl (.ofNat 4)) 31)) :: (31, .inl (g_bin gMul 32)) :: (32, .inl (g_push (.inl (.ofNat 1)) 33)) :: (33, .inl (g_bin gAdd 34)) :: (34, .inl (g_iload 3 35)) :: (35, .inl (g_iast 36)) :: (36, .inl (g_aload 0 37)) :: (37, .inl (g_get 0 2 40)) :: (40, .inl (g_aload 0 41)) :: (41, .inl (g_get 0 0 44)) :: (44, .inl (g_push (.inl (.ofNat 4)) 45)) :: (45, .inl (g_bin gMul 46)) :: (46, .inl (g_push (.inl (.ofNat 2)) 47)) :: (47, .inl (g_bin gAdd 48)) :: (48, .inl (g_iload 4 50)) :: (50, .inl (g_iast 51)) :: (51, .inl (g_aload 0 52)) :: (52, .inl (g_get 0 2 55)) :: (55, .inl (g_aload 0 56)) :: (56, .inl (g_get 0 0 59)) :: (59, .inl (g_push (.inl (.ofNat 4)) 60)) :: (60, .inl (g_bin gMul 61)) :: gi_47_p1
set_option maxRecDepth 1000000 in
theorem giq_47 : gi_47 = (pT M_47).map (mkT []) := rfl
noncomputable def gi_49 : GT := [(0, .inl (g_iload 1 1)), (1, .inl (g_iload 2 2)), (2, .inl (g_call 50 false)), (5, .inl (g_if .ne 18 8)), (8, .inl (g_throw 0)), (11, .inl (g_dup 12)), (12, .inl (g_no)), (14, .inl (g_no)), (17, .inl (g_no)), (18, .inl (g_aload 0 19)), (19, .inl (g_push (.inl (.ofNat 4)) 20)), (20, .inl (g_iload 1 21)), (21, .inl (g_iload 2 22)), (22, .inl (g_push (.inl (.ofNat 0)) 23)), (23, .inl (g_push (.inl (.ofNat 0)) 24)), (24, .inl (g_call 46 true)), (27, .inl (g_iret))]
set_option maxRecDepth 1000000 in
theorem giq_49 : gi_49 = (pT M_49).map (mkT []) := rfl
noncomputable def gi_50 : GT := [(0, .inl (g_iload 0 1)), (1, .inl (g_if .lt 23 4)), (4, .inl (g_iload 0 5)), (5, .inl (g_push (.inl (.ofNat 1)) 6)), (6, .inl (g_icmp .gt 23 9)), (9, .inl (g_iload 1 10)), (10, .inl (g_if .lt 23 13)), (13, .inl (g_iload 1 14)), (14, .inl (g_push (.inl (.ofNat 7)) 16)), (16, .inl (g_icmp .gt 23 19)), (19, .inl (g_push (.inl (.ofNat 1)) 20)), (20, .inl (g_goto 24)), (23, .inl (g_push (.inl (.ofNat 0)) 24)), (24, .inl (g_iret))]
set_option maxRecDepth 1000000 in
theorem giq_50 : gi_50 = (pT M_50).map (mkT []) := rfl
noncomputable def gi_52 : GT := [(0, .inl (g_iload 1 1)), (1, .inl (g_iload 2 2)), (2, .inl (g_call 45 false)), (5, .inl (g_if .eq 17 8)), (8, .inl (g_iload 3 9)), (9, .inl (g_iload 4 11)), (11, .inl (g_call 50 false)), (14, .inl (g_if .ne 27 17)), (17, .inl (g_throw 0)), (20, .inl (g_dup 21)), (21, .inl (g_no)), (23, .inl (g_no)), (26, .inl (g_no)), (27, .inl (g_aload 0 28)), (28, .inl (g_push (.inl (.ofNat 5)) 29)), (29, .inl (g_iload 1 30)), (30, .inl (g_iload 2 31)), (31, .inl (g_iload 3 32)), (32, .inl (g_iload 4 34)), (34, .inl (g_call 46 true)), (37, .inl (g_iret))]
set_option maxRecDepth 1000000 in
theorem giq_52 : gi_52 = (pT M_52).map (mkT []) := rfl
noncomputable def gi_54 : GT := [(0, .inl (g_aload 0 1)), (1, .inl (g_get 9 0 4)), (4, .inl (g_get 0 0 7)), (7, .inl (g_if .ne 20 10)), (10, .inl (g_throw 1)), (13, .inl (g_dup 14)), (14, .inl (g_no)), (16, .inl (g_no)), (19, .inl (g_no)), (20, .inl (g_aload 0 21)), (21, .inl (g_get 9 0 24)), (24, .inl (g_dup 25)), (25, .inl (g_get 0 0 28)), (28, .inl (g_push (.inl (.ofNat 1)) 29)), (29, .inl (g_bin gSub 30)), (30, .inl (g_put 0 0 33)), (33, .inl (g_aload 0 34)), (34, .inl (g_push (.inl (.ofNat 1)) 35)), (35, .inl (g_putb 9 11 38)), (38, .inl (g_aload 0 39)), (39, .inl (g_get 9 0 42)), (42, .inl (g_get 0 0 45)), (45, .inl (g_iret))]
set_option maxRecDepth 1000000 in
theorem giq_54 : gi_54 = (pT M_54).map (mkT []) := rfl
noncomputable def gi_56 : GT := [(0, .inl (g_aload 0 1)), (1, .inl (g_iload 1 2)), (2, .inl (g_call 57 true)), (5, .inl (g_iload 2 6)), (6, .inl (g_push (.inl (.negSucc 9998)) 9)), (9, .inl (g_icmp .lt 19 12)), (12, .inl (g_iload 2 13)), (13, .inl (g_push (.inl (.ofNat 9999)) 16)), (16, .inl (g_icmp .le 29 19)), (19, .inl (g_throw 0)), (22, .inl (g_dup 23)), (23, .inl (g_no)), (25, .inl (g_no)), (28, .inl (g_no)), (29, .inl (g_aload 0 30)), (30, .inl (g_get 9 0 33)), (33, .inl (g_get 0 3 36)), (36, .inl (g_iload 1 37)), (37, .inl (g_iald 38)), (38, .inl (g_istore2 3 39)), (39, .inl (g_aload 0 40)), (40, .inl (g_get 9 0 43)), (43, .inl (g_get 0 3 46)), (46, .inl (g_iload 1 47)), (47, .inl (g_iload 2 48)), (48, .inl (g_iast 49)), (49, .inl (g_iload 3 50)), (50, .inl (g_iret))]
set_option maxRecDepth 1000000 in
theorem giq_56 : gi_56 = (pT M_56).map (mkT []) := rfl
noncomputable def gi_57 : GT := [(0, .inl (g_iload 1 1)), (1, .inl (g_if .lt 15 4)), (4, .inl (g_iload 1 5)), (5, .inl (g_aload 0 6)), (6, .inl (g_get 9 0 9)), (9, .inl (g_get 0 0 12)), (12, .inl (g_icmp .lt 26 15)), (15, .inl (g_throw 2)), (18, .inl (g_dup 19)), (19, .inl (g_no)), (22, .inl (g_no)), (25, .inl (g_no)), (26, .inl (g_ret))]
set_option maxRecDepth 1000000 in
theorem giq_57 : gi_57 = (pT M_57).map (mkT []) := rfl
noncomputable def gi_59_p1 : GT := [(77, .inl (g_iload 1 78)), (78, .inl (g_iload 3 79)), (79, .inl (g_iast 80)), (80, .inl (g_aload 0 81)), (81, .inl (g_get 9 0 84)), (84, .inl (g_get 0 6 87)), (87, .inl (g_iload 1 88)), (88, .inl (g_iload 4 90)), (90, .inl (g_iast 91)), (91, .inl (g_aload 0 92)), (92, .inl (g_push (.inl (.ofNat 1)) 93)), (93, .inl (g_putb 9 11 96)), (96, .inl (g_ret))]
noncomputable def gi_59 : GT := (0, .inl (g_aload 0 1)) :: (1, .inl (g_iload 1 2)) :: (2, .inl (g_call 60 true)) :: (5, .inl (g_iload 2 6)) :: (6, .inl (g_if .lt 29 9)) :: (9, .inl (g_iload 2 10)) :: (10, .inl (g_push (.inl (.ofNat 3)) 11)) :: (11, .inl (g_icmp .ge 29 14)) :: (14, .inl (g_iload 3 15)) :: (15, .inl (g_push (.inl (.ofNat 1)) 16)) :: (16, .inl (g_icmp .lt 29 19)) :: (19, .inl (g_iload 3 20)) :: (20, .inl (g_push (.inl (.ofNat 6)) 22)) :: (22, .inl (g_icmp .gt 29 25)) :: (25, .inl (g_push (.inl (.ofNat 1)) 26)) :: (26, .inl (g_goto 30)) :: (29, .inl (g_push (.inl (.ofNat 0)) 30)) :: (30, .inl (g_istore2 5 32)) :: (32, .inl (g_iload 5 34)) :: (34, .inl (g_if .eq 50 37)) :: (37, .inl (g_iload 4 39)) :: (39, .inl (g_push (.inl (.ofNat 1)) 40)) :: (40, .inl (g_icmp .lt 50 43)) :: (43, .inl (g_iload 4 45)) :: (45, .inl (g_push (.inl (.ofNat 15)) 47)) :: (47, .inl (g_icmp .le 60 50)) :: (50, .inl (g_throw 0)) :: (53, .inl (g_dup 54)) :: (54, .inl (g_no)) :: (56, .inl (g_no)) :: (59, .inl (g_no)) :: (60, .inl (g_aload 0 61)) :: (61, .inl (g_get 9 0 64)) :: (64, .inl (g_get 0 4 67)) :: (67, .inl (g_iload 1 68)) :: (68, .inl (g_iload 2 69)) :: (69, .inl (g_iast 70)) :: (70, .inl (g_aload 0 71)) :: (71, .inl (g_get 9 0 74)) :: (74, .inl (g_get 0 5 77)) :: gi_59_p1
set_option maxRecDepth 1000000 in
theorem giq_59 : gi_59 = (pT M_59).map (mkT []) := rfl
noncomputable def gi_60 : GT := [(0, .inl (g_iload 1 1)), (1, .inl (g_if .lt 10 4)), (4, .inl (g_iload 1 5)), (5, .inl (g_push (.inl (.ofNat 6)) 7)), (7, .inl (g_icmp .lt 21 10)), (10, .inl (g_throw 2)), (13, .inl (g_dup 14)), (14, .inl (g_no)), (17, .inl (g_no)), (20, .inl (g_no)), (21, .inl (g_ret))]
set_option maxRecDepth 1000000 in
theorem giq_60 : gi_60 = (pT M_60).map (mkT []) := rfl
noncomputable def gi_62 : GT := [(0, .inl (g_aload 0 1)), (1, .inl (g_iload 1 2)), (2, .inl (g_call 63 true)), (5, .inl (g_iload 2 6)), (6, .inl (g_push (.inl (.ofNat 1)) 7)), (7, .inl (g_icmp .lt 15 10)), (10, .inl (g_iload 2 11)), (11, .inl (g_push (.inl (.ofNat 3)) 12)), (12, .inl (g_icmp .le 25 15)), (15, .inl (g_throw 0)), (18, .inl (g_dup 19)), (19, .inl (g_no)), (21, .inl (g_no)), (24, .inl (g_no)), (25, .inl (g_aload 0 26)), (26, .inl (g_get 9 0 29)), (29, .inl (g_get 0 7 32)), (32, .inl (g_iload 1 33)), (33, .inl (g_iald 34)), (34, .inl (g_istore2 3 35)), (35, .inl (g_aload 0 36)), (36, .inl (g_get 9 0 39)), (39, .inl (g_get 0 7 42)), (42, .inl (g_iload 1 43)), (43, .inl (g_iload 2 44)), (44, .inl (g_iast 45)), (45, .inl (g_aload 0 46)), (46, .inl (g_push (.inl (.ofNat 1)) 47)), (47, .inl (g_putb 9 11 50)), (50, .inl (g_iload 3 51)), (51, .inl (g_iret))]
set_option maxRecDepth 1000000 in
theorem giq_62 : gi_62 = (pT M_62).map (mkT []) := rfl
noncomputable def gi_63 : GT := [(0, .inl (g_iload 1 1)), (1, .inl (g_if .lt 9 4)), (4, .inl (g_iload 1 5)), (5, .inl (g_push (.inl (.ofNat 3)) 6)), (6, .inl (g_icmp .lt 20 9)), (9, .inl (g_throw 2)), (12, .inl (g_dup 13)), (13, .inl (g_no)), (16, .inl (g_no)), (19, .inl (g_no)), (20, .inl (g_ret))]
set_option maxRecDepth 1000000 in
theorem giq_63 : gi_63 = (pT M_63).map (mkT []) := rfl
noncomputable def gi_65 : GT := [(0, .inl (g_aload 0 1)), (1, .inl (g_iload 1 2)), (2, .inl (g_call 57 true)), (5, .inl (g_iload 2 6)), (6, .inl (g_push (.inl (.ofNat 5)) 7)), (7, .inl (g_call 66 false)), (10, .inl (g_iload 2 11)), (11, .inl (g_if .ne 24 14)), (14, .inl (g_aload 0 15)), (15, .inl (g_get 9 0 18)), (18, .inl (g_get 0 1 21)), (21, .inl (g_iload 1 22)), (22, .inl (g_iald 23)), (23, .inl (g_iret)), (24, .inl (g_iload 2 25)), (25, .inl (g_push (.inl (.ofNat 5)) 26)), (26, .inl (g_icmp .ne 39 29)), (29, .inl (g_aload 0 30)), (30, .inl (g_get 9 0 33)), (33, .inl (g_get 0 3 36)), (36, .inl (g_iload 1 37)), (37, .inl (g_iald 38)), (38, .inl (g_iret)), (39, .inl (g_aload 0 40)), (40, .inl (g_get 9 0 43)), (43, .inl (g_get 0 2 46)), (46, .inl (g_iload 1 47)), (47, .inl (g_push (.inl (.ofNat 4)) 48)), (48, .inl (g_bin gMul 49)), (49, .inl (g_iload 2 50)), (50, .inl (g_bin gAdd 51)), (51, .inl (g_push (.inl (.ofNat 1)) 52)), (52, .inl (g_bin gSub 53)), (53, .inl (g_iald 54)), (54, .inl (g_iret))]
set_option maxRecDepth 1000000 in
theorem giq_65 : gi_65 = (pT M_65).map (mkT []) := rfl
noncomputable def gi_66 : GT := [(0, .inl (g_iload 0 1)), (1, .inl (g_if .lt 9 4)), (4, .inl (g_iload 0 5)), (5, .inl (g_iload 1 6)), (6, .inl (g_icmp .le 20 9)), (9, .inl (g_throw 3)), (12, .inl (g_dup 13)), (13, .inl (g_no)), (16, .inl (g_no)), (19, .inl (g_no)), (20, .inl (g_ret))]
set_option maxRecDepth 1000000 in
theorem giq_66 : gi_66 = (pT M_66).map (mkT []) := rfl
noncomputable def gi_68 : GT := [(0, .inl (g_aload 0 1)), (1, .inl (g_call 69 true)), (4, .inl (g_aload 0 5)), (5, .inl (g_iload 1 6)), (6, .inl (g_call 70 true)), (9, .inl (g_iload 2 10)), (10, .inl (g_push (.inl (.ofNat 3)) 11)), (11, .inl (g_call 66 false)), (14, .inl (g_iload 2 15)), (15, .inl (g_sw 70 (.ofNat 0) (.ofNat 2) [40, 50, 60])), (40, .inl (g_aload 0 41)), (41, .inl (g_get 9 1 44)), (44, .inl (g_get 7 1 47)), (47, .inl (g_iload 1 48)), (48, .inl (g_iald 49)), (49, .inl (g_iret)), (50, .inl (g_aload 0 51)), (51, .inl (g_get 9 1 54)), (54, .inl (g_get 7 2 57)), (57, .inl (g_iload 1 58)), (58, .inl (g_iald 59)), (59, .inl (g_iret)), (60, .inl (g_aload 0 61)), (61, .inl (g_get 9 1 64)), (64, .inl (g_get 7 3 67)), (67, .inl (g_iload 1 68)), (68, .inl (g_iald 69)), (69, .inl (g_iret)), (70, .inl (g_aload 0 71)), (71, .inl (g_get 9 1 74)), (74, .inl (g_get 7 4 77)), (77, .inl (g_iload 1 78)), (78, .inl (g_iald 79)), (79, .inl (g_iret))]
set_option maxRecDepth 1000000 in
theorem giq_68 : gi_68 = (pT M_68).map (mkT []) := rfl
noncomputable def gi_69 : GT := [(0, .inl (g_aload 0 1)), (1, .inl (g_call 11 true)), (4, .inl (g_aload 0 5)), (5, .inl (g_get 9 10 8)), (8, .inl (g_if .ne 22 11)), (11, .inl (g_throw 1)), (14, .inl (g_dup 15)), (15, .inl (g_no)), (18, .inl (g_no)), (21, .inl (g_no)), (22, .inl (g_ret))]
set_option maxRecDepth 1000000 in
theorem giq_69 : gi_69 = (pT M_69).map (mkT []) := rfl
noncomputable def gi_70 : GT := [(0, .inl (g_iload 1 1)), (1, .inl (g_if .lt 15 4)), (4, .inl (g_iload 1 5)), (5, .inl (g_aload 0 6)), (6, .inl (g_get 9 1 9)), (9, .inl (g_get 7 0 12)), (12, .inl (g_icmp .lt 26 15)), (15, .inl (g_throw 2)), (18, .inl (g_dup 19)), (19, .inl (g_no)), (22, .inl (g_no)), (25, .inl (g_no)), (26, .inl (g_ret))]
set_option maxRecDepth 1000000 in
theorem giq_70 : gi_70 = (pT M_70).map (mkT []) := rfl
noncomputable def gi_72 : GT := [(0, .inl (g_aload 0 1)), (1, .inl (g_iload 1 2)), (2, .inl (g_call 57 true)), (5, .inl (g_aload 0 6)), (6, .inl (g_iload 2 7)), (7, .inl (g_call 57 true)), (10, .inl (g_aload 0 11)), (11, .inl (g_iload 3 12)), (12, .inl (g_call 73 true)), (15, .inl (g_aload 0 16)), (16, .inl (g_get 9 3 19)), (19, .inl (g_get 5 2 22)), (22, .inl (g_iload 1 23)), (23, .inl (g_push (.inl (.ofNat 8)) 25)), (25, .inl (g_bin gMul 26)), (26, .inl (g_iload 2 27)), (27, .inl (g_bin gAdd 28)), (28, .inl (g_iald 29)), (29, .inl (g_istore2 4 31)), (31, .inl (g_iload 4 33)), (33, .inl (g_push (.inl (.negSucc 99999)) 35)), (35, .inl (g_icmp .ne 44 38)), (38, .inl (g_push (.inl (.negSucc 999)) 41)), (41, .inl (g_goto 46)), (44, .inl (g_iload 4 46)), (46, .inl (g_iret))]
set_option maxRecDepth 1000000 in
theorem giq_72 : gi_72 = (pT M_72).map (mkT []) := rfl
noncomputable def gi_73 : GT := [(0, .inl (g_iload 1 1)), (1, .inl (g_call 74 false)), (4, .inl (g_aload 0 5)), (5, .inl (g_call 69 true)), (8, .inl (g_iload 1 9)), (9, .inl (g_aload 0 10)), (10, .inl (g_get 9 1 13)), (13, .inl (g_call 32 true)), (16, .inl (g_icmp .ge 30 19)), (19, .inl (g_throw 1)), (22, .inl (g_dup 23)), (23, .inl (g_no)), (26, .inl (g_no)), (29, .inl (g_no)), (30, .inl (g_aload 0 31)), (31, .inl (g_get 9 3 34)), (34, .inl (g_aload 0 35)), (35, .inl (g_get 9 0 38)), (38, .inl (g_aload 0 39)), (39, .inl (g_get 9 1 42)), (42, .inl (g_iload 1 43)), (43, .inl (g_call 75 true)), (46, .inl (g_ret))]
set_option maxRecDepth 1000000 in
theorem giq_73 : gi_73 = (pT M_73).map (mkT []) := rfl
noncomputable def gi_74 : GT := [(0, .inl (g_iload 0 1)), (1, .inl (g_push (.inl (.ofNat 1)) 2)), (2, .inl (g_icmp .lt 11 5)), (5, .inl (g_iload 0 6)), (6, .inl (g_push (.inl (.ofNat 12)) 8)), (8, .inl (g_icmp .le 22 11)), (11, .inl (g_throw 0)), (14, .inl (g_dup 15)), (15, .inl (g_no)), (18, .inl (g_no)), (21, .inl (g_no)), (22, .inl (g_ret))]
set_option maxRecDepth 1000000 in
theorem giq_74 : gi_74 = (pT M_74).map (mkT []) := rfl
noncomputable def gi_79 : GT := [(0, .inl (g_aload 0 1)), (1, .inl (g_iload 1 2)), (2, .inl (g_call 57 true)), (5, .inl (g_aload 0 6)), (6, .inl (g_iload 2 7)), (7, .inl (g_call 73 true)), (10, .inl (g_aload 0 11)), (11, .inl (g_get 9 3 14)), (14, .inl (g_iload 1 15)), (15, .inl (g_call 80 true)), (18, .inl (g_iret))]
set_option maxRecDepth 1000000 in
theorem giq_79 : gi_79 = (pT M_79).map (mkT []) := rfl
noncomputable def gi_82 : GT := [(0, .inl (g_aload 0 1)), (1, .inl (g_iload 1 2)), (2, .inl (g_call 63 true)), (5, .inl (g_aload 0 6)), (6, .inl (g_get 9 0 9)), (9, .inl (g_iload 1 10)), (10, .inl (g_call 36 true)), (13, .inl (g_iret))]
set_option maxRecDepth 1000000 in
theorem giq_82 : gi_82 = (pT M_82).map (mkT []) := rfl
noncomputable def gi_84 : GT := [(0, .inl (g_iload 1 1)), (1, .inl (g_call 74 false)), (4, .inl (g_aload 0 5)), (5, .inl (g_call 69 true)), (8, .inl (g_aload 0 9)), (9, .inl (g_iload 1 10)), (10, .inl (g_call 85 true)), (13, .inl (g_get 1 1 16)), (16, .inl (g_iret))]
set_option maxRecDepth 1000000 in
theorem giq_84 : gi_84 = (pT M_84).map (mkT []) := rfl
noncomputable def gi_92 : GT := [(0, .inl (g_aload 0 1)), (1, .inl (g_get 6 17 4)), (4, .inl (g_iload 1 5)), (5, .inl (g_iald 6)), (6, .inl (g_call 39 false)), (9, .inl (g_push (.inl (.ofNat 2)) 10)), (10, .inl (g_icmp .lt 17 13)), (13, .inl (g_push (.inl (.ofNat 1)) 14)), (14, .inl (g_goto 18)), (17, .inl (g_push (.inl (.ofNat 0)) 18)), (18, .inl (g_iret))]
set_option maxRecDepth 1000000 in
theorem giq_92 : gi_92 = (pT M_92).map (mkT []) := rfl
noncomputable def gi_94 : GT := [(0, .inl (g_iload 0 1)), (1, .inl (g_iload 1 2)), (2, .inl (g_bin gRem 3)), (3, .inl (g_istore2 2 4)), (4, .inl (g_iload 0 5)), (5, .inl (g_iload 1 6)), (6, .inl (g_bin (fun env x y => gAny env x y (· ^^^ ·)) 7)), (7, .inl (g_if .ge 18 10)), (10, .inl (g_iload 2 11)), (11, .inl (g_if .eq 18 14)), (14, .inl (g_iload 2 15)), (15, .inl (g_iload 1 16)), (16, .inl (g_bin gAdd 17)), (17, .inl (g_iret)), (18, .inl (g_iload 2 19)), (19, .inl (g_iret))]
set_option maxRecDepth 1000000 in
theorem giq_94 : gi_94 = (pT M_94).map (mkT []) := rfl
noncomputable def gi_100 : GT := [(0, .inl (g_iload 2 1)), (1, .inl (g_call 39 false)), (4, .inl (g_aload 0 5)), (5, .inl (g_get 6 19 8)), (8, .inl (g_iload 3 9)), (9, .inl (g_iald 10)), (10, .inl (g_bin gMul 11)), (11, .inl (g_iload 4 13)), (13, .inl (g_call 39 false)), (16, .inl (g_aload 0 17)), (17, .inl (g_get 6 19 20)), (20, .inl (g_iload 1 21)), (21, .inl (g_iald 22)), (22, .inl (g_bin gMul 23)), (23, .inl (g_icmp .ge 30 26)), (26, .inl (g_push (.inl (.ofNat 1)) 27)), (27, .inl (g_goto 31)), (30, .inl (g_push (.inl (.ofNat 0)) 31)), (31, .inl (g_iret))]
set_option maxRecDepth 1000000 in
theorem giq_100 : gi_100 = (pT M_100).map (mkT []) := rfl
noncomputable def gi_102 : GT := [(0, .inl (g_aload 0 1)), (1, .inl (g_get 6 12 4)), (4, .inl (g_iload 1 5)), (5, .inl (g_push (.inl (.ofNat 4)) 6)), (6, .inl (g_bin gMul 7)), (7, .inl (g_aload 0 8)), (8, .inl (g_get 6 11 11)), (11, .inl (g_aload 0 12)), (12, .inl (g_get 6 7 15)), (15, .inl (g_iload 1 16)), (16, .inl (g_iald 17)), (17, .inl (g_push (.inl (.ofNat 4)) 18)), (18, .inl (g_bin gMul 19)), (19, .inl (g_push (.inl (.ofNat 4)) 20)), (20, .inl (g_copy 23)), (23, .inl (g_aload 0 24)), (24, .inl (g_dup 25)), (25, .inl (g_get 6 4 28)), (28, .inl (g_push (.inl (.ofNat 1)) 29)), (29, .inl (g_iload 1 30)), (30, .inl (g_bin (fun env x y => gAny env x y (fun x y => x <<< (y &&& 31))) 31)), (31, .inl (g_push (.inl (.negSucc 0)) 32)), (32, .inl (g_bin (fun env x y => gAny env x y (· ^^^ ·)) 33)), (33, .inl (g_bin (fun env x y => gAny env x y (· &&& ·)) 34)), (34, .inl (g_put 6 4 37)), (37, .inl (g_aload 0 38)), (38, .inl (g_iload 1 39)), (39, .inl (g_call 92 true)), (42, .inl (g_if .eq 63 45)), (45, .inl (g_aload 0 46)), (46, .inl (g_get 6 14 49)), (49, .inl (g_iload 1 50)), (50, .inl (g_push (.inl (.ofNat 64)) 52)), (52, .inl (g_bin gMul 53)), (53, .inl (g_aload 0 54)), (54, .inl (g_get 6 13 57)), (57, .inl (g_push (.inl (.ofNat 0)) 58)), (58, .inl (g_push (.inl (.ofNat 64)) 60)), (60, .inl (g_copy 63)), (63, .inl (g_ret))]
set_option maxRecDepth 1000000 in
theorem giq_102 : gi_102 = (pT M_102).map (mkT []) := rfl
noncomputable def gi_108 : GT := [(0, .inl (g_aload 0 1)), (1, .inl (g_get 1 3 4)), (4, .inl (g_if .gt 11 7)), (7, .inl (g_push (.inl (.ofNat 0)) 8)), (8, .inl (g_goto 22)), (11, .inl (g_aload 0 12)), (12, .inl (g_get 1 9 15)), (15, .inl (g_iload 1 16)), (16, .inl (g_iald 17)), (17, .inl (g_aload 0 18)), (18, .inl (g_get 1 3 21)), (21, .inl (g_bin gDiv 22)), (22, .inl (g_iret))]
set_option maxRecDepth 1000000 in
theorem giq_108 : gi_108 = (pT M_108).map (mkT []) := rfl
noncomputable def gi_114 : GT := [(0, .inl (g_aload 0 1)), (1, .inl (g_iload 1 2)), (2, .inl (g_call 57 true)), (5, .inl (g_aload 0 6)), (6, .inl (g_iload 2 7)), (7, .inl (g_call 115 true)), (10, .inl (g_get 1 9 13)), (13, .inl (g_iload 1 14)), (14, .inl (g_iald 15)), (15, .inl (g_iret))]
set_option maxRecDepth 1000000 in
theorem giq_114 : gi_114 = (pT M_114).map (mkT []) := rfl
noncomputable def gi_115 : GT := [(0, .inl (g_iload 1 1)), (1, .inl (g_call 74 false)), (4, .inl (g_aload 0 5)), (5, .inl (g_call 69 true)), (8, .inl (g_aload 0 9)), (9, .inl (g_iload 1 10)), (10, .inl (g_call 85 true)), (13, .inl (g_astore2 2 14)), (14, .inl (g_aload 2 15)), (15, .inl (g_get 1 1 18)), (18, .inl (g_if .ne 32 21)), (21, .inl (g_throw 1)), (24, .inl (g_dup 25)), (25, .inl (g_no)), (28, .inl (g_no)), (31, .inl (g_no)), (32, .inl (g_aload 2 33)), (33, .inl (g_aret))]
set_option maxRecDepth 1000000 in
theorem giq_115 : gi_115 = (pT M_115).map (mkT []) := rfl
noncomputable def gi_117 : GT := [(0, .inl (g_aload 0 1)), (1, .inl (g_iload 1 2)), (2, .inl (g_call 63 true)), (5, .inl (g_iload 3 6)), (6, .inl (g_call 74 false)), (9, .inl (g_iload 2 10)), (10, .inl (g_iload 3 11)), (11, .inl (g_call 118 false)), (14, .inl (g_aload 0 15)), (15, .inl (g_iload 3 16)), (16, .inl (g_call 115 true)), (19, .inl (g_aload 0 20)), (20, .inl (g_get 9 0 23)), (23, .inl (g_iload 1 24)), (24, .inl (g_iload 2 25)), (25, .inl (g_call 119 true)), (28, .inl (g_iret))]
set_option maxRecDepth 1000000 in
theorem giq_117 : gi_117 = (pT M_117).map (mkT []) := rfl
noncomputable def gi_118 : GT := [(0, .inl (g_iload 0 1)), (1, .inl (g_if .lt 9 4)), (4, .inl (g_iload 0 5)), (5, .inl (g_iload 1 6)), (6, .inl (g_icmp .lt 20 9)), (9, .inl (g_throw 0)), (12, .inl (g_dup 13)), (13, .inl (g_no)), (16, .inl (g_no)), (19, .inl (g_no)), (20, .inl (g_ret))]
set_option maxRecDepth 1000000 in
theorem giq_118 : gi_118 = (pT M_118).map (mkT []) := rfl
noncomputable def gi_122 : GT := [(0, .inl (g_aload 0 1)), (1, .inl (g_iload 1 2)), (2, .inl (g_call 57 true)), (5, .inl (g_aload 0 6)), (6, .inl (g_iload 2 7)), (7, .inl (g_call 73 true)), (10, .inl (g_aload 0 11)), (11, .inl (g_get 9 6 14)), (14, .inl (g_aload 0 15)), (15, .inl (g_get 9 0 18)), (18, .inl (g_aload 0 19)), (19, .inl (g_get 9 1 22)), (22, .inl (g_aload 0 23)), (23, .inl (g_get 9 3 26)), (26, .inl (g_iload 2 27)), (27, .inl (g_call 123 true)), (30, .inl (g_aload 0 31)), (31, .inl (g_get 9 6 34)), (34, .inl (g_get 2 1 37)), (37, .inl (g_if .eq 52 40)), (40, .inl (g_aload 0 41)), (41, .inl (g_get 9 6 44)), (44, .inl (g_get 2 4 47)), (47, .inl (g_iload 1 48)), (48, .inl (g_iald 49)), (49, .inl (g_goto 53)), (52, .inl (g_push (.inl (.negSucc 0)) 53)), (53, .inl (g_iret))]
set_option maxRecDepth 1000000 in
theorem giq_122 : gi_122 = (pT M_122).map (mkT []) := rfl
noncomputable def gi_126 : GT := [(0, .inl (g_aload 1 1)), (1, .inl (g_iload 2 2)), (2, .inl (g_call 38 true)), (5, .inl (g_istore2 4 7)), (7, .inl (g_aload 0 8)), (8, .inl (g_iload 4 10)), (10, .inl (g_iload 3 11)), (11, .inl (g_push (.inl (.ofNat 1)) 12)), (12, .inl (g_call 125 true)), (15, .inl (g_aload 0 16)), (16, .inl (g_iload 4 18)), (18, .inl (g_iload 3 19)), (19, .inl (g_aload 1 20)), (20, .inl (g_get 0 7 23)), (23, .inl (g_aload 1 24)), (24, .inl (g_iload 2 25)), (25, .inl (g_call 37 true)), (28, .inl (g_iald 29)), (29, .inl (g_call 127 true)), (32, .inl (g_if .ne 39 35)), (35, .inl (g_push (.inl (.ofNat 1)) 36)), (36, .inl (g_goto 40)), (39, .inl (g_push (.inl (.ofNat 0)) 40)), (40, .inl (g_istore2 5 42)), (42, .inl (g_aload 0 43)), (43, .inl (g_iload 4 45)), (45, .inl (g_iload 3 46)), (46, .inl (g_push (.inl (.negSucc 0)) 47)), (47, .inl (g_call 125 true)), (50, .inl (g_iload 5 52)), (52, .inl (g_iret))]
set_option maxRecDepth 1000000 in
theorem giq_126 : gi_126 = (pT M_126).map (mkT []) := rfl
noncomputable def gi_136 : GT := [(0, .inl (g_aload 0 1)), (1, .inl (g_iload 1 2)), (2, .inl (g_call 73 true)), (5, .inl (g_aload 0 6)), (6, .inl (g_get 9 6 9)), (9, .inl (g_aload 0 10)), (10, .inl (g_get 9 0 13)), (13, .inl (g_aload 0 14)), (14, .inl (g_get 9 1 17)), (17, .inl (g_aload 0 18)), (18, .inl (g_get 9 3 21)), (21, .inl (g_iload 1 22)), (22, .inl (g_call 123 true)), (25, .inl (g_aload 0 26)), (26, .inl (g_get 9 6 29)), (29, .inl (g_get 2 1 32)), (32, .inl (g_if .eq 45 35)), (35, .inl (g_aload 0 36)), (36, .inl (g_get 9 6 39)), (39, .inl (g_get 2 2 42)), (42, .inl (g_goto 46)), (45, .inl (g_push (.inl (.negSucc 0)) 46)), (46, .inl (g_iret))]
set_option maxRecDepth 1000000 in
theorem giq_136 : gi_136 = (pT M_136).map (mkT []) := rfl
noncomputable def gi_140 : GT := [(0, .inl (g_iload 2 1)), (1, .inl (g_push (.inl (.ofNat 6)) 3)), (3, .inl (g_call 66 false)), (6, .inl (g_aload 0 7)), (7, .inl (g_iload 1 8)), (8, .inl (g_call 115 true)), (11, .inl (g_astore2 3 12)), (12, .inl (g_iload 2 13)), (13, .inl (g_sw 86 (.ofNat 0) (.ofNat 5) [52, 57, 62, 67, 72, 77])), (52, .inl (g_aload 3 53)), (53, .inl (g_get 1 4 56)), (56, .inl (g_iret)), (57, .inl (g_aload 3 58)), (58, .inl (g_get 1 5 61)), (61, .inl (g_iret)), (62, .inl (g_aload 3 63)), (63, .inl (g_get 1 6 66)), (66, .inl (g_iret)), (67, .inl (g_aload 3 68)), (68, .inl (g_get 1 7 71)), (71, .inl (g_iret)), (72, .inl (g_aload 3 73)), (73, .inl (g_call 141 true)), (76, .inl (g_iret)), (77, .inl (g_aload 3 78)), (78, .inl (g_aload 3 79)), (79, .inl (g_call 142 true)), (82, .inl (g_call 143 true)), (85, .inl (g_iret)), (86, .inl (g_aload 3 87)), (87, .inl (g_call 142 true)), (90, .inl (g_iret))]
set_option maxRecDepth 1000000 in
theorem giq_140 : gi_140 = (pT M_140).map (mkT []) := rfl
noncomputable def gi_145_p1 : GT := [(98, .inl (g_call 146 true)), (101, .inl (g_iret))]
noncomputable def gi_145 : GT := (0, .inl (g_aload 0 1)) :: (1, .inl (g_iload 1 2)) :: (2, .inl (g_call 57 true)) :: (5, .inl (g_iload 3 6)) :: (6, .inl (g_push (.inl (.ofNat 5)) 7)) :: (7, .inl (g_call 66 false)) :: (10, .inl (g_aload 0 11)) :: (11, .inl (g_iload 2 12)) :: (12, .inl (g_call 115 true)) :: (15, .inl (g_astore2 4 17)) :: (17, .inl (g_iload 3 18)) :: (18, .inl (g_sw 91 (.ofNat 0) (.ofNat 4) [52, 59, 67, 75, 83])) :: (52, .inl (g_aload 4 54)) :: (54, .inl (g_iload 1 55)) :: (55, .inl (g_call 108 true)) :: (58, .inl (g_iret)) :: (59, .inl (g_aload 4 61)) :: (61, .inl (g_get 1 8 64)) :: (64, .inl (g_iload 1 65)) :: (65, .inl (g_iald 66)) :: (66, .inl (g_iret)) :: (67, .inl (g_aload 4 69)) :: (69, .inl (g_get 1 11 72)) :: (72, .inl (g_iload 1 73)) :: (73, .inl (g_iald 74)) :: (74, .inl (g_iret)) :: (75, .inl (g_aload 4 77)) :: (77, .inl (g_get 1 12 80)) :: (80, .inl (g_iload 1 81)) :: (81, .inl (g_iald 82)) :: (82, .inl (g_iret)) :: (83, .inl (g_aload 4 85)) :: (85, .inl (g_get 1 13 88)) :: (88, .inl (g_iload 1 89)) :: (89, .inl (g_iald 90)) :: (90, .inl (g_iret)) :: (91, .inl (g_aload 4 93)) :: (93, .inl (g_aload 0 94)) :: (94, .inl (g_get 9 1 97)) :: (97, .inl (g_iload 1 98)) :: gi_145_p1
set_option maxRecDepth 1000000 in
theorem giq_145 : gi_145 = (pT M_145).map (mkT []) := rfl
noncomputable def gi_148 : GT := [(0, .inl (g_iload 2 1)), (1, .inl (g_call 74 false)), (4, .inl (g_iload 1 5)), (5, .inl (g_iload 2 6)), (6, .inl (g_call 118 false)), (9, .inl (g_aload 0 10)), (10, .inl (g_iload 2 11)), (11, .inl (g_call 115 true)), (14, .inl (g_iload 1 15)), (15, .inl (g_call 143 true)), (18, .inl (g_iret))]
set_option maxRecDepth 1000000 in
theorem giq_148 : gi_148 = (pT M_148).map (mkT []) := rfl
noncomputable def gi_150 : GT := [(0, .inl (g_aload 0 1)), (1, .inl (g_iload 1 2)), (2, .inl (g_call 57 true)), (5, .inl (g_iload 3 6)), (6, .inl (g_call 74 false)), (9, .inl (g_iload 4 11)), (11, .inl (g_call 151 false)), (14, .inl (g_iload 2 15)), (15, .inl (g_if .ge 29 18)), (18, .inl (g_throw 0)), (21, .inl (g_dup 22)), (22, .inl (g_no)), (25, .inl (g_no)), (28, .inl (g_no)), (29, .inl (g_aload 0 30)), (30, .inl (g_iload 3 31)), (31, .inl (g_call 115 true)), (34, .inl (g_iload 1 35)), (35, .inl (g_iload 2 36)), (36, .inl (g_iload 4 38)), (38, .inl (g_call 152 true)), (41, .inl (g_iret))]
set_option maxRecDepth 1000000 in
theorem giq_150 : gi_150 = (pT M_150).map (mkT []) := rfl
noncomputable def gi_151 : GT := [(0, .inl (g_iload 0 1)), (1, .inl (g_if .lt 10 4)), (4, .inl (g_iload 0 5)), (5, .inl (g_push (.inl (.ofNat 40)) 7)), (7, .inl (g_icmp .le 21 10)), (10, .inl (g_throw 0)), (13, .inl (g_dup 14)), (14, .inl (g_no)), (17, .inl (g_no)), (20, .inl (g_no)), (21, .inl (g_ret))]
set_option maxRecDepth 1000000 in
theorem giq_151 : gi_151 = (pT M_151).map (mkT []) := rfl
noncomputable def gi_152 : GT := [(0, .inl (g_iload 2 1)), (1, .inl (g_aload 0 2)), (2, .inl (g_get 1 9 5)), (5, .inl (g_iload 1 6)), (6, .inl (g_iald 7)), (7, .inl (g_icmp .lt 25 10)), (10, .inl (g_iload 2 11)), (11, .inl (g_aload 0 12)), (12, .inl (g_get 1 3 15)), (15, .inl (g_bin gRem 16)), (16, .inl (g_aload 0 17)), (17, .inl (g_get 1 8 20)), (20, .inl (g_iload 1 21)), (21, .inl (g_iald 22)), (22, .inl (g_icmp .eq 27 25)), (25, .inl (g_push (.inl (.negSucc 0)) 26)), (26, .inl (g_iret)), (27, .inl (g_iload 2 28)), (28, .inl (g_aload 0 29)), (29, .inl (g_get 1 9 32)), (32, .inl (g_iload 1 33)), (33, .inl (g_iald 34)), (34, .inl (g_bin gSub 35)), (35, .inl (g_aload 0 36)), (36, .inl (g_get 1 3 39)), (39, .inl (g_bin gDiv 40)), (40, .inl (g_istore2 4 42)), (42, .inl (g_iload 4 44)), (44, .inl (g_iload 3 45)), (45, .inl (g_icmp .ge 53 48)), (48, .inl (g_iload 4 50)), (50, .inl (g_goto 54)), (53, .inl (g_push (.inl (.negSucc 0)) 54)), (54, .inl (g_iret))]
set_option maxRecDepth 1000000 in
theorem giq_152 : gi_152 = (pT M_152).map (mkT []) := rfl
noncomputable def gi_154 : GT := [(0, .inl (g_iload 3 1)), (1, .inl (g_push (.inl (.ofNat 3)) 2)), (2, .inl (g_call 66 false)), (5, .inl (g_iload 1 6)), (6, .inl (g_call 74 false)), (9, .inl (g_iload 2 10)), (10, .inl (g_call 151 false)), (13, .inl (g_aload 0 14)), (14, .inl (g_iload 1 15)), (15, .inl (g_call 115 true)), (18, .inl (g_astore2 4 20)), (20, .inl (g_iload 3 21)), (21, .inl (g_sw 69 (.ofNat 0) (.ofNat 2) [48, 55, 62])), (48, .inl (g_aload 4 50)), (50, .inl (g_iload 2 51)), (51, .inl (g_call 155 true)), (54, .inl (g_iret)), (55, .inl (g_aload 4 57)), (57, .inl (g_iload 2 58)), (58, .inl (g_call 156 true)), (61, .inl (g_iret)), (62, .inl (g_aload 4 64)), (64, .inl (g_iload 2 65)), (65, .inl (g_call 157 true)), (68, .inl (g_iret)), (69, .inl (g_aload 4 71)), (71, .inl (g_iload 2 72)), (72, .inl (g_call 155 true)), (75, .inl (g_aload 4 77)), (77, .inl (g_iload 2 78)), (78, .inl (g_call 156 true)), (81, .inl (g_bin gSub 82)), (82, .inl (g_aload 4 84)), (84, .inl (g_iload 2 85)), (85, .inl (g_call 157 true)), (88, .inl (g_bin gSub 89)), (89, .inl (g_iret))]
set_option maxRecDepth 1000000 in
theorem giq_154 : gi_154 = (pT M_154).map (mkT []) := rfl
noncomputable def gi_155 : GT := [(0, .inl (g_iload 1 1)), (1, .inl (g_if .gt 8 4)), (4, .inl (g_push (.inl (.ofNat 0)) 5)), (5, .inl (g_goto 21)), (8, .inl (g_aload 0 9)), (9, .inl (g_get 1 3 12)), (12, .inl (g_iload 1 13)), (13, .inl (g_push (.inl (.ofNat 1)) 14)), (14, .inl (g_bin gSub 15)), (15, .inl (g_bin gMul 16)), (16, .inl (g_aload 0 17)), (17, .inl (g_get 1 4 20)), (20, .inl (g_bin gAdd 21)), (21, .inl (g_iret))]
set_option maxRecDepth 1000000 in
theorem giq_155 : gi_155 = (pT M_155).map (mkT []) := rfl
noncomputable def gi_156 : GT := [(0, .inl (g_aload 0 1)), (1, .inl (g_iload 1 2)), (2, .inl (g_call 155 true)), (5, .inl (g_istore2 2 6)), (6, .inl (g_iload 1 7)), (7, .inl (g_aload 0 8)), (8, .inl (g_get 1 5 11)), (11, .inl (g_icmp .ge 18 14)), (14, .inl (g_iload 2 15)), (15, .inl (g_goto 33)), (18, .inl (g_iload 2 19)), (19, .inl (g_aload 0 20)), (20, .inl (g_get 1 3 23)), (23, .inl (g_aload 0 24)), (24, .inl (g_get 1 5 27)), (27, .inl (g_push (.inl (.ofNat 1)) 28)), (28, .inl (g_bin gSub 29)), (29, .inl (g_bin gMul 30)), (30, .inl (g_call 29 false)), (33, .inl (g_iret))]
set_option maxRecDepth 1000000 in
theorem giq_156 : gi_156 = (pT M_156).map (mkT []) := rfl
noncomputable def gi_157 : GT := [(0, .inl (g_iload 1 1)), (1, .inl (g_aload 0 2)), (2, .inl (g_get 1 5 5)), (5, .inl (g_icmp .ge 10 8)), (8, .inl (g_push (.inl (.ofNat 0)) 9)), (9, .inl (g_iret)), (10, .inl (g_aload 0 11)), (11, .inl (g_get 1 3 14)), (14, .inl (g_iload 1 15)), (15, .inl (g_aload 0 16)), (16, .inl (g_get 1 5 19)), (19, .inl (g_bin gSub 20)), (20, .inl (g_push (.inl (.ofNat 1)) 21)), (21, .inl (g_bin gAdd 22)), (22, .inl (g_bin gMul 23)), (23, .inl (g_aload 0 24)), (24, .inl (g_iload 1 25)), (25, .inl (g_call 155 true)), (28, .inl (g_aload 0 29)), (29, .inl (g_iload 1 30)), (30, .inl (g_call 156 true)), (33, .inl (g_bin gSub 34)), (34, .inl (g_call 29 false)), (37, .inl (g_iret))]
set_option maxRecDepth 1000000 in
theorem giq_157 : gi_157 = (pT M_157).map (mkT []) := rfl
noncomputable def gi_159 : GT := [(0, .inl (g_iload 1 1)), (1, .inl (g_iload 2 2)), (2, .inl (g_call 160 false)), (5, .inl (g_iload 3 6)), (6, .inl (g_call 74 false)), (9, .inl (g_iload 4 11)), (11, .inl (g_call 151 false)), (14, .inl (g_aload 0 15)), (15, .inl (g_iload 3 16)), (16, .inl (g_call 115 true)), (19, .inl (g_pop 20)), (20, .inl (g_aload 0 21)), (21, .inl (g_get 9 7 24)), (24, .inl (g_aload 0 25)), (25, .inl (g_get 9 0 28)), (28, .inl (g_iload 4 30)), (30, .inl (g_call 161 true)), (33, .inl (g_aload 0 34)), (34, .inl (g_get 9 7 37)), (37, .inl (g_get 4 0 40)), (40, .inl (g_iload 1 41)), (41, .inl (g_aald 42)), (42, .inl (g_iload 2 43)), (43, .inl (g_iald 44)), (44, .inl (g_iret))]
set_option maxRecDepth 1000000 in
theorem giq_159 : gi_159 = (pT M_159).map (mkT []) := rfl
noncomputable def gi_160 : GT := [(0, .inl (g_iload 0 1)), (1, .inl (g_if .lt 19 4)), (4, .inl (g_iload 0 5)), (5, .inl (g_push (.inl (.ofNat 1)) 6)), (6, .inl (g_icmp .gt 19 9)), (9, .inl (g_iload 1 10)), (10, .inl (g_if .lt 19 13)), (13, .inl (g_iload 1 14)), (14, .inl (g_push (.inl (.ofNat 64)) 16)), (16, .inl (g_icmp .lt 29 19)), (19, .inl (g_throw 0)), (22, .inl (g_dup 23)), (23, .inl (g_no)), (25, .inl (g_no)), (28, .inl (g_no)), (29, .inl (g_ret))]
set_option maxRecDepth 1000000 in
theorem giq_160 : gi_160 = (pT M_160).map (mkT []) := rfl
noncomputable def gi_163 : GT := [(0, .inl (g_aload 1 1)), (1, .inl (g_iload 2 2)), (2, .inl (g_iload 3 3)), (3, .inl (g_call 14 true)), (6, .inl (g_istore2 5 8)), (8, .inl (g_aload 1 9)), (9, .inl (g_iload 2 10)), (10, .inl (g_iload 3 11)), (11, .inl (g_call 15 true)), (14, .inl (g_istore2 6 16)), (16, .inl (g_iload 5 18)), (18, .inl (g_push (.inl (.negSucc 0)) 19)), (19, .inl (g_icmp .ne 25 22)), (22, .inl (g_iload 4 24)), (24, .inl (g_iret)), (25, .inl (g_iload 5 27)), (27, .inl (g_push (.inl (.negSucc 1)) 29)), (29, .inl (g_icmp .ne 35 32)), (32, .inl (g_iload 6 34)), (34, .inl (g_iret)), (35, .inl (g_aload 0 36)), (36, .inl (g_aload 1 37)), (37, .inl (g_iload 5 39)), (39, .inl (g_iload 4 41)), (41, .inl (g_iload 6 43)), (43, .inl (g_bin gSub 44)), (44, .inl (g_call 164 true)), (47, .inl (g_iret))]
set_option maxRecDepth 1000000 in
theorem giq_163 : gi_163 = (pT M_163).map (mkT []) := rfl
noncomputable def gi_164 : GT := [(0, .inl (g_iload 3 1)), (1, .inl (g_if .ge 13 4)), (4, .inl (g_aload 1 5)), (5, .inl (g_get 0 3 8)), (8, .inl (g_iload 2 9)), (9, .inl (g_iald 10)), (10, .inl (g_goto 24)), (13, .inl (g_aload 0 14)), (14, .inl (g_get 4 1 17)), (17, .inl (g_iload 2 18)), (18, .inl (g_push (.inl (.ofNat 40)) 20)), (20, .inl (g_bin gMul 21)), (21, .inl (g_iload 3 22)), (22, .inl (g_bin gAdd 23)), (23, .inl (g_iald 24)), (24, .inl (g_iret))]
set_option maxRecDepth 1000000 in
theorem giq_164 : gi_164 = (pT M_164).map (mkT []) := rfl
noncomputable def gi_166 : GT := [(0, .inl (g_aload 0 1)), (1, .inl (g_iload 1 2)), (2, .inl (g_call 57 true)), (5, .inl (g_aload 0 6)), (6, .inl (g_iload 1 7)), (7, .inl (g_call 167 true)), (10, .inl (g_iload 2 11)), (11, .inl (g_call 74 false)), (14, .inl (g_iload 3 15)), (15, .inl (g_call 151 false)), (18, .inl (g_aload 0 19)), (19, .inl (g_iload 2 20)), (20, .inl (g_call 115 true)), (23, .inl (g_pop 24)), (24, .inl (g_aload 0 25)), (25, .inl (g_get 9 7 28)), (28, .inl (g_aload 0 29)), (29, .inl (g_get 9 0 32)), (32, .inl (g_iload 3 33)), (33, .inl (g_call 161 true)), (36, .inl (g_aload 0 37)), (37, .inl (g_get 9 7 40)), (40, .inl (g_aload 0 41)), (41, .inl (g_get 9 0 44)), (44, .inl (g_iload 1 45)), (45, .inl (g_iload 3 46)), (46, .inl (g_push (.inl (.ofNat 1)) 47)), (47, .inl (g_bin gSub 48)), (48, .inl (g_call 164 true)), (51, .inl (g_iret))]
set_option maxRecDepth 1000000 in
theorem giq_166 : gi_166 = (pT M_166).map (mkT []) := rfl
noncomputable def gi_167 : GT := [(0, .inl (g_aload 0 1)), (1, .inl (g_get 9 0 4)), (4, .inl (g_get 0 1 7)), (7, .inl (g_iload 1 8)), (8, .inl (g_iald 9)), (9, .inl (g_push (.inl (.ofNat 5)) 10)), (10, .inl (g_icmp .ne 24 13)), (13, .inl (g_throw 0)), (16, .inl (g_dup 17)), (17, .inl (g_no)), (20, .inl (g_no)), (23, .inl (g_no)), (24, .inl (g_ret))]
set_option maxRecDepth 1000000 in
theorem giq_167 : gi_167 = (pT M_167).map (mkT []) := rfl
noncomputable def gi_169 : GT := [(0, .inl (g_iload 1 1)), (1, .inl (g_iload 2 2)), (2, .inl (g_call 160 false)), (5, .inl (g_iload 3 6)), (6, .inl (g_call 151 false)), (9, .inl (g_aload 0 10)), (10, .inl (g_call 69 true)), (13, .inl (g_aload 0 14)), (14, .inl (g_get 9 7 17)), (17, .inl (g_aload 0 18)), (18, .inl (g_get 9 0 21)), (21, .inl (g_iload 3 22)), (22, .inl (g_call 161 true)), (25, .inl (g_aload 0 26)), (26, .inl (g_get 9 7 29)), (29, .inl (g_get 4 0 32)), (32, .inl (g_iload 1 33)), (33, .inl (g_aald 34)), (34, .inl (g_iload 2 35)), (35, .inl (g_iald 36)), (36, .inl (g_iret))]
set_option maxRecDepth 1000000 in
theorem giq_169 : gi_169 = (pT M_169).map (mkT []) := rfl
noncomputable def gi_171_p1 : GT := [(78, .inl (g_if .lt 92 81)), (81, .inl (g_iload 6 83)), (83, .inl (g_iload 4 85)), (85, .inl (g_icmp .ge 92 88)), (88, .inl (g_push (.inl (.ofNat 1)) 89)), (89, .inl (g_goto 93)), (92, .inl (g_push (.inl (.ofNat 0)) 93)), (93, .inl (g_iret))]
noncomputable def gi_171 : GT := (0, .inl (g_aload 0 1)) :: (1, .inl (g_iload 1 2)) :: (2, .inl (g_call 57 true)) :: (5, .inl (g_iload 3 6)) :: (6, .inl (g_call 74 false)) :: (9, .inl (g_iload 4 11)) :: (11, .inl (g_call 151 false)) :: (14, .inl (g_iload 2 15)) :: (15, .inl (g_if .lt 23 18)) :: (18, .inl (g_iload 4 20)) :: (20, .inl (g_if .ne 34 23)) :: (23, .inl (g_throw 0)) :: (26, .inl (g_dup 27)) :: (27, .inl (g_no)) :: (30, .inl (g_no)) :: (33, .inl (g_no)) :: (34, .inl (g_aload 0 35)) :: (35, .inl (g_iload 3 36)) :: (36, .inl (g_call 115 true)) :: (39, .inl (g_astore2 5 41)) :: (41, .inl (g_iload 2 42)) :: (42, .inl (g_iload 4 44)) :: (44, .inl (g_aload 5 46)) :: (46, .inl (g_get 1 5 49)) :: (49, .inl (g_bin gAdd 50)) :: (50, .inl (g_push (.inl (.ofNat 1)) 51)) :: (51, .inl (g_bin gSub 52)) :: (52, .inl (g_icmp .lt 66 55)) :: (55, .inl (g_throw 0)) :: (58, .inl (g_dup 59)) :: (59, .inl (g_no)) :: (62, .inl (g_no)) :: (65, .inl (g_no)) :: (66, .inl (g_iload 2 67)) :: (67, .inl (g_aload 5 69)) :: (69, .inl (g_iload 1 70)) :: (70, .inl (g_call 108 true)) :: (73, .inl (g_bin gSub 74)) :: (74, .inl (g_istore2 6 76)) :: (76, .inl (g_iload 6 78)) :: gi_171_p1
set_option maxRecDepth 1000000 in
theorem giq_171 : gi_171 = (pT M_171).map (mkT []) := rfl
noncomputable def gi_173 : GT := [(0, .inl (g_aload 0 1)), (1, .inl (g_iload 1 2)), (2, .inl (g_call 115 true)), (5, .inl (g_astore2 3 6)), (6, .inl (g_iload 2 7)), (7, .inl (g_if .eq 18 10)), (10, .inl (g_aload 0 11)), (11, .inl (g_get 9 0 14)), (14, .inl (g_get 0 0 17)), (17, .inl (g_iret)), (18, .inl (g_aload 0 19)), (19, .inl (g_get 9 0 22)), (22, .inl (g_get 0 0 25)), (25, .inl (g_aload 3 26)), (26, .inl (g_get 1 5 29)), (29, .inl (g_push (.inl (.ofNat 1)) 30)), (30, .inl (g_bin gSub 31)), (31, .inl (g_bin gMul 32)), (32, .inl (g_aload 0 33)), (33, .inl (g_get 9 0 36)), (36, .inl (g_get 0 0 39)), (39, .inl (g_aload 3 40)), (40, .inl (g_get 1 7 43)), (43, .inl (g_bin gMul 44)), (44, .inl (g_bin gAdd 45)), (45, .inl (g_iret))]
set_option maxRecDepth 1000000 in
theorem giq_173 : gi_173 = (pT M_173).map (mkT []) := rfl
noncomputable def gi_175 : GT := [(0, .inl (g_iload 1 1)), (1, .inl (g_call 74 false)), (4, .inl (g_iload 2 5)), (5, .inl (g_call 151 false)), (8, .inl (g_aload 0 9)), (9, .inl (g_iload 1 10)), (10, .inl (g_call 115 true)), (13, .inl (g_astore2 4 15)), (15, .inl (g_aload 4 17)), (17, .inl (g_iload 2 18)), (18, .inl (g_call 176 true)), (21, .inl (g_istore2 5 23)), (23, .inl (g_iload 3 24)), (24, .inl (g_if .ne 30 27)), (27, .inl (g_iload 5 29)), (29, .inl (g_iret)), (30, .inl (g_iload 5 32)), (32, .inl (g_aload 0 33)), (33, .inl (g_get 9 0 36)), (36, .inl (g_call 42 true)), (39, .inl (g_bin gMul 40)), (40, .inl (g_aload 4 42)), (42, .inl (g_iload 2 43)), (43, .inl (g_iload 5 45)), (45, .inl (g_bin gSub 46)), (46, .inl (g_call 155 true)), (49, .inl (g_bin gAdd 50)), (50, .inl (g_iret))]
set_option maxRecDepth 1000000 in
theorem giq_175 : gi_175 = (pT M_175).map (mkT []) := rfl
noncomputable def gi_176 : GT := [(0, .inl (g_iload 1 1)), (1, .inl (g_aload 0 2)), (2, .inl (g_get 1 5 5)), (5, .inl (g_icmp .lt 15 8)), (8, .inl (g_aload 0 9)), (9, .inl (g_get 1 7 12)), (12, .inl (g_if .gt 17 15)), (15, .inl (g_iload 1 16)), (16, .inl (g_iret)), (17, .inl (g_iload 1 18)), (18, .inl (g_aload 0 19)), (19, .inl (g_get 1 5 22)), (22, .inl (g_bin gSub 23)), (23, .inl (g_push (.inl (.ofNat 1)) 24)), (24, .inl (g_bin gAdd 25)), (25, .inl (g_aload 0 26)), (26, .inl (g_get 1 7 29)), (29, .inl (g_bin gRem 30)), (30, .inl (g_iret))]
set_option maxRecDepth 1000000 in
theorem giq_176 : gi_176 = (pT M_176).map (mkT []) := rfl
noncomputable def gi_183 : GT := [(0, .inl (g_aload 0 1)), (1, .inl (g_iload 1 2)), (2, .inl (g_call 57 true)), (5, .inl (g_iload 2 6)), (6, .inl (g_call 74 false)), (9, .inl (g_iload 3 10)), (10, .inl (g_push (.inl (.ofNat 1)) 11)), (11, .inl (g_icmp .lt 20 14)), (14, .inl (g_iload 3 15)), (15, .inl (g_push (.inl (.ofNat 40)) 17)), (17, .inl (g_icmp .le 31 20)), (20, .inl (g_throw 0)), (23, .inl (g_dup 24)), (24, .inl (g_no)), (27, .inl (g_no)), (30, .inl (g_no)), (31, .inl (g_aload 0 32)), (32, .inl (g_get 9 8 35)), (35, .inl (g_aload 0 36)), (36, .inl (g_iload 2 37)), (37, .inl (g_call 115 true)), (40, .inl (g_iload 3 41)), (41, .inl (g_call 179 true)), (44, .inl (g_pop 45)), (45, .inl (g_aload 0 46)), (46, .inl (g_get 9 8 49)), (49, .inl (g_get 8 0 52)), (52, .inl (g_iload 1 53)), (53, .inl (g_iald 54)), (54, .inl (g_iret))]
set_option maxRecDepth 1000000 in
theorem giq_183 : gi_183 = (pT M_183).map (mkT []) := rfl
noncomputable def gi_186_p1 : GT := [(66, .inl (g_push (.inl (.negSucc 0)) 67)), (67, .inl (g_goto 72)), (70, .inl (g_iload 5 72)), (72, .inl (g_iret))]
noncomputable def gi_186 : GT := (0, .inl (g_iload 3 1)) :: (1, .inl (g_aload 0 2)) :: (2, .inl (g_get 1 10 5)) :: (5, .inl (g_iload 1 6)) :: (6, .inl (g_iald 7)) :: (7, .inl (g_icmp .lt 19 10)) :: (10, .inl (g_aload 0 11)) :: (11, .inl (g_get 1 13 14)) :: (14, .inl (g_iload 1 15)) :: (15, .inl (g_iald 16)) :: (16, .inl (g_if .gt 21 19)) :: (19, .inl (g_push (.inl (.negSucc 0)) 20)) :: (20, .inl (g_iret)) :: (21, .inl (g_iload 4 23)) :: (23, .inl (g_push (.inl (.ofNat 1)) 24)) :: (24, .inl (g_bin gSub 25)) :: (25, .inl (g_iload 3 26)) :: (26, .inl (g_aload 0 27)) :: (27, .inl (g_get 1 10 30)) :: (30, .inl (g_iload 1 31)) :: (31, .inl (g_iald 32)) :: (32, .inl (g_bin gSub 33)) :: (33, .inl (g_aload 0 34)) :: (34, .inl (g_get 1 3 37)) :: (37, .inl (g_bin gDiv 38)) :: (38, .inl (g_call 29 false)) :: (41, .inl (g_istore2 5 43)) :: (43, .inl (g_iload 5 45)) :: (45, .inl (g_iload 5 47)) :: (47, .inl (g_iload 2 48)) :: (48, .inl (g_bin gSub 49)) :: (49, .inl (g_aload 0 50)) :: (50, .inl (g_get 1 13 53)) :: (53, .inl (g_iload 1 54)) :: (54, .inl (g_iald 55)) :: (55, .inl (g_call 94 false)) :: (58, .inl (g_bin gSub 59)) :: (59, .inl (g_istore2 5 61)) :: (61, .inl (g_iload 5 63)) :: (63, .inl (g_if .ge 70 66)) :: gi_186_p1
set_option maxRecDepth 1000000 in
theorem giq_186 : gi_186 = (pT M_186).map (mkT []) := rfl
noncomputable def gi_188 : GT := [(0, .inl (g_aload 0 1)), (1, .inl (g_call 69 true)), (4, .inl (g_iload 1 5)), (5, .inl (g_if .eq 18 8)), (8, .inl (g_aload 0 9)), (9, .inl (g_get 9 1 12)), (12, .inl (g_get 7 6 15)), (15, .inl (g_goto 25)), (18, .inl (g_aload 0 19)), (19, .inl (g_get 9 1 22)), (22, .inl (g_get 7 5 25)), (25, .inl (g_iret))]
set_option maxRecDepth 1000000 in
theorem giq_188 : gi_188 = (pT M_188).map (mkT []) := rfl
noncomputable def gi_190 : GT := [(0, .inl (g_aload 0 1)), (1, .inl (g_call 69 true)), (4, .inl (g_aload 0 5)), (5, .inl (g_get 9 1 8)), (8, .inl (g_get 7 7 11)), (11, .inl (g_iret))]
set_option maxRecDepth 1000000 in
theorem giq_190 : gi_190 = (pT M_190).map (mkT []) := rfl
noncomputable def gi_192 : GT := [(0, .inl (g_iload 1 1)), (1, .inl (g_push (.inl (.ofNat 1)) 2)), (2, .inl (g_icmp .lt 10 5)), (5, .inl (g_iload 1 6)), (6, .inl (g_push (.inl (.ofNat 4)) 7)), (7, .inl (g_icmp .le 21 10)), (10, .inl (g_throw 0)), (13, .inl (g_dup 14)), (14, .inl (g_no)), (17, .inl (g_no)), (20, .inl (g_no)), (21, .inl (g_aload 0 22)), (22, .inl (g_call 69 true)), (25, .inl (g_aload 0 26)), (26, .inl (g_iload 1 27)), (27, .inl (g_call 41 true)), (30, .inl (g_iret))]
set_option maxRecDepth 1000000 in
theorem giq_192 : gi_192 = (pT M_192).map (mkT []) := rfl
noncomputable def gi_196_p1 : GT := [(82, .inl (g_iret))]
noncomputable def gi_196 : GT := (0, .inl (g_aload 0 1)) :: (1, .inl (g_iload 1 2)) :: (2, .inl (g_call 60 true)) :: (5, .inl (g_aload 0 6)) :: (6, .inl (g_call 69 true)) :: (9, .inl (g_aload 0 10)) :: (10, .inl (g_get 9 0 13)) :: (13, .inl (g_get 0 5 16)) :: (16, .inl (g_iload 1 17)) :: (17, .inl (g_iald 18)) :: (18, .inl (g_push (.inl (.ofNat 1)) 19)) :: (19, .inl (g_icmp .ne 33 22)) :: (22, .inl (g_throw 1)) :: (25, .inl (g_dup 26)) :: (26, .inl (g_no)) :: (29, .inl (g_no)) :: (32, .inl (g_no)) :: (33, .inl (g_aload 0 34)) :: (34, .inl (g_get 9 2 37)) :: (37, .inl (g_aload 0 38)) :: (38, .inl (g_get 9 0 41)) :: (41, .inl (g_iload 1 42)) :: (42, .inl (g_call 17 true)) :: (45, .inl (g_aload 0 46)) :: (46, .inl (g_get 9 2 49)) :: (49, .inl (g_aload 0 50)) :: (50, .inl (g_get 9 0 53)) :: (53, .inl (g_get 0 0 56)) :: (56, .inl (g_call 26 true)) :: (59, .inl (g_push (.inl (.ofNat 1)) 60)) :: (60, .inl (g_aload 0 61)) :: (61, .inl (g_get 9 2 64)) :: (64, .inl (g_call 32 true)) :: (67, .inl (g_aload 0 68)) :: (68, .inl (g_get 9 0 71)) :: (71, .inl (g_push (.inl (.negSucc 0)) 72)) :: (72, .inl (g_push (.inl (.ofNat 1)) 73)) :: (73, .inl (g_call 35 true)) :: (76, .inl (g_call 40 false)) :: (79, .inl (g_call 40 false)) :: gi_196_p1
set_option maxRecDepth 1000000 in
theorem giq_196 : gi_196 = (pT M_196).map (mkT []) := rfl
noncomputable def gi_198 : GT := [(0, .inl (g_aload 0 1)), (1, .inl (g_call 69 true)), (4, .inl (g_aload 0 5)), (5, .inl (g_iload 1 6)), (6, .inl (g_call 70 true)), (9, .inl (g_aload 0 10)), (10, .inl (g_get 9 2 13)), (13, .inl (g_aload 0 14)), (14, .inl (g_get 9 1 17)), (17, .inl (g_iload 1 18)), (18, .inl (g_call 199 true)), (21, .inl (g_aload 0 22)), (22, .inl (g_get 9 2 25)), (25, .inl (g_aload 0 26)), (26, .inl (g_get 9 0 29)), (29, .inl (g_get 0 0 32)), (32, .inl (g_call 26 true)), (35, .inl (g_aload 0 36)), (36, .inl (g_get 9 2 39)), (39, .inl (g_call 32 true)), (42, .inl (g_iret))]
set_option maxRecDepth 1000000 in
theorem giq_198 : gi_198 = (pT M_198).map (mkT []) := rfl
noncomputable def gi_201 : GT := [(0, .inl (g_aload 0 1)), (1, .inl (g_iload 1 2)), (2, .inl (g_call 63 true)), (5, .inl (g_aload 0 6)), (6, .inl (g_iload 2 7)), (7, .inl (g_call 115 true)), (10, .inl (g_pop 11)), (11, .inl (g_iload 2 12)), (12, .inl (g_aload 0 13)), (13, .inl (g_get 9 0 16)), (16, .inl (g_get 0 7 19)), (19, .inl (g_iload 1 20)), (20, .inl (g_iald 21)), (21, .inl (g_bin gMul 22)), (22, .inl (g_aload 0 23)), (23, .inl (g_get 9 0 26)), (26, .inl (g_iload 1 27)), (27, .inl (g_call 36 true)), (30, .inl (g_bin gSub 31)), (31, .inl (g_iret))]
set_option maxRecDepth 1000000 in
theorem giq_201 : gi_201 = (pT M_201).map (mkT []) := rfl
noncomputable def gi_203 : GT := [(0, .inl (g_aload 0 1)), (1, .inl (g_iload 1 2)), (2, .inl (g_call 57 true)), (5, .inl (g_aload 0 6)), (6, .inl (g_iload 2 7)), (7, .inl (g_call 73 true)), (10, .inl (g_iload 3 11)), (11, .inl (g_if .eq 29 14)), (14, .inl (g_aload 0 15)), (15, .inl (g_get 9 3 18)), (18, .inl (g_aload 0 19)), (19, .inl (g_get 9 0 22)), (22, .inl (g_iload 1 23)), (23, .inl (g_call 204 true)), (26, .inl (g_goto 37)), (29, .inl (g_aload 0 30)), (30, .inl (g_get 9 3 33)), (33, .inl (g_iload 1 34)), (34, .inl (g_call 205 true)), (37, .inl (g_iret))]
set_option maxRecDepth 1000000 in
theorem giq_203 : gi_203 = (pT M_203).map (mkT []) := rfl
noncomputable def gi_207 : GT := [(0, .inl (g_aload 0 1)), (1, .inl (g_iload 1 2)), (2, .inl (g_call 63 true)), (5, .inl (g_iload 3 6)), (6, .inl (g_call 74 false)), (9, .inl (g_iload 2 10)), (10, .inl (g_iload 3 11)), (11, .inl (g_call 118 false)), (14, .inl (g_aload 0 15)), (15, .inl (g_iload 3 16)), (16, .inl (g_call 115 true)), (19, .inl (g_aload 0 20)), (20, .inl (g_get 9 0 23)), (23, .inl (g_iload 1 24)), (24, .inl (g_iload 2 25)), (25, .inl (g_call 208 true)), (28, .inl (g_iret))]
set_option maxRecDepth 1000000 in
theorem giq_207 : gi_207 = (pT M_207).map (mkT []) := rfl
noncomputable def gi_210 : GT := [(0, .inl (g_iload 1 1)), (1, .inl (g_call 74 false)), (4, .inl (g_iload 2 5)), (5, .inl (g_call 151 false)), (8, .inl (g_aload 0 9)), (9, .inl (g_iload 1 10)), (10, .inl (g_call 115 true)), (13, .inl (g_iload 2 14)), (14, .inl (g_call 211 true)), (17, .inl (g_iret))]
set_option maxRecDepth 1000000 in
theorem giq_210 : gi_210 = (pT M_210).map (mkT []) := rfl
noncomputable def gi_214 : GT := [(0, .inl (g_iload 1 1)), (1, .inl (g_call 74 false)), (4, .inl (g_iload 2 5)), (5, .inl (g_call 151 false)), (8, .inl (g_iload 3 9)), (9, .inl (g_push (.inl (.ofNat 1)) 10)), (10, .inl (g_icmp .lt 32 13)), (13, .inl (g_iload 3 14)), (14, .inl (g_push (.inl (.ofNat 9)) 16)), (16, .inl (g_icmp .gt 32 19)), (19, .inl (g_iload 4 21)), (21, .inl (g_push (.inl (.ofNat 1)) 22)), (22, .inl (g_icmp .lt 32 25)), (25, .inl (g_iload 4 27)), (27, .inl (g_push (.inl (.ofNat 9)) 29)), (29, .inl (g_icmp .le 43 32)), (32, .inl (g_throw 0)), (35, .inl (g_dup 36)), (36, .inl (g_no)), (39, .inl (g_no)), (42, .inl (g_no)), (43, .inl (g_aload 0 44)), (44, .inl (g_get 9 9 47)), (47, .inl (g_aload 0 48)), (48, .inl (g_get 9 0 51)), (51, .inl (g_aload 0 52)), (52, .inl (g_iload 1 53)), (53, .inl (g_call 115 true)), (56, .inl (g_iload 2 57)), (57, .inl (g_iload 3 58)), (58, .inl (g_iload 4 60)), (60, .inl (g_call 215 true)), (63, .inl (g_iret))]
set_option maxRecDepth 1000000 in
theorem giq_214 : gi_214 = (pT M_214).map (mkT []) := rfl
noncomputable def gi_217_p1 : GT := [(71, .inl (g_aload 0 72)), (72, .inl (g_get 3 1 75)), (75, .inl (g_if .le 103 78)), (78, .inl (g_iload 4 80)), (80, .inl (g_aload 1 81)), (81, .inl (g_iload 3 82)), (82, .inl (g_call 25 true)), (85, .inl (g_bin gAdd 86)), (86, .inl (g_aload 0 87)), (87, .inl (g_get 3 1 90)), (90, .inl (g_bin gRem 91)), (91, .inl (g_if .ne 103 94)), (94, .inl (g_iload 6 96)), (96, .inl (g_aload 0 97)), (97, .inl (g_get 3 2 100)), (100, .inl (g_bin gAdd 101)), (101, .inl (g_istore2 6 103)), (103, .inl (g_iload 6 105)), (105, .inl (g_iret))]
noncomputable def gi_217 : GT := (0, .inl (g_aload 2 1)) :: (1, .inl (g_get 1 9 4)) :: (4, .inl (g_iload 3 5)) :: (5, .inl (g_iald 6)) :: (6, .inl (g_aload 2 7)) :: (7, .inl (g_get 1 3 10)) :: (10, .inl (g_iload 4 12)) :: (12, .inl (g_bin gMul 13)) :: (13, .inl (g_bin gAdd 14)) :: (14, .inl (g_istore2 5 16)) :: (16, .inl (g_iload 5 18)) :: (18, .inl (g_if .lt 29 21)) :: (21, .inl (g_iload 5 23)) :: (23, .inl (g_push (.inl (.ofNat 1024)) 26)) :: (26, .inl (g_icmp .lt 31 29)) :: (29, .inl (g_push (.inl (.ofNat 0)) 30)) :: (30, .inl (g_iret)) :: (31, .inl (g_iload 5 33)) :: (33, .inl (g_aload 0 34)) :: (34, .inl (g_get 3 0 37)) :: (37, .inl (g_iload 5 39)) :: (39, .inl (g_iald 40)) :: (40, .inl (g_bin gAdd 41)) :: (41, .inl (g_aload 1 42)) :: (42, .inl (g_iload 3 43)) :: (43, .inl (g_call 19 true)) :: (46, .inl (g_bin gAdd 47)) :: (47, .inl (g_istore2 6 49)) :: (49, .inl (g_aload 1 50)) :: (50, .inl (g_get 0 1 53)) :: (53, .inl (g_iload 3 54)) :: (54, .inl (g_iald 55)) :: (55, .inl (g_push (.inl (.ofNat 4)) 56)) :: (56, .inl (g_icmp .ne 63 59)) :: (59, .inl (g_push (.inl (.ofNat 1)) 60)) :: (60, .inl (g_goto 64)) :: (63, .inl (g_push (.inl (.ofNat 0)) 64)) :: (64, .inl (g_istore2 7 66)) :: (66, .inl (g_iload 7 68)) :: (68, .inl (g_if .eq 103 71)) :: gi_217_p1
set_option maxRecDepth 1000000 in
theorem giq_217 : gi_217 = (pT M_217).map (mkT []) := rfl
noncomputable def gi_221 : GT := [(0, .inl (g_aload 0 1)), (1, .inl (g_iload 1 2)), (2, .inl (g_call 63 true)), (5, .inl (g_aload 0 6)), (6, .inl (g_call 69 true)), (9, .inl (g_push (.inl (.ofNat 1)) 10)), (10, .inl (g_aload 0 11)), (11, .inl (g_get 9 1 14)), (14, .inl (g_call 32 true)), (17, .inl (g_aload 0 18)), (18, .inl (g_get 9 0 21)), (21, .inl (g_iload 1 22)), (22, .inl (g_push (.inl (.ofNat 1)) 23)), (23, .inl (g_call 35 true)), (26, .inl (g_call 40 false)), (29, .inl (g_call 40 false)), (32, .inl (g_iret))]
set_option maxRecDepth 1000000 in
theorem giq_221 : gi_221 = (pT M_221).map (mkT []) := rfl
noncomputable def gi_227 : GT := [(0, .inl (g_iload 0 1)), (1, .inl (g_iload 1 2)), (2, .inl (g_icmp .lt 14 5)), (5, .inl (g_iload 0 6)), (6, .inl (g_iload 2 7)), (7, .inl (g_icmp .gt 14 10)), (10, .inl (g_push (.inl (.ofNat 1)) 11)), (11, .inl (g_goto 15)), (14, .inl (g_push (.inl (.ofNat 0)) 15)), (15, .inl (g_iret))]
set_option maxRecDepth 1000000 in
theorem giq_227 : gi_227 = (pT M_227).map (mkT []) := rfl
noncomputable def gi_228 : GT := [(0, .inl (g_iload 0 1)), (1, .inl (g_push (.inl (.negSucc 1)) 3)), (3, .inl (g_icmp .ne 17 6)), (6, .inl (g_iload 1 7)), (7, .inl (g_push (.inl (.negSucc 98)) 9)), (9, .inl (g_push (.inl (.ofNat 99)) 11)), (11, .inl (g_call 227 false)), (14, .inl (g_goto 46)), (17, .inl (g_iload 0 18)), (18, .inl (g_push (.inl (.negSucc 0)) 19)), (19, .inl (g_icmp .eq 41 22)), (22, .inl (g_iload 0 23)), (23, .inl (g_push (.inl (.ofNat 0)) 24)), (24, .inl (g_push (.inl (.ofNat 7)) 26)), (26, .inl (g_call 227 false)), (29, .inl (g_if .eq 45 32)), (32, .inl (g_iload 1 33)), (33, .inl (g_push (.inl (.ofNat 0)) 34)), (34, .inl (g_push (.inl (.ofNat 3)) 35)), (35, .inl (g_call 227 false)), (38, .inl (g_if .eq 45 41)), (41, .inl (g_push (.inl (.ofNat 1)) 42)), (42, .inl (g_goto 46)), (45, .inl (g_push (.inl (.ofNat 0)) 46)), (46, .inl (g_iret))]
set_option maxRecDepth 1000000 in
theorem giq_228 : gi_228 = (pT M_228).map (mkT []) := rfl
noncomputable def gi_229_p1 : GT := [(68, .inl (g_bin gAdd 69)), (69, .inl (g_put 10 1 72)), (72, .inl (g_aload 0 73)), (73, .inl (g_get 10 1 76)), (76, .inl (g_push (.inl (.ofNat 1)) 77)), (77, .inl (g_bin gSub 78)), (78, .inl (g_iret))]
noncomputable def gi_229 : GT := (0, .inl (g_aload 0 1)) :: (1, .inl (g_get 10 2 4)) :: (4, .inl (g_aload 0 5)) :: (5, .inl (g_get 10 1 8)) :: (8, .inl (g_iload 1 9)) :: (9, .inl (g_iast 10)) :: (10, .inl (g_aload 0 11)) :: (11, .inl (g_get 10 3 14)) :: (14, .inl (g_aload 0 15)) :: (15, .inl (g_get 10 1 18)) :: (18, .inl (g_iload 2 19)) :: (19, .inl (g_iast 20)) :: (20, .inl (g_aload 0 21)) :: (21, .inl (g_get 10 4 24)) :: (24, .inl (g_aload 0 25)) :: (25, .inl (g_get 10 1 28)) :: (28, .inl (g_iload 3 29)) :: (29, .inl (g_iast 30)) :: (30, .inl (g_aload 0 31)) :: (31, .inl (g_get 10 5 34)) :: (34, .inl (g_aload 0 35)) :: (35, .inl (g_get 10 1 38)) :: (38, .inl (g_iload 4 40)) :: (40, .inl (g_iast 41)) :: (41, .inl (g_aload 0 42)) :: (42, .inl (g_get 10 6 45)) :: (45, .inl (g_aload 0 46)) :: (46, .inl (g_get 10 1 49)) :: (49, .inl (g_iload 5 51)) :: (51, .inl (g_iast 52)) :: (52, .inl (g_aload 0 53)) :: (53, .inl (g_get 10 7 56)) :: (56, .inl (g_aload 0 57)) :: (57, .inl (g_get 10 1 60)) :: (60, .inl (g_push (.inl (.ofNat 0)) 61)) :: (61, .inl (g_iast 62)) :: (62, .inl (g_aload 0 63)) :: (63, .inl (g_dup 64)) :: (64, .inl (g_get 10 1 67)) :: (67, .inl (g_push (.inl (.ofNat 1)) 68)) :: gi_229_p1
set_option maxRecDepth 1000000 in
theorem giq_229 : gi_229 = (pT M_229).map (mkT []) := rfl
noncomputable def gi_231 : GT := [(0, .inl (g_iload 0 1)), (1, .inl (g_push (.inl (.ofNat 0)) 2)), (2, .inl (g_push (.inl (.ofNat 1)) 3)), (3, .inl (g_call 227 false)), (6, .inl (g_if .eq 23 9)), (9, .inl (g_iload 1 10)), (10, .inl (g_push (.inl (.ofNat 0)) 11)), (11, .inl (g_push (.inl (.ofNat 7)) 13)), (13, .inl (g_call 227 false)), (16, .inl (g_if .eq 23 19)), (19, .inl (g_push (.inl (.ofNat 1)) 20)), (20, .inl (g_goto 24)), (23, .inl (g_push (.inl (.ofNat 0)) 24)), (24, .inl (g_iret))]
set_option maxRecDepth 1000000 in
theorem giq_231 : gi_231 = (pT M_231).map (mkT []) := rfl
noncomputable def gi_235 : GT := [(0, .inl (g_iload 1 1)), (1, .inl (g_push (.inl (.ofNat 0)) 2)), (2, .inl (g_aload 0 3)), (3, .inl (g_get 10 1 6)), (6, .inl (g_push (.inl (.ofNat 1)) 7)), (7, .inl (g_bin gSub 8)), (8, .inl (g_call 227 false)), (11, .inl (g_iret))]
set_option maxRecDepth 1000000 in
theorem giq_235 : gi_235 = (pT M_235).map (mkT []) := rfl
noncomputable def gi_241 : GT := [(0, .inl (g_aload 0 1)), (1, .inl (g_get 10 2 4)), (4, .inl (g_iload 1 5)), (5, .inl (g_iald 6)), (6, .inl (g_push (.inl (.ofNat 4)) 7)), (7, .inl (g_icmp .ne 14 10)), (10, .inl (g_push (.inl (.ofNat 0)) 11)), (11, .inl (g_goto 29)), (14, .inl (g_aload 0 15)), (15, .inl (g_get 10 2 18)), (18, .inl (g_iload 1 19)), (19, .inl (g_iald 20)), (20, .inl (g_push (.inl (.ofNat 5)) 21)), (21, .inl (g_icmp .ne 28 24)), (24, .inl (g_push (.inl (.ofNat 1)) 25)), (25, .inl (g_goto 29)), (28, .inl (g_push (.inl (.ofNat 2)) 29)), (29, .inl (g_iret))]
set_option maxRecDepth 1000000 in
theorem giq_241 : gi_241 = (pT M_241).map (mkT []) := rfl
noncomputable def gi_242 : GT := [(0, .inl (g_iload 2 1)), (1, .inl (g_if .ne 13 4)), (4, .inl (g_aload 0 5)), (5, .inl (g_get 10 3 8)), (8, .inl (g_iload 1 9)), (9, .inl (g_iald 10)), (10, .inl (g_goto 19)), (13, .inl (g_aload 0 14)), (14, .inl (g_get 10 5 17)), (17, .inl (g_iload 1 18)), (18, .inl (g_iald 19)), (19, .inl (g_iret))]
set_option maxRecDepth 1000000 in
theorem giq_242 : gi_242 = (pT M_242).map (mkT []) := rfl
noncomputable def gi_243 : GT := [(0, .inl (g_iload 2 1)), (1, .inl (g_if .ne 13 4)), (4, .inl (g_aload 0 5)), (5, .inl (g_get 10 4 8)), (8, .inl (g_iload 1 9)), (9, .inl (g_iald 10)), (10, .inl (g_goto 19)), (13, .inl (g_aload 0 14)), (14, .inl (g_get 10 6 17)), (17, .inl (g_iload 1 18)), (18, .inl (g_iald 19)), (19, .inl (g_iret))]
set_option maxRecDepth 1000000 in
theorem giq_243 : gi_243 = (pT M_243).map (mkT []) := rfl
noncomputable def gi_246 : GT := [(0, .inl (g_aload 0 1)), (1, .inl (g_get 10 9 4)), (4, .inl (g_aload 0 5)), (5, .inl (g_get 10 2 8)), (8, .inl (g_iload 1 9)), (9, .inl (g_iald 10)), (10, .inl (g_iald 11)), (11, .inl (g_iret))]
set_option maxRecDepth 1000000 in
theorem giq_246 : gi_246 = (pT M_246).map (mkT []) := rfl
noncomputable def gi_248_p1 : GT := [(67, .inl (g_iload 1 68)), (68, .inl (g_iald 69)), (69, .inl (g_iload 4 71)), (71, .inl (g_icmp .le 78 74)), (74, .inl (g_push (.inl (.ofNat 1)) 75)), (75, .inl (g_goto 98)), (78, .inl (g_push (.inl (.ofNat 0)) 79)), (79, .inl (g_goto 98)), (82, .inl (g_aload 0 83)), (83, .inl (g_get 10 16 86)), (86, .inl (g_iload 1 87)), (87, .inl (g_iald 88)), (88, .inl (g_iload 5 90)), (90, .inl (g_icmp .le 97 93)), (93, .inl (g_push (.inl (.ofNat 1)) 94)), (94, .inl (g_goto 98)), (97, .inl (g_push (.inl (.ofNat 0)) 98)), (98, .inl (g_iret))]
noncomputable def gi_248 : GT := (0, .inl (g_aload 0 1)) :: (1, .inl (g_get 10 13 4)) :: (4, .inl (g_iload 1 5)) :: (5, .inl (g_iald 6)) :: (6, .inl (g_iload 2 7)) :: (7, .inl (g_icmp .eq 26 10)) :: (10, .inl (g_aload 0 11)) :: (11, .inl (g_get 10 13 14)) :: (14, .inl (g_iload 1 15)) :: (15, .inl (g_iald 16)) :: (16, .inl (g_iload 2 17)) :: (17, .inl (g_icmp .le 24 20)) :: (20, .inl (g_push (.inl (.ofNat 1)) 21)) :: (21, .inl (g_goto 25)) :: (24, .inl (g_push (.inl (.ofNat 0)) 25)) :: (25, .inl (g_iret)) :: (26, .inl (g_aload 0 27)) :: (27, .inl (g_get 10 14 30)) :: (30, .inl (g_iload 1 31)) :: (31, .inl (g_iald 32)) :: (32, .inl (g_iload 3 33)) :: (33, .inl (g_icmp .eq 52 36)) :: (36, .inl (g_aload 0 37)) :: (37, .inl (g_get 10 14 40)) :: (40, .inl (g_iload 1 41)) :: (41, .inl (g_iald 42)) :: (42, .inl (g_iload 3 43)) :: (43, .inl (g_icmp .le 50 46)) :: (46, .inl (g_push (.inl (.ofNat 1)) 47)) :: (47, .inl (g_goto 51)) :: (50, .inl (g_push (.inl (.ofNat 0)) 51)) :: (51, .inl (g_iret)) :: (52, .inl (g_aload 0 53)) :: (53, .inl (g_get 10 15 56)) :: (56, .inl (g_iload 1 57)) :: (57, .inl (g_iald 58)) :: (58, .inl (g_iload 4 60)) :: (60, .inl (g_icmp .eq 82 63)) :: (63, .inl (g_aload 0 64)) :: (64, .inl (g_get 10 15 67)) :: gi_248_p1
set_option maxRecDepth 1000000 in
theorem giq_248 : gi_248 = (pT M_248).map (mkT []) := rfl
noncomputable def gi_249 : GT := [(0, .inl (g_aload 0 1)), (1, .inl (g_get 10 2 4)), (4, .inl (g_iload 1 5)), (5, .inl (g_iald 6)), (6, .inl (g_push (.inl (.ofNat 4)) 7)), (7, .inl (g_icmp .eq 20 10)), (10, .inl (g_aload 0 11)), (11, .inl (g_get 10 2 14)), (14, .inl (g_iload 1 15)), (15, .inl (g_iald 16)), (16, .inl (g_push (.inl (.ofNat 5)) 17)), (17, .inl (g_icmp .ne 24 20)), (20, .inl (g_push (.inl (.ofNat 1)) 21)), (21, .inl (g_goto 25)), (24, .inl (g_push (.inl (.ofNat 0)) 25)), (25, .inl (g_iret))]
set_option maxRecDepth 1000000 in
theorem giq_249 : gi_249 = (pT M_249).map (mkT []) := rfl
noncomputable def gi_250 : GT := [(0, .inl (g_aload 0 1)), (1, .inl (g_get 10 2 4)), (4, .inl (g_iload 1 5)), (5, .inl (g_iald 6)), (6, .inl (g_push (.inl (.ofNat 4)) 7)), (7, .inl (g_icmp .ne 19 10)), (10, .inl (g_aload 0 11)), (11, .inl (g_get 10 3 14)), (14, .inl (g_iload 1 15)), (15, .inl (g_iald 16)), (16, .inl (g_goto 25)), (19, .inl (g_aload 0 20)), (20, .inl (g_get 10 5 23)), (23, .inl (g_iload 1 24)), (24, .inl (g_iald 25)), (25, .inl (g_iret))]
set_option maxRecDepth 1000000 in
theorem giq_250 : gi_250 = (pT M_250).map (mkT []) := rfl
noncomputable def gi_251 : GT := [(0, .inl (g_aload 0 1)), (1, .inl (g_get 10 2 4)), (4, .inl (g_iload 1 5)), (5, .inl (g_iald 6)), (6, .inl (g_push (.inl (.ofNat 4)) 7)), (7, .inl (g_icmp .ne 19 10)), (10, .inl (g_aload 0 11)), (11, .inl (g_get 10 4 14)), (14, .inl (g_iload 1 15)), (15, .inl (g_iald 16)), (16, .inl (g_goto 25)), (19, .inl (g_aload 0 20)), (20, .inl (g_get 10 6 23)), (23, .inl (g_iload 1 24)), (24, .inl (g_iald 25)), (25, .inl (g_iret))]
set_option maxRecDepth 1000000 in
theorem giq_251 : gi_251 = (pT M_251).map (mkT []) := rfl
noncomputable def gi_253 : GT := [(0, .inl (g_iload 0 1)), (1, .inl (g_push (.inl (.ofNat 1)) 2)), (2, .inl (g_push (.inl (.ofNat 12)) 4)), (4, .inl (g_call 227 false)), (7, .inl (g_iret))]
set_option maxRecDepth 1000000 in
theorem giq_253 : gi_253 = (pT M_253).map (mkT []) := rfl
noncomputable def gi_254 : GT := [(0, .inl (g_aload 0 1)), (1, .inl (g_call 240 true)), (4, .inl (g_if .ne 9 7)), (7, .inl (g_push (.inl (.ofNat 1)) 8)), (8, .inl (g_iret)), (9, .inl (g_aload 0 10)), (10, .inl (g_call 245 true)), (13, .inl (g_iload 1 14)), (14, .inl (g_aload 0 15)), (15, .inl (g_call 255 true)), (18, .inl (g_icmp .ge 25 21)), (21, .inl (g_push (.inl (.ofNat 1)) 22)), (22, .inl (g_goto 26)), (25, .inl (g_push (.inl (.ofNat 0)) 26)), (26, .inl (g_iret))]
set_option maxRecDepth 1000000 in
theorem giq_254 : gi_254 = (pT M_254).map (mkT []) := rfl
noncomputable def gi_257 : GT := [(0, .inl (g_iload 0 1)), (1, .inl (g_iload 1 2)), (2, .inl (g_icmp .le 9 5)), (5, .inl (g_iload 0 6)), (6, .inl (g_goto 10)), (9, .inl (g_iload 1 10)), (10, .inl (g_iret))]
set_option maxRecDepth 1000000 in
theorem giq_257 : gi_257 = (pT M_257).map (mkT []) := rfl
noncomputable def gi_258 : GT := [(0, .inl (g_iload 0 1)), (1, .inl (g_iload 1 2)), (2, .inl (g_icmp .ge 9 5)), (5, .inl (g_iload 0 6)), (6, .inl (g_goto 10)), (9, .inl (g_iload 1 10)), (10, .inl (g_iret))]
set_option maxRecDepth 1000000 in
theorem giq_258 : gi_258 = (pT M_258).map (mkT []) := rfl
noncomputable def gi_264 : GT := [(0, .inl (g_aload 0 1)), (1, .inl (g_get 10 8 4)), (4, .inl (g_aload 0 5)), (5, .inl (g_get 10 2 8)), (8, .inl (g_iload 1 9)), (9, .inl (g_iald 10)), (10, .inl (g_iald 11)), (11, .inl (g_iret))]
set_option maxRecDepth 1000000 in
theorem giq_264 : gi_264 = (pT M_264).map (mkT []) := rfl
noncomputable def gi_265 : GT := [(0, .inl (g_aload 0 1)), (1, .inl (g_get 10 10 4)), (4, .inl (g_aload 0 5)), (5, .inl (g_get 10 2 8)), (8, .inl (g_iload 1 9)), (9, .inl (g_iald 10)), (10, .inl (g_iald 11)), (11, .inl (g_iret))]
set_option maxRecDepth 1000000 in
theorem giq_265 : gi_265 = (pT M_265).map (mkT []) := rfl
noncomputable def gi_268 : GT := [(0, .inl (g_aload 0 1)), (1, .inl (g_iload 1 2)), (2, .inl (g_call 254 true)), (5, .inl (g_if .eq 10 8)), (8, .inl (g_push (.inl (.ofNat 0)) 9)), (9, .inl (g_iret)), (10, .inl (g_aload 0 11)), (11, .inl (g_iload 1 12)), (12, .inl (g_call 256 true)), (15, .inl (g_aload 0 16)), (16, .inl (g_iload 1 17)), (17, .inl (g_call 269 true)), (20, .inl (g_if .ne 25 23)), (23, .inl (g_push (.inl (.ofNat 0)) 24)), (24, .inl (g_iret)), (25, .inl (g_aload 0 26)), (26, .inl (g_iload 1 27)), (27, .inl (g_call 276 true)), (30, .inl (g_push (.inl (.ofNat 1)) 31)), (31, .inl (g_iret))]
set_option maxRecDepth 1000000 in
theorem giq_268 : gi_268 = (pT M_268).map (mkT []) := rfl
noncomputable def gi_272 : GT := [(0, .inl (g_iload 0 1)), (1, .inl (g_iload 1 2)), (2, .inl (g_bin gRem 3)), (3, .inl (g_iload 1 4)), (4, .inl (g_bin gAdd 5)), (5, .inl (g_iload 1 6)), (6, .inl (g_bin gRem 7)), (7, .inl (g_iret))]
set_option maxRecDepth 1000000 in
theorem giq_272 : gi_272 = (pT M_272).map (mkT []) := rfl
noncomputable def gi_275 : GT := [(0, .inl (g_iload 0 1)), (1, .inl (g_if .le 14 4)), (4, .inl (g_iload 0 5)), (5, .inl (g_iload 1 6)), (6, .inl (g_bin gAdd 7)), (7, .inl (g_push (.inl (.ofNat 1)) 8)), (8, .inl (g_bin gSub 9)), (9, .inl (g_iload 1 10)), (10, .inl (g_bin gDiv 11)), (11, .inl (g_goto 19)), (14, .inl (g_iload 0 15)), (15, .inl (g_neg 16)), (16, .inl (g_iload 1 17)), (17, .inl (g_bin gDiv 18)), (18, .inl (g_neg 19)), (19, .inl (g_iret))]
set_option maxRecDepth 1000000 in
theorem giq_275 : gi_275 = (pT M_275).map (mkT []) := rfl
noncomputable def gi_281 : GT := [(0, .inl (g_aload 0 1)), (1, .inl (g_iload 1 2)), (2, .inl (g_call 256 true)), (5, .inl (g_aload 0 6)), (6, .inl (g_iload 1 7)), (7, .inl (g_call 282 true)), (10, .inl (g_iret))]
set_option maxRecDepth 1000000 in
theorem giq_281 : gi_281 = (pT M_281).map (mkT []) := rfl
noncomputable def gi_287 : GT := [(0, .inl (g_aload 0 1)), (1, .inl (g_iload 1 2)), (2, .inl (g_iload 2 3)), (3, .inl (g_iload 3 4)), (4, .inl (g_push (.inl (.ofNat 1)) 5)), (5, .inl (g_call 271 true)), (8, .inl (g_aload 0 9)), (9, .inl (g_aload 0 10)), (10, .inl (g_iload 1 11)), (11, .inl (g_call 264 true)), (14, .inl (g_iload 3 15)), (15, .inl (g_call 273 true)), (18, .inl (g_if .ne 25 21)), (21, .inl (g_push (.inl (.ofNat 1)) 22)), (22, .inl (g_goto 26)), (25, .inl (g_push (.inl (.ofNat 0)) 26)), (26, .inl (g_istore2 4 28)), (28, .inl (g_aload 0 29)), (29, .inl (g_iload 1 30)), (30, .inl (g_iload 2 31)), (31, .inl (g_iload 3 32)), (32, .inl (g_push (.inl (.negSucc 0)) 33)), (33, .inl (g_call 271 true)), (36, .inl (g_iload 4 38)), (38, .inl (g_iret))]
set_option maxRecDepth 1000000 in
theorem giq_287 : gi_287 = (pT M_287).map (mkT []) := rfl
noncomputable def gi_290 : GT := [(0, .inl (g_aload 0 1)), (1, .inl (g_iload 1 2)), (2, .inl (g_aload 0 3)), (3, .inl (g_get 10 23 6)), (6, .inl (g_iload 1 7)), (7, .inl (g_iald 8)), (8, .inl (g_iload 2 9)), (9, .inl (g_push (.inl (.negSucc 0)) 10)), (10, .inl (g_call 271 true)), (13, .inl (g_aload 0 14)), (14, .inl (g_get 10 23 17)), (17, .inl (g_iload 1 18)), (18, .inl (g_push (.inl (.negSucc 0)) 19)), (19, .inl (g_iast 20)), (20, .inl (g_ret))]
set_option maxRecDepth 1000000 in
theorem giq_290 : gi_290 = (pT M_290).map (mkT []) := rfl
noncomputable def gi_291 : GT := [(0, .inl (g_aload 0 1)), (1, .inl (g_get 10 23 4)), (4, .inl (g_aload 0 5)), (5, .inl (g_get 10 14 8)), (8, .inl (g_iload 1 9)), (9, .inl (g_iald 10)), (10, .inl (g_iald 11)), (11, .inl (g_aload 0 12)), (12, .inl (g_get 10 23 15)), (15, .inl (g_aload 0 16)), (16, .inl (g_get 10 13 19)), (19, .inl (g_iload 1 20)), (20, .inl (g_iald 21)), (21, .inl (g_iald 22)), (22, .inl (g_aload 0 23)), (23, .inl (g_get 10 16 26)), (26, .inl (g_iload 1 27)), (27, .inl (g_iald 28)), (28, .inl (g_bin gAdd 29)), (29, .inl (g_iload 2 30)), (30, .inl (g_aload 0 31)), (31, .inl (g_get 10 15 34)), (34, .inl (g_iload 1 35)), (35, .inl (g_iald 36)), (36, .inl (g_bin gMul 37)), (37, .inl (g_bin gSub 38)), (38, .inl (g_icmp .lt 45 41)), (41, .inl (g_push (.inl (.ofNat 1)) 42)), (42, .inl (g_goto 46)), (45, .inl (g_push (.inl (.ofNat 0)) 46)), (46, .inl (g_iret))]
set_option maxRecDepth 1000000 in
theorem giq_291 : gi_291 = (pT M_291).map (mkT []) := rfl
noncomputable def gi_297 : GT := [(0, .inl (g_aload 0 1)), (1, .inl (g_get 10 2 4)), (4, .inl (g_iload 1 5)), (5, .inl (g_iald 6)), (6, .inl (g_push (.inl (.ofNat 5)) 7)), (7, .inl (g_icmp .ne 14 10)), (10, .inl (g_push (.inl (.ofNat 0)) 11)), (11, .inl (g_goto 28)), (14, .inl (g_push (.inl (.ofNat 1)) 15)), (15, .inl (g_aload 0 16)), (16, .inl (g_iload 1 17)), (17, .inl (g_iload 2 18)), (18, .inl (g_call 298 true)), (21, .inl (g_iload 2 22)), (22, .inl (g_call 275 false)), (25, .inl (g_call 257 false)), (28, .inl (g_iret))]
set_option maxRecDepth 1000000 in
theorem giq_297 : gi_297 = (pT M_297).map (mkT []) := rfl
noncomputable def gi_299 : GT := [(0, .inl (g_aload 0 1)), (1, .inl (g_get 10 21 4)), (4, .inl (g_iload 1 5)), (5, .inl (g_iald 6)), (6, .inl (g_aload 0 7)), (7, .inl (g_iload 1 8)), (8, .inl (g_call 246 true)), (11, .inl (g_bin gAdd 12)), (12, .inl (g_iret))]
set_option maxRecDepth 1000000 in
theorem giq_299 : gi_299 = (pT M_299).map (mkT []) := rfl
noncomputable def gi_309 : GT := [(0, .inl (g_iload 0 1)), (1, .inl (g_push (.inl (.ofNat 0)) 2)), (2, .inl (g_push (.inl (.ofNat 40)) 4)), (4, .inl (g_call 227 false)), (7, .inl (g_iret))]
set_option maxRecDepth 1000000 in
theorem giq_309 : gi_309 = (pT M_309).map (mkT []) := rfl
noncomputable def gi_311 : GT := [(0, .inl (g_iload 1 1)), (1, .inl (g_call 253 false)), (4, .inl (g_if .eq 14 7)), (7, .inl (g_iload 2 8)), (8, .inl (g_call 309 false)), (11, .inl (g_if .ne 18 14)), (14, .inl (g_push (.inl (.ofNat 1)) 15)), (15, .inl (g_goto 31)), (18, .inl (g_aload 0 19)), (19, .inl (g_iload 1 20)), (20, .inl (g_call 268 true)), (23, .inl (g_if .ne 30 26)), (26, .inl (g_push (.inl (.ofNat 2)) 27)), (27, .inl (g_goto 31)), (30, .inl (g_push (.inl (.ofNat 0)) 31)), (31, .inl (g_iret))]
set_option maxRecDepth 1000000 in
theorem giq_311 : gi_311 = (pT M_311).map (mkT []) := rfl
noncomputable def gi_312 : GT := [(0, .inl (g_iload 2 1)), (1, .inl (g_aload 0 2)), (2, .inl (g_iload 1 3)), (3, .inl (g_call 301 true)), (6, .inl (g_icmp .ge 18 9)), (9, .inl (g_aload 0 10)), (10, .inl (g_iload 1 11)), (11, .inl (g_iload 2 12)), (12, .inl (g_call 313 true)), (15, .inl (g_goto 27)), (18, .inl (g_iload 1 19)), (19, .inl (g_aload 0 20)), (20, .inl (g_iload 1 21)), (21, .inl (g_call 301 true)), (24, .inl (g_push (.inl (.ofNat 1)) 25)), (25, .inl (g_bin gSub 26)), (26, .inl (g_bin gMul 27)), (27, .inl (g_iret))]
set_option maxRecDepth 1000000 in
theorem giq_312 : gi_312 = (pT M_312).map (mkT []) := rfl
noncomputable def gi_313 : GT := [(0, .inl (g_iload 2 1)), (1, .inl (g_if .ne 8 4)), (4, .inl (g_push (.inl (.ofNat 0)) 5)), (5, .inl (g_goto 18)), (8, .inl (g_iload 1 9)), (9, .inl (g_iload 2 10)), (10, .inl (g_push (.inl (.ofNat 1)) 11)), (11, .inl (g_bin gSub 12)), (12, .inl (g_bin gMul 13)), (13, .inl (g_aload 0 14)), (14, .inl (g_call 300 true)), (17, .inl (g_bin gAdd 18)), (18, .inl (g_iret))]
set_option maxRecDepth 1000000 in
theorem giq_313 : gi_313 = (pT M_313).map (mkT []) := rfl
noncomputable def gi_314 : GT := [(0, .inl (g_iload 2 1)), (1, .inl (g_aload 0 2)), (2, .inl (g_iload 1 3)), (3, .inl (g_call 301 true)), (6, .inl (g_icmp .ge 13 9)), (9, .inl (g_push (.inl (.ofNat 0)) 10)), (10, .inl (g_goto 40)), (13, .inl (g_iload 1 14)), (14, .inl (g_iload 2 15)), (15, .inl (g_aload 0 16)), (16, .inl (g_iload 1 17)), (17, .inl (g_call 301 true)), (20, .inl (g_bin gSub 21)), (21, .inl (g_push (.inl (.ofNat 1)) 22)), (22, .inl (g_bin gAdd 23)), (23, .inl (g_bin gMul 24)), (24, .inl (g_aload 0 25)), (25, .inl (g_iload 1 26)), (26, .inl (g_iload 2 27)), (27, .inl (g_call 313 true)), (30, .inl (g_aload 0 31)), (31, .inl (g_iload 1 32)), (32, .inl (g_iload 2 33)), (33, .inl (g_call 312 true)), (36, .inl (g_bin gSub 37)), (37, .inl (g_call 258 false)), (40, .inl (g_iret))]
set_option maxRecDepth 1000000 in
theorem giq_314 : gi_314 = (pT M_314).map (mkT []) := rfl
noncomputable def gi_316 : GT := [(0, .inl (g_iload 0 1)), (1, .inl (g_push (.inl (.ofNat 0)) 2)), (2, .inl (g_push (.inl (.ofNat 1)) 3)), (3, .inl (g_call 227 false)), (6, .inl (g_if .eq 23 9)), (9, .inl (g_iload 1 10)), (10, .inl (g_push (.inl (.ofNat 0)) 11)), (11, .inl (g_push (.inl (.ofNat 63)) 13)), (13, .inl (g_call 227 false)), (16, .inl (g_if .eq 23 19)), (19, .inl (g_push (.inl (.ofNat 1)) 20)), (20, .inl (g_goto 24)), (23, .inl (g_push (.inl (.ofNat 0)) 24)), (24, .inl (g_iret))]
set_option maxRecDepth 1000000 in
theorem giq_316 : gi_316 = (pT M_316).map (mkT []) := rfl
noncomputable def gi_319 : GT := [(0, .inl (g_iload 0 1)), (1, .inl (g_iload 1 2)), (2, .inl (g_bin gSub 3)), (3, .inl (g_istore2 4 5)), (5, .inl (g_iload 4 7)), (7, .inl (g_if .lt 32 10)), (10, .inl (g_iload 4 12)), (12, .inl (g_iload 2 13)), (13, .inl (g_bin gRem 14)), (14, .inl (g_if .ne 32 17)), (17, .inl (g_iload 4 19)), (19, .inl (g_iload 2 20)), (20, .inl (g_bin gDiv 21)), (21, .inl (g_iload 3 22)), (22, .inl (g_icmp .ge 32 25)), (25, .inl (g_iload 4 27)), (27, .inl (g_iload 2 28)), (28, .inl (g_bin gDiv 29)), (29, .inl (g_goto 33)), (32, .inl (g_push (.inl (.negSucc 0)) 33)), (33, .inl (g_iret))]
set_option maxRecDepth 1000000 in
theorem giq_319 : gi_319 = (pT M_319).map (mkT []) := rfl
noncomputable def gi_320_p1 : GT := [(60, .inl (g_call 321 true)), (63, .inl (g_iload 3 64)), (64, .inl (g_iast 65)), (65, .inl (g_ret))]
noncomputable def gi_320 : GT := (0, .inl (g_aload 0 1)) :: (1, .inl (g_get 10 28 4)) :: (4, .inl (g_push (.inl (.ofNat 41)) 6)) :: (6, .inl (g_iload 1 7)) :: (7, .inl (g_bin gMul 8)) :: (8, .inl (g_iload 2 9)) :: (9, .inl (g_bin gAdd 10)) :: (10, .inl (g_iald 11)) :: (11, .inl (g_istore2 3 12)) :: (12, .inl (g_aload 0 13)) :: (13, .inl (g_get 10 2 16)) :: (16, .inl (g_iload 1 17)) :: (17, .inl (g_iald 18)) :: (18, .inl (g_push (.inl (.ofNat 5)) 19)) :: (19, .inl (g_icmp .ne 47 22)) :: (22, .inl (g_aload 0 23)) :: (23, .inl (g_get 10 26 26)) :: (26, .inl (g_push (.inl (.ofNat 64)) 28)) :: (28, .inl (g_aload 0 29)) :: (29, .inl (g_iload 1 30)) :: (30, .inl (g_call 250 true)) :: (33, .inl (g_bin gMul 34)) :: (34, .inl (g_iload 2 35)) :: (35, .inl (g_bin gAdd 36)) :: (36, .inl (g_aload 0 37)) :: (37, .inl (g_iload 1 38)) :: (38, .inl (g_call 251 true)) :: (41, .inl (g_bin gAdd 42)) :: (42, .inl (g_iload 3 43)) :: (43, .inl (g_iast 44)) :: (44, .inl (g_goto 65)) :: (47, .inl (g_aload 0 48)) :: (48, .inl (g_get 10 27 51)) :: (51, .inl (g_aload 0 52)) :: (52, .inl (g_iload 1 53)) :: (53, .inl (g_iload 2 54)) :: (54, .inl (g_aload 0 55)) :: (55, .inl (g_get 10 29 58)) :: (58, .inl (g_iload 1 59)) :: (59, .inl (g_iald 60)) :: gi_320_p1
set_option maxRecDepth 1000000 in
theorem giq_320 : gi_320 = (pT M_320).map (mkT []) := rfl
noncomputable def gi_321 : GT := [(0, .inl (g_push (.inl (.ofNat 80)) 2)), (2, .inl (g_iload 1 3)), (3, .inl (g_bin gMul 4)), (4, .inl (g_iload 2 5)), (5, .inl (g_iload 3 6)), (6, .inl (g_call 272 false)), (9, .inl (g_bin gAdd 10)), (10, .inl (g_iret))]
set_option maxRecDepth 1000000 in
theorem giq_321 : gi_321 = (pT M_321).map (mkT []) := rfl
noncomputable def gi_322_p1 : GT := [(59, .inl (g_iload 2 60)), (60, .inl (g_call 323 true)), (63, .inl (g_aload 0 64)), (64, .inl (g_iload 1 65)), (65, .inl (g_push (.inl (.ofNat 1)) 66)), (66, .inl (g_iload 2 67)), (67, .inl (g_call 323 true)), (70, .inl (g_call 324 false)), (73, .inl (g_iret))]
noncomputable def gi_322 : GT := (0, .inl (g_aload 0 1)) :: (1, .inl (g_get 10 2 4)) :: (4, .inl (g_iload 1 5)) :: (5, .inl (g_iald 6)) :: (6, .inl (g_push (.inl (.ofNat 4)) 7)) :: (7, .inl (g_icmp .ne 32 10)) :: (10, .inl (g_aload 0 11)) :: (11, .inl (g_get 10 26 14)) :: (14, .inl (g_push (.inl (.ofNat 64)) 16)) :: (16, .inl (g_aload 0 17)) :: (17, .inl (g_iload 1 18)) :: (18, .inl (g_call 250 true)) :: (21, .inl (g_bin gMul 22)) :: (22, .inl (g_iload 2 23)) :: (23, .inl (g_bin gAdd 24)) :: (24, .inl (g_aload 0 25)) :: (25, .inl (g_iload 1 26)) :: (26, .inl (g_call 251 true)) :: (29, .inl (g_bin gAdd 30)) :: (30, .inl (g_iald 31)) :: (31, .inl (g_iret)) :: (32, .inl (g_aload 0 33)) :: (33, .inl (g_get 10 2 36)) :: (36, .inl (g_iload 1 37)) :: (37, .inl (g_iald 38)) :: (38, .inl (g_push (.inl (.ofNat 5)) 39)) :: (39, .inl (g_icmp .ne 50 42)) :: (42, .inl (g_aload 0 43)) :: (43, .inl (g_iload 1 44)) :: (44, .inl (g_push (.inl (.ofNat 0)) 45)) :: (45, .inl (g_iload 2 46)) :: (46, .inl (g_call 323 true)) :: (49, .inl (g_iret)) :: (50, .inl (g_aload 0 51)) :: (51, .inl (g_get 10 2 54)) :: (54, .inl (g_iload 1 55)) :: (55, .inl (g_iald 56)) :: (56, .inl (g_aload 0 57)) :: (57, .inl (g_iload 1 58)) :: (58, .inl (g_push (.inl (.ofNat 0)) 59)) :: gi_322_p1
set_option maxRecDepth 1000000 in
theorem giq_322 : gi_322 = (pT M_322).map (mkT []) := rfl
noncomputable def gi_323 : GT := [(0, .inl (g_aload 0 1)), (1, .inl (g_iload 1 2)), (2, .inl (g_iload 2 3)), (3, .inl (g_call 242 true)), (6, .inl (g_istore2 4 8)), (8, .inl (g_iload 4 10)), (10, .inl (g_push (.inl (.negSucc 0)) 11)), (11, .inl (g_icmp .ne 16 14)), (14, .inl (g_iload 3 15)), (15, .inl (g_iret)), (16, .inl (g_iload 4 18)), (18, .inl (g_push (.inl (.negSucc 1)) 20)), (20, .inl (g_icmp .ne 30 23)), (23, .inl (g_aload 0 24)), (24, .inl (g_iload 1 25)), (25, .inl (g_iload 2 26)), (26, .inl (g_call 243 true)), (29, .inl (g_iret)), (30, .inl (g_aload 0 31)), (31, .inl (g_get 10 27 34)), (34, .inl (g_aload 0 35)), (35, .inl (g_iload 4 37)), (37, .inl (g_iload 3 38)), (38, .inl (g_aload 0 39)), (39, .inl (g_iload 1 40)), (40, .inl (g_iload 2 41)), (41, .inl (g_call 243 true)), (44, .inl (g_bin gSub 45)), (45, .inl (g_aload 0 46)), (46, .inl (g_get 10 29 49)), (49, .inl (g_iload 4 51)), (51, .inl (g_iald 52)), (52, .inl (g_call 321 true)), (55, .inl (g_iald 56)), (56, .inl (g_iret))]
set_option maxRecDepth 1000000 in
theorem giq_323 : gi_323 = (pT M_323).map (mkT []) := rfl
noncomputable def gi_324 : GT := [(0, .inl (g_iload 0 1)), (1, .inl (g_if .ne 10 4)), (4, .inl (g_iload 1 5)), (5, .inl (g_iload 2 6)), (6, .inl (g_bin gAdd 7)), (7, .inl (g_goto 37)), (10, .inl (g_iload 0 11)), (11, .inl (g_push (.inl (.ofNat 1)) 12)), (12, .inl (g_icmp .ne 21 15)), (15, .inl (g_iload 1 16)), (16, .inl (g_iload 2 17)), (17, .inl (g_bin gSub 18)), (18, .inl (g_goto 37)), (21, .inl (g_iload 0 22)), (22, .inl (g_push (.inl (.ofNat 2)) 23)), (23, .inl (g_icmp .ne 32 26)), (26, .inl (g_iload 1 27)), (27, .inl (g_iload 2 28)), (28, .inl (g_bin gMul 29)), (29, .inl (g_goto 37)), (32, .inl (g_iload 1 33)), (33, .inl (g_iload 2 34)), (34, .inl (g_call 258 false)), (37, .inl (g_iret))]
set_option maxRecDepth 1000000 in
theorem giq_324 : gi_324 = (pT M_324).map (mkT []) := rfl
noncomputable def gi_329_p1 : GT := [(61, .inl (g_iload 2 62)), (62, .inl (g_call 330 true)), (65, .inl (g_aload 0 66)), (66, .inl (g_iload 1 67)), (67, .inl (g_push (.inl (.ofNat 1)) 68)), (68, .inl (g_iload 2 69)), (69, .inl (g_call 330 true)), (72, .inl (g_call 324 false)), (75, .inl (g_iret))]
noncomputable def gi_329 : GT := (0, .inl (g_aload 0 1)) :: (1, .inl (g_get 10 2 4)) :: (4, .inl (g_iload 1 5)) :: (5, .inl (g_iald 6)) :: (6, .inl (g_push (.inl (.ofNat 4)) 7)) :: (7, .inl (g_icmp .ne 32 10)) :: (10, .inl (g_aload 0 11)) :: (11, .inl (g_get 10 26 14)) :: (14, .inl (g_push (.inl (.ofNat 64)) 16)) :: (16, .inl (g_aload 0 17)) :: (17, .inl (g_iload 1 18)) :: (18, .inl (g_call 250 true)) :: (21, .inl (g_bin gMul 22)) :: (22, .inl (g_iload 2 23)) :: (23, .inl (g_bin gAdd 24)) :: (24, .inl (g_aload 0 25)) :: (25, .inl (g_iload 1 26)) :: (26, .inl (g_call 251 true)) :: (29, .inl (g_bin gAdd 30)) :: (30, .inl (g_iald 31)) :: (31, .inl (g_iret)) :: (32, .inl (g_aload 0 33)) :: (33, .inl (g_get 10 2 36)) :: (36, .inl (g_iload 1 37)) :: (37, .inl (g_iald 38)) :: (38, .inl (g_push (.inl (.ofNat 5)) 39)) :: (39, .inl (g_icmp .ne 52 42)) :: (42, .inl (g_aload 0 43)) :: (43, .inl (g_iload 1 44)) :: (44, .inl (g_push (.inl (.ofNat 0)) 45)) :: (45, .inl (g_iload 2 46)) :: (46, .inl (g_call 330 true)) :: (49, .inl (g_goto 75)) :: (52, .inl (g_aload 0 53)) :: (53, .inl (g_get 10 2 56)) :: (56, .inl (g_iload 1 57)) :: (57, .inl (g_iald 58)) :: (58, .inl (g_aload 0 59)) :: (59, .inl (g_iload 1 60)) :: (60, .inl (g_push (.inl (.ofNat 0)) 61)) :: gi_329_p1
set_option maxRecDepth 1000000 in
theorem giq_329 : gi_329 = (pT M_329).map (mkT []) := rfl
noncomputable def gi_330_p1 : GT := [(68, .inl (g_iret))]
noncomputable def gi_330 : GT := (0, .inl (g_aload 0 1)) :: (1, .inl (g_iload 1 2)) :: (2, .inl (g_iload 2 3)) :: (3, .inl (g_call 242 true)) :: (6, .inl (g_istore2 4 8)) :: (8, .inl (g_iload 4 10)) :: (10, .inl (g_push (.inl (.negSucc 0)) 11)) :: (11, .inl (g_icmp .ne 16 14)) :: (14, .inl (g_iload 3 15)) :: (15, .inl (g_iret)) :: (16, .inl (g_iload 4 18)) :: (18, .inl (g_push (.inl (.negSucc 1)) 20)) :: (20, .inl (g_icmp .ne 30 23)) :: (23, .inl (g_aload 0 24)) :: (24, .inl (g_iload 1 25)) :: (25, .inl (g_iload 2 26)) :: (26, .inl (g_call 243 true)) :: (29, .inl (g_iret)) :: (30, .inl (g_iload 3 31)) :: (31, .inl (g_aload 0 32)) :: (32, .inl (g_iload 1 33)) :: (33, .inl (g_iload 2 34)) :: (34, .inl (g_call 243 true)) :: (37, .inl (g_bin gSub 38)) :: (38, .inl (g_istore2 5 40)) :: (40, .inl (g_iload 5 42)) :: (42, .inl (g_if .ge 55 45)) :: (45, .inl (g_aload 0 46)) :: (46, .inl (g_get 10 7 49)) :: (49, .inl (g_iload 4 51)) :: (51, .inl (g_iald 52)) :: (52, .inl (g_goto 68)) :: (55, .inl (g_aload 0 56)) :: (56, .inl (g_get 10 28 59)) :: (59, .inl (g_push (.inl (.ofNat 41)) 61)) :: (61, .inl (g_iload 4 63)) :: (63, .inl (g_bin gMul 64)) :: (64, .inl (g_iload 5 66)) :: (66, .inl (g_bin gAdd 67)) :: (67, .inl (g_iald 68)) :: gi_330_p1
set_option maxRecDepth 1000000 in
theorem giq_330 : gi_330 = (pT M_330).map (mkT []) := rfl
noncomputable def gi_334 : GT := [(0, .inl (g_iload 2 1)), (1, .inl (g_aload 0 2)), (2, .inl (g_iload 1 3)), (3, .inl (g_call 301 true)), (6, .inl (g_icmp .ge 13 9)), (9, .inl (g_iload 2 10)), (10, .inl (g_goto 28)), (13, .inl (g_iload 2 14)), (14, .inl (g_aload 0 15)), (15, .inl (g_iload 1 16)), (16, .inl (g_call 301 true)), (19, .inl (g_bin gSub 20)), (20, .inl (g_push (.inl (.ofNat 1)) 21)), (21, .inl (g_bin gAdd 22)), (22, .inl (g_aload 0 23)), (23, .inl (g_iload 1 24)), (24, .inl (g_call 296 true)), (27, .inl (g_bin gRem 28)), (28, .inl (g_iret))]
set_option maxRecDepth 1000000 in
theorem giq_334 : gi_334 = (pT M_334).map (mkT []) := rfl
noncomputable def gi_341 : GT := [(0, .inl (g_aload 0 1)), (1, .inl (g_iload 1 2)), (2, .inl (g_call 299 true)), (5, .inl (g_istore2 5 7)), (7, .inl (g_aload 0 8)), (8, .inl (g_iload 2 9)), (9, .inl (g_call 299 true)), (12, .inl (g_iload 4 14)), (14, .inl (g_iload 3 15)), (15, .inl (g_bin gMul 16)), (16, .inl (g_bin gAdd 17)), (17, .inl (g_istore2 6 19)), (19, .inl (g_iload 6 21)), (21, .inl (g_iload 5 23)), (23, .inl (g_aload 0 24)), (24, .inl (g_iload 1 25)), (25, .inl (g_iload 4 27)), (27, .inl (g_call 298 true)), (30, .inl (g_bin gAdd 31)), (31, .inl (g_push (.inl (.ofNat 1)) 32)), (32, .inl (g_bin gSub 33)), (33, .inl (g_icmp .gt 57 36)), (36, .inl (g_iload 5 38)), (38, .inl (g_iload 6 40)), (40, .inl (g_aload 0 41)), (41, .inl (g_iload 2 42)), (42, .inl (g_iload 4 44)), (44, .inl (g_call 298 true)), (47, .inl (g_bin gAdd 48)), (48, .inl (g_push (.inl (.ofNat 1)) 49)), (49, .inl (g_bin gSub 50)), (50, .inl (g_icmp .gt 57 53)), (53, .inl (g_push (.inl (.ofNat 1)) 54)), (54, .inl (g_goto 58)), (57, .inl (g_push (.inl (.ofNat 0)) 58)), (58, .inl (g_iret))]
set_option maxRecDepth 1000000 in
theorem giq_341 : gi_341 = (pT M_341).map (mkT []) := rfl
noncomputable def gi_353 : GT := [(0, .inl (g_aload 0 1)), (1, .inl (g_call 245 true)), (4, .inl (g_push (.inl (.ofNat 1)) 5)), (5, .inl (g_aload 0 6)), (6, .inl (g_call 255 true)), (9, .inl (g_aload 0 10)), (10, .inl (g_call 354 true)), (13, .inl (g_call 257 false)), (16, .inl (g_call 257 false)), (19, .inl (g_iret))]
set_option maxRecDepth 1000000 in
theorem giq_353 : gi_353 = (pT M_353).map (mkT []) := rfl
noncomputable def gi_365 : GT := [(0, .inl (g_aload 0 1)), (1, .inl (g_iload 1 2)), (2, .inl (g_iload 2 3)), (3, .inl (g_call 242 true)), (6, .inl (g_istore2 4 8)), (8, .inl (g_iload 4 10)), (10, .inl (g_if .lt 23 13)), (13, .inl (g_iload 3 14)), (14, .inl (g_aload 0 15)), (15, .inl (g_iload 1 16)), (16, .inl (g_iload 2 17)), (17, .inl (g_call 243 true)), (20, .inl (g_icmp .ge 25 23)), (23, .inl (g_push (.inl (.ofNat 0)) 24)), (24, .inl (g_iret)), (25, .inl (g_aload 0 26)), (26, .inl (g_get 10 28 29)), (29, .inl (g_push (.inl (.ofNat 41)) 31)), (31, .inl (g_iload 4 33)), (33, .inl (g_bin gMul 34)), (34, .inl (g_iload 3 35)), (35, .inl (g_bin gAdd 36)), (36, .inl (g_aload 0 37)), (37, .inl (g_iload 1 38)), (38, .inl (g_iload 2 39)), (39, .inl (g_call 243 true)), (42, .inl (g_bin gSub 43)), (43, .inl (g_iald 44)), (44, .inl (g_iret))]
set_option maxRecDepth 1000000 in
theorem giq_365 : gi_365 = (pT M_365).map (mkT []) := rfl
noncomputable def gi_367 : GT := [(0, .inl (g_aload 0 1)), (1, .inl (g_call 240 true)), (4, .inl (g_if .ne 9 7)), (7, .inl (g_push (.inl (.negSucc 0)) 8)), (8, .inl (g_iret)), (9, .inl (g_aload 0 10)), (10, .inl (g_call 353 true)), (13, .inl (g_istore2 2 14)), (14, .inl (g_iload 1 15)), (15, .inl (g_push (.inl (.ofNat 1)) 16)), (16, .inl (g_icmp .ne 26 19)), (19, .inl (g_aload 0 20)), (20, .inl (g_get 10 12 23)), (23, .inl (g_goto 51)), (26, .inl (g_iload 1 27)), (27, .inl (g_push (.inl (.ofNat 2)) 28)), (28, .inl (g_icmp .ne 38 31)), (31, .inl (g_aload 0 32)), (32, .inl (g_call 255 true)), (35, .inl (g_goto 51)), (38, .inl (g_iload 1 39)), (39, .inl (g_push (.inl (.ofNat 3)) 40)), (40, .inl (g_icmp .ne 50 43)), (43, .inl (g_aload 0 44)), (44, .inl (g_call 354 true)), (47, .inl (g_goto 51)), (50, .inl (g_iload 2 51)), (51, .inl (g_iret))]
set_option maxRecDepth 1000000 in
theorem giq_367 : gi_367 = (pT M_367).map (mkT []) := rfl
noncomputable def itl_367 : List (Nat × GI) := (367, M_367, [], [aU], gi_367) :: []
theorem ito_367 : ITOK itl_367 := ITOK.cons rfl rfl rfl rfl (by decide +kernel) giq_367 ITOK.nil
noncomputable def itl_365 : List (Nat × GI) := (365, M_365, [], [aU], gi_365) :: itl_367
theorem ito_365 : ITOK itl_365 := ITOK.cons rfl rfl rfl rfl (by decide +kernel) giq_365 ito_367
noncomputable def itl_353 : List (Nat × GI) := (353, M_353, [], [], gi_353) :: itl_365
theorem ito_353 : ITOK itl_353 := ITOK.cons rfl rfl rfl rfl (by decide +kernel) giq_353 ito_365
noncomputable def itl_341 : List (Nat × GI) := (341, M_341, [], [aU, aU], gi_341) :: itl_353
theorem ito_341 : ITOK itl_341 := ITOK.cons rfl rfl rfl rfl (by decide +kernel) giq_341 ito_353
noncomputable def itl_334 : List (Nat × GI) := (334, M_334, [], [], gi_334) :: itl_341
theorem ito_334 : ITOK itl_334 := ITOK.cons rfl rfl rfl rfl (by decide +kernel) giq_334 ito_341
noncomputable def itl_330 : List (Nat × GI) := (330, M_330, [], [aU, aU], gi_330) :: itl_334
theorem ito_330 : ITOK itl_330 := ITOK.cons rfl rfl rfl rfl (by decide +kernel) giq_330 ito_334
noncomputable def itl_329 : List (Nat × GI) := (329, M_329, [], [], gi_329) :: itl_330
theorem ito_329 : ITOK itl_329 := ITOK.cons rfl rfl rfl rfl (by decide +kernel) giq_329 ito_330
noncomputable def itl_324 : List (Nat × GI) := (324, M_324, [], [], gi_324) :: itl_329
theorem ito_324 : ITOK itl_324 := ITOK.cons rfl rfl rfl rfl (by decide +kernel) giq_324 ito_329
noncomputable def itl_323 : List (Nat × GI) := (323, M_323, [], [aU], gi_323) :: itl_324
theorem ito_323 : ITOK itl_323 := ITOK.cons rfl rfl rfl rfl (by decide +kernel) giq_323 ito_324
noncomputable def itl_322 : List (Nat × GI) := (322, M_322, [], [], gi_322) :: itl_323
theorem ito_322 : ITOK itl_322 := ITOK.cons rfl rfl rfl rfl (by decide +kernel) giq_322 ito_323
noncomputable def itl_321 : List (Nat × GI) := (321, M_321, [], [], gi_321) :: itl_322
theorem ito_321 : ITOK itl_321 := ITOK.cons rfl rfl rfl rfl (by decide +kernel) giq_321 ito_322
noncomputable def itl_320 : List (Nat × GI) := (320, M_320, [], [aU], gi_320) :: itl_321
theorem ito_320 : ITOK itl_320 := ITOK.cons rfl rfl rfl rfl (by decide +kernel) giq_320 ito_321
noncomputable def itl_319 : List (Nat × GI) := (319, M_319, [], [aU], gi_319) :: itl_320
theorem ito_319 : ITOK itl_319 := ITOK.cons rfl rfl rfl rfl (by decide +kernel) giq_319 ito_320
noncomputable def itl_316 : List (Nat × GI) := (316, M_316, [], [], gi_316) :: itl_319
theorem ito_316 : ITOK itl_316 := ITOK.cons rfl rfl rfl rfl (by decide +kernel) giq_316 ito_319
noncomputable def itl_314 : List (Nat × GI) := (314, M_314, [], [], gi_314) :: itl_316
theorem ito_314 : ITOK itl_314 := ITOK.cons rfl rfl rfl rfl (by decide +kernel) giq_314 ito_316
noncomputable def itl_313 : List (Nat × GI) := (313, M_313, [], [], gi_313) :: itl_314
theorem ito_313 : ITOK itl_313 := ITOK.cons rfl rfl rfl rfl (by decide +kernel) giq_313 ito_314
noncomputable def itl_312 : List (Nat × GI) := (312, M_312, [], [], gi_312) :: itl_313
theorem ito_312 : ITOK itl_312 := ITOK.cons rfl rfl rfl rfl (by decide +kernel) giq_312 ito_313
noncomputable def itl_311 : List (Nat × GI) := (311, M_311, [], [], gi_311) :: itl_312
theorem ito_311 : ITOK itl_311 := ITOK.cons rfl rfl rfl rfl (by decide +kernel) giq_311 ito_312
noncomputable def itl_309 : List (Nat × GI) := (309, M_309, [], [], gi_309) :: itl_311
theorem ito_309 : ITOK itl_309 := ITOK.cons rfl rfl rfl rfl (by decide +kernel) giq_309 ito_311
noncomputable def itl_299 : List (Nat × GI) := (299, M_299, [], [], gi_299) :: itl_309
theorem ito_299 : ITOK itl_299 := ITOK.cons rfl rfl rfl rfl (by decide +kernel) giq_299 ito_309
noncomputable def itl_297 : List (Nat × GI) := (297, M_297, [], [], gi_297) :: itl_299
theorem ito_297 : ITOK itl_297 := ITOK.cons rfl rfl rfl rfl (by decide +kernel) giq_297 ito_299
noncomputable def itl_291 : List (Nat × GI) := (291, M_291, [], [], gi_291) :: itl_297
theorem ito_291 : ITOK itl_291 := ITOK.cons rfl rfl rfl rfl (by decide +kernel) giq_291 ito_297
noncomputable def itl_290 : List (Nat × GI) := (290, M_290, [], [], gi_290) :: itl_291
theorem ito_290 : ITOK itl_290 := ITOK.cons rfl rfl rfl rfl (by decide +kernel) giq_290 ito_291
noncomputable def itl_287 : List (Nat × GI) := (287, M_287, [], [aU], gi_287) :: itl_290
theorem ito_287 : ITOK itl_287 := ITOK.cons rfl rfl rfl rfl (by decide +kernel) giq_287 ito_290
noncomputable def itl_281 : List (Nat × GI) := (281, M_281, [], [], gi_281) :: itl_287
theorem ito_281 : ITOK itl_281 := ITOK.cons rfl rfl rfl rfl (by decide +kernel) giq_281 ito_287
noncomputable def itl_275 : List (Nat × GI) := (275, M_275, [], [], gi_275) :: itl_281
theorem ito_275 : ITOK itl_275 := ITOK.cons rfl rfl rfl rfl (by decide +kernel) giq_275 ito_281
noncomputable def itl_272 : List (Nat × GI) := (272, M_272, [], [], gi_272) :: itl_275
theorem ito_272 : ITOK itl_272 := ITOK.cons rfl rfl rfl rfl (by decide +kernel) giq_272 ito_275
noncomputable def itl_268 : List (Nat × GI) := (268, M_268, [], [], gi_268) :: itl_272
theorem ito_268 : ITOK itl_268 := ITOK.cons rfl rfl rfl rfl (by decide +kernel) giq_268 ito_272
noncomputable def itl_265 : List (Nat × GI) := (265, M_265, [], [], gi_265) :: itl_268
theorem ito_265 : ITOK itl_265 := ITOK.cons rfl rfl rfl rfl (by decide +kernel) giq_265 ito_268
noncomputable def itl_264 : List (Nat × GI) := (264, M_264, [], [], gi_264) :: itl_265
theorem ito_264 : ITOK itl_264 := ITOK.cons rfl rfl rfl rfl (by decide +kernel) giq_264 ito_265
noncomputable def itl_258 : List (Nat × GI) := (258, M_258, [], [], gi_258) :: itl_264
theorem ito_258 : ITOK itl_258 := ITOK.cons rfl rfl rfl rfl (by decide +kernel) giq_258 ito_264
noncomputable def itl_257 : List (Nat × GI) := (257, M_257, [], [], gi_257) :: itl_258
theorem ito_257 : ITOK itl_257 := ITOK.cons rfl rfl rfl rfl (by decide +kernel) giq_257 ito_258
noncomputable def itl_254 : List (Nat × GI) := (254, M_254, [], [], gi_254) :: itl_257
theorem ito_254 : ITOK itl_254 := ITOK.cons rfl rfl rfl rfl (by decide +kernel) giq_254 ito_257
noncomputable def itl_253 : List (Nat × GI) := (253, M_253, [], [], gi_253) :: itl_254
theorem ito_253 : ITOK itl_253 := ITOK.cons rfl rfl rfl rfl (by decide +kernel) giq_253 ito_254
noncomputable def itl_251 : List (Nat × GI) := (251, M_251, [], [], gi_251) :: itl_253
theorem ito_251 : ITOK itl_251 := ITOK.cons rfl rfl rfl rfl (by decide +kernel) giq_251 ito_253
noncomputable def itl_250 : List (Nat × GI) := (250, M_250, [], [], gi_250) :: itl_251
theorem ito_250 : ITOK itl_250 := ITOK.cons rfl rfl rfl rfl (by decide +kernel) giq_250 ito_251
noncomputable def itl_249 : List (Nat × GI) := (249, M_249, [], [], gi_249) :: itl_250
theorem ito_249 : ITOK itl_249 := ITOK.cons rfl rfl rfl rfl (by decide +kernel) giq_249 ito_250
noncomputable def itl_248 : List (Nat × GI) := (248, M_248, [], [], gi_248) :: itl_249
theorem ito_248 : ITOK itl_248 := ITOK.cons rfl rfl rfl rfl (by decide +kernel) giq_248 ito_249
noncomputable def itl_246 : List (Nat × GI) := (246, M_246, [], [], gi_246) :: itl_248
theorem ito_246 : ITOK itl_246 := ITOK.cons rfl rfl rfl rfl (by decide +kernel) giq_246 ito_248
noncomputable def itl_243 : List (Nat × GI) := (243, M_243, [], [], gi_243) :: itl_246
theorem ito_243 : ITOK itl_243 := ITOK.cons rfl rfl rfl rfl (by decide +kernel) giq_243 ito_246
noncomputable def itl_242 : List (Nat × GI) := (242, M_242, [], [], gi_242) :: itl_243
theorem ito_242 : ITOK itl_242 := ITOK.cons rfl rfl rfl rfl (by decide +kernel) giq_242 ito_243
noncomputable def itl_241 : List (Nat × GI) := (241, M_241, [], [], gi_241) :: itl_242
theorem ito_241 : ITOK itl_241 := ITOK.cons rfl rfl rfl rfl (by decide +kernel) giq_241 ito_242
noncomputable def itl_235 : List (Nat × GI) := (235, M_235, [], [], gi_235) :: itl_241
theorem ito_235 : ITOK itl_235 := ITOK.cons rfl rfl rfl rfl (by decide +kernel) giq_235 ito_241
noncomputable def itl_231 : List (Nat × GI) := (231, M_231, [], [], gi_231) :: itl_235
theorem ito_231 : ITOK itl_231 := ITOK.cons rfl rfl rfl rfl (by decide +kernel) giq_231 ito_235
noncomputable def itl_229 : List (Nat × GI) := (229, M_229, [], [], gi_229) :: itl_231
theorem ito_229 : ITOK itl_229 := ITOK.cons rfl rfl rfl rfl (by decide +kernel) giq_229 ito_231
noncomputable def itl_228 : List (Nat × GI) := (228, M_228, [], [], gi_228) :: itl_229
theorem ito_228 : ITOK itl_228 := ITOK.cons rfl rfl rfl rfl (by decide +kernel) giq_228 ito_229
noncomputable def itl_227 : List (Nat × GI) := (227, M_227, [], [], gi_227) :: itl_228
theorem ito_227 : ITOK itl_227 := ITOK.cons rfl rfl rfl rfl (by decide +kernel) giq_227 ito_228
noncomputable def itl_221 : List (Nat × GI) := (221, M_221, [], [], gi_221) :: itl_227
theorem ito_221 : ITOK itl_221 := ITOK.cons rfl rfl rfl rfl (by decide +kernel) giq_221 ito_227
noncomputable def itl_217 : List (Nat × GI) := (217, M_217, [], [aU, aU, aU], gi_217) :: itl_221
theorem ito_217 : ITOK itl_217 := ITOK.cons rfl rfl rfl rfl (by decide +kernel) giq_217 ito_221
noncomputable def itl_214 : List (Nat × GI) := (214, M_214, [], [], gi_214) :: itl_217
theorem ito_214 : ITOK itl_214 := ITOK.cons rfl rfl rfl rfl (by decide +kernel) giq_214 ito_217
noncomputable def itl_210 : List (Nat × GI) := (210, M_210, [], [], gi_210) :: itl_214
theorem ito_210 : ITOK itl_210 := ITOK.cons rfl rfl rfl rfl (by decide +kernel) giq_210 ito_214
noncomputable def itl_207 : List (Nat × GI) := (207, M_207, [], [], gi_207) :: itl_210
theorem ito_207 : ITOK itl_207 := ITOK.cons rfl rfl rfl rfl (by decide +kernel) giq_207 ito_210
noncomputable def itl_203 : List (Nat × GI) := (203, M_203, [], [], gi_203) :: itl_207
theorem ito_203 : ITOK itl_203 := ITOK.cons rfl rfl rfl rfl (by decide +kernel) giq_203 ito_207
noncomputable def itl_201 : List (Nat × GI) := (201, M_201, [], [], gi_201) :: itl_203
theorem ito_201 : ITOK itl_201 := ITOK.cons rfl rfl rfl rfl (by decide +kernel) giq_201 ito_203
noncomputable def itl_198 : List (Nat × GI) := (198, M_198, [], [], gi_198) :: itl_201
theorem ito_198 : ITOK itl_198 := ITOK.cons rfl rfl rfl rfl (by decide +kernel) giq_198 ito_201
noncomputable def itl_196 : List (Nat × GI) := (196, M_196, [], [], gi_196) :: itl_198
theorem ito_196 : ITOK itl_196 := ITOK.cons rfl rfl rfl rfl (by decide +kernel) giq_196 ito_198
noncomputable def itl_192 : List (Nat × GI) := (192, M_192, [], [], gi_192) :: itl_196
theorem ito_192 : ITOK itl_192 := ITOK.cons rfl rfl rfl rfl (by decide +kernel) giq_192 ito_196
noncomputable def itl_190 : List (Nat × GI) := (190, M_190, [], [], gi_190) :: itl_192
theorem ito_190 : ITOK itl_190 := ITOK.cons rfl rfl rfl rfl (by decide +kernel) giq_190 ito_192
noncomputable def itl_188 : List (Nat × GI) := (188, M_188, [], [], gi_188) :: itl_190
theorem ito_188 : ITOK itl_188 := ITOK.cons rfl rfl rfl rfl (by decide +kernel) giq_188 ito_190
noncomputable def itl_186 : List (Nat × GI) := (186, M_186, [], [aU], gi_186) :: itl_188
theorem ito_186 : ITOK itl_186 := ITOK.cons rfl rfl rfl rfl (by decide +kernel) giq_186 ito_188
noncomputable def itl_183 : List (Nat × GI) := (183, M_183, [], [], gi_183) :: itl_186
theorem ito_183 : ITOK itl_183 := ITOK.cons rfl rfl rfl rfl (by decide +kernel) giq_183 ito_186
noncomputable def itl_176 : List (Nat × GI) := (176, M_176, [], [], gi_176) :: itl_183
theorem ito_176 : ITOK itl_176 := ITOK.cons rfl rfl rfl rfl (by decide +kernel) giq_176 ito_183
noncomputable def itl_175 : List (Nat × GI) := (175, M_175, [], [aU, aU], gi_175) :: itl_176
theorem ito_175 : ITOK itl_175 := ITOK.cons rfl rfl rfl rfl (by decide +kernel) giq_175 ito_176
noncomputable def itl_173 : List (Nat × GI) := (173, M_173, [], [aU], gi_173) :: itl_175
theorem ito_173 : ITOK itl_173 := ITOK.cons rfl rfl rfl rfl (by decide +kernel) giq_173 ito_175
noncomputable def itl_171 : List (Nat × GI) := (171, M_171, [], [aU, aU], gi_171) :: itl_173
theorem ito_171 : ITOK itl_171 := ITOK.cons rfl rfl rfl rfl (by decide +kernel) giq_171 ito_173
noncomputable def itl_169 : List (Nat × GI) := (169, M_169, [], [], gi_169) :: itl_171
theorem ito_169 : ITOK itl_169 := ITOK.cons rfl rfl rfl rfl (by decide +kernel) giq_169 ito_171
noncomputable def itl_167 : List (Nat × GI) := (167, M_167, [], [], gi_167) :: itl_169
theorem ito_167 : ITOK itl_167 := ITOK.cons rfl rfl rfl rfl (by decide +kernel) giq_167 ito_169
noncomputable def itl_166 : List (Nat × GI) := (166, M_166, [], [], gi_166) :: itl_167
theorem ito_166 : ITOK itl_166 := ITOK.cons rfl rfl rfl rfl (by decide +kernel) giq_166 ito_167
noncomputable def itl_164 : List (Nat × GI) := (164, M_164, [], [], gi_164) :: itl_166
theorem ito_164 : ITOK itl_164 := ITOK.cons rfl rfl rfl rfl (by decide +kernel) giq_164 ito_166
noncomputable def itl_163 : List (Nat × GI) := (163, M_163, [], [aU, aU], gi_163) :: itl_164
theorem ito_163 : ITOK itl_163 := ITOK.cons rfl rfl rfl rfl (by decide +kernel) giq_163 ito_164
noncomputable def itl_160 : List (Nat × GI) := (160, M_160, [], [], gi_160) :: itl_163
theorem ito_160 : ITOK itl_160 := ITOK.cons rfl rfl rfl rfl (by decide +kernel) giq_160 ito_163
noncomputable def itl_159 : List (Nat × GI) := (159, M_159, [], [], gi_159) :: itl_160
theorem ito_159 : ITOK itl_159 := ITOK.cons rfl rfl rfl rfl (by decide +kernel) giq_159 ito_160
noncomputable def itl_157 : List (Nat × GI) := (157, M_157, [], [], gi_157) :: itl_159
theorem ito_157 : ITOK itl_157 := ITOK.cons rfl rfl rfl rfl (by decide +kernel) giq_157 ito_159
noncomputable def itl_156 : List (Nat × GI) := (156, M_156, [], [aU], gi_156) :: itl_157
theorem ito_156 : ITOK itl_156 := ITOK.cons rfl rfl rfl rfl (by decide +kernel) giq_156 ito_157
noncomputable def itl_155 : List (Nat × GI) := (155, M_155, [], [], gi_155) :: itl_156
theorem ito_155 : ITOK itl_155 := ITOK.cons rfl rfl rfl rfl (by decide +kernel) giq_155 ito_156
noncomputable def itl_154 : List (Nat × GI) := (154, M_154, [], [aU], gi_154) :: itl_155
theorem ito_154 : ITOK itl_154 := ITOK.cons rfl rfl rfl rfl (by decide +kernel) giq_154 ito_155
noncomputable def itl_152 : List (Nat × GI) := (152, M_152, [], [aU], gi_152) :: itl_154
theorem ito_152 : ITOK itl_152 := ITOK.cons rfl rfl rfl rfl (by decide +kernel) giq_152 ito_154
noncomputable def itl_151 : List (Nat × GI) := (151, M_151, [], [], gi_151) :: itl_152
theorem ito_151 : ITOK itl_151 := ITOK.cons rfl rfl rfl rfl (by decide +kernel) giq_151 ito_152
noncomputable def itl_150 : List (Nat × GI) := (150, M_150, [], [], gi_150) :: itl_151
theorem ito_150 : ITOK itl_150 := ITOK.cons rfl rfl rfl rfl (by decide +kernel) giq_150 ito_151
noncomputable def itl_148 : List (Nat × GI) := (148, M_148, [], [], gi_148) :: itl_150
theorem ito_148 : ITOK itl_148 := ITOK.cons rfl rfl rfl rfl (by decide +kernel) giq_148 ito_150
noncomputable def itl_145 : List (Nat × GI) := (145, M_145, [], [aU], gi_145) :: itl_148
theorem ito_145 : ITOK itl_145 := ITOK.cons rfl rfl rfl rfl (by decide +kernel) giq_145 ito_148
noncomputable def itl_140 : List (Nat × GI) := (140, M_140, [], [aU], gi_140) :: itl_145
theorem ito_140 : ITOK itl_140 := ITOK.cons rfl rfl rfl rfl (by decide +kernel) giq_140 ito_145
noncomputable def itl_136 : List (Nat × GI) := (136, M_136, [], [], gi_136) :: itl_140
theorem ito_136 : ITOK itl_136 := ITOK.cons rfl rfl rfl rfl (by decide +kernel) giq_136 ito_140
noncomputable def itl_126 : List (Nat × GI) := (126, M_126, [], [aU, aU], gi_126) :: itl_136
theorem ito_126 : ITOK itl_126 := ITOK.cons rfl rfl rfl rfl (by decide +kernel) giq_126 ito_136
noncomputable def itl_122 : List (Nat × GI) := (122, M_122, [], [], gi_122) :: itl_126
theorem ito_122 : ITOK itl_122 := ITOK.cons rfl rfl rfl rfl (by decide +kernel) giq_122 ito_126
noncomputable def itl_118 : List (Nat × GI) := (118, M_118, [], [], gi_118) :: itl_122
theorem ito_118 : ITOK itl_118 := ITOK.cons rfl rfl rfl rfl (by decide +kernel) giq_118 ito_122
noncomputable def itl_117 : List (Nat × GI) := (117, M_117, [], [], gi_117) :: itl_118
theorem ito_117 : ITOK itl_117 := ITOK.cons rfl rfl rfl rfl (by decide +kernel) giq_117 ito_118
noncomputable def itl_115 : List (Nat × GI) := (115, M_115, [], [aU], gi_115) :: itl_117
theorem ito_115 : ITOK itl_115 := ITOK.cons rfl rfl rfl rfl (by decide +kernel) giq_115 ito_117
noncomputable def itl_114 : List (Nat × GI) := (114, M_114, [], [], gi_114) :: itl_115
theorem ito_114 : ITOK itl_114 := ITOK.cons rfl rfl rfl rfl (by decide +kernel) giq_114 ito_115
noncomputable def itl_108 : List (Nat × GI) := (108, M_108, [], [], gi_108) :: itl_114
theorem ito_108 : ITOK itl_108 := ITOK.cons rfl rfl rfl rfl (by decide +kernel) giq_108 ito_114
noncomputable def itl_102 : List (Nat × GI) := (102, M_102, [], [], gi_102) :: itl_108
theorem ito_102 : ITOK itl_102 := ITOK.cons rfl rfl rfl rfl (by decide +kernel) giq_102 ito_108
noncomputable def itl_100 : List (Nat × GI) := (100, M_100, [], [], gi_100) :: itl_102
theorem ito_100 : ITOK itl_100 := ITOK.cons rfl rfl rfl rfl (by decide +kernel) giq_100 ito_102
noncomputable def itl_94 : List (Nat × GI) := (94, M_94, [], [aU], gi_94) :: itl_100
theorem ito_94 : ITOK itl_94 := ITOK.cons rfl rfl rfl rfl (by decide +kernel) giq_94 ito_100
noncomputable def itl_92 : List (Nat × GI) := (92, M_92, [], [], gi_92) :: itl_94
theorem ito_92 : ITOK itl_92 := ITOK.cons rfl rfl rfl rfl (by decide +kernel) giq_92 ito_94
noncomputable def itl_84 : List (Nat × GI) := (84, M_84, [], [], gi_84) :: itl_92
theorem ito_84 : ITOK itl_84 := ITOK.cons rfl rfl rfl rfl (by decide +kernel) giq_84 ito_92
noncomputable def itl_82 : List (Nat × GI) := (82, M_82, [], [], gi_82) :: itl_84
theorem ito_82 : ITOK itl_82 := ITOK.cons rfl rfl rfl rfl (by decide +kernel) giq_82 ito_84
noncomputable def itl_79 : List (Nat × GI) := (79, M_79, [], [], gi_79) :: itl_82
theorem ito_79 : ITOK itl_79 := ITOK.cons rfl rfl rfl rfl (by decide +kernel) giq_79 ito_82
noncomputable def itl_74 : List (Nat × GI) := (74, M_74, [], [], gi_74) :: itl_79
theorem ito_74 : ITOK itl_74 := ITOK.cons rfl rfl rfl rfl (by decide +kernel) giq_74 ito_79
noncomputable def itl_73 : List (Nat × GI) := (73, M_73, [], [], gi_73) :: itl_74
theorem ito_73 : ITOK itl_73 := ITOK.cons rfl rfl rfl rfl (by decide +kernel) giq_73 ito_74
noncomputable def itl_72 : List (Nat × GI) := (72, M_72, [], [aU], gi_72) :: itl_73
theorem ito_72 : ITOK itl_72 := ITOK.cons rfl rfl rfl rfl (by decide +kernel) giq_72 ito_73
noncomputable def itl_70 : List (Nat × GI) := (70, M_70, [], [], gi_70) :: itl_72
theorem ito_70 : ITOK itl_70 := ITOK.cons rfl rfl rfl rfl (by decide +kernel) giq_70 ito_72
noncomputable def itl_69 : List (Nat × GI) := (69, M_69, [], [], gi_69) :: itl_70
theorem ito_69 : ITOK itl_69 := ITOK.cons rfl rfl rfl rfl (by decide +kernel) giq_69 ito_70
noncomputable def itl_68 : List (Nat × GI) := (68, M_68, [], [], gi_68) :: itl_69
theorem ito_68 : ITOK itl_68 := ITOK.cons rfl rfl rfl rfl (by decide +kernel) giq_68 ito_69
noncomputable def itl_66 : List (Nat × GI) := (66, M_66, [], [], gi_66) :: itl_68
theorem ito_66 : ITOK itl_66 := ITOK.cons rfl rfl rfl rfl (by decide +kernel) giq_66 ito_68
noncomputable def itl_65 : List (Nat × GI) := (65, M_65, [], [], gi_65) :: itl_66
theorem ito_65 : ITOK itl_65 := ITOK.cons rfl rfl rfl rfl (by decide +kernel) giq_65 ito_66
noncomputable def itl_63 : List (Nat × GI) := (63, M_63, [], [], gi_63) :: itl_65
theorem ito_63 : ITOK itl_63 := ITOK.cons rfl rfl rfl rfl (by decide +kernel) giq_63 ito_65
noncomputable def itl_62 : List (Nat × GI) := (62, M_62, [], [aU], gi_62) :: itl_63
theorem ito_62 : ITOK itl_62 := ITOK.cons rfl rfl rfl rfl (by decide +kernel) giq_62 ito_63
noncomputable def itl_60 : List (Nat × GI) := (60, M_60, [], [], gi_60) :: itl_62
theorem ito_60 : ITOK itl_60 := ITOK.cons rfl rfl rfl rfl (by decide +kernel) giq_60 ito_62
noncomputable def itl_59 : List (Nat × GI) := (59, M_59, [], [aU], gi_59) :: itl_60
theorem ito_59 : ITOK itl_59 := ITOK.cons rfl rfl rfl rfl (by decide +kernel) giq_59 ito_60
noncomputable def itl_57 : List (Nat × GI) := (57, M_57, [], [], gi_57) :: itl_59
theorem ito_57 : ITOK itl_57 := ITOK.cons rfl rfl rfl rfl (by decide +kernel) giq_57 ito_59
noncomputable def itl_56 : List (Nat × GI) := (56, M_56, [], [aU], gi_56) :: itl_57
theorem ito_56 : ITOK itl_56 := ITOK.cons rfl rfl rfl rfl (by decide +kernel) giq_56 ito_57
noncomputable def itl_54 : List (Nat × GI) := (54, M_54, [], [], gi_54) :: itl_56
theorem ito_54 : ITOK itl_54 := ITOK.cons rfl rfl rfl rfl (by decide +kernel) giq_54 ito_56
noncomputable def itl_52 : List (Nat × GI) := (52, M_52, [], [], gi_52) :: itl_54
theorem ito_52 : ITOK itl_52 := ITOK.cons rfl rfl rfl rfl (by decide +kernel) giq_52 ito_54
noncomputable def itl_50 : List (Nat × GI) := (50, M_50, [], [], gi_50) :: itl_52
theorem ito_50 : ITOK itl_50 := ITOK.cons rfl rfl rfl rfl (by decide +kernel) giq_50 ito_52
noncomputable def itl_49 : List (Nat × GI) := (49, M_49, [], [], gi_49) :: itl_50
theorem ito_49 : ITOK itl_49 := ITOK.cons rfl rfl rfl rfl (by decide +kernel) giq_49 ito_50
noncomputable def itl_47 : List (Nat × GI) := (47, M_47, [], [], gi_47) :: itl_49
theorem ito_47 : ITOK itl_47 := ITOK.cons rfl rfl rfl rfl (by decide +kernel) giq_47 ito_49
noncomputable def itl_46 : List (Nat × GI) := (46, M_46, [], [], gi_46) :: itl_47
theorem ito_46 : ITOK itl_46 := ITOK.cons rfl rfl rfl rfl (by decide +kernel) giq_46 ito_47
noncomputable def itl_45 : List (Nat × GI) := (45, M_45, [], [], gi_45) :: itl_46
theorem ito_45 : ITOK itl_45 := ITOK.cons rfl rfl rfl rfl (by decide +kernel) giq_45 ito_46
noncomputable def itl_44 : List (Nat × GI) := (44, M_44, [], [], gi_44) :: itl_45
theorem ito_44 : ITOK itl_44 := ITOK.cons rfl rfl rfl rfl (by decide +kernel) giq_44 ito_45
noncomputable def itl_41 : List (Nat × GI) := (41, M_41, [], [], gi_41) :: itl_44
theorem ito_41 : ITOK itl_41 := ITOK.cons rfl rfl rfl rfl (by decide +kernel) giq_41 ito_44
noncomputable def itl_40 : List (Nat × GI) := (40, M_40, [], [], gi_40) :: itl_41
theorem ito_40 : ITOK itl_40 := ITOK.cons rfl rfl rfl rfl (by decide +kernel) giq_40 ito_41
noncomputable def itl_39 : List (Nat × GI) := (39, M_39, [], [], gi_39) :: itl_40
theorem ito_39 : ITOK itl_39 := ITOK.cons rfl rfl rfl rfl (by decide +kernel) giq_39 ito_40
noncomputable def itl_38 : List (Nat × GI) := (38, M_38, [], [], gi_38) :: itl_39
theorem ito_38 : ITOK itl_38 := ITOK.cons rfl rfl rfl rfl (by decide +kernel) giq_38 ito_39
noncomputable def itl_37 : List (Nat × GI) := (37, M_37, [], [], gi_37) :: itl_38
theorem ito_37 : ITOK itl_37 := ITOK.cons rfl rfl rfl rfl (by decide +kernel) giq_37 ito_38
noncomputable def itl_34 : List (Nat × GI) := (34, M_34, [], [aU], gi_34) :: itl_37
theorem ito_34 : ITOK itl_34 := ITOK.cons rfl rfl rfl rfl (by decide +kernel) giq_34 ito_37
noncomputable def itl_33 : List (Nat × GI) := (33, M_33, [], [], gi_33) :: itl_34
theorem ito_33 : ITOK itl_33 := ITOK.cons rfl rfl rfl rfl (by decide +kernel) giq_33 ito_34
noncomputable def itl_32 : List (Nat × GI) := (32, M_32, [], [], gi_32) :: itl_33
theorem ito_32 : ITOK itl_32 := ITOK.cons rfl rfl rfl rfl (by decide +kernel) giq_32 ito_33
noncomputable def itl_29 : List (Nat × GI) := (29, M_29, [], [], gi_29) :: itl_32
theorem ito_29 : ITOK itl_29 := ITOK.cons rfl rfl rfl rfl (by decide +kernel) giq_29 ito_32
noncomputable def itl_28 : List (Nat × GI) := (28, M_28, [], [aU], gi_28) :: itl_29
theorem ito_28 : ITOK itl_28 := ITOK.cons rfl rfl rfl rfl (by decide +kernel) giq_28 ito_29
noncomputable def itl_25 : List (Nat × GI) := (25, M_25, [], [], gi_25) :: itl_28
theorem ito_25 : ITOK itl_25 := ITOK.cons rfl rfl rfl rfl (by decide +kernel) giq_25 ito_28
noncomputable def itl_24 : List (Nat × GI) := (24, M_24, [], [], gi_24) :: itl_25
theorem ito_24 : ITOK itl_24 := ITOK.cons rfl rfl rfl rfl (by decide +kernel) giq_24 ito_25
noncomputable def itl_22 : List (Nat × GI) := (22, M_22, [], [], gi_22) :: itl_24
theorem ito_22 : ITOK itl_22 := ITOK.cons rfl rfl rfl rfl (by decide +kernel) giq_22 ito_24
noncomputable def itl_21 : List (Nat × GI) := (21, M_21, [], [], gi_21) :: itl_22
theorem ito_21 : ITOK itl_21 := ITOK.cons rfl rfl rfl rfl (by decide +kernel) giq_21 ito_22
noncomputable def itl_19 : List (Nat × GI) := (19, M_19, [], [], gi_19) :: itl_21
theorem ito_19 : ITOK itl_19 := ITOK.cons rfl rfl rfl rfl (by decide +kernel) giq_19 ito_21
noncomputable def itl_18 : List (Nat × GI) := (18, M_18, [], [aU], gi_18) :: itl_19
theorem ito_18 : ITOK itl_18 := ITOK.cons rfl rfl rfl rfl (by decide +kernel) giq_18 ito_19
noncomputable def itl_16 : List (Nat × GI) := (16, M_16, [], [], gi_16) :: itl_18
theorem ito_16 : ITOK itl_16 := ITOK.cons rfl rfl rfl rfl (by decide +kernel) giq_16 ito_18
noncomputable def itl_15 : List (Nat × GI) := (15, M_15, [], [], gi_15) :: itl_16
theorem ito_15 : ITOK itl_15 := ITOK.cons rfl rfl rfl rfl (by decide +kernel) giq_15 ito_16
noncomputable def itl_14 : List (Nat × GI) := (14, M_14, [], [], gi_14) :: itl_15
theorem ito_14 : ITOK itl_14 := ITOK.cons rfl rfl rfl rfl (by decide +kernel) giq_14 ito_15
noncomputable def itl_13 : List (Nat × GI) := (13, M_13, [], [], gi_13) :: itl_14
theorem ito_13 : ITOK itl_13 := ITOK.cons rfl rfl rfl rfl (by decide +kernel) giq_13 ito_14
noncomputable def IT0 : List (Nat × GI) := itl_13
theorem IT0_ok : ITOK IT0 := ito_13
theorem CtOK.up {rs : RS} {S : Nat × (Nat → Int32)} {μ a b : Nat} {G : GC} (h : ∀ n, CtOK rs (Ex S (n + a)) μ G) (hab : a ≤ b) : ∀ n, CtOK rs (Ex S (n + b)) μ G := fun n => by
  have := h (n + (b - a))
  rw [show n + (b - a) + a = n + b by omega] at this
  exact this
