/-! laid by wip/safe/gsafe.py: methods that come out true -/
abbrev ga_12_1_2 : GA := ((1, [(.ofNat 0, .ofNat 8)]), [aC 131071, aY 0 (.ofNat 1) (.ofNat 0), aU], [(65535, .inl (.ofNat 11), .inl (.ofNat 0))], [(0, 1, 0)], .ofNat 32, [(0, .negSucc 3)])
abbrev ga_12_1_12 : GA := ((3, [(.ofNat 1, .ofNat 8), (.ofNat 0, .ofNat 2), (.ofNat 0, .ofNat 7)]), [aC 131071, aY 0 (.ofNat 1) (.ofNat 0), aY 1 (.ofNat 1) (.ofNat 0)], [(131071, .inl (.ofNat 0), aY 2 (.ofNat 1) (.ofNat 0)), (65535, .inl (.ofNat 11), .inl (.ofNat 0))], [(2, 131071, 0), (0, 2, 0), (0, 1, 0)], .ofNat 31, [(0, .negSucc 3), (1, .negSucc 0)])
noncomputable abbrev gc_12_1 : GC := (M_12, ((0, []), [aC 131071, aU, aU], [(65535, .inl (.ofNat 11), .inl (.ofNat 0))], [], .ofNat 0, []), (1, .ofNat 0, .ofNat 1), [], [], [])
noncomputable def gt_12_1 : GT := [(0, .inl (g_push (.inl (.ofNat 0)) 1)), (1, .inl (g_istore2 1 2)), (2, .inr [ga_12_1_2]), (3, .inl (g_aload 0 4)), (4, .inl (g_get 0 0 7)), (7, .inl (g_icmp .ge 55 10)), (10, .inl (g_push (.inl (.ofNat 0)) 11)), (11, .inl (g_istore2 2 12)), (12, .inr [ga_12_1_12]), (13, .inl (g_aload 0 14)), (14, .inl (g_iload 1 15)), (15, .inl (g_call 13 true)), (18, .inl (g_icmp .ge 49 21)), (21, .inl (g_aload 0 22)), (22, .inl (g_iload 1 23)), (23, .inl (g_aload 0 24)), (24, .inl (g_iload 1 25)), (25, .inl (g_iload 2 26)), (26, .inl (g_call 14 true)), (29, .inl (g_aload 0 30)), (30, .inl (g_iload 1 31)), (31, .inl (g_iload 2 32)), (32, .inl (g_call 15 true)), (35, .inl (g_call 16 true)), (38, .inl (g_if .ne 43 41)), (41, .inl (g_push (.inl (.ofNat 0)) 42)), (42, .inl (g_iret)), (43, .inl (g_iinc2 2 (.ofNat 1) 46)), (46, .inl (g_goto 12)), (49, .inl (g_iinc2 1 (.ofNat 1) 52)), (52, .inl (g_goto 2)), (55, .inl (g_push (.inl (.ofNat 1)) 56)), (56, .inl (g_iret))]
noncomputable def gh_12_1 : List (Nat × GA × GPF) := [(2, ga_12_1_2, g_iload 1 3), (12, ga_12_1_12, g_iload 2 13)]
set_option maxRecDepth 1000000 in
theorem gq_12_1 : gt_12_1 = (pT M_12).map (mkT [(2, [ga_12_1_2]), (12, [ga_12_1_12])]) := rfl
set_option maxRecDepth 1000000 in
theorem gp_12_1 : gh_12_1 = (pT M_12).flatMap (mkH [(2, [ga_12_1_2]), (12, [ga_12_1_12])]) := rfl
theorem gm_12_1 : gMeth RS0 (gCl 4000 [] IT0 8) gc_12_1 [] (0, 0, 0, 0) gt_12_1 gh_12_1 4000 = true := by decide +kernel
theorem go_12_1 {S : Nat × (Nat → Int32)} : ∀ n, CtOK RS0 (Ex S (n + 9)) 12 gc_12_1 := meth_of (hs := [(2, [ga_12_1_2]), (12, [ga_12_1_12])]) (k0 := 0) RS0_dj IT0_ok rfl rfl rfl (by decide +kernel) gq_12_1 gp_12_1 (fun n x hx => by cases hx) gm_12_1
abbrev ga_36_1_4 : GA := ((3, [(.ofNat 0, .ofNat 8), (.negSucc 2147483647, .ofNat 2147483647), (.ofNat 0, .ofNat 2)]), [aC 131071, aY 0 (.ofNat 1) (.ofNat 0), aY 1 (.ofNat 1) (.ofNat 0), aY 2 (.ofNat 1) (.ofNat 0)], [], [(0, 3, 0), (0, 2, 0), (0, 1, 0)], .ofNat 8, [(2, .negSucc 0)])
noncomputable abbrev gc_36_1 : GC := (M_36, ((1, [(.ofNat 0, .ofNat 2)]), [aC 131071, aY 0 (.ofNat 1) (.ofNat 0), aU, aU], [], [(0, 1, 0)], .ofNat 0, []), (1, .negSucc 2147483647, .ofNat 2147483647), [], [], [])
noncomputable def gt_36_1 : GT := [(0, .inl (g_push (.inl (.ofNat 0)) 1)), (1, .inl (g_istore2 2 2)), (2, .inl (g_push (.inl (.ofNat 0)) 3)), (3, .inl (g_istore2 3 4)), (4, .inr [ga_36_1_4]), (5, .inl (g_aload 0 6)), (6, .inl (g_get 0 0 9)), (9, .inl (g_icmp .ge 38 12)), (12, .inl (g_aload 0 13)), (13, .inl (g_iload 3 14)), (14, .inl (g_call 37 true)), (17, .inl (g_iload 1 18)), (18, .inl (g_icmp .ne 32 21)), (21, .inl (g_iload 2 22)), (22, .inl (g_aload 0 23)), (23, .inl (g_iload 3 24)), (24, .inl (g_call 38 true)), (27, .inl (g_call 39 false)), (30, .inl (g_bin gAdd 31)), (31, .inl (g_istore2 2 32)), (32, .inl (g_iinc2 3 (.ofNat 1) 35)), (35, .inl (g_goto 4)), (38, .inl (g_iload 2 39)), (39, .inl (g_iret))]
noncomputable def gh_36_1 : List (Nat × GA × GPF) := [(4, ga_36_1_4, g_iload 3 5)]
set_option maxRecDepth 1000000 in
theorem gq_36_1 : gt_36_1 = (pT M_36).map (mkT [(4, [ga_36_1_4])]) := rfl
set_option maxRecDepth 1000000 in
theorem gp_36_1 : gh_36_1 = (pT M_36).flatMap (mkH [(4, [ga_36_1_4])]) := rfl
theorem gm_36_1 : gMeth RS0 (gCl 4000 [] IT0 8) gc_36_1 [] (0, 0, 0, 0) gt_36_1 gh_36_1 4000 = true := by decide +kernel
theorem go_36_1 {S : Nat × (Nat → Int32)} : ∀ n, CtOK RS0 (Ex S (n + 9)) 36 gc_36_1 := meth_of (hs := [(4, [ga_36_1_4])]) (k0 := 0) RS0_dj IT0_ok rfl rfl rfl (by decide +kernel) gq_36_1 gp_36_1 (fun n x hx => by cases hx) gm_36_1
abbrev ga_35_1_5 : GA := ((4, [(.ofNat 0, .ofNat 3), (.ofNat 0, .ofNat 2147483647), (.ofNat 1, .ofNat 4), (.negSucc 0, .ofNat 2)]), [aC 131071, aY 0 (.ofNat 1) (.ofNat 0), aY 1 (.ofNat 1) (.ofNat 0), aY 2 (.ofNat 1) (.ofNat 0), aY 3 (.ofNat 1) (.ofNat 0), aU], [(65535, .inl (.ofNat 11), .inl (.ofNat 0)), (65535, .inl (.ofNat 10), .inl (.ofNat 1))], [(0, 4, 0), (0, 3, 0), (0, 2, 0), (0, 1, 0)], .ofNat 3, [(3, .negSucc 0)])
noncomputable abbrev gc_35_1 : GC := (M_35, ((2, [(.ofNat 1, .ofNat 4), (.negSucc 0, .ofNat 2)]), [aC 131071, aY 0 (.ofNat 1) (.ofNat 0), aY 1 (.ofNat 1) (.ofNat 0), aU, aU, aU], [(65535, .inl (.ofNat 11), .inl (.ofNat 0)), (65535, .inl (.ofNat 10), .inl (.ofNat 1))], [(0, 2, 0), (0, 1, 0)], .ofNat 0, []), (1, .ofNat 0, .ofNat 2147483647), [], [], [])
noncomputable def gt_35_1 : GT := [(0, .inl (g_push (.inl (.ofNat 0)) 1)), (1, .inl (g_istore2 3 2)), (2, .inl (g_push (.inl (.ofNat 0)) 3)), (3, .inl (g_istore2 4 5)), (5, .inr [ga_35_1_5]), (7, .inl (g_push (.inl (.ofNat 3)) 8)), (8, .inl (g_icmp .ge 62 11)), (11, .inl (g_iload 4 13)), (13, .inl (g_iload 1 14)), (14, .inl (g_icmp .ne 29 17)), (17, .inl (g_aload 0 18)), (18, .inl (g_get 0 7 21)), (21, .inl (g_iload 4 23)), (23, .inl (g_iald 24)), (24, .inl (g_push (.inl (.ofNat 1)) 25)), (25, .inl (g_bin gAdd 26)), (26, .inl (g_goto 36)), (29, .inl (g_aload 0 30)), (30, .inl (g_get 0 7 33)), (33, .inl (g_iload 4 35)), (35, .inl (g_iald 36)), (36, .inl (g_istore2 5 38)), (38, .inl (g_iload 3 39)), (39, .inl (g_iload 2 40)), (40, .inl (g_aload 0 41)), (41, .inl (g_iload 4 43)), (43, .inl (g_call 36 true)), (46, .inl (g_bin gMul 47)), (47, .inl (g_iload 5 49)), (49, .inl (g_call 33 false)), (52, .inl (g_call 40 false)), (55, .inl (g_istore2 3 56)), (56, .inl (g_iinc2 4 (.ofNat 1) 59)), (59, .inl (g_goto 5)), (62, .inl (g_iload 3 63)), (63, .inl (g_iret))]
noncomputable def gh_35_1 : List (Nat × GA × GPF) := [(5, ga_35_1_5, g_iload 4 7)]
set_option maxRecDepth 1000000 in
theorem gq_35_1 : gt_35_1 = (pT M_35).map (mkT [(5, [ga_35_1_5])]) := rfl
set_option maxRecDepth 1000000 in
theorem gp_35_1 : gh_35_1 = (pT M_35).flatMap (mkH [(5, [ga_35_1_5])]) := rfl
theorem gm_35_1 : gMeth RS0 (gCl 4000 [(36, gc_36_1)] IT0 8) gc_35_1 [] (0, 0, 0, 0) gt_35_1 gh_35_1 4000 = true := by decide +kernel
theorem go_35_1 {S : Nat × (Nat → Int32)} : ∀ n, CtOK RS0 (Ex S (n + 18)) 35 gc_35_1 := meth_of (hs := [(5, [ga_35_1_5])]) (k0 := 9) RS0_dj IT0_ok rfl rfl rfl (by decide +kernel) gq_35_1 gp_35_1 (fun n x hx => by
  simp only [List.mem_cons, List.not_mem_nil, or_false] at hx
  rcases hx with rfl
  exact CtOK.up go_36_1 (by decide) n) gm_35_1
abbrev ga_42_1_4 : GA := ((2, [(.ofNat 0, .ofNat 8), (.negSucc 2147483647, .ofNat 2147483647)]), [aC 131071, aY 0 (.ofNat 1) (.ofNat 0), aY 1 (.ofNat 1) (.ofNat 0)], [(65535, .inl (.ofNat 11), .inl (.ofNat 0))], [(0, 2, 0), (0, 1, 0)], .ofNat 8, [(1, .negSucc 0)])
noncomputable abbrev gc_42_1 : GC := (M_42, ((0, []), [aC 131071, aU, aU], [(65535, .inl (.ofNat 11), .inl (.ofNat 0))], [], .ofNat 0, []), (1, .negSucc 2147483647, .ofNat 2147483647), [], [], [])
noncomputable def gt_42_1 : GT := [(0, .inl (g_push (.inl (.ofNat 0)) 1)), (1, .inl (g_istore2 1 2)), (2, .inl (g_push (.inl (.ofNat 0)) 3)), (3, .inl (g_istore2 2 4)), (4, .inr [ga_42_1_4]), (5, .inl (g_aload 0 6)), (6, .inl (g_get 0 0 9)), (9, .inl (g_icmp .ge 26 12)), (12, .inl (g_iload 1 13)), (13, .inl (g_aload 0 14)), (14, .inl (g_iload 2 15)), (15, .inl (g_call 19 true)), (18, .inl (g_bin gAdd 19)), (19, .inl (g_istore2 1 20)), (20, .inl (g_iinc2 2 (.ofNat 1) 23)), (23, .inl (g_goto 4)), (26, .inl (g_iload 1 27)), (27, .inl (g_iret))]
noncomputable def gh_42_1 : List (Nat × GA × GPF) := [(4, ga_42_1_4, g_iload 2 5)]
set_option maxRecDepth 1000000 in
theorem gq_42_1 : gt_42_1 = (pT M_42).map (mkT [(4, [ga_42_1_4])]) := rfl
set_option maxRecDepth 1000000 in
theorem gp_42_1 : gh_42_1 = (pT M_42).flatMap (mkH [(4, [ga_42_1_4])]) := rfl
theorem gm_42_1 : gMeth RS0 (gCl 4000 [] IT0 8) gc_42_1 [] (0, 0, 0, 0) gt_42_1 gh_42_1 4000 = true := by decide +kernel
theorem go_42_1 {S : Nat × (Nat → Int32)} : ∀ n, CtOK RS0 (Ex S (n + 9)) 42 gc_42_1 := meth_of (hs := [(4, [ga_42_1_4])]) (k0 := 0) RS0_dj IT0_ok rfl rfl rfl (by decide +kernel) gq_42_1 gp_42_1 (fun n x hx => by cases hx) gm_42_1
