/-! laid by wip/hand/lw.py: cases of the law -/
theorem te_368_2291 : (pT M_368).find? (fun e => e.1 == 2291) = some (2291, .aload_n 1, 0, 0) := (sk_120 2291 rfl).trans rfl
theorem te_368_2292 : (pT M_368).find? (fun e => e.1 == 2292) = some (2292, .aload_n 0, 0, 0) := (sk_120 2292 rfl).trans rfl
theorem te_368_2293 : (pT M_368).find? (fun e => e.1 == 2293) = some (2293, .iload 4, 0, 0) := (sk_120 2293 rfl).trans rfl
theorem te_368_2295 : (pT M_368).find? (fun e => e.1 == 2295) = some (2295, .iconst 1, 0, 0) := (sk_120 2295 rfl).trans rfl
theorem te_368_2296 : (pT M_368).find? (fun e => e.1 == 2296) = some (2296, .iadd, 0, 0) := (sk_121 2296 rfl).trans rfl
theorem te_368_2297 : (pT M_368).find? (fun e => e.1 == 2297) = some (2297, .iaload, 0, 0) := (sk_121 2297 rfl).trans rfl
theorem te_368_2298 : (pT M_368).find? (fun e => e.1 == 2298) = some (2298, .aload_n 3, 0, 0) := (sk_121 2298 rfl).trans rfl
theorem te_368_2299 : (pT M_368).find? (fun e => e.1 == 2299) = some (2299, .invokestatic 333, 222, 8) := (sk_121 2299 rfl).trans rfl
theorem te_368_2302 : (pT M_368).find? (fun e => e.1 == 2302) = some (2302, .istore 5, 0, 0) := (sk_121 2302 rfl).trans rfl
theorem te_368_2304 : (pT M_368).find? (fun e => e.1 == 2304) = some (2304, .aload_n 2, 0, 0) := (sk_121 2304 rfl).trans rfl
theorem te_368_2305 : (pT M_368).find? (fun e => e.1 == 2305) = some (2305, .aload_n 0, 0, 0) := (sk_121 2305 rfl).trans rfl
theorem te_368_2306 : (pT M_368).find? (fun e => e.1 == 2306) = some (2306, .iload 4, 0, 0) := (sk_121 2306 rfl).trans rfl
theorem te_368_2308 : (pT M_368).find? (fun e => e.1 == 2308) = some (2308, .iconst 1, 0, 0) := (sk_121 2308 rfl).trans rfl
theorem te_368_2309 : (pT M_368).find? (fun e => e.1 == 2309) = some (2309, .iadd, 0, 0) := (sk_121 2309 rfl).trans rfl
theorem te_368_2310 : (pT M_368).find? (fun e => e.1 == 2310) = some (2310, .iaload, 0, 0) := (sk_121 2310 rfl).trans rfl
theorem te_368_2311 : (pT M_368).find? (fun e => e.1 == 2311) = some (2311, .invokevirtual 335, 358, 0) := (sk_121 2311 rfl).trans rfl
theorem te_368_2314 : (pT M_368).find? (fun e => e.1 == 2314) = some (2314, .istore 6, 0, 0) := (sk_122 2314 rfl).trans rfl
theorem te_368_2316 : (pT M_368).find? (fun e => e.1 == 2316) = some (2316, .goto 28, 0, 0) := (sk_122 2316 rfl).trans rfl
theorem te_368_2319 : (pT M_368).find? (fun e => e.1 == 2319) = some (2319, .aload_n 1, 0, 0) := (sk_122 2319 rfl).trans rfl
theorem te_368_2320 : (pT M_368).find? (fun e => e.1 == 2320) = some (2320, .aload_n 0, 0, 0) := (sk_122 2320 rfl).trans rfl
theorem te_368_2321 : (pT M_368).find? (fun e => e.1 == 2321) = some (2321, .iload 4, 0, 0) := (sk_122 2321 rfl).trans rfl
theorem te_368_2323 : (pT M_368).find? (fun e => e.1 == 2323) = some (2323, .iconst 1, 0, 0) := (sk_122 2323 rfl).trans rfl
theorem te_368_2324 : (pT M_368).find? (fun e => e.1 == 2324) = some (2324, .iadd, 0, 0) := (sk_122 2324 rfl).trans rfl
theorem te_368_2325 : (pT M_368).find? (fun e => e.1 == 2325) = some (2325, .iaload, 0, 0) := (sk_122 2325 rfl).trans rfl
theorem te_368_2326 : (pT M_368).find? (fun e => e.1 == 2326) = some (2326, .invokevirtual 336, 31, 0) := (sk_122 2326 rfl).trans rfl
theorem te_368_2329 : (pT M_368).find? (fun e => e.1 == 2329) = some (2329, .pop, 0, 0) := (sk_122 2329 rfl).trans rfl
theorem te_368_2330 : (pT M_368).find? (fun e => e.1 == 2330) = some (2330, .aload_n 2, 0, 0) := (sk_122 2330 rfl).trans rfl
theorem te_368_2331 : (pT M_368).find? (fun e => e.1 == 2331) = some (2331, .aload_n 0, 0, 0) := (sk_122 2331 rfl).trans rfl
theorem te_368_2332 : (pT M_368).find? (fun e => e.1 == 2332) = some (2332, .iload 4, 0, 0) := (sk_123 2332 rfl).trans rfl
theorem te_368_2334 : (pT M_368).find? (fun e => e.1 == 2334) = some (2334, .iconst 1, 0, 0) := (sk_123 2334 rfl).trans rfl
theorem te_368_2335 : (pT M_368).find? (fun e => e.1 == 2335) = some (2335, .iadd, 0, 0) := (sk_123 2335 rfl).trans rfl
theorem te_368_2336 : (pT M_368).find? (fun e => e.1 == 2336) = some (2336, .iaload, 0, 0) := (sk_123 2336 rfl).trans rfl
theorem te_368_2337 : (pT M_368).find? (fun e => e.1 == 2337) = some (2337, .invokevirtual 339, 366, 0) := (sk_123 2337 rfl).trans rfl
theorem te_368_2340 : (pT M_368).find? (fun e => e.1 == 2340) = some (2340, .pop, 0, 0) := (sk_123 2340 rfl).trans rfl
theorem te_368_2341 : (pT M_368).find? (fun e => e.1 == 2341) = some (2341, .goto 3, 0, 0) := (sk_123 2341 rfl).trans rfl
theorem lc_47 {S : Nat × (Nat → Int32)} {lv : LV} {h : PH} {c s : Nat} {i : Int32} (hS : S.1 ≤ 3072) (hl : LwS lv i) (hi : 0 ≤ i.toInt ∧ i.toInt + 5 < S.1) (hL : LR h) (hc : c + 8 ≤ 601024) (hs : s + 48 ≤ 7293033) (Nx : ∀ lv' h' c' s', LwS lv' i → LR h' → c' ≤ c + 8 → s' ≤ s + 48 → Vx (Ex S 24) S M_368 [] Q1 2344 lv' [] h' c' s') : Vx (Ex S 24) S M_368 [] Q1 2291 lv [] h c s := by
  have hC := Ex.mono S 24
  refine Vx.go hC te_368_2291 ?_
  refine ⟨_, hl.2.1, ⟨0, Or.inl rfl⟩, ?_⟩
  refine sc_load hC (k := 1) hl te_368_2292 te_368_2293 te_368_2295 te_368_2296 te_368_2297 (sc_in hS hi (by decide)) ?_
  refine Vx.go hC te_368_2298 ?_
  refine ⟨_, hl.2.2.2.1, ⟨173, Or.inl rfl⟩, ?_⟩
  refine Vx.go hC te_368_2299 ?_
  refine Or.inr ⟨by decide, ?_⟩
  refine p_call_mk (av := [.ref 0, .int (S.2 (i + Int32.ofInt 1).toNatClampNeg), .ref 173]) (rest := []) mt_222 rfl (by decide) (show c + 2 ≤ 601024 by omega) (show s + 12 ≤ 7293033 by omega) (fun q => by cases q) ?_
  refine g_222 (n := 6) hL (fun r3 h1 hL2 => ?_)
  show Vx (Ex S 24) S M_368 [] Q1 2302 lv [.int r3] h1 (c + 2) (s + 12)
  refine Vx.go hC te_368_2302 ?_
  refine ⟨by decide, ?_⟩
  have hl4 := LwS.st (j := 5) (v := .int r3) (by omega) hl
  show Vx (Ex S 24) S M_368 [] Q1 2304 (px_s1 lv 5 (.int r3)) [] h1 (c + 2) (s + 12)
  refine Vx.go hC te_368_2304 ?_
  refine ⟨_, hl4.2.2.1, ⟨143, Or.inl rfl⟩, ?_⟩
  refine sc_load hC (k := 1) hl4 te_368_2305 te_368_2306 te_368_2308 te_368_2309 te_368_2310 (sc_in hS hi (by decide)) ?_
  refine Vx.go hC te_368_2311 ?_
  obtain ⟨gs8, gs8g⟩ := hL2.obj (A := 143) rfl
  have hcall9 := ref_call (S := S) (n := 24) (μ := 358) (args := [.inr 143, .inl ((S.2 (i + Int32.ofInt 1).toNatClampNeg) : Int32).toInt]) (h := h1) (fun v hv => by simp only [List.mem_cons, List.not_mem_nil, or_false] at hv; rcases hv with rfl | rfl <;> first | trivial | exact wiI _) hL2 (fun mem hr => f_358 hr (fun r m' a b => ⟨a, b⟩))
  simp only [List.map_cons, List.map_nil, wv, Int32.ofInt_toInt] at hcall9
  refine p_call_mk (av := [.ref 143, .int (S.2 (i + Int32.ofInt 1).toNatClampNeg)]) (rest := []) mt_358 rfl (by decide) (show (c + 2) + 0 ≤ 601024 by omega) (show (s + 12) + 0 ≤ 7293033 by omega) (fun _ => ⟨143, gs8, rfl, gs8g⟩) ?_
  refine hC _ _ _ _ _ ?_ hcall9
  rintro _ h5 ⟨hL6, r7, rfl⟩
  show Vx (Ex S 24) S M_368 [] Q1 2314 (px_s1 lv 5 (.int r3)) [.int r7] h5 (c + 2) (s + 12)
  refine Vx.go hC te_368_2314 ?_
  refine ⟨by decide, ?_⟩
  have hl10 := LwS.st (j := 6) (v := .int r7) (by omega) hl4
  show Vx (Ex S 24) S M_368 [] Q1 2316 (px_s1 (px_s1 lv 5 (.int r3)) 6 (.int r7)) [] h5 (c + 2) (s + 12)
  refine Vx.go hC te_368_2316 ?_
  refine ⟨by decide, ?_⟩
  exact Nx _ _ _ _ hl10 hL6 (by omega) (by omega)
theorem lc_48 {S : Nat × (Nat → Int32)} {lv : LV} {h : PH} {c s : Nat} {i : Int32} (hS : S.1 ≤ 3072) (hl : LwS lv i) (hi : 0 ≤ i.toInt ∧ i.toInt + 5 < S.1) (hL : LR h) (hc : c + 8 ≤ 601024) (hs : s + 48 ≤ 7293033) (Nx : ∀ lv' h' c' s', LwS lv' i → LR h' → c' ≤ c + 8 → s' ≤ s + 48 → Vx (Ex S 24) S M_368 [] Q1 2344 lv' [] h' c' s') : Vx (Ex S 24) S M_368 [] Q1 2319 lv [] h c s := by
  have hC := Ex.mono S 24
  refine Vx.go hC te_368_2319 ?_
  refine ⟨_, hl.2.1, ⟨0, Or.inl rfl⟩, ?_⟩
  refine sc_load hC (k := 1) hl te_368_2320 te_368_2321 te_368_2323 te_368_2324 te_368_2325 (sc_in hS hi (by decide)) ?_
  refine Vx.go hC te_368_2326 ?_
  obtain ⟨gs4, gs4g⟩ := hL.obj (A := 0) rfl
  have hcall5 := cls_call (S := S) (n := 24) (μ := 31) (args := [.inr 0, .inl ((S.2 (i + Int32.ofInt 1).toNatClampNeg) : Int32).toInt]) (h := h) (es := fun _ => False) (fun v hv => by simp only [List.mem_cons, List.not_mem_nil, or_false] at hv; rcases hv with rfl | rfl <;> first | trivial | exact wiI _) hL (fun mem hr => f_31 hr (fun r m' a b => ⟨a, b⟩))
  simp only [List.map_cons, List.map_nil, wv, Int32.ofInt_toInt] at hcall5
  refine p_call_mk (av := [.ref 0, .int (S.2 (i + Int32.ofInt 1).toNatClampNeg)]) (rest := []) mt_31 rfl (by decide) (show c + 0 ≤ 601024 by omega) (show s + 0 ≤ 7293033 by omega) (fun _ => ⟨0, gs4, rfl, gs4g⟩) ?_
  refine hC _ _ _ _ _ ?_ hcall5
  rintro _ h1 ⟨hL2, hor⟩
  obtain ⟨r3, rfl⟩ := hor.resolve_right (fun ⟨_, q, _⟩ => q)
  show Vx (Ex S 24) S M_368 [] Q1 2329 lv [.int r3] h1 c s
  refine Vx.go hC te_368_2329 ?_
  refine ⟨_, _, rfl, rfl, ?_⟩
  show Vx (Ex S 24) S M_368 [] Q1 2330 lv [] h1 c s
  refine Vx.go hC te_368_2330 ?_
  refine ⟨_, hl.2.2.1, ⟨143, Or.inl rfl⟩, ?_⟩
  refine sc_load hC (k := 1) hl te_368_2331 te_368_2332 te_368_2334 te_368_2335 te_368_2336 (sc_in hS hi (by decide)) ?_
  refine Vx.go hC te_368_2337 ?_
  obtain ⟨gs9, gs9g⟩ := hL2.obj (A := 143) rfl
  have hcall10 := ref_call (S := S) (n := 24) (μ := 366) (args := [.inr 143, .inl ((S.2 (i + Int32.ofInt 1).toNatClampNeg) : Int32).toInt]) (h := h1) (fun v hv => by simp only [List.mem_cons, List.not_mem_nil, or_false] at hv; rcases hv with rfl | rfl <;> first | trivial | exact wiI _) hL2 (fun mem hr => f_366 hr (fun r m' a b => ⟨a, b⟩))
  simp only [List.map_cons, List.map_nil, wv, Int32.ofInt_toInt] at hcall10
  refine p_call_mk (av := [.ref 143, .int (S.2 (i + Int32.ofInt 1).toNatClampNeg)]) (rest := []) mt_366 rfl (by decide) (show c + 0 ≤ 601024 by omega) (show s + 0 ≤ 7293033 by omega) (fun _ => ⟨143, gs9, rfl, gs9g⟩) ?_
  refine hC _ _ _ _ _ ?_ hcall10
  rintro _ h6 ⟨hL7, r8, rfl⟩
  show Vx (Ex S 24) S M_368 [] Q1 2340 lv [.int r8] h6 c s
  refine Vx.go hC te_368_2340 ?_
  refine ⟨_, _, rfl, rfl, ?_⟩
  show Vx (Ex S 24) S M_368 [] Q1 2341 lv [] h6 c s
  refine Vx.go hC te_368_2341 ?_
  refine ⟨by decide, ?_⟩
  exact Nx _ _ _ _ hl hL7 (by omega) (by omega)
