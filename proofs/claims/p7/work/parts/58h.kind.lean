/-! the case that is compared: kind -/
theorem te_368_0 : (pT M_368).find? (fun e => e.1 == 0) = some (0, .new 8, 9, 0) := (sk_0 0 rfl).trans rfl
theorem te_368_3 : (pT M_368).find? (fun e => e.1 == 3) = some (3, .dup, 0, 0) := (sk_0 3 rfl).trans rfl
theorem te_368_4 : (pT M_368).find? (fun e => e.1 == 4) = some (4, .invokespecial 170, 0, 4) := (sk_0 4 rfl).trans rfl
theorem te_368_7 : (pT M_368).find? (fun e => e.1 == 7) = some (7, .astore_n 1, 0, 0) := (sk_0 7 rfl).trans rfl
theorem te_368_8 : (pT M_368).find? (fun e => e.1 == 8) = some (8, .new 171, 10, 0) := (sk_0 8 rfl).trans rfl
theorem te_368_11 : (pT M_368).find? (fun e => e.1 == 11) = some (11, .dup, 0, 0) := (sk_0 11 rfl).trans rfl
theorem te_368_12 : (pT M_368).find? (fun e => e.1 == 12) = some (12, .invokespecial 173, 224, 4) := (sk_0 12 rfl).trans rfl
theorem te_368_15 : (pT M_368).find? (fun e => e.1 == 15) = some (15, .astore_n 2, 0, 0) := (sk_0 15 rfl).trans rfl
theorem te_368_16 : (pT M_368).find? (fun e => e.1 == 16) = some (16, .iconst 1, 0, 0) := (sk_0 16 rfl).trans rfl
theorem te_368_17 : (pT M_368).find? (fun e => e.1 == 17) = some (17, .newarray .long, 0, 0) := (sk_0 17 rfl).trans rfl
theorem te_368_19 : (pT M_368).find? (fun e => e.1 == 19) = some (19, .astore_n 3, 0, 0) := (sk_0 19 rfl).trans rfl
theorem te_368_20 : (pT M_368).find? (fun e => e.1 == 20) = some (20, .iconst 0, 0, 0) := (sk_0 20 rfl).trans rfl
theorem te_368_21 : (pT M_368).find? (fun e => e.1 == 21) = some (21, .istore 4, 0, 0) := (sk_1 21 rfl).trans rfl
theorem te_368_23 : (pT M_368).find? (fun e => e.1 == 23) = some (23, .iload 4, 0, 0) := (sk_1 23 rfl).trans rfl
theorem te_368_25 : (pT M_368).find? (fun e => e.1 == 25) = some (25, .aload_n 0, 0, 0) := (sk_1 25 rfl).trans rfl
theorem te_368_26 : (pT M_368).find? (fun e => e.1 == 26) = some (26, .arraylength, 0, 0) := (sk_1 26 rfl).trans rfl
theorem te_368_27 : (pT M_368).find? (fun e => e.1 == 27) = some (27, .bipush 6, 0, 0) := (sk_1 27 rfl).trans rfl
theorem te_368_29 : (pT M_368).find? (fun e => e.1 == 29) = some (29, .isub, 0, 0) := (sk_1 29 rfl).trans rfl
theorem te_368_30 : (pT M_368).find? (fun e => e.1 == 30) = some (30, .if_icmp .gt 2303, 0, 0) := (sk_1 30 rfl).trans rfl
theorem te_368_33 : (pT M_368).find? (fun e => e.1 == 33) = some (33, .aload_n 0, 0, 0) := (sk_1 33 rfl).trans rfl
theorem te_368_34 : (pT M_368).find? (fun e => e.1 == 34) = some (34, .iload 4, 0, 0) := (sk_1 34 rfl).trans rfl
theorem te_368_36 : (pT M_368).find? (fun e => e.1 == 36) = some (36, .iaload, 0, 0) := (sk_1 36 rfl).trans rfl
theorem te_368_37 : (pT M_368).find? (fun e => e.1 == 37) = some (37, .bipush 63, 0, 0) := (sk_1 37 rfl).trans rfl
theorem te_368_39 : (pT M_368).find? (fun e => e.1 == 39) = some (39, .iand, 0, 0) := (sk_1 39 rfl).trans rfl
theorem te_368_40 : (pT M_368).find? (fun e => e.1 == 40) = some (40, .tableswitch 2287 0 48 #[212, 288, 328, 392, 408, 448, 521, 561, 601, 614, 654, 706, 746, 774, 802, 818, 858, 910, 950, 978, 994, 1034, 1086, 1126, 1190, 1242, 1306, 1358, 1410, 1474, 1530, 1598, 1626, 1678, 1754, 1798, 1814, 1842, 1858, 1886, 1914, 1954, 2022, 2074, 2114, 2178, 2206, 2234, 2262], 212, 0) := (sk_2 40 rfl).trans rfl
theorem te_368_488 : (pT M_368).find? (fun e => e.1 == 488) = some (488, .aload_n 1, 0, 0) := (sk_16 488 rfl).trans rfl
theorem te_368_489 : (pT M_368).find? (fun e => e.1 == 489) = some (489, .aload_n 0, 0, 0) := (sk_16 489 rfl).trans rfl
theorem te_368_490 : (pT M_368).find? (fun e => e.1 == 490) = some (490, .iload 4, 0, 0) := (sk_16 490 rfl).trans rfl
theorem te_368_492 : (pT M_368).find? (fun e => e.1 == 492) = some (492, .iconst 1, 0, 0) := (sk_16 492 rfl).trans rfl
theorem te_368_493 : (pT M_368).find? (fun e => e.1 == 493) = some (493, .iadd, 0, 0) := (sk_16 493 rfl).trans rfl
theorem te_368_494 : (pT M_368).find? (fun e => e.1 == 494) = some (494, .iaload, 0, 0) := (sk_16 494 rfl).trans rfl
theorem te_368_495 : (pT M_368).find? (fun e => e.1 == 495) = some (495, .aload_n 0, 0, 0) := (sk_16 495 rfl).trans rfl
theorem te_368_496 : (pT M_368).find? (fun e => e.1 == 496) = some (496, .iload 4, 0, 0) := (sk_16 496 rfl).trans rfl
theorem te_368_498 : (pT M_368).find? (fun e => e.1 == 498) = some (498, .iconst 2, 0, 0) := (sk_16 498 rfl).trans rfl
theorem te_368_499 : (pT M_368).find? (fun e => e.1 == 499) = some (499, .iadd, 0, 0) := (sk_17 499 rfl).trans rfl
theorem te_368_500 : (pT M_368).find? (fun e => e.1 == 500) = some (500, .iaload, 0, 0) := (sk_17 500 rfl).trans rfl
theorem te_368_501 : (pT M_368).find? (fun e => e.1 == 501) = some (501, .aload_n 0, 0, 0) := (sk_17 501 rfl).trans rfl
theorem te_368_502 : (pT M_368).find? (fun e => e.1 == 502) = some (502, .iload 4, 0, 0) := (sk_17 502 rfl).trans rfl
theorem te_368_504 : (pT M_368).find? (fun e => e.1 == 504) = some (504, .iconst 3, 0, 0) := (sk_17 504 rfl).trans rfl
theorem te_368_505 : (pT M_368).find? (fun e => e.1 == 505) = some (505, .iadd, 0, 0) := (sk_17 505 rfl).trans rfl
theorem te_368_506 : (pT M_368).find? (fun e => e.1 == 506) = some (506, .iaload, 0, 0) := (sk_17 506 rfl).trans rfl
theorem te_368_507 : (pT M_368).find? (fun e => e.1 == 507) = some (507, .aload_n 0, 0, 0) := (sk_17 507 rfl).trans rfl
theorem te_368_508 : (pT M_368).find? (fun e => e.1 == 508) = some (508, .iload 4, 0, 0) := (sk_17 508 rfl).trans rfl
theorem te_368_510 : (pT M_368).find? (fun e => e.1 == 510) = some (510, .iconst 4, 0, 0) := (sk_17 510 rfl).trans rfl
theorem te_368_511 : (pT M_368).find? (fun e => e.1 == 511) = some (511, .iadd, 0, 0) := (sk_17 511 rfl).trans rfl
theorem te_368_512 : (pT M_368).find? (fun e => e.1 == 512) = some (512, .iaload, 0, 0) := (sk_17 512 rfl).trans rfl
theorem te_368_513 : (pT M_368).find? (fun e => e.1 == 513) = some (513, .invokestatic 195, 58, 8) := (sk_18 513 rfl).trans rfl
theorem te_368_516 : (pT M_368).find? (fun e => e.1 == 516) = some (516, .istore 5, 0, 0) := (sk_18 516 rfl).trans rfl
theorem te_368_518 : (pT M_368).find? (fun e => e.1 == 518) = some (518, .aload_n 2, 0, 0) := (sk_18 518 rfl).trans rfl
theorem te_368_519 : (pT M_368).find? (fun e => e.1 == 519) = some (519, .aload_n 0, 0, 0) := (sk_18 519 rfl).trans rfl
theorem te_368_520 : (pT M_368).find? (fun e => e.1 == 520) = some (520, .iload 4, 0, 0) := (sk_18 520 rfl).trans rfl
theorem te_368_522 : (pT M_368).find? (fun e => e.1 == 522) = some (522, .iconst 1, 0, 0) := (sk_18 522 rfl).trans rfl
theorem te_368_523 : (pT M_368).find? (fun e => e.1 == 523) = some (523, .iadd, 0, 0) := (sk_18 523 rfl).trans rfl
theorem te_368_524 : (pT M_368).find? (fun e => e.1 == 524) = some (524, .iaload, 0, 0) := (sk_18 524 rfl).trans rfl
theorem te_368_525 : (pT M_368).find? (fun e => e.1 == 525) = some (525, .aload_n 0, 0, 0) := (sk_18 525 rfl).trans rfl
theorem te_368_526 : (pT M_368).find? (fun e => e.1 == 526) = some (526, .iload 4, 0, 0) := (sk_18 526 rfl).trans rfl
theorem te_368_528 : (pT M_368).find? (fun e => e.1 == 528) = some (528, .iconst 2, 0, 0) := (sk_18 528 rfl).trans rfl
theorem te_368_529 : (pT M_368).find? (fun e => e.1 == 529) = some (529, .iadd, 0, 0) := (sk_18 529 rfl).trans rfl
theorem te_368_530 : (pT M_368).find? (fun e => e.1 == 530) = some (530, .iaload, 0, 0) := (sk_19 530 rfl).trans rfl
theorem te_368_531 : (pT M_368).find? (fun e => e.1 == 531) = some (531, .aload_n 0, 0, 0) := (sk_19 531 rfl).trans rfl
theorem te_368_532 : (pT M_368).find? (fun e => e.1 == 532) = some (532, .iload 4, 0, 0) := (sk_19 532 rfl).trans rfl
theorem te_368_534 : (pT M_368).find? (fun e => e.1 == 534) = some (534, .iconst 3, 0, 0) := (sk_19 534 rfl).trans rfl
theorem te_368_535 : (pT M_368).find? (fun e => e.1 == 535) = some (535, .iadd, 0, 0) := (sk_19 535 rfl).trans rfl
theorem te_368_536 : (pT M_368).find? (fun e => e.1 == 536) = some (536, .iaload, 0, 0) := (sk_19 536 rfl).trans rfl
theorem te_368_537 : (pT M_368).find? (fun e => e.1 == 537) = some (537, .aload_n 0, 0, 0) := (sk_19 537 rfl).trans rfl
theorem te_368_538 : (pT M_368).find? (fun e => e.1 == 538) = some (538, .iload 4, 0, 0) := (sk_19 538 rfl).trans rfl
theorem te_368_540 : (pT M_368).find? (fun e => e.1 == 540) = some (540, .iconst 4, 0, 0) := (sk_19 540 rfl).trans rfl
theorem te_368_541 : (pT M_368).find? (fun e => e.1 == 541) = some (541, .iadd, 0, 0) := (sk_19 541 rfl).trans rfl
theorem te_368_542 : (pT M_368).find? (fun e => e.1 == 542) = some (542, .iaload, 0, 0) := (sk_19 542 rfl).trans rfl
theorem te_368_543 : (pT M_368).find? (fun e => e.1 == 543) = some (543, .invokevirtual 198, 236, 0) := (sk_19 543 rfl).trans rfl
theorem te_368_546 : (pT M_368).find? (fun e => e.1 == 546) = some (546, .pop, 0, 0) := (sk_20 546 rfl).trans rfl
theorem te_368_547 : (pT M_368).find? (fun e => e.1 == 547) = some (547, .aload_n 2, 0, 0) := (sk_20 547 rfl).trans rfl
theorem te_368_548 : (pT M_368).find? (fun e => e.1 == 548) = some (548, .invokevirtual 200, 225, 0) := (sk_20 548 rfl).trans rfl
theorem te_368_551 : (pT M_368).find? (fun e => e.1 == 551) = some (551, .iload 5, 0, 0) := (sk_20 551 rfl).trans rfl
theorem te_368_553 : (pT M_368).find? (fun e => e.1 == 553) = some (553, .if_icmp .eq 5, 0, 0) := (sk_20 553 rfl).trans rfl
theorem te_368_556 : (pT M_368).find? (fun e => e.1 == 556) = some (556, .iconst 0, 0, 0) := (sk_20 556 rfl).trans rfl
theorem te_368_557 : (pT M_368).find? (fun e => e.1 == 557) = some (557, .ireturn, 0, 0) := (sk_20 557 rfl).trans rfl
theorem te_368_558 : (pT M_368).find? (fun e => e.1 == 558) = some (558, .goto 1769, 0, 0) := (sk_20 558 rfl).trans rfl
theorem te_368_2327 : (pT M_368).find? (fun e => e.1 == 2327) = some (2327, .iinc 4 6, 0, 0) := (sk_122 2327 rfl).trans rfl
theorem te_368_2330 : (pT M_368).find? (fun e => e.1 == 2330) = some (2330, .goto (-2307), 0, 0) := (sk_122 2330 rfl).trans rfl
theorem te_368_2333 : (pT M_368).find? (fun e => e.1 == 2333) = some (2333, .iconst 1, 0, 0) := (sk_122 2333 rfl).trans rfl
theorem te_368_2334 : (pT M_368).find? (fun e => e.1 == 2334) = some (2334, .ireturn, 0, 0) := (sk_122 2334 rfl).trans rfl
theorem te_58_0 : (pT M_58).find? (fun e => e.1 == 0) = some (0, .aload_n 0, 0, 0) := rfl
theorem te_58_1 : (pT M_58).find? (fun e => e.1 == 1) = some (1, .iload_n 1, 0, 0) := rfl
theorem te_58_2 : (pT M_58).find? (fun e => e.1 == 2) = some (2, .iload_n 2, 0, 0) := rfl
theorem te_58_3 : (pT M_58).find? (fun e => e.1 == 3) = some (3, .iload_n 3, 0, 0) := rfl
theorem te_58_4 : (pT M_58).find? (fun e => e.1 == 4) = some (4, .iload 4, 0, 0) := rfl
theorem te_58_6 : (pT M_58).find? (fun e => e.1 == 6) = some (6, .invokevirtual 34, 59, 0) := rfl
theorem te_58_9 : (pT M_58).find? (fun e => e.1 == 9) = some (9, .goto 11, 0, 0) := rfl
theorem te_58_12 : (pT M_58).find? (fun e => e.1 == 12) = some (12, .astore 5, 0, 0) := rfl
theorem te_58_14 : (pT M_58).find? (fun e => e.1 == 14) = some (14, .iconst 1, 0, 0) := rfl
theorem te_58_15 : (pT M_58).find? (fun e => e.1 == 15) = some (15, .ireturn, 0, 0) := rfl
theorem te_58_16 : (pT M_58).find? (fun e => e.1 == 16) = some (16, .astore 5, 0, 0) := rfl
theorem te_58_18 : (pT M_58).find? (fun e => e.1 == 18) = some (18, .iconst 2, 0, 0) := rfl
theorem te_58_19 : (pT M_58).find? (fun e => e.1 == 19) = some (19, .ireturn, 0, 0) := rfl
theorem te_58_20 : (pT M_58).find? (fun e => e.1 == 20) = some (20, .iconst 0, 0, 0) := rfl
theorem te_58_21 : (pT M_58).find? (fun e => e.1 == 21) = some (21, .ireturn, 0, 0) := rfl
set_option maxRecDepth 100000 in
theorem mt_58 : MT[58]? = some M_58 := rfl
/-- what kind throws, by its arguments -/
def thrK (k u l b : Int) : Int := if k < 0 ∨ 5 < k then 1 else if u < 0 ∨ 2 < u ∨ l < 1 ∨ 6 < l ∨ b < 1 ∨ 15 < b then 2 else 0
theorem g_58 {S : Nat × (Nat → Int32)} {n : Nat} {h : PH} {Q : Rs → PH → Prop} {x0 x1 x2 x3 : Int32} (hL : LI h) (H : ∀ h', LI h' → Q (.inl (some (.int (Int32.ofInt (thrK x0.toInt x1.toInt x2.toInt x3.toInt))))) h') : Ex S (n + 18) 58 [.ref 0, .int x0, .int x1, .int x2, .int x3] h Q := by
  refine ⟨M_58, mt_58, Nat.le_of_ble_eq_true rfl, ?_⟩
  rw [if_pos (show pK M_58 = 3 from rfl), show hdOf 58 = [(0, 9, 2, 1), (0, 9, 0, 2)] from rfl]
  have hC := Ex.mono S (n + 17)
  refine Vx.go hC te_58_0 ⟨_, rfl, ⟨0, Or.inl rfl⟩, ?_⟩
  refine Vx.go hC te_58_1 ⟨_, rfl, ?_⟩
  refine Vx.go hC te_58_2 ⟨_, rfl, ?_⟩
  refine Vx.go hC te_58_3 ⟨_, rfl, ?_⟩
  refine Vx.go hC te_58_4 ⟨_, rfl, ?_⟩
  refine Vx.go hC te_58_6 ?_
  obtain ⟨gs, hg⟩ := hL.obj (A := 0) rfl
  refine p_call_mk (av := [.ref 0, .int x0, .int x1, .int x2, .int x3]) (rest := []) mt_59 rfl (by decide) (Nat.le_of_ble_eq_true rfl) (Nat.le_of_ble_eq_true rfl) (fun _ => ⟨0, gs, rfl, hg⟩) ?_
  obtain ⟨h1, h2, mem, HH, hc, hr⟩ := hL
  have hL : LI h := ⟨h1, h2, mem, HH, hc, hr⟩
  have t1 : ¬ (0 ≤ x0.toInt ∧ x0.toInt < 6) → thrK x0.toInt x1.toInt x2.toInt x3.toInt = 1 := fun q => by unfold thrK; rw [if_pos (by omega)]
  have t2 : 0 ≤ x0.toInt ∧ x0.toInt < 6 → ¬ ((0 ≤ x1.toInt ∧ x1.toInt < 3) ∧ (1 ≤ x2.toInt ∧ x2.toInt ≤ 6) ∧ 1 ≤ x3.toInt ∧ x3.toInt ≤ 15) → thrK x0.toInt x1.toInt x2.toInt x3.toInt = 2 := fun q q2 => by unfold thrK; rw [if_neg (by omega), if_pos (by omega)]
  have t0 : 0 ≤ x0.toInt ∧ x0.toInt < 6 → (0 ≤ x1.toInt ∧ x1.toInt < 3) ∧ (1 ≤ x2.toInt ∧ x2.toInt ≤ 6) ∧ 1 ≤ x3.toInt ∧ x3.toInt ≤ 15 → thrK x0.toInt x1.toInt x2.toInt x3.toInt = 0 := fun q q2 => by unfold thrK; rw [if_neg (by omega), if_neg (by omega)]
  have spec : CQV (Ex S (n + 17)) 59 [.inr 0, .inl x0.toInt, .inl x1.toInt, .inl x2.toInt, .inl x3.toInt] mem (fun m' => ClS m' ∧ Frm pCl mem m' ∧ thrK x0.toInt x1.toInt x2.toInt x3.toInt = 0) (fun e m' => (e = 2 ∧ thrK x0.toInt x1.toInt x2.toInt x3.toInt = 1 ∨ e = 0 ∧ thrK x0.toInt x1.toInt x2.toInt x3.toInt = 2) ∧ ClS m' ∧ Frm pCl mem m') := f_59 hc (fun a b m' c d => ⟨c, d, t0 a b⟩) (fun a => ⟨Or.inl ⟨rfl, t1 a⟩, hc, Frm.rf⟩) (fun a b => ⟨Or.inr ⟨rfl, t2 a b⟩, hc, Frm.rf⟩)
  have hcall := spec (fun v hv => by simp only [List.mem_cons, List.not_mem_nil, or_false] at hv; rcases hv with rfl | rfl | rfl | rfl | rfl <;> first | trivial | exact wiI _) h h h1 HH
  simp only [List.map_cons, List.map_nil, wv, Int32.ofInt_toInt] at hcall
  refine hC _ _ _ _ _ ?_ hcall
  rintro r h' ⟨x, m, rfl, k2, k3, k4⟩
  cases x with
  | inr e =>
    obtain ⟨k5, k6, k7⟩ := (show (e = 2 ∧ thrK x0.toInt x1.toInt x2.toInt x3.toInt = 1 ∨ e = 0 ∧ thrK x0.toInt x1.toInt x2.toInt x3.toInt = 2) ∧ ClS m ∧ Frm pCl mem m from k4)
    have hL' := hL.step k3 k6 (hr.fr (fun A i a b => k7 A i (by unfold pCl; omega)))
    have H' := H _ hL'
    rcases k5 with ⟨rfl, k5⟩ | ⟨rfl, k5⟩ <;> rw [k5] at H' <;> exact H'
  | inl o => cases o with
    | some v => cases v <;> exact False.elim k4
    | none =>
      obtain ⟨k5, k6, k7⟩ := (show ClS m ∧ Frm pCl mem m ∧ thrK x0.toInt x1.toInt x2.toInt x3.toInt = 0 from k4)
      have hL' := hL.step k3 k5 (hr.fr (fun A i a b => k6 A i (by unfold pCl; omega)))
      have H' := H _ hL'
      rw [k7] at H'
      show Vx _ _ _ _ _ 9 _ _ _ _ _
      refine Vx.go hC te_58_9 ⟨by decide, ?_⟩
      show Vx _ _ _ _ _ 20 _ _ _ _ _
      refine Vx.go hC te_58_20 (Vx.go hC te_58_21 ⟨_, rfl, ⟨_, rfl, rfl⟩, H'⟩)
theorem lc_5 {S : Nat × (Nat → Int32)} {lv : LV} {h : PH} {c s : Nat} {i : Int32} (hS : S.1 ≤ 3072) (hl : LwS lv i) (hi : 0 ≤ i.toInt ∧ i.toInt + 5 < S.1) (hL : LI h) (hc : c + 8 ≤ 601024) (hs : s + 48 ≤ 7293033) (Nx : ∀ lv' h' c' s', LwS lv' i → LI h' → c' ≤ c + 8 → s' ≤ s + 48 → Vx (Ex S 24) S M_368 [] Q1 2327 lv' [] h' c' s') : Vx (Ex S 24) S M_368 [] Q1 488 lv [] h c s := by
  have hC := Ex.mono S 24
  refine Vx.go hC te_368_488 ⟨_, hl.2.1, ⟨0, Or.inl rfl⟩, ?_⟩
  refine sc_load hC (k := 1) hl te_368_489 te_368_490 te_368_492 te_368_493 te_368_494 (sc_in hS hi (by decide)) ?_
  refine sc_load hC (k := 2) hl te_368_495 te_368_496 te_368_498 te_368_499 te_368_500 (sc_in hS hi (by decide)) ?_
  refine sc_load hC (k := 3) hl te_368_501 te_368_502 te_368_504 te_368_505 te_368_506 (sc_in hS hi (by decide)) ?_
  refine sc_load hC (k := 4) hl te_368_507 te_368_508 te_368_510 te_368_511 te_368_512 (sc_in hS hi (by decide)) ?_
  refine Vx.go hC te_368_513 ?_
  refine Or.inr ⟨by decide, ?_⟩
  refine p_call_mk (av := [.ref 0, .int (S.2 (i + Int32.ofInt 1).toNatClampNeg), .int (S.2 (i + Int32.ofInt 2).toNatClampNeg), .int (S.2 (i + Int32.ofInt 3).toNatClampNeg), .int (S.2 (i + Int32.ofInt 4).toNatClampNeg)]) (rest := []) mt_58 rfl (by decide) (show c + 2 ≤ 601024 by omega) (show s + 12 ≤ 7293033 by omega) (fun q => by cases q) ?_
  refine g_58 (n := 6) hL (fun h1 hL1 => ?_)
  generalize ht : Int32.ofInt (thrK ((S.2 (i + Int32.ofInt 1).toNatClampNeg)).toInt ((S.2 (i + Int32.ofInt 2).toNatClampNeg)).toInt ((S.2 (i + Int32.ofInt 3).toNatClampNeg)).toInt ((S.2 (i + Int32.ofInt 4).toNatClampNeg)).toInt) = t
  show Vx (Ex S 24) S M_368 [] Q1 516 lv [.int t] h1 (c + 2) (s + 12)
  refine Vx.go hC te_368_516 ⟨by decide, ?_⟩
  have hl2 := LwS.st (j := 5) (v := .int t) (by omega) hl
  show Vx (Ex S 24) S M_368 [] Q1 518 (px_s1 lv 5 (.int t)) [] h1 (c + 2) (s + 12)
  refine Vx.go hC te_368_518 ⟨_, hl2.2.2.1, ⟨143, Or.inl rfl⟩, ?_⟩
  refine sc_load hC (k := 1) hl2 te_368_519 te_368_520 te_368_522 te_368_523 te_368_524 (sc_in hS hi (by decide)) ?_
  refine sc_load hC (k := 2) hl2 te_368_525 te_368_526 te_368_528 te_368_529 te_368_530 (sc_in hS hi (by decide)) ?_
  refine sc_load hC (k := 3) hl2 te_368_531 te_368_532 te_368_534 te_368_535 te_368_536 (sc_in hS hi (by decide)) ?_
  refine sc_load hC (k := 4) hl2 te_368_537 te_368_538 te_368_540 te_368_541 te_368_542 (sc_in hS hi (by decide)) ?_
  refine Vx.go hC te_368_543 ?_
  obtain ⟨gs, hg⟩ := hL1.obj (A := 143) rfl
  refine p_call_mk (av := [.ref 143, .int (S.2 (i + Int32.ofInt 1).toNatClampNeg), .int (S.2 (i + Int32.ofInt 2).toNatClampNeg), .int (S.2 (i + Int32.ofInt 3).toNatClampNeg), .int (S.2 (i + Int32.ofInt 4).toNatClampNeg)]) (rest := []) mt_236 rfl (by decide) (show c + 2 + 0 ≤ 601024 by omega) (show s + 12 + 0 ≤ 7293033 by omega) (fun _ => ⟨143, gs, rfl, hg⟩) ?_
  have hLx := hL1
  obtain ⟨q1, q2, mem, HH, hcs, hrf⟩ := hL1
  have spec : CWI (Ex S 24) 236 [.inr 143, .inl ((S.2 (i + Int32.ofInt 1).toNatClampNeg) : Int32).toInt, .inl ((S.2 (i + Int32.ofInt 2).toNatClampNeg) : Int32).toInt, .inl ((S.2 (i + Int32.ofInt 3).toNatClampNeg) : Int32).toInt, .inl ((S.2 (i + Int32.ofInt 4).toNatClampNeg) : Int32).toInt] mem (fun _ m' => RefOK m' ∧ FrQ mem m' ∧ m' 143 0 = thrK ((S.2 (i + Int32.ofInt 1).toNatClampNeg)).toInt ((S.2 (i + Int32.ofInt 2).toNatClampNeg)).toInt ((S.2 (i + Int32.ofInt 3).toNatClampNeg)).toInt ((S.2 (i + Int32.ofInt 4).toNatClampNeg)).toInt) := f_236 (n := 22) hrf (fun m' a b e => ⟨a, b, e⟩)
  have hcall := spec (fun v hv => by simp only [List.mem_cons, List.not_mem_nil, or_false] at hv; rcases hv with rfl | rfl | rfl | rfl | rfl <;> first | trivial | exact wiI _) h1 h1 HH
  simp only [List.map_cons, List.map_nil, wv, Int32.ofInt_toInt] at hcall
  refine hC _ _ _ _ _ ?_ hcall
  rintro _ h2 ⟨x, m, rfl, k2, k3, y, rfl, k5, k6, k7⟩
  have hL2 : LI h2 := hLx.step k3 (hcs.ref (fun A i q => k6 A i (by unfold pRf at q; omega))) k5
  show Vx (Ex S 24) S M_368 [] Q1 546 (px_s1 lv 5 (.int t)) [.int (Int32.ofInt y)] h2 (c + 2) (s + 12)
  refine Vx.go hC te_368_546 ⟨_, _, rfl, rfl, ?_⟩
  show Vx (Ex S 24) S M_368 [] Q1 547 (px_s1 lv 5 (.int t)) [] h2 (c + 2) (s + 12)
  refine Vx.go hC te_368_547 ⟨_, hl2.2.2.1, ⟨143, Or.inl rfl⟩, ?_⟩
  refine Vx.go hC te_368_548 ?_
  obtain ⟨gs2, hg2⟩ := hL2.obj (A := 143) rfl
  refine p_call_mk (av := [.ref 143]) (rest := []) mt_225 rfl (by decide) (show c + 2 + 0 ≤ 601024 by omega) (show s + 12 + 0 ≤ 7293033 by omega) (fun _ => ⟨143, gs2, rfl, hg2⟩) ?_
  have hcall2 := (f_225 (S := S) (n := 23) (mem := m) (K := fun z m' => z = m 143 0 ∧ m' = m) ⟨rfl, rfl⟩) (fun v hv => by simp only [List.mem_cons, List.not_mem_nil, or_false] at hv; rw [hv]; trivial) h2 h2 k3.self
  simp only [List.map_cons, List.map_nil, wv] at hcall2
  refine hC _ _ _ _ _ ?_ hcall2
  rintro _ h3 ⟨x3, m3, rfl, j2, j3, y3, rfl, j5, j6⟩
  subst j6
  have hL3 : LI h3 := hL2.step j3 (hcs.ref (fun A i q => k6 A i (by unfold pRf at q; omega))) k5
  rw [k7] at j5
  subst j5
  have e5 : px_g (px_s1 lv 5 (.int t)) 5 = some (.int t) := pg_self _ _ _
  show Vx (Ex S 24) S M_368 [] Q1 551 (px_s1 lv 5 (.int t)) [.int (Int32.ofInt (thrK ((S.2 (i + Int32.ofInt 1).toNatClampNeg)).toInt ((S.2 (i + Int32.ofInt 2).toNatClampNeg)).toInt ((S.2 (i + Int32.ofInt 3).toNatClampNeg)).toInt ((S.2 (i + Int32.ofInt 4).toNatClampNeg)).toInt))] h3 (c + 2) (s + 12)
  rw [ht]
  refine Vx.go hC te_368_551 ⟨_, e5, ?_⟩
  refine Vx.go hC te_368_553 ?_
  refine ⟨by decide, fun _ => ?_, fun q => absurd rfl q⟩
  show Vx (Ex S 24) S M_368 [] Q1 558 (px_s1 lv 5 (.int t)) [] h3 (c + 2) (s + 12)
  refine Vx.go hC te_368_558 ⟨by decide, ?_⟩
  exact Nx _ _ _ _ hl2 hL3 (by omega) (by omega)
