/-! the law's loop -/
theorem add_I {i : Int32} {k : Int} (h : InI (i.toInt + k)) : (i + Int32.ofInt k).toInt = i.toInt + k := by
  rw [show i + Int32.ofInt k = Int32.ofInt (i.toInt + k) by rw [Int32.ofInt_add, Int32.ofInt_toInt]]
  exact wi h
theorem len_I {L : Nat} (h : L ≤ 3072) : (Int32.ofNat L - (Int8.ofInt 6).toInt32).toInt = (L : Int) - 6 := by
  rw [show Int32.ofNat L - (Int8.ofInt 6).toInt32 = Int32.ofInt ((L : Int) - 6) by rw [Int32.ofInt_sub]; rfl]
  exact wi (by unfold InI; omega)
theorem law_loop {S : Nat × (Nat → Int32)} (hS : S.1 ≤ 3072) : ∀ (N : Nat) (i : Int32) (lv : LV) (h : PH) (c s : Nat), LwS lv i → LR h → 0 ≤ i.toInt → i.toInt ≤ 3078 → ((S.1 : Int) + 6 - i.toInt).toNat < N → (c : Int) ≤ 1000 + 2 * i.toInt → (s : Int) ≤ 20000 + 8 * i.toInt → Vx (Ex S 24) S M_368 [] Q1 23 lv [] h c s := by
  intro N
  induction N with
  | zero => intros; omega
  | succ N ih =>
    intro i lv h c s hl hL h0 h1 hN hc hs
    have hC := Ex.mono S 24
    refine Vx.go hC te_368_23 ⟨_, hl.2.2.2.2, ?_⟩
    refine Vx.go hC te_368_25 ⟨_, hl.1, ⟨0, Or.inr rfl⟩, ?_⟩
    refine Vx.go hC te_368_26 ?_
    show Vx (Ex S 24) S M_368 [] Q1 27 lv [.int (Int32.ofNat S.1), .int i] h c s
    refine Vx.go hC te_368_27 (Vx.go hC te_368_29 (Vx.go hC te_368_30 ?_))
    refine ⟨by decide, fun q => ?_, fun q => ?_⟩
    · show Vx (Ex S 24) S M_368 [] Q1 2350 lv [] h c s
      exact Vx.go hC te_368_2350 (Vx.go hC te_368_2351 ⟨_, rfl, ⟨_, rfl, rfl⟩, rfl⟩)
    · have q : ¬ (Int32.ofNat S.1 - (Int8.ofInt 6).toInt32 < i) := q
      rw [Int32.lt_iff_toInt_lt, len_I hS] at q
      have hi : 0 ≤ i.toInt ∧ i.toInt + 5 < S.1 := by omega
      have Nx : ∀ lv' h' c' s', LwS lv' i → LR h' → c' ≤ c + 8 → s' ≤ s + 48 → Vx (Ex S 24) S M_368 [] Q1 2344 lv' [] h' c' s' := by
        intro lv' h' c' s' hl' hL' hc' hs'
        have e := add_I (i := i) (k := 6) (by unfold InI; omega)
        refine Vx.go hC te_368_2344 ⟨by decide, _, hl'.2.2.2.2, ?_⟩
        refine Vx.go hC te_368_2347 ⟨by decide, ?_⟩
        exact ih (i + Int32.ofInt 6) _ h' c' s' hl'.inc hL' (by rw [e]; omega) (by rw [e]; omega) (by rw [e]; omega) (by rw [e]; omega) (by rw [e]; omega)
      show Vx (Ex S 24) S M_368 [] Q1 33 lv [] h c s
      refine Vx.go hC te_368_33 ⟨_, hl.1, ⟨0, Or.inr rfl⟩, ?_⟩
      refine Vx.go hC te_368_34 ⟨_, hl.2.2.2.2, ?_⟩
      refine Vx.go hC te_368_36 ⟨vp_in_iff.mpr (by omega), ?_⟩
      show Vx (Ex S 24) S M_368 [] Q1 37 lv [.int (S.2 i.toNatClampNeg)] h c s
      refine Vx.go hC te_368_37 (Vx.go hC te_368_39 ?_)
      show Vx (Ex S 24) S M_368 [] Q1 40 lv [.int (S.2 i.toNatClampNeg &&& (Int8.ofInt 63).toInt32)] h c s
      generalize S.2 i.toNatClampNeg &&& (Int8.ofInt 63).toInt32 = x
      refine Vx.go hC te_368_40 ⟨fun _ => ⟨by decide, Nx _ _ _ _ hl hL (by omega) (by omega)⟩, fun q1 q2 => ?_⟩
      have hj : (x.toInt - 0).toNat < 49 := by omega
      generalize (x.toInt - 0).toNat = j at hj ⊢
      have a : j = 0 ∨ j = 1 ∨ j = 2 ∨ j = 3 ∨ j = 4 ∨ j = 5 ∨ j = 6 ∨ j = 7 ∨ j = 8 ∨ j = 9 ∨ j = 10 ∨ j = 11 ∨ j = 12 ∨ j = 13 ∨ j = 14 ∨ j = 15 ∨ j = 16 ∨ j = 17 ∨ j = 18 ∨ j = 19 ∨ j = 20 ∨ j = 21 ∨ j = 22 ∨ j = 23 ∨ j = 24 ∨ j = 25 ∨ j = 26 ∨ j = 27 ∨ j = 28 ∨ j = 29 ∨ j = 30 ∨ j = 31 ∨ j = 32 ∨ j = 33 ∨ j = 34 ∨ j = 35 ∨ j = 36 ∨ j = 37 ∨ j = 38 ∨ j = 39 ∨ j = 40 ∨ j = 41 ∨ j = 42 ∨ j = 43 ∨ j = 44 ∨ j = 45 ∨ j = 46 ∨ j = 47 ∨ j = 48 := by omega
      rcases a with rfl | rfl | rfl | rfl | rfl | rfl | rfl | rfl | rfl | rfl | rfl | rfl | rfl | rfl | rfl | rfl | rfl | rfl | rfl | rfl | rfl | rfl | rfl | rfl | rfl | rfl | rfl | rfl | rfl | rfl | rfl | rfl | rfl | rfl | rfl | rfl | rfl | rfl | rfl | rfl | rfl | rfl | rfl | rfl | rfl | rfl | rfl | rfl | rfl
      · exact ⟨_, rfl, by decide, lc_0 hS hl hi hL (by omega) (by omega) Nx⟩
      · exact ⟨_, rfl, by decide, lc_1 hS hl hi hL (by omega) (by omega) Nx⟩
      · exact ⟨_, rfl, by decide, lc_2 hS hl hi hL (by omega) (by omega) Nx⟩
      · exact ⟨_, rfl, by decide, lc_3 hS hl hi hL (by omega) (by omega) Nx⟩
      · exact ⟨_, rfl, by decide, lc_4 hS hl hi hL (by omega) (by omega) Nx⟩
      · exact ⟨_, rfl, by decide, lc_5 hS hl hi hL (by omega) (by omega) Nx⟩
      · exact ⟨_, rfl, by decide, lc_6 hS hl hi hL (by omega) (by omega) Nx⟩
      · exact ⟨_, rfl, by decide, lc_7 hS hl hi hL (by omega) (by omega) Nx⟩
      · exact ⟨_, rfl, by decide, lc_8 hS hl hi hL (by omega) (by omega) Nx⟩
      · exact ⟨_, rfl, by decide, lc_9 hS hl hi hL (by omega) (by omega) Nx⟩
      · exact ⟨_, rfl, by decide, lc_10 hS hl hi hL (by omega) (by omega) Nx⟩
      · exact ⟨_, rfl, by decide, lc_11 hS hl hi hL (by omega) (by omega) Nx⟩
      · exact ⟨_, rfl, by decide, lc_12 hS hl hi hL (by omega) (by omega) Nx⟩
      · exact ⟨_, rfl, by decide, lc_13 hS hl hi hL (by omega) (by omega) Nx⟩
      · exact ⟨_, rfl, by decide, lc_14 hS hl hi hL (by omega) (by omega) Nx⟩
      · exact ⟨_, rfl, by decide, lc_15 hS hl hi hL (by omega) (by omega) Nx⟩
      · exact ⟨_, rfl, by decide, lc_16 hS hl hi hL (by omega) (by omega) Nx⟩
      · exact ⟨_, rfl, by decide, lc_17 hS hl hi hL (by omega) (by omega) Nx⟩
      · exact ⟨_, rfl, by decide, lc_18 hS hl hi hL (by omega) (by omega) Nx⟩
      · exact ⟨_, rfl, by decide, lc_19 hS hl hi hL (by omega) (by omega) Nx⟩
      · exact ⟨_, rfl, by decide, lc_20 hS hl hi hL (by omega) (by omega) Nx⟩
      · exact ⟨_, rfl, by decide, lc_21 hS hl hi hL (by omega) (by omega) Nx⟩
      · exact ⟨_, rfl, by decide, lc_22 hS hl hi hL (by omega) (by omega) Nx⟩
      · exact ⟨_, rfl, by decide, lc_23 hS hl hi hL (by omega) (by omega) Nx⟩
      · exact ⟨_, rfl, by decide, lc_24 hS hl hi hL (by omega) (by omega) Nx⟩
      · exact ⟨_, rfl, by decide, lc_25 hS hl hi hL (by omega) (by omega) Nx⟩
      · exact ⟨_, rfl, by decide, lc_26 hS hl hi hL (by omega) (by omega) Nx⟩
      · exact ⟨_, rfl, by decide, lc_27 hS hl hi hL (by omega) (by omega) Nx⟩
      · exact ⟨_, rfl, by decide, lc_28 hS hl hi hL (by omega) (by omega) Nx⟩
      · exact ⟨_, rfl, by decide, lc_29 hS hl hi hL (by omega) (by omega) Nx⟩
      · exact ⟨_, rfl, by decide, lc_30 hS hl hi hL (by omega) (by omega) Nx⟩
      · exact ⟨_, rfl, by decide, lc_31 hS hl hi hL (by omega) (by omega) Nx⟩
      · exact ⟨_, rfl, by decide, lc_32 hS hl hi hL (by omega) (by omega) Nx⟩
      · exact ⟨_, rfl, by decide, lc_33 hS hl hi hL (by omega) (by omega) Nx⟩
      · exact ⟨_, rfl, by decide, lc_34 hS hl hi hL (by omega) (by omega) Nx⟩
      · exact ⟨_, rfl, by decide, lc_35 hS hl hi hL (by omega) (by omega) Nx⟩
      · exact ⟨_, rfl, by decide, lc_36 hS hl hi hL (by omega) (by omega) Nx⟩
      · exact ⟨_, rfl, by decide, lc_37 hS hl hi hL (by omega) (by omega) Nx⟩
      · exact ⟨_, rfl, by decide, lc_38 hS hl hi hL (by omega) (by omega) Nx⟩
      · exact ⟨_, rfl, by decide, lc_39 hS hl hi hL (by omega) (by omega) Nx⟩
      · exact ⟨_, rfl, by decide, lc_40 hS hl hi hL (by omega) (by omega) Nx⟩
      · exact ⟨_, rfl, by decide, lc_41 hS hl hi hL (by omega) (by omega) Nx⟩
      · exact ⟨_, rfl, by decide, lc_42 hS hl hi hL (by omega) (by omega) Nx⟩
      · exact ⟨_, rfl, by decide, lc_43 hS hl hi hL (by omega) (by omega) Nx⟩
      · exact ⟨_, rfl, by decide, lc_44 hS hl hi hL (by omega) (by omega) Nx⟩
      · exact ⟨_, rfl, by decide, lc_45 hS hl hi hL (by omega) (by omega) Nx⟩
      · exact ⟨_, rfl, by decide, lc_46 hS hl hi hL (by omega) (by omega) Nx⟩
      · exact ⟨_, rfl, by decide, lc_47 hS hl hi hL (by omega) (by omega) Nx⟩
      · exact ⟨_, rfl, by decide, lc_48 hS hl hi hL (by omega) (by omega) Nx⟩
