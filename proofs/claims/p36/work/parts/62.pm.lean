/-! the law from its first instruction on -/
theorem cR2 {θ : Nat → Int32} {l : LW} {y : PE} (h : cR θ (.inl (2, l)) y) : ∃ g, y = .inl (2, l.length, .inr (.inr (.inr (.inr g)))) ∧ ∀ (j : Nat) (a : AV), l[j]? = some a → vR θ a (va_rf (g j)) := by
  unfold cR at h
  split at h <;> first | (rename_i e; cases e; done) | skip
  all_goals first | (rename_i e _; cases e; exact ⟨_, by rw [h.1], h.2⟩) | (rename_i e; cases e; exact ⟨_, by rw [h.1], h.2⟩) | exact h.elim | skip
theorem cR3 {θ : Nat → Int32} {l : LW} {y : PE} (h : cR θ (.inl (3, l)) y) : ∃ g, y = .inl (3, l.length, .inr (.inr (.inr (.inr g)))) ∧ ∀ (j : Nat) (a : AV), l[j]? = some a → vR θ a (va_rf (g j)) := by
  unfold cR at h
  split at h <;> first | (rename_i e; cases e; done) | skip
  all_goals first | (rename_i e _; cases e; exact ⟨_, by rw [h.1], h.2⟩) | (rename_i e; cases e; exact ⟨_, by rw [h.1], h.2⟩) | exact h.elim | skip
theorem St.ra {θ : Nat → Int32} {h : PH} (hh : St θ h) : RA h := by
  constructor
  · rcases hh.2 37 _ rfl with w | ⟨y, w1, w2⟩
    · cases w
    · obtain ⟨g, rfl, w3⟩ := cR2 w2
      refine ⟨g, w1, fun k hk => ?_⟩
      have a : k = 0 ∨ k = 1 ∨ k = 2 ∨ k = 3 ∨ k = 4 ∨ k = 5 ∨ k = 6 ∨ k = 7 ∨ k = 8 ∨ k = 9 ∨ k = 10 ∨ k = 11 ∨ k = 12 := by omega
      rcases a with a | a | a | a | a | a | a | a | a | a | a | a | a <;> subst a <;> exact rf_some (w3 _ _ rfl)
  · rcases hh.2 135 _ rfl with w | ⟨y, w1, w2⟩
    · cases w
    · obtain ⟨g, rfl, w3⟩ := cR3 w2
      refine ⟨g, w1, fun k hk => ?_⟩
      have a : k = 0 ∨ k = 1 := by omega
      rcases a with a | a <;> subst a <;> exact rf_some (w3 _ _ rfl)
theorem St.lr {θ : Nat → Int32} {h : PH} (hh : St θ h) : LR (h ++ [.inl (1, 1, .inr (.inl fun _ => 0))]) := by
  have hl : h.length = 173 := hh.1
  have e : ∀ (A : Nat) (y : PE), h[A]? = some y → (h ++ [.inl (1, 1, .inr (.inl fun _ => 0))])[A]? = some y := fun A y w => by
    rw [List.getElem?_append_left (List.getElem?_eq_some_iff.mp w).1]; exact w
  refine ⟨memOf h, fun _ => 0, ⟨?_, by rw [List.getElem?_append_right (by omega), hl]; rfl, ⟨fun _ _ => rfl, fun A s hA => ?_⟩⟩, hh.cls, hh.ref, hh.rel⟩
  · obtain ⟨⟨g, a, b⟩, g2, c, d⟩ := hh.ra
    exact ⟨⟨g, e _ _ a, b⟩, g2, e _ _ c, d⟩
  · obtain ⟨y, a, b⟩ := hh.rg hA
    exact ⟨y, e _ _ a, b⟩
set_option maxRecDepth 100000 in
theorem mt_0 : MT[0]? = some M_0 := rfl
set_option maxRecDepth 100000 in
theorem mt_224 : MT[224]? = some M_224 := rfl
theorem law_pm {L : Nat} (hL : L ≤ 3072) (xs : Nat → Int32) : Vx (Ex (L, xs) 24) (L, xs) M_368 [] Q1 0 [(0, .retAddr 0)] [] [] 0 0 := by
  have hC := Ex.mono (L, xs) 24
  refine Vx.go hC te_368_0 (Or.inl ⟨rfl, Nat.le_of_ble_eq_true rfl, Nat.le_of_ble_eq_true rfl, ?_⟩)
  show Vx (Ex (L, xs) 24) (L, xs) M_368 [] Q1 3 [(0, .retAddr 0)] [.ref 0] [.inr (9, dflt 9)] 1 12
  refine Vx.go hC te_368_3 ⟨_, _, rfl, rfl, ?_⟩
  refine Vx.go hC te_368_4 (Or.inr ⟨Or.inl rfl, ?_⟩)
  refine p_call_mk (av := [.ref 0]) (rest := [.ref 0]) mt_0 rfl (by decide) (Nat.le_of_ble_eq_true rfl) (Nat.le_of_ble_eq_true rfl) (fun _ => ⟨0, _, rfl, rfl⟩) ?_
  refine hC _ _ _ _ _ ?_ (Ex_S 24 0 rfl _ _ _ (cA (θ := fun _ => 0) hR9))
  rintro _ h1 ⟨rfl, hA1⟩
  show Vx (Ex (L, xs) 24) (L, xs) M_368 [] Q1 7 [(0, .retAddr 0)] [.ref 0] h1 161 4212
  have l1 : h1.length = 143 := hA1.1
  refine Vx.go hC te_368_7 ⟨by decide, ?_⟩
  show Vx (Ex (L, xs) 24) (L, xs) M_368 [] Q1 8 (px_s1 [(0, .retAddr 0)] 1 (.ref 0)) [] h1 161 4212
  refine Vx.go hC te_368_8 (Or.inl ⟨rfl, Nat.le_of_ble_eq_true rfl, Nat.le_of_ble_eq_true rfl, ?_⟩)
  show Vx (Ex (L, xs) 24) (L, xs) M_368 [] Q1 11 (px_s1 [(0, .retAddr 0)] 1 (.ref 0)) [.ref h1.length] (h1 ++ [.inr (10, dflt 10)]) 162 4249
  rw [l1]
  refine Vx.go hC te_368_11 ⟨_, _, rfl, rfl, ?_⟩
  refine Vx.go hC te_368_12 (Or.inr ⟨Or.inl rfl, ?_⟩)
  refine p_call_mk (av := [.ref 143]) (rest := [.ref 143]) mt_224 rfl (by decide) (Nat.le_of_ble_eq_true rfl) (Nat.le_of_ble_eq_true rfl) (fun _ => ⟨143, dflt 10, rfl, by rw [List.getElem?_append_right (by omega), l1]; rfl⟩) ?_
  refine hC _ _ _ _ _ ?_ (Ex_S 24 224 rfl _ _ _ (cB (hRM hA1)))
  rintro _ h2 ⟨rfl, hB2⟩
  have l2 : h2.length = 173 := hB2.1
  show Vx (Ex (L, xs) 24) (L, xs) M_368 [] Q1 15 (px_s1 [(0, .retAddr 0)] 1 (.ref 0)) [.ref 143] h2 222 7249
  refine Vx.go hC te_368_15 ⟨by decide, ?_⟩
  show Vx (Ex (L, xs) 24) (L, xs) M_368 [] Q1 16 (px_s1 (px_s1 [(0, .retAddr 0)] 1 (.ref 0)) 2 (.ref 143)) [] h2 222 7249
  refine Vx.go hC te_368_16 (Vx.go hC te_368_17 ⟨by decide, by decide, Nat.le_of_ble_eq_true rfl, Nat.le_of_ble_eq_true rfl, Or.inr ⟨rfl, ?_⟩⟩)
  show Vx (Ex (L, xs) 24) (L, xs) M_368 [] Q1 19 (px_s1 (px_s1 [(0, .retAddr 0)] 1 (.ref 0)) 2 (.ref 143)) [.ref h2.length] (h2 ++ [.inl (1, 1, .inr (.inl fun _ => 0))]) 223 7250
  rw [l2]
  refine Vx.go hC te_368_19 ⟨by decide, ?_⟩
  show Vx (Ex (L, xs) 24) (L, xs) M_368 [] Q1 20 (px_s1 (px_s1 (px_s1 [(0, .retAddr 0)] 1 (.ref 0)) 2 (.ref 143)) 3 (.ref 173)) [] (h2 ++ [.inl (1, 1, .inr (.inl fun _ => 0))]) 223 7250
  refine Vx.go hC te_368_20 (Vx.go hC te_368_21 ⟨by decide, ?_⟩)
  exact law_loop hL _ (Int32.ofInt 0) _ _ 223 7250 ⟨rfl, rfl, rfl, rfl, rfl⟩ (St.lr hB2) (by decide) (by decide) (Nat.lt_succ_self _) (by decide) (by decide)
