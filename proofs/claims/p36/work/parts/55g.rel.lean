/-! ops of the class and of the reference are the same -/
def RelB (m : MM) : Prop := m 1 0 = m 143 1 ∧ (∀ o, o < 8 → m 2 o = m 144 o ∧ m 3 (4 * o) = m 145 o ∧ m 3 (4 * o + 1) = m 146 o ∧ m 3 (4 * o + 2) = m 147 o ∧ m 3 (4 * o + 3) = m 148 o ∧ m 4 o = m 149 o) ∧ (∀ k, k < 6 → m 5 k = m 150 k ∧ m 6 k = m 151 k ∧ m 7 k = m 152 k) ∧ ∀ u, u < 3 → m 8 u = m 153 u
theorem RelB.fr {m m' : MM} (h : RelB m) (e : ∀ A i, (0 < A ∧ A < 9) ∨ (A = 143 ∧ i = 1) ∨ (143 < A ∧ A < 154) → m' A i = m A i) : RelB m' := by
  refine ⟨by rw [e 1 0 (by omega), e 143 1 (by omega)]; exact h.1, fun o ho => ?_, fun k hk => ?_, fun u hu => ?_⟩
  · rw [e 2 o (by omega), e 144 o (by omega), e 3 (4 * o) (by omega), e 145 o (by omega), e 3 (4 * o + 1) (by omega), e 146 o (by omega), e 3 (4 * o + 2) (by omega), e 147 o (by omega), e 3 (4 * o + 3) (by omega), e 148 o (by omega), e 4 o (by omega), e 149 o (by omega)]; exact h.2.1 o ho
  · rw [e 5 k (by omega), e 150 k (by omega), e 6 k (by omega), e 151 k (by omega), e 7 k (by omega), e 152 k (by omega)]; exact h.2.2.1 k hk
  · rw [e 8 u (by omega), e 153 u (by omega)]; exact h.2.2.2 u hu
theorem RelB.one {m : MM} {A i : Nat} {x : Int} (h : RelB m) (q : A = 0 ∨ (A = 143 ∧ i = 0)) : RelB (upm m A i x) := h.fr (fun B j w => upm_ne (by omega))
/-- one op more on both sides -/
theorem RelB.add {m m2 : MM} {n : Nat} {k a b c e : Int} (h : RelB m) (hn : (n : Int) = m 1 0) (e2 : ∀ A i, ¬ A = 0 → ¬ (A = 143 ∧ i = 0) → m2 A i = putM m n k a b c e A i) : RelB (addM m2 n k a b c e) := by
  obtain ⟨g1, g2, g3, g4, g5, g6, g7⟩ := putM_at (mem := m) (n := n) (k := k) (a := a) (b := b) (c := c) (e := e)
  obtain ⟨a1, a2, a3, a4, a5, a6, a7⟩ := addM_at (mem := m2) (n := n) (k := k) (a := a) (b := b) (c := c) (e := e)
  have f : ∀ A i, 0 < A → A < 9 → addM m2 n k a b c e A i = putM m n k a b c e A i := fun A i w1 w2 => by rw [addM_ne (by omega), e2 A i (by omega) (by omega)]
  have r : ∀ A i, ¬ (A = 143 ∧ (i = 0 ∨ i = 1)) → ¬ (144 ≤ A ∧ A ≤ 149 ∧ i = n) → 143 ≤ A → addM m2 n k a b c e A i = m A i := fun A i w1 w2 w3 => by rw [addM_ne (by omega), e2 A i (by omega) (by omega), putM_ne (by omega)]
  refine ⟨?_, fun o ho => ?_, fun j hj => ?_, fun u hu => ?_⟩
  · rw [f 1 0 (by omega) (by omega), g7, a7, e2 143 1 (by omega) (by omega), putM_ne (by omega), h.1]
  · rw [f 2 o (by omega) (by omega), f 3 (4 * o) (by omega) (by omega), f 3 (4 * o + 1) (by omega) (by omega), f 3 (4 * o + 2) (by omega) (by omega), f 3 (4 * o + 3) (by omega) (by omega), f 4 o (by omega) (by omega)]
    by_cases q : o = n
    · subst q
      rw [g1, g2, g3, g4, g5, g6, a1, a2, a3, a4, a5, a6]
      exact ⟨rfl, rfl, rfl, rfl, rfl, rfl⟩
    · rw [putM_ne (by omega), putM_ne (by omega), putM_ne (by omega), putM_ne (by omega), putM_ne (by omega), putM_ne (by omega), r 144 o (by omega) (by omega) (by omega), r 145 o (by omega) (by omega) (by omega), r 146 o (by omega) (by omega) (by omega), r 147 o (by omega) (by omega) (by omega), r 148 o (by omega) (by omega) (by omega), r 149 o (by omega) (by omega) (by omega)]
      exact h.2.1 o ho
  · rw [f 5 j (by omega) (by omega), f 6 j (by omega) (by omega), f 7 j (by omega) (by omega), putM_ne (by omega), putM_ne (by omega), putM_ne (by omega), r 150 j (by omega) (by omega) (by omega), r 151 j (by omega) (by omega) (by omega), r 152 j (by omega) (by omega) (by omega)]
    exact h.2.2.1 j hj
  · rw [f 8 u (by omega) (by omega), putM_ne (by omega), r 153 u (by omega) (by omega) (by omega)]
    exact h.2.2.2 u hu
/-- one number is written on both sides -/
theorem upm_two {m : MM} {A B i : Nat} {x : Int} {C j : Nat} : upm (upm m A i x) B i x C j = if C = B ∧ j = i ∨ C = A ∧ j = i then x else m C j := by
  unfold upm
  by_cases q : C = B ∧ j = i
  · rw [if_pos q, if_pos (Or.inl q)]
  · rw [if_neg q]
    by_cases w : C = A ∧ j = i
    · rw [if_pos w, if_pos (Or.inr w)]
    · rw [if_neg w, if_neg (by intro z; rcases z with z | z; exact q z; exact w z)]
theorem RelB.row {m m2 : MM} {A B i : Nat} {x : Int} (h : RelB m) (hAB : (A = 4 ∧ B = 149) ∨ (A = 5 ∧ B = 150) ∨ (A = 6 ∧ B = 151) ∨ (A = 7 ∧ B = 152) ∨ (A = 8 ∧ B = 153)) (e2 : ∀ C j, ¬ C = 0 → ¬ (C = 143 ∧ j = 0) → m2 C j = upm m A i x C j) : RelB (upm m2 B i x) := by
  have f : ∀ C j, (0 < C ∧ C < 9) ∨ (C = 143 ∧ j = 1) ∨ (143 < C ∧ C < 154) → upm m2 B i x C j = if C = B ∧ j = i ∨ C = A ∧ j = i then x else m C j := fun C j w => by
    rw [← upm_two]
    by_cases q : C = B ∧ j = i
    · rw [q.1, q.2, upm_eq, upm_eq]
    · rw [upm_ne q, upm_ne q, e2 C j (by omega) (by omega)]
  refine ⟨?_, fun o ho => ?_, fun k hk => ?_, fun u hu => ?_⟩
  · rw [f 1 0 (by omega), f 143 1 (by omega), if_neg (by omega), if_neg (by omega)]; exact h.1
  · have w := h.2.1 o ho
    rw [f 2 o (by omega), f 144 o (by omega), f 3 (4 * o) (by omega), f 145 o (by omega), f 3 (4 * o + 1) (by omega), f 146 o (by omega), f 3 (4 * o + 2) (by omega), f 147 o (by omega), f 3 (4 * o + 3) (by omega), f 148 o (by omega), f 4 o (by omega), f 149 o (by omega)]
    refine ⟨?_, ?_, ?_, ?_, ?_, ?_⟩
    · rw [if_neg (by omega), if_neg (by omega)]; exact w.1
    · rw [if_neg (by omega), if_neg (by omega)]; exact w.2.1
    · rw [if_neg (by omega), if_neg (by omega)]; exact w.2.2.1
    · rw [if_neg (by omega), if_neg (by omega)]; exact w.2.2.2.1
    · rw [if_neg (by omega), if_neg (by omega)]; exact w.2.2.2.2.1
    · by_cases q : A = 4 ∧ o = i
      · rw [if_pos (by omega), if_pos (by omega)]
      · rw [if_neg (by omega), if_neg (by omega)]; exact w.2.2.2.2.2
  · have w := h.2.2.1 k hk
    rw [f 5 k (by omega), f 150 k (by omega), f 6 k (by omega), f 151 k (by omega), f 7 k (by omega), f 152 k (by omega)]
    refine ⟨?_, ?_, ?_⟩
    · by_cases q : A = 5 ∧ k = i
      · rw [if_pos (by omega), if_pos (by omega)]
      · rw [if_neg (by omega), if_neg (by omega)]; exact w.1
    · by_cases q : A = 6 ∧ k = i
      · rw [if_pos (by omega), if_pos (by omega)]
      · rw [if_neg (by omega), if_neg (by omega)]; exact w.2.1
    · by_cases q : A = 7 ∧ k = i
      · rw [if_pos (by omega), if_pos (by omega)]
      · rw [if_neg (by omega), if_neg (by omega)]; exact w.2.2
  · rw [f 8 u (by omega), f 153 u (by omega)]
    by_cases q : A = 8 ∧ u = i
    · rw [if_pos (by omega), if_pos (by omega)]
    · rw [if_neg (by omega), if_neg (by omega)]; exact h.2.2.2 u hu
theorem RelB.size {m m' : MM} {z : Int} (h : RelB m) (h1 : m' 1 0 = z) (h2 : m' 143 1 = z) (e : ∀ A i, (1 < A ∧ A < 9) ∨ (143 < A ∧ A < 154) → m' A i = m A i) : RelB m' := by
  refine ⟨by rw [h1, h2], fun o ho => ?_, fun k hk => ?_, fun u hu => ?_⟩
  · rw [e 2 o (by omega), e 144 o (by omega), e 3 (4 * o) (by omega), e 145 o (by omega), e 3 (4 * o + 1) (by omega), e 146 o (by omega), e 3 (4 * o + 2) (by omega), e 147 o (by omega), e 3 (4 * o + 3) (by omega), e 148 o (by omega), e 4 o (by omega), e 149 o (by omega)]; exact h.2.1 o ho
  · rw [e 5 k (by omega), e 150 k (by omega), e 6 k (by omega), e 151 k (by omega), e 7 k (by omega), e 152 k (by omega)]; exact h.2.2.1 k hk
  · rw [e 8 u (by omega), e 153 u (by omega)]; exact h.2.2.2 u hu
/-! the reference stays in order -/
theorem RefOK.add {mem : MM} {n : Nat} {k a b c e : Int} (h : RefOK mem) (hn : (n : Int) = mem 143 1) (h8 : mem 143 1 < 8) (hk : 0 ≤ k ∧ k ≤ 5) (h3 : k ≤ 3 → srcOK a b ∧ srcOK c e) (h4 : k = 4 → 0 ≤ a ∧ a ≤ 1 ∧ 0 ≤ b ∧ b ≤ 7) (h5 : k = 5 → srcOK a b ∧ 0 ≤ c ∧ c ≤ 1 ∧ 0 ≤ e ∧ e ≤ 7) (hc : -2 ≤ c ∧ c ≤ 7) : RefOK (addM mem n k a b c e) := by
  obtain ⟨a1, a2, a3, a4, a5, a6, a7⟩ := addM_at (mem := mem) (n := n) (k := k) (a := a) (b := b) (c := c) (e := e)
  have ho := h.ops
  have o1 := ho.1
  have ha : -2 ≤ a ∧ a ≤ 7 := by
    by_cases k3 : k ≤ 3
    · have := (h3 k3).1; unfold srcOK at this; omega
    · by_cases k4 : k = 4
      · have := h4 k4; omega
      · have := (h5 (by omega)).1; unfold srcOK at this; omega
  refine ⟨⟨by omega, fun i hi => ?_, fun i hi => ?_⟩, fun i hi => ?_, fun i hi => ?_, fun i hi => ?_, fun i hi => ?_, fun i hi => ?_, fun i hi => ?_, ?_, fun i hi => ?_, ?_, ?_, fun i hi => ?_⟩
  · unfold OpOK
    by_cases q : i = n
    · subst q
      rw [a1, a2, a3, a4, a5]
      exact ⟨hk.1, hk.2, h3, h4, h5⟩
    · rw [addM_ne (by omega), addM_ne (by omega), addM_ne (by omega), addM_ne (by omega), addM_ne (by omega)]; exact ho.2.1 i hi
  · rw [addM_ne (by omega)]; exact ho.2.2 i hi
  · rw [addM_ne (by omega)]; exact h.un i hi
  · rw [addM_ne (by omega)]; exact h.bz i hi
  · rw [addM_ne (by omega)]; exact h.cn i hi
  · by_cases q : i = n
    · subst q; rw [a6]; omega
    · rw [addM_ne (by omega)]; exact h.fi i hi
  · by_cases q : i = n
    · subst q; rw [a2, a4]; exact ⟨ha, hc⟩
    · rw [addM_ne (by omega), addM_ne (by omega)]; exact h.ab i hi
  · rw [addM_ne (by omega)]; exact h.sl i hi
  · rw [addM_ne (by omega)]; exact h.lo
  · rw [addM_ne (by omega), addM_ne (by omega), addM_ne (by omega), addM_ne (by omega)]; exact h.r48 i hi
  · rw [addM_ne (by omega)]; exact h.nd
  · rw [addM_ne (by omega)]; exact h.th
  · rw [addM_ne (by omega)]; exact h.pa i hi
/-- one cell of it is written -/
theorem RefOK.up {m : MM} {A i : Nat} {x : Int} (h : RefOK m) (q : (A = 143 ∧ i = 1 ∧ 0 ≤ x ∧ x ≤ 8) ∨ (A = 149 ∧ -9999 ≤ x ∧ x ≤ 9999) ∨ (A = 150 ∧ 0 ≤ x ∧ x ≤ 2) ∨ (A = 151 ∧ 1 ≤ x ∧ x ≤ 6) ∨ (A = 152 ∧ 1 ≤ x ∧ x ≤ 15) ∨ (A = 153 ∧ 1 ≤ x ∧ x ≤ 3)) : RefOK (upm m A i x) := by
  have ho := h.ops
  refine ⟨⟨upm_rg (fun _ => by omega) (fun _ => ho.1), fun j hj => ?_, fun j hj => upm_rg (fun _ => by omega) (fun _ => ho.2.2 j hj)⟩, fun j hj => upm_rg (fun _ => by omega) (fun _ => h.un j hj), fun j hj => upm_rg (fun _ => by omega) (fun _ => h.bz j hj), fun j hj => upm_rg (fun _ => by omega) (fun _ => h.cn j hj), fun j hj => upm_rg (fun _ => by omega) (fun _ => h.fi j hj), fun j hj => ?_, fun j hj => ?_, ?_, fun j hj => ?_, ?_, ?_, fun j hj => ?_⟩
  · unfold OpOK
    rw [upm_ne (by omega), upm_ne (by omega), upm_ne (by omega), upm_ne (by omega), upm_ne (by omega)]; exact ho.2.1 j hj
  · rw [upm_ne (by omega), upm_ne (by omega)]; exact h.ab j hj
  · rw [upm_ne (by omega)]; exact h.sl j hj
  · rw [upm_ne (by omega)]; exact h.lo
  · rw [upm_ne (by omega), upm_ne (by omega), upm_ne (by omega), upm_ne (by omega)]; exact h.r48 j hj
  · rw [upm_ne (by omega)]; exact h.nd
  · rw [upm_ne (by omega)]; exact h.th
  · rw [upm_ne (by omega)]; exact h.pa j hj
