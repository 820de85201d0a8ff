/-! the seeker of slots: what it keeps -/
theorem Frm.cp {P : Nat → Nat → Prop} {m m1 m2 : MM} {A1 : Nat} (h : Frm P m m1) (ha : ∀ A i, ¬ A = A1 → m2 A i = m1 A i) (q : ∀ i, P A1 i) : Frm P m m2 := fun A i e => (ha A i (fun w => e (by rw [w]; exact q i))).trans (h A i e)
def pSk (A i : Nat) : Prop := (A = 21 ∧ 2 ≤ i) ∨ A = 22 ∨ A = 23 ∨ (28 ≤ A ∧ A ≤ 36)
def FrS (m m' : MM) : Prop := Frm pSk m m' ∧ ∀ o, m' 22 o = m 22 o ∨ (0 ≤ m' 22 o ∧ m' 22 o ≤ 11)
theorem FrS.rf {m : MM} : FrS m m := ⟨Frm.rf, fun _ => Or.inl rfl⟩
theorem FrS.tr {a b c : MM} (h1 : FrS a b) (h2 : FrS b c) : FrS a c := ⟨h1.1.tr h2.1, fun o => by
  have := h1.2 o
  have := h2.2 o
  omega⟩
theorem FrS.up {m m1 : MM} {A i : Nat} {x : Int} (h : FrS m m1) (q : pSk A i) (w : A = 22 → 0 ≤ x ∧ x ≤ 11) : FrS m (upm m1 A i x) := ⟨h.1.up q, fun o => by
  by_cases e : 22 = A ∧ o = i
  · rw [e.1, e.2, upm_eq]; exact Or.inr (w e.1.symm)
  · rw [upm_ne e]; exact h.2 o⟩
theorem FrS.cp {m m1 m2 : MM} {A1 : Nat} (h : FrS m m1) (ha : ∀ A i, ¬ A = A1 → m2 A i = m1 A i) (q : ∀ i, pSk A1 i) (w : ¬ 22 = A1) : FrS m m2 := ⟨h.1.cp ha q, fun o => by rw [ha 22 o w]; exact h.2 o⟩
theorem FrS.at {m m' : MM} (h : FrS m m') (A i : Nat) (q : ¬ pSk A i) : m' A i = m A i := h.1 A i q
def SkO (m : MM) (d : Int) : Prop := (0 ≤ m 21 0 ∧ m 21 0 ≤ 8) ∧ (m 21 1 = d ∧ 1 ≤ d ∧ d ≤ 12) ∧ (∀ o, o < 8 → 0 ≤ m 24 o ∧ m 24 o ≤ 2) ∧ (∀ u, u < 3 → 1 ≤ m 25 u ∧ m 25 u ≤ 3) ∧ ∀ o r : Nat, (o : Int) < m 21 0 → r < 4 → 0 ≤ m 27 (4 * o + r) ∧ m 27 (4 * o + r) ≤ m 25 (m 24 o).toNat
theorem FrS.sk {m m' : MM} {d : Int} (e : FrS m m') (h : SkO m d) : SkO m' d := by
  obtain ⟨h1, h2, h3, h4, h5⟩ := h
  refine ⟨by rw [e.at 21 0 (by unfold pSk; omega)]; exact h1, by rw [e.at 21 1 (by unfold pSk; omega)]; exact h2, fun o ho => by rw [e.at 24 o (by unfold pSk; omega)]; exact h3 o ho, fun o ho => by rw [e.at 25 o (by unfold pSk; omega)]; exact h4 o ho, fun o r ho hr => ?_⟩
  rw [e.at 21 0 (by unfold pSk; omega)] at ho
  rw [e.at 27 _ (by unfold pSk; omega), e.at 24 o (by unfold pSk; omega), e.at 25 _ (by unfold pSk; omega)]
  exact h5 o r ho hr
