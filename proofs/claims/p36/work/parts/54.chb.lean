/-! charts, ways, rows that are run: frames -/
theorem ChSh.rg {Q : Nat} (h : ChSh Q) : 38 ≤ Q ∧ Q ≤ 122 := by
  obtain ⟨⟨k, h1, h2⟩, -⟩ := h
  omega
def p20 (A _i : Nat) : Prop := A = 20
def pRe (A _i : Nat) : Prop := A = 19 ∨ A = 20
def pTm (Q A _i : Nat) : Prop := A = Q + 2
def pLi (Q A _i : Nat) : Prop := A = Q + 4
def pNm (Q A i : Nat) : Prop := (A = Q ∧ (i = 6 ∨ i = 7)) ∨ A = Q + 5 ∨ A = Q + 6
def pCh (Q A _i : Nat) : Prop := Q ≤ A ∧ A ≤ Q + 6
def pPl (A _i : Nat) : Prop := 136 ≤ A ∧ A ≤ 138
def pPa (A _i : Nat) : Prop := A = 141 ∨ A = 142
def p14 (A i : Nat) : Prop := (14 < A ∧ A ≤ 18) ∨ (A = 14 ∧ i = 0)
theorem csN_1 {m : MM} {o : Nat} (h : ¬ m 2 o = 4) : 1 ≤ csN m o := by
  unfold csN
  rw [if_neg h]
  split <;> omega
theorem csN_2 {m : MM} {o : Nat} (h : ¬ m 2 o = 4) (h5 : ¬ m 2 o = 5) : csN m o = 2 := by
  unfold csN
  rw [if_neg h, if_neg h5]
def DT (m : MM) (Q : Nat) (s c : Int) : Prop := ∀ o, o < 8 → (0 ≤ m (Q + 2) o ∧ m (Q + 2) o ≤ 11000) ∧ ((o : Int) < s → m (Q + 2) o ≤ c)
theorem DT.up {m : MM} {Q i : Nat} {s c c' x : Int} (h : DT m Q s c) (hx : 0 ≤ x ∧ x ≤ c') (h1 : c ≤ c') (h2 : c' ≤ 11000) : DT (upm m (Q + 2) i x) Q s c' := fun o ho => by
  have := h o ho
  by_cases q : o = i
  · rw [q, upm_eq]; exact ⟨by omega, fun _ => by omega⟩
  · rw [upm_ne (by omega)]; exact ⟨this.1, fun z => by have := this.2 z; omega⟩
theorem DT.up1 {m : MM} {Q i : Nat} {s x : Int} (h : DT m Q s 11) (hx : 0 ≤ x ∧ x ≤ 11) (hi : s = (i : Int)) : DT (upm m (Q + 2) i x) Q (s + 1) 11 := fun o ho => by
  have := h o ho
  by_cases q : o = i
  · rw [q, upm_eq]; exact ⟨by omega, fun _ => by omega⟩
  · rw [upm_ne (by omega)]; exact ⟨this.1, fun z => this.2 (by omega)⟩
theorem DT.le {m : MM} {Q : Nat} {s c s' c' : Int} (h : DT m Q s c) (h1 : s' ≤ s) (h2 : c ≤ c') : DT m Q s' c' := fun o ho => ⟨(h o ho).1, fun z => by have := (h o ho).2 (by omega); omega⟩
