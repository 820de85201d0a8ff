/-! strictly rising rows of needs, and what they hold -/
abbrev Q4 : Type := Int × Int × Int × Int
def lt4 (x y : Q4) : Prop := x.1 < y.1 ∨ (x.1 = y.1 ∧ (x.2.1 < y.2.1 ∨ (x.2.1 = y.2.1 ∧ (x.2.2.1 < y.2.2.1 ∨ (x.2.2.1 = y.2.2.1 ∧ x.2.2.2 < y.2.2.2)))))
theorem lt4.irr {x : Q4} (h : lt4 x x) : False := by unfold lt4 at h; omega
theorem lt4.tr {x y z : Q4} (h : lt4 x y) (g : lt4 y z) : lt4 x z := by unfold lt4 at *; omega
theorem lt4.tri (x y : Q4) : lt4 x y ∨ x = y ∨ lt4 y x := by
  obtain ⟨a, b, c, d⟩ := x
  obtain ⟨a', b', c', d'⟩ := y
  by_cases h : a = a' ∧ b = b' ∧ c = c' ∧ d = d'
  · obtain ⟨rfl, rfl, rfl, rfl⟩ := h
    exact Or.inr (Or.inl rfl)
  · have : lt4 (a, b, c, d) (a', b', c', d') ∨ lt4 (a', b', c', d') (a, b, c, d) := by
      simp only [lt4]
      omega
    exact this.elim Or.inl (fun q => Or.inr (Or.inr q))
def Enum (c : Nat → Q4) (n : Nat) (P : Q4 → Prop) : Prop := (∀ i j : Nat, i < j → j < n → lt4 (c i) (c j)) ∧ (∀ i, i < n → P (c i)) ∧ ∀ q, P q → ∃ i, i < n ∧ c i = q
theorem Enum.le {c : Nat → Q4} {n : Nat} {P : Q4 → Prop} (h : Enum c n P) {i j : Nat} (hi : i < n) (hj : j < n) (q : lt4 (c i) (c j)) : i < j := by
  by_cases w : i < j
  · exact w
  · by_cases e : i = j
    · subst e; exact (lt4.irr q).elim
    · exact (lt4.irr (q.tr (h.1 j i (by omega) hi))).elim
theorem Enum.inj {c : Nat → Q4} {n : Nat} {P : Q4 → Prop} (h : Enum c n P) {i j : Nat} (hi : i < n) (hj : j < n) (q : c i = c j) : i = j := by
  by_cases w : i < j
  · have := h.1 i j w hj
    rw [q] at this
    exact (lt4.irr this).elim
  · by_cases e : i = j
    · exact e
    · have := h.1 j i (by omega) hi
      rw [q] at this
      exact (lt4.irr this).elim
theorem Enum.key {c c' : Nat → Q4} {n n' : Nat} {P P' : Q4 → Prop} (h : Enum c n P) (h' : Enum c' n' P') (e : ∀ q, P q ↔ P' q) : ∀ i, i < n → i < n' ∧ c i = c' i := by
  intro i
  induction i using Nat.strongRecOn with
  | _ i ih =>
    intro hi
    obtain ⟨j, hj, ej⟩ := h'.2.2 (c i) ((e _).mp (h.2.1 i hi))
    have hij : i ≤ j := by
      by_cases w : j < i
      · have q := (ih j w (by omega)).2
        have := h.inj (i := j) (j := i) (by omega) hi (q.trans ej)
        omega
      · omega
    by_cases w : i = j
    · subst w; exact ⟨hj, ej.symm⟩
    · have hi' : i < n' := by omega
      obtain ⟨k, hk, ek⟩ := h.2.2 (c' i) ((e _).mpr (h'.2.1 i hi'))
      have l1 : lt4 (c k) (c i) := by rw [ek, ← ej]; exact h'.1 i j (by omega) hj
      have k1 := h.le hk hi l1
      have q := (ih k k1 hk).2
      have := h'.inj (i := k) (j := i) (by omega) hi' (q.symm.trans ek)
      omega
/-- what holds the same is the same -/
theorem Enum.uniq {c c' : Nat → Q4} {n n' : Nat} {P P' : Q4 → Prop} (h : Enum c n P) (h' : Enum c' n' P') (e : ∀ q, P q ↔ P' q) : n = n' ∧ ∀ i, i < n → c i = c' i := by
  have k1 := h.key h' e
  have k2 := h'.key h (fun q => (e q).symm)
  refine ⟨?_, fun i hi => (k1 i hi).2⟩
  by_cases a : n < n'
  · have := (k2 n a).1; omega
  · by_cases b : n' < n
    · have := (k1 n' b).1; omega
    · omega
theorem Enum.cg {c c' : Nat → Q4} {n n' : Nat} {P P' : Q4 → Prop} (h : Enum c n P) (hn : n' = n) (e : ∀ i, i < n → c' i = c i) (eP : ∀ q, P q ↔ P' q) : Enum c' n' P' := by
  subst hn
  refine ⟨fun i j hij hj => ?_, fun i hi => ?_, fun q hq => ?_⟩
  · rw [e i (by omega), e j hj]; exact h.1 i j hij hj
  · rw [e i hi]; exact (eP _).mp (h.2.1 i hi)
  · obtain ⟨i, hi, ei⟩ := h.2.2 q ((eP q).mpr hq)
    exact ⟨i, hi, (e i hi).trans ei⟩
/-- one more is put in at its place -/
theorem Enum.ins {c c' : Nat → Q4} {n t : Nat} {P : Q4 → Prop} {q : Q4} (h : Enum c n P) (ht : t ≤ n) (lo : ∀ i, i < t → lt4 (c i) q) (hi : ∀ i, t ≤ i → i < n → lt4 q (c i)) (e1 : ∀ i, i < t → c' i = c i) (e2 : c' t = q) (e3 : ∀ i, t ≤ i → i < n → c' (i + 1) = c i) : Enum c' (n + 1) (fun x => P x ∨ x = q) := by
  have up : ∀ j, t < j → j < n + 1 → c' j = c (j - 1) := fun j a b => by
    have := e3 (j - 1) (by omega) (by omega)
    rw [show j - 1 + 1 = j by omega] at this
    exact this
  refine ⟨fun i j hij hj => ?_, fun i hi' => ?_, fun x hx => ?_⟩
  · by_cases a : j < t
    · rw [e1 i (by omega), e1 j a]; exact h.1 i j hij (by omega)
    · by_cases b : j = t
      · subst b; rw [e1 i hij, e2]; exact lo i hij
      · rw [up j (by omega) hj]
        by_cases d : i < t
        · rw [e1 i d]
          by_cases f : i = j - 1
          · omega
          · exact h.1 i (j - 1) (by omega) (by omega)
        · by_cases f : i = t
          · subst f; rw [e2]; exact hi (j - 1) (by omega) (by omega)
          · rw [up i (by omega) (by omega)]; exact h.1 (i - 1) (j - 1) (by omega) (by omega)
  · by_cases a : i < t
    · rw [e1 i a]; exact Or.inl (h.2.1 i (by omega))
    · by_cases b : i = t
      · subst b; exact Or.inr e2
      · rw [up i (by omega) hi']; exact Or.inl (h.2.1 (i - 1) (by omega))
  · rcases hx with hx | hx
    · obtain ⟨i, hi', ei⟩ := h.2.2 x hx
      by_cases a : i < t
      · exact ⟨i, by omega, (e1 i a).trans ei⟩
      · exact ⟨i + 1, by omega, (e3 i (by omega) hi').trans ei⟩
    · subst hx; exact ⟨t, by omega, e2⟩
theorem Enum.nil {c : Nat → Q4} : Enum c 0 (fun _ => False) := ⟨fun i j _ h => by omega, fun i h => by omega, fun _ h => h.elim⟩
/-- what a store and another op of its row need -/
def NdR (kd row pl la : Nat → Int) (s o : Nat) (x : Q4) : Prop := kd s = 5 ∧ row o = row s ∧ ((kd o = 4 ∧ (pl o < pl s ∨ (pl s = pl o ∧ s < o)) ∧ x = ((s : Int), (o : Int), pl s - pl o, la s)) ∨ (kd o = 4 ∧ ¬ (pl o < pl s ∨ (pl s = pl o ∧ s < o)) ∧ x = ((o : Int), (s : Int), pl o - pl s, 1 - la s)) ∨ (kd o = 5 ∧ (pl o < pl s ∨ (pl s = pl o ∧ s < o)) ∧ x = ((s : Int), (o : Int), pl s - pl o, 1)))
