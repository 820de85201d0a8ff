/-! the rate is the greatest of the rings -/
theorem fr_tr {a b c d e f : Int} (hd : 0 < d) (hb : 0 ≤ b) (hf : 0 ≤ f) (h1 : a * d ≤ c * b) (h2 : c * f ≤ e * d) : a * f ≤ e * b := by
  have x1 : a * d * f ≤ c * b * f := Int.mul_le_mul_of_nonneg_right h1 hf
  have x2 : c * f * b ≤ e * d * b := Int.mul_le_mul_of_nonneg_right h2 hb
  have e1 : a * d * f = d * (a * f) := by rw [Int.mul_comm a d, Int.mul_assoc]
  have e2 : c * b * f = c * f * b := by rw [Int.mul_assoc, Int.mul_comm b f, ← Int.mul_assoc]
  have e3 : e * d * b = d * (e * b) := by rw [Int.mul_comm e d, Int.mul_assoc]
  exact Int.le_of_mul_le_mul_left (a := d) (by omega) hd
theorem wRg_1 {s : Int × Int × Int} {r : Rg3} (h1 : 0 ≤ s.1) (h2 : 1 ≤ s.2.1) (hr : 1 ≤ r.2.1) : 0 ≤ (wRg s r).1 ∧ 1 ≤ (wRg s r).2.1 ∧ s.1 * (wRg s r).2.1 ≤ (wRg s r).1 * s.2.1 ∧ (r.1 ≤ 0 ∨ r.1 * (wRg s r).2.1 ≤ (wRg s r).1 * r.2.1) ∧ (((wRg s r).1 = s.1 ∧ (wRg s r).2.1 = s.2.1) ∨ ((wRg s r).1 = r.1 ∧ (wRg s r).2.1 = r.2.1 ∧ 0 < r.1)) := by
  by_cases q1 : r.1 ≤ 0
  · have e : wRg s r = s := if_pos (Or.inl q1)
    rw [e]
    exact ⟨h1, h2, Int.le_refl _, Or.inl q1, Or.inl ⟨rfl, rfl⟩⟩
  · have e0 : wRg s r = if 0 < r.1 * s.2.1 - s.1 * r.2.1 then (r.1, r.2.1, r.2.2.toInt) else if r.1 * s.2.1 - s.1 * r.2.1 = 0 then (s.1, s.2.1, min s.2.2 r.2.2.toInt) else s := if_neg (by omega)
    by_cases q2 : 0 < r.1 * s.2.1 - s.1 * r.2.1
    · have e : wRg s r = (r.1, r.2.1, r.2.2.toInt) := by rw [e0, if_pos q2]
      rw [e]
      exact ⟨by show 0 ≤ r.1; omega, hr, by show s.1 * r.2.1 ≤ r.1 * s.2.1; omega, Or.inr (Int.le_refl _), Or.inr ⟨rfl, rfl, by omega⟩⟩
    · have e : (wRg s r).1 = s.1 ∧ (wRg s r).2.1 = s.2.1 := by
        rw [e0, if_neg q2]
        split
        · exact ⟨rfl, rfl⟩
        · exact ⟨rfl, rfl⟩
      rw [e.1, e.2]
      exact ⟨h1, h2, Int.le_refl _, Or.inr (by omega), Or.inl ⟨rfl, rfl⟩⟩
theorem wRg_mx : ∀ (L : List Rg3) (s : Int × Int × Int), 0 ≤ s.1 → 1 ≤ s.2.1 → (∀ r ∈ L, 1 ≤ r.2.1) → 0 ≤ (L.foldl wRg s).1 ∧ 1 ≤ (L.foldl wRg s).2.1 ∧ s.1 * (L.foldl wRg s).2.1 ≤ (L.foldl wRg s).1 * s.2.1 ∧ (∀ r ∈ L, r.1 ≤ 0 ∨ r.1 * (L.foldl wRg s).2.1 ≤ (L.foldl wRg s).1 * r.2.1) ∧ (((L.foldl wRg s).1 = s.1 ∧ (L.foldl wRg s).2.1 = s.2.1) ∨ ∃ r ∈ L, (L.foldl wRg s).1 = r.1 ∧ (L.foldl wRg s).2.1 = r.2.1 ∧ 0 < r.1)
  | [], s, h1, h2, _ => ⟨h1, h2, Int.le_refl _, fun _ h => absurd h List.not_mem_nil, Or.inl ⟨rfl, rfl⟩⟩
  | x :: l, s, h1, h2, h => by
    have hx := h x List.mem_cons_self
    obtain ⟨a1, a2, a3, a4, a5⟩ := wRg_1 h1 h2 hx
    obtain ⟨b1, b2, b3, b4, b5⟩ := wRg_mx l (wRg s x) a1 a2 (fun r hr => h r (List.mem_cons_of_mem _ hr))
    show 0 ≤ (l.foldl wRg (wRg s x)).1 ∧ 1 ≤ (l.foldl wRg (wRg s x)).2.1 ∧ s.1 * (l.foldl wRg (wRg s x)).2.1 ≤ (l.foldl wRg (wRg s x)).1 * s.2.1 ∧ (∀ r ∈ x :: l, r.1 ≤ 0 ∨ r.1 * (l.foldl wRg (wRg s x)).2.1 ≤ (l.foldl wRg (wRg s x)).1 * r.2.1) ∧ (((l.foldl wRg (wRg s x)).1 = s.1 ∧ (l.foldl wRg (wRg s x)).2.1 = s.2.1) ∨ ∃ r ∈ x :: l, (l.foldl wRg (wRg s x)).1 = r.1 ∧ (l.foldl wRg (wRg s x)).2.1 = r.2.1 ∧ 0 < r.1)
    generalize l.foldl wRg (wRg s x) = t at b1 b2 b3 b4 b5 ⊢
    refine ⟨b1, b2, fr_tr (by omega) (by omega) (by omega) a3 b3, fun r hr => ?_, ?_⟩
    · rcases List.mem_cons.mp hr with e | e
      · subst e
        exact a4.imp id (fun q => fr_tr (by omega) (by omega) (by omega) q b3)
      · exact b4 r e
    · rcases b5 with ⟨e1, e2⟩ | ⟨r, hr, e⟩
      · rcases a5 with ⟨f1, f2⟩ | ⟨f1, f2, f3⟩
        · exact Or.inl ⟨e1.trans f1, e2.trans f2⟩
        · exact Or.inr ⟨x, List.mem_cons_self, e1.trans f1, e2.trans f2, f3⟩
      · exact Or.inr ⟨r, List.mem_cons_of_mem _ hr, e⟩
