/-! methods known by hand, for Tx -/
section QQ
variable {S : Nat × (Nat → Int32)} {n : Nat} {mem : MM} {K : Int → MM → Prop} {E : Nat → MM → Prop}
theorem f_40q {a b : Int} (H : ∀ r, a ≤ r → b ≤ r → (r = a ∨ r = b) → K r mem) : CQI (Ex S (n + 1)) 40 [.inl a, .inl b] mem K E := CWI.q (Ex.mono S (n + 1)) (f_40 (H _ (by omega) (by omega) (by omega)))
theorem f_29q {a b : Int} (H : ∀ r, r ≤ a → r ≤ b → (r = a ∨ r = b) → K r mem) : CQI (Ex S (n + 1)) 29 [.inl a, .inl b] mem K E := CWI.q (Ex.mono S (n + 1)) (f_29 (H _ (by omega) (by omega) (by omega)))
theorem f_13q {o : Int} (h : 0 ≤ o ∧ o < 8) (H : ∀ r, r = csN mem o.toNat → 0 ≤ r → r ≤ 2 → K r mem) : CQI (Ex S (n + 1)) 13 [.inr 1, .inl o] mem K E := CWI.q (Ex.mono S (n + 1)) (f_13 h (H _ rfl (csN_le _ _).1 (csN_le _ _).2))
theorem f_14q {o k : Int} (ho : 0 ≤ o ∧ o < 8) (hk : 0 ≤ k ∧ k < 2) (H : ∀ r, r = mem 3 (4 * o.toNat + 2 * k.toNat) → K r mem) : CQI (Ex S (n + 1)) 14 [.inr 1, .inl o, .inl k] mem K E := by
  obtain ⟨a, rfl⟩ : ∃ a : Nat, o = a := ⟨o.toNat, by omega⟩
  obtain ⟨b, rfl⟩ : ∃ b : Nat, k = b := ⟨k.toNat, by omega⟩
  exact CWI.q (Ex.mono S (n + 1)) (f_14 (by omega) (by omega) (H _ (by rw [Int.toNat_natCast, Int.toNat_natCast])))
theorem f_15q {o k : Int} (ho : 0 ≤ o ∧ o < 8) (hk : 0 ≤ k ∧ k < 2) (H : ∀ r, r = mem 3 (4 * o.toNat + 2 * k.toNat + 1) → K r mem) : CQI (Ex S (n + 1)) 15 [.inr 1, .inl o, .inl k] mem K E := by
  obtain ⟨a, rfl⟩ : ∃ a : Nat, o = a := ⟨o.toNat, by omega⟩
  obtain ⟨b, rfl⟩ : ∃ b : Nat, k = b := ⟨k.toNat, by omega⟩
  exact CWI.q (Ex.mono S (n + 1)) (f_15 (by omega) (by omega) (H _ (by rw [Int.toNat_natCast, Int.toNat_natCast])))
theorem f_24q {o : Int} (ho : 0 ≤ o ∧ o < 8) (H : ∀ r, r = rowB mem o.toNat → K r mem) : CQI (Ex S (n + 1)) 24 [.inr 1, .inl o] mem K E := by
  obtain ⟨a, rfl⟩ : ∃ a : Nat, o = a := ⟨o.toNat, by omega⟩
  exact CWI.q (Ex.mono S (n + 1)) (f_24 (by omega) (H _ (by rw [Int.toNat_natCast])))
theorem f_25q {o : Int} (ho : 0 ≤ o ∧ o < 8) (H : ∀ r, r = plcB mem o.toNat → K r mem) : CQI (Ex S (n + 1)) 25 [.inr 1, .inl o] mem K E := by
  obtain ⟨a, rfl⟩ : ∃ a : Nat, o = a := ⟨o.toNat, by omega⟩
  exact CWI.q (Ex.mono S (n + 1)) (f_25 (by omega) (H _ (by rw [Int.toNat_natCast])))
theorem f_14s (hB : BodyOK mem) {o k : Int} (ho : 0 ≤ o ∧ o < 8) (hk : 0 ≤ k ∧ k < csN mem o.toNat) (H : ∀ r, r = mem 3 (4 * o.toNat + 2 * k.toNat) → -2 ≤ r → r ≤ 7 → K r mem) : CQI (Ex S (n + 1)) 14 [.inr 1, .inl o, .inl k] mem K E := by
  have hs := hB.src (o := o.toNat) (k := k.toNat) (by omega) (by omega)
  have := csN_le mem o.toNat
  unfold srcOK at hs
  exact f_14q ho (by omega) (fun r e => H r e (by omega) (by omega))
theorem f_15s (hB : BodyOK mem) {o k : Int} (ho : 0 ≤ o ∧ o < 8) (hk : 0 ≤ k ∧ k < csN mem o.toNat) (H : ∀ r, (0 ≤ mem 3 (4 * o.toNat + 2 * k.toNat) → 0 ≤ r ∧ r ≤ 3) → K r mem) : CQI (Ex S (n + 1)) 15 [.inr 1, .inl o, .inl k] mem K E := by
  have hs := hB.src (o := o.toNat) (k := k.toNat) (by omega) (by omega)
  have := csN_le mem o.toNat
  unfold srcOK at hs
  exact f_15q ho (by omega) (fun r e => H r (fun q => by omega))
end QQ
theorem ru_fin {a b z r w : Int} (h1 : 0 < b) (h2 : 0 < a) (e : z = -a) (hz : -2147483647 ≤ z) (ra : b * r ≤ z) (rb : z < b * r + b) (r1 : -2147483648 ≤ r) (r2 : r ≤ 2147483647) (we : -2147483648 ≤ -r ∧ -r ≤ 2147483647 → w = -r) : b * (w - 1) < a ∧ a ≤ b * w ∧ 0 < w := by
  have q : ¬ r = -2147483648 := by
    intro q
    subst q
    omega
  have hw : w = -r := we ⟨by omega, by omega⟩
  subst hw
  have e1 : b * (-r - 1) = -(b * r) - b := by rw [Int.mul_sub, Int.mul_neg, Int.mul_one]
  have e2 : b * -r = -(b * r) := Int.mul_neg _ _
  refine ⟨by omega, by omega, ?_⟩
  rcases Int.le_total (-r) 0 with h | h
  · have : b * -r ≤ b * 0 := Int.mul_le_mul_of_nonneg_left h (by omega)
    omega
  · by_cases z0 : r = 0
    · subst z0; omega
    · omega
