/-! bits of a set of ops -/
def X1 (o : Int) : Int32 := Int32.ofInt 1 <<< (Int32.ofInt o &&& 31)
def tb (t o : Int) : Prop := ¬ (Int32.ofInt t &&& X1 o = 0)
theorem i32_dist (x a b : Int32) : (x ||| a) &&& b = (x &&& b) ||| (a &&& b) := Int32.toBitVec_inj.1 (by
  show (x.toBitVec ||| a.toBitVec) &&& b.toBitVec = (x.toBitVec &&& b.toBitVec) ||| (a.toBitVec &&& b.toBitVec)
  ext i hi
  simp [Bool.and_or_distrib_right])
theorem X1_off {o p : Int} (ho : 0 ≤ o ∧ o < 8) (hp : 0 ≤ p ∧ p < 8) (h : ¬ o = p) : X1 o &&& X1 p = 0 := by
  have a : o = 0 ∨ o = 1 ∨ o = 2 ∨ o = 3 ∨ o = 4 ∨ o = 5 ∨ o = 6 ∨ o = 7 := by omega
  have b : p = 0 ∨ p = 1 ∨ p = 2 ∨ p = 3 ∨ p = 4 ∨ p = 5 ∨ p = 6 ∨ p = 7 := by omega
  rcases a with a | a | a | a | a | a | a | a <;> rcases b with b | b | b | b | b | b | b | b <;> subst a <;> subst b <;> first | exact absurd rfl h | decide
theorem X1_on {o : Int} (ho : 0 ≤ o ∧ o < 8) : ¬ X1 o = 0 := by
  have a : o = 0 ∨ o = 1 ∨ o = 2 ∨ o = 3 ∨ o = 4 ∨ o = 5 ∨ o = 6 ∨ o = 7 := by omega
  rcases a with a | a | a | a | a | a | a | a <;> subst a <;> decide
theorem tI0 (x : Int32) : x.toInt = 0 ↔ x = 0 := ⟨fun h => toInt_inj (by rw [h]; rfl), fun h => by rw [h]; rfl⟩
/-- the test -/
theorem tb_of {t o b1 b2 : Int} (e1 : b1 = ((fun (x y : Int32) => x <<< (y &&& 31)) (Int32.ofInt 1) (Int32.ofInt o)).toInt) (e2 : b2 = ((fun (x y : Int32) => x &&& y) (Int32.ofInt t) (Int32.ofInt b1)).toInt) : b2 = 0 ↔ ¬ tb t o := by
  have e1 : b1 = (X1 o).toInt := e1
  rw [e2, e1]
  show (Int32.ofInt t &&& Int32.ofInt (X1 o).toInt).toInt = 0 ↔ _
  rw [Int32.ofInt_toInt, tI0]
  unfold tb
  exact ⟨fun h q => q h, fun h => Classical.not_not.mp h⟩
/-- one more -/
theorem tb_set {t o p b1 t' : Int} (e1 : b1 = ((fun (x y : Int32) => x <<< (y &&& 31)) (Int32.ofInt 1) (Int32.ofInt o)).toInt) (e2 : t' = ((fun (x y : Int32) => x ||| y) (Int32.ofInt t) (Int32.ofInt b1)).toInt) (ho : 0 ≤ o ∧ o < 8) (hp : 0 ≤ p ∧ p < 8) : tb t' p ↔ tb t p ∨ o = p := by
  have e1 : b1 = (X1 o).toInt := e1
  have e2 : t' = (Int32.ofInt t ||| X1 o).toInt := by
    rw [e2, e1]
    show (Int32.ofInt t ||| Int32.ofInt (X1 o).toInt).toInt = _
    rw [Int32.ofInt_toInt]
  unfold tb
  rw [e2, Int32.ofInt_toInt, i32_dist]
  by_cases h : o = p
  · subst h
    rw [Int32.and_self]
    refine ⟨fun _ => Or.inr rfl, fun _ q => ?_⟩
    exact X1_on ho (Int32.or_eq_zero_iff.mp q).2
  · rw [X1_off ho hp h, Int32.or_zero]
    exact ⟨Or.inl, fun q => q.elim id (fun z => absurd z h)⟩
/-- some fewer -/
theorem tb_and {t y p t' : Int} (e2 : t' = ((fun (x y : Int32) => x &&& y) (Int32.ofInt t) (Int32.ofInt y)).toInt) (h : tb t' p) : tb t p := by
  unfold tb at h ⊢
  intro q
  apply h
  have e2 : t' = (Int32.ofInt t &&& Int32.ofInt y).toInt := e2
  rw [e2, Int32.ofInt_toInt, Int32.and_assoc, Int32.and_comm (Int32.ofInt y), ← Int32.and_assoc, q, Int32.zero_and]
/-- how many ops are not in it -/
def cnt (t : Int) : Nat := smN (fun p => if Int32.ofInt t &&& X1 (p : Int) = 0 then 1 else 0) 8
theorem smN_mono {f g : Nat → Nat} : ∀ k, (∀ i, i < k → f i ≤ g i) → smN f k ≤ smN g k
  | 0, _ => Nat.le_refl _
  | k + 1, h => by
    have := smN_mono k (fun i hi => h i (by omega))
    have := h k (by omega)
    simp only [smN]; omega
theorem smN_lt {f g : Nat → Nat} {i : Nat} : ∀ k, (∀ i, i < k → f i ≤ g i) → i < k → f i < g i → smN f k < smN g k
  | 0, _, h, _ => by omega
  | k + 1, h, hi, hl => by
    have h2 := h k (by omega)
    simp only [smN]
    by_cases e : i = k
    · subst e
      have := smN_mono i (fun j hj => h j (by omega))
      omega
    · have := smN_lt k (fun j hj => h j (by omega)) (by omega) hl
      omega
theorem cnt_le (t : Int) : cnt t ≤ 8 := by
  have := smN_le (f := fun p => if Int32.ofInt t &&& X1 (p : Int) = 0 then 1 else 0) (c := 1) 8 (fun i _ => by split <;> omega)
  unfold cnt; omega
theorem cnt_set {t o b1 t' : Int} (e1 : b1 = ((fun (x y : Int32) => x <<< (y &&& 31)) (Int32.ofInt 1) (Int32.ofInt o)).toInt) (e2 : t' = ((fun (x y : Int32) => x ||| y) (Int32.ofInt t) (Int32.ofInt b1)).toInt) (ho : 0 ≤ o ∧ o < 8) (h : ¬ tb t o) : cnt t' < cnt t := by
  unfold cnt
  refine smN_lt (i := o.toNat) 8 (fun i hi => ?_) (by omega) ?_
  · have := tb_set (p := (i : Int)) e1 e2 ho ⟨by omega, by omega⟩
    unfold tb at this
    by_cases z : Int32.ofInt t &&& X1 (i : Int) = 0
    · rw [if_pos z]; split <;> omega
    · rw [if_neg (this.mpr (Or.inl z))]; omega
  · have := tb_set (p := o) e1 e2 ho ho
    unfold tb at this h
    rw [show ((o.toNat : Nat) : Int) = o by omega, if_neg (this.mpr (Or.inr rfl)), if_pos (Classical.not_not.mp h)]; omega
