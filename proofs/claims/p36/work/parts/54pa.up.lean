/-! quotients, upwards -/
/-- a over b, upwards -/
def upV (a b : Int) : Int := (a + b - 1) / b
theorem upV_of {a b r : Int} (hb : 0 < b) (h1 : b * (r - 1) < a) (h2 : a ≤ b * r) : r = upV a b := by
  unfold upV
  have d1 := Int.mul_ediv_add_emod (a + b - 1) b
  have d2 := Int.emod_nonneg (a + b - 1) (show b ≠ 0 by omega)
  have d3 := Int.emod_lt_of_pos (a + b - 1) hb
  generalize (a + b - 1) / b = q at d1 ⊢
  have e1 : b * (r - 1) = b * r - b := by rw [Int.mul_sub, Int.mul_one]
  have e2 : b * (r + 1) = b * r + b := by rw [Int.mul_add, Int.mul_one]
  have e3 : b * (q + 1) = b * q + b := by rw [Int.mul_add, Int.mul_one]
  have l1 : q < r + 1 := Int.lt_of_mul_lt_mul_left (a := b) (by omega) (by omega)
  have l2 : r < q + 1 := Int.lt_of_mul_lt_mul_left (a := b) (by omega) (by omega)
  omega
theorem ru_fin0 {a b z r w : Int} (h1 : 0 < b) (h2 : 0 ≤ a) (e : z = -a) (hz : -2147483647 ≤ z) (ra : b * r ≤ z) (rb : z < b * r + b) (r1 : -2147483648 ≤ r) (r2 : r ≤ 2147483647) (we : -2147483648 ≤ -r ∧ -r ≤ 2147483647 → w = -r) : w = upV a b := by
  rcases (show a = 0 ∨ 0 < a by omega) with q | q
  · have r0 : r = 0 := by
      rcases Int.lt_trichotomy r 0 with x | x | x
      · have := Int.mul_le_mul_of_nonneg_left (show r ≤ -1 by omega) (Int.le_of_lt h1)
        omega
      · exact x
      · have := Int.mul_le_mul_of_nonneg_left (show 1 ≤ r by omega) (Int.le_of_lt h1)
        omega
    subst r0
    have w0 := we (by omega)
    subst w0
    exact upV_of h1 (by omega) (by omega)
  · obtain ⟨x, y, -⟩ := ru_fin h1 q e hz ra rb r1 r2 we
    exact upV_of h1 x y
theorem upV_rg {a b : Int} (hb : 0 < b) (ha : 0 ≤ a) : 0 ≤ upV a b ∧ upV a b ≤ a := by
  have d1 := Int.mul_ediv_add_emod (a + b - 1) b
  have d2 := Int.emod_nonneg (a + b - 1) (show b ≠ 0 by omega)
  have d3 := Int.emod_lt_of_pos (a + b - 1) hb
  have e : upV a b = (a + b - 1) / b := rfl
  rw [← e] at d1
  exact up_rng hb ha (by rw [Int.mul_sub, Int.mul_one]; omega) (by omega)
