/-! what both sides tell of ops at the start -/
theorem St.rel {θ : Nat → Int32} {hp : PH} (h : St θ hp) : RelB (memOf hp) := by
  have a1 := rg1 h 1 0 0 0 (by decide +kernel)
  have a2 := rg1 h 143 1 0 0 (by decide +kernel)
  refine ⟨by omega, fun o ho => ?_, fun k hk => ?_, fun u hu => ?_⟩
  · have b0 := rgn h 2 8 0 0 (by decide +kernel) o ho
    have b1 := rgn h 4 8 0 0 (by decide +kernel) o ho
    have b2 := rgn h 144 8 0 0 (by decide +kernel) o ho
    have b3 := rgn h 145 8 0 0 (by decide +kernel) o ho
    have b4 := rgn h 146 8 0 0 (by decide +kernel) o ho
    have b5 := rgn h 147 8 0 0 (by decide +kernel) o ho
    have b6 := rgn h 148 8 0 0 (by decide +kernel) o ho
    have b7 := rgn h 149 8 0 0 (by decide +kernel) o ho
    have c0 := rgn h 3 32 0 0 (by decide +kernel) (4 * o) (by omega)
    have c1 := rgn h 3 32 0 0 (by decide +kernel) (4 * o + 1) (by omega)
    have c2 := rgn h 3 32 0 0 (by decide +kernel) (4 * o + 2) (by omega)
    have c3 := rgn h 3 32 0 0 (by decide +kernel) (4 * o + 3) (by omega)
    omega
  · have q : k = 0 ∨ k = 1 ∨ k = 2 ∨ k = 3 ∨ k = 4 ∨ k = 5 := by omega
    rcases q with rfl | rfl | rfl | rfl | rfl | rfl
    · have e5 := rg1 h 5 0 0 0 (by decide +kernel)
      have e150 := rg1 h 150 0 0 0 (by decide +kernel)
      have e6 := rg1 h 6 0 1 1 (by decide +kernel)
      have e151 := rg1 h 151 0 1 1 (by decide +kernel)
      have e7 := rg1 h 7 0 1 1 (by decide +kernel)
      have e152 := rg1 h 152 0 1 1 (by decide +kernel)
      omega
    · have e5 := rg1 h 5 1 0 0 (by decide +kernel)
      have e150 := rg1 h 150 1 0 0 (by decide +kernel)
      have e6 := rg1 h 6 1 1 1 (by decide +kernel)
      have e151 := rg1 h 151 1 1 1 (by decide +kernel)
      have e7 := rg1 h 7 1 1 1 (by decide +kernel)
      have e152 := rg1 h 152 1 1 1 (by decide +kernel)
      omega
    · have e5 := rg1 h 5 2 1 1 (by decide +kernel)
      have e150 := rg1 h 150 2 1 1 (by decide +kernel)
      have e6 := rg1 h 6 2 3 3 (by decide +kernel)
      have e151 := rg1 h 151 2 3 3 (by decide +kernel)
      have e7 := rg1 h 7 2 3 3 (by decide +kernel)
      have e152 := rg1 h 152 2 3 3 (by decide +kernel)
      omega
    · have e5 := rg1 h 5 3 0 0 (by decide +kernel)
      have e150 := rg1 h 150 3 0 0 (by decide +kernel)
      have e6 := rg1 h 6 3 1 1 (by decide +kernel)
      have e151 := rg1 h 151 3 1 1 (by decide +kernel)
      have e7 := rg1 h 7 3 1 1 (by decide +kernel)
      have e152 := rg1 h 152 3 1 1 (by decide +kernel)
      omega
    · have e5 := rg1 h 5 4 2 2 (by decide +kernel)
      have e150 := rg1 h 150 4 2 2 (by decide +kernel)
      have e6 := rg1 h 6 4 2 2 (by decide +kernel)
      have e151 := rg1 h 151 4 2 2 (by decide +kernel)
      have e7 := rg1 h 7 4 1 1 (by decide +kernel)
      have e152 := rg1 h 152 4 1 1 (by decide +kernel)
      omega
    · have e5 := rg1 h 5 5 2 2 (by decide +kernel)
      have e150 := rg1 h 150 5 2 2 (by decide +kernel)
      have e6 := rg1 h 6 5 1 1 (by decide +kernel)
      have e151 := rg1 h 151 5 1 1 (by decide +kernel)
      have e7 := rg1 h 7 5 1 1 (by decide +kernel)
      have e152 := rg1 h 152 5 1 1 (by decide +kernel)
      omega
  · have e1 := rgn h 8 3 1 1 (by decide +kernel) u hu
    have e2 := rgn h 153 3 1 1 (by decide +kernel) u hu
    omega
