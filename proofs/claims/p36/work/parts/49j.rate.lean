/-! rings of needs: the rate stays small and its lower number above 0 -/
def FrR (m m' : MM) : Prop := ∀ A i, ¬ (A = 143 ∧ (i = 31 ∨ i = 32 ∨ i = 33)) → m' A i = m A i
theorem FrR.rf {m : MM} : FrR m m := fun _ _ _ => rfl
theorem FrR.tr {a b c : MM} (h1 : FrR a b) (h2 : FrR b c) : FrR a c := fun A i e => (h2 A i e).trans (h1 A i e)
def RtOK (m : MM) : Prop := 0 ≤ m 143 31 ∧ m 143 31 ≤ 100 ∧ 1 ≤ m 143 32 ∧ m 143 32 ≤ 100
theorem tmod_r {x y : Int} (hx : 0 ≤ x) (hy : 0 < y) : 0 ≤ x.tmod y ∧ x.tmod y < y := ⟨Int.tmod_nonneg _ hx, Int.tmod_lt_of_pos _ hy⟩
theorem tdiv_r {x y : Int} (hx : 0 ≤ x) (hy : 0 < y) : 0 ≤ x.tdiv y ∧ x.tdiv y ≤ x := by
  rw [Int.tdiv_eq_ediv_of_nonneg hx]
  exact ⟨Int.ediv_nonneg hx (by omega), Int.ediv_le_self _ hx⟩
section RATE
variable {S : Nat × (Nat → Int32)} {n : Nat}
theorem cr_67 {m0 : MM} {x1 x2 x3 x4 : Int} (h1 : 0 < x1 ∧ x1 ≤ 100) (h2 : 0 < x2 ∧ x2 ≤ 100) {Kk : WK} (H : ∀ m', FrR m0 m' → RtOK m' → Kk none m') : ∀ (N : Nat) (x5 x6 : Int) (mem : MM), 0 < x5 → 0 ≤ x6 → x6.toNat < N → (∀ d : Int, d ∣ x5 → d ∣ x6 → d ∣ x2) → FrR m0 mem → Wx (Ex S n) S M_347 Kk 67 [some (.inr 143), some (.inl x1), some (.inl x2), some (.inl x3), some (.inl x4), some (.inl x5), some (.inl x6), none] [] mem := by
  intro N
  induction N with
  | zero => intros; omega
  | succ N ih =>
    intro x5 x6 mem h5 h6 hN hd hF
    refine w_347_67 (Ex.mono S n) ⟨fun q => ⟨h5, h5, H _ ?_ ?_⟩, fun q => ⟨by omega, ?_⟩⟩
    · intro A i e
      rw [upm_ne (by omega), upm_ne (by omega)]; exact hF A i e
    · have hdv : x5 ∣ x2 := hd x5 (Int.dvd_refl _) (by rw [q]; exact Int.dvd_zero _)
      obtain ⟨c, hc⟩ := hdv
      have hcp : 0 < c := by
        rcases Int.lt_or_le 0 c with z | z
        · exact z
        · have := Int.mul_nonpos_of_nonneg_of_nonpos (Int.le_of_lt h5) z
          omega
      have e2 : x2.tdiv x5 = c := by rw [hc]; exact Int.mul_tdiv_cancel_left _ (by omega)
      have r1 := tdiv_r (Int.le_of_lt h1.1) h5
      have r2 := tdiv_r (Int.le_of_lt h2.1) h5
      unfold RtOK
      rw [upm_ne (by omega), upm_eq, upm_eq]
      omega
    · have r := tmod_r (Int.le_of_lt h5) (show 0 < x6 by omega)
      refine ih x6 _ mem (by omega) r.1 (by omega) (fun d d1 d2 => hd d ?_ d1) hF
      have e := Int.mul_tdiv_add_tmod x5 x6
      rw [← e]
      exact Int.dvd_add (Int.dvd_mul_of_dvd_left d1) d2
theorem f_347 {m0 : MM} {K : MM → Prop} {x1 x2 x3 : Int} (h1 : -100 ≤ x1 ∧ x1 ≤ 100) (h2 : 0 < x2 ∧ x2 ≤ 100) (hR : RtOK m0) (H : ∀ m', FrR m0 m' → RtOK m' → K m') : CWV (Ex S (n + 2)) 347 [.inr 143, .inl x1, .inl x2, .inl x3] m0 K := by
  obtain ⟨r1, r2, r3, r4⟩ := hR
  have hR : RtOK m0 := ⟨r1, r2, r3, r4⟩
  refine CW.of (k := 4) mt_347 rfl rfl (w_347_0 (Ex.mono S (n + 1)) (fun v1 e1 _ => ?_))
  have p1 : -10000 ≤ x1 * v1 ∧ x1 * v1 ≤ 10000 := by
    have a1 : -100 * v1 ≤ x1 * v1 := Int.mul_le_mul_of_nonneg_right h1.1 (by omega)
    have a2 : x1 * v1 ≤ 100 * v1 := Int.mul_le_mul_of_nonneg_right h1.2 (by omega)
    omega
  refine ⟨by unfold InI; omega, fun v2 e2 _ => ?_⟩
  have p2 : 0 ≤ v2 * x2 ∧ v2 * x2 ≤ 10000 := by
    have a1 : 0 ≤ v2 * x2 := Int.mul_nonneg (by omega) (by omega)
    have a2 : v2 * x2 ≤ v2 * 100 := Int.mul_le_mul_of_nonneg_left h2.2 (by omega)
    omega
  have fin : ∀ z, 0 < x1 → Wx (Ex S (n + 1)) S M_347 (fun r m => r = none ∧ K m) 67 [some (.inr 143), some (.inl x1), some (.inl x2), some (.inl x3), some (.inl ((x1 * v1) - (v2 * x2))), some (.inl x1), some (.inl x2), none] [] (upm m0 143 33 z) := fun z q =>
    cr_67 (m0 := m0) ⟨q, h1.2⟩ h2 (fun m' a b => ⟨rfl, H m' a b⟩) _ _ _ _ q (by omega) (Nat.lt_succ_self _) (fun d _ d2 => d2) (fun A i e => upm_ne (by omega))
  refine ⟨by unfold InI; omega, by unfold InI; omega, fun q => ⟨rfl, H m0 FrR.rf hR⟩, fun q => ⟨fun q2 => ⟨fun q3 v3 e3 _ => ⟨fun q4 v4 e4 _ => f_258 (fun _ _ => fin _ (by omega)), fun q4 => fin _ (by omega)⟩, fun q3 => fin _ (by omega)⟩, fun q2 => ⟨rfl, H m0 FrR.rf hR⟩⟩⟩
/-- the place before an edge of a chain -/
def chP (m : MM) (b : Int) (i : Nat) : Int := if i = 0 then b else m 155 (m 170 (i - 1)).toNat
def ChOK (m : MM) (b : Int) (k : Nat) : Prop := ∀ i, i < k → 0 ≤ m 170 i ∧ m 170 i < m 143 12 ∧ m 154 (m 170 i).toNat = chP m b i
theorem f_346 {m0 : MM} {K : MM → Prop} {k : Nat} {b : Int} (hk : k ≤ 7) (hN : NdsOK m0) (hc : ChOK m0 b (k + 1)) (hl : m0 155 (m0 170 k).toNat = b) (hR : RtOK m0) (H : ∀ m', FrR m0 m' → RtOK m' → K m') : CWV (Ex S (n + 3)) 346 [.inr 143, .inl (k : Int), .inl b] m0 K := by
  refine CW.of (k := 4) mt_346 rfl rfl (w_346_0 (Ex.mono S (n + 2)) ?_)
  have h48 := hN.2.1
  have key : ∀ (N : Nat) (i : Nat) (x3 x4 x5 : Int), i ≤ k + 1 → k + 1 - i < N → -5 * (i : Int) ≤ x3 → x3 ≤ 6 * i → 0 ≤ x4 → x4 ≤ 7 * i → (1 ≤ x4 ∨ b < chP m0 b i ∨ i = 0) → Wx (Ex S (n + 2)) S M_346 (fun r m => r = none ∧ K m) 11 [some (.inr 143), some (.inl (k : Int)), some (.inl b), some (.inl x3), some (.inl x4), some (.inl x5), some (.inl (i : Int))] [] m0 := by
    intro N
    induction N with
    | zero => intros; omega
    | succ N ih =>
      intro i x3 x4 x5 hi hNN b1 b2 b3 b4 b5
      refine w_346_11 (Ex.mono S (n + 2)) ⟨fun q => ?_, fun q => ?_⟩
      · have e : i = k + 1 := by omega
        subst e
        have : chP m0 b (k + 1) = b := by unfold chP; rw [if_neg (by omega)]; exact hl
        exact f_347 ⟨by omega, by omega⟩ ⟨by omega, by omega⟩ hR (fun m' a c => ⟨rfl, H m' a c⟩)
      · obtain ⟨c1, c2, c3⟩ := hc i (by omega)
        have hi9 : 0 ≤ (i : Int) ∧ (i : Int) < 9 := by omega
        have pn := hN.2.2 (m0 170 i).toNat (by omega)
        obtain ⟨n1, n2, n3, n4, n5, n6, n7, n8, n9⟩ := pn
        simp only [Int.toNat_natCast]
        refine ⟨hi9, fun v2 e2 _ => ?_⟩
        subst e2
        have he : 0 ≤ m0 170 i ∧ m0 170 i < 48 := by omega
        refine ⟨he, fun v3 e3 _ => ⟨by unfold InI; omega, hi9, fun v4 e4 _ => ?_⟩⟩
        subst e4
        refine ⟨he, fun v5 e5 _ => ⟨by unfold InI; omega, hi9, fun v6 e6 _ => ?_⟩⟩
        subst e6
        refine ⟨he, fun v7 e7 _ b8 _ _ b9 _ _ => ⟨by unfold InI; omega, ?_⟩⟩
        have hp : chP m0 b (i + 1) = m0 155 (m0 170 i).toNat := by unfold chP; rw [if_neg (by omega)]; rfl
        have hp0 : i = 0 → chP m0 b i = b := fun z => by unfold chP; rw [if_pos z]
        refine ih (i + 1) _ _ b9 (by omega) (by omega) (by omega) (by omega) (by omega) (by omega) ?_
        rw [hp, e5]
        by_cases z : i = 0
        · have := hp0 z; omega
        · omega
  exact key _ 0 0 0 0 (by omega) (Nat.lt_succ_self _) (by omega) (by omega) (by omega) (by omega) (by omega)
/-- no more things than places -/
theorem pigeon : ∀ (b n : Nat) (f : Nat → Int), (∀ i, i < n → 0 < f i ∧ f i ≤ b) → (∀ i j, i < j → j < n → ¬ f i = f j) → n ≤ b
  | 0, n, f, h, _ => by
    rcases Nat.eq_zero_or_pos n with z | z
    · omega
    · have := h 0 z; omega
  | b + 1, n, f, h, hd => by
    rcases Nat.eq_zero_or_pos n with z | z
    · omega
    · by_cases hex : ∃ i, i < n ∧ f i = ((b + 1 : Nat) : Int)
      · obtain ⟨i, hi, e⟩ := hex
        have := pigeon b (n - 1) (fun j => if j = i then f (n - 1) else f j) (fun j hj => by
          show 0 < (if j = i then f (n - 1) else f j) ∧ (if j = i then f (n - 1) else f j) ≤ (b : Int)
          have hn1 := h (n - 1) (by omega)
          have hj1 := h j (by omega)
          split
          · have := hd i (n - 1) (by omega) (by omega); omega
          · rename_i z2
            have : ¬ f j = f i := by
              rcases Nat.lt_or_ge j i with z3 | z3
              · exact hd j i z3 hi
              · exact fun z4 => hd i j (by omega) (by omega) z4.symm
            omega) (fun p q hpq hq => by
          show ¬ (if p = i then f (n - 1) else f p) = (if q = i then f (n - 1) else f q)
          have hpn := hd p (n - 1) (by omega) (by omega)
          have hqn := hd q (n - 1) (by omega) (by omega)
          have hpq2 := hd p q hpq (by omega)
          split
          · rw [if_neg (by omega)]; exact fun z => hqn z.symm
          · split
            · exact hpn
            · exact hpq2)
        omega
      · have := pigeon b n f (fun i hi => by
          have := h i hi
          have : ¬ f i = ((b + 1 : Nat) : Int) := fun z => hex ⟨i, hi, z⟩
          omega) hd
        omega
end RATE
