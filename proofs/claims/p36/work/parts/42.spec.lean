/-! what small methods of the reference come to -/
section SPEC
variable {S : Nat × (Nat → Int32)} {n : Nat} {mem : MM} {K : Int → MM → Prop}
theorem f_257 {a b : Int} (H : InI (max a b) → K (max a b) mem) : CWI (Ex S (n + 1)) 257 [.inl a, .inl b] mem K := by
  refine CW.of (k := 0) mt_257 rfl rfl (w_257_0 (Ex.mono S n) ⟨fun q h => ⟨_, rfl, ?_⟩, fun q h => ⟨_, rfl, ?_⟩⟩)
  · rw [Int.max_eq_right q] at H; exact H h
  · rw [Int.max_eq_left (by omega)] at H; exact H h
theorem f_258 {a b : Int} (H : InI (min a b) → K (min a b) mem) : CWI (Ex S (n + 1)) 258 [.inl a, .inl b] mem K := by
  refine CW.of (k := 0) mt_258 rfl rfl (w_258_0 (Ex.mono S n) ⟨fun q h => ⟨_, rfl, ?_⟩, fun q h => ⟨_, rfl, ?_⟩⟩)
  · rw [Int.min_eq_right q] at H; exact H h
  · rw [Int.min_eq_left (by omega)] at H; exact H h
theorem tm_rng (x : Int) {b : Int} (hb : 0 < b) : -b < x.tmod b ∧ x.tmod b < b := by
  refine ⟨?_, Int.tmod_lt_of_pos x hb⟩
  rcases Int.le_total 0 x with h | h
  · have := Int.tmod_nonneg b h; omega
  · have := Int.tmod_lt_of_pos (-x) hb
    rw [Int.neg_tmod] at this; omega
theorem f_272 {a b : Int} (hb : 0 < b ∧ b ≤ 1000000) (H : ∀ r, 0 ≤ r → r < b → K r mem) : CWI (Ex S (n + 1)) 272 [.inl a, .inl b] mem K := by
  have h1 := tm_rng a hb.1
  have h2 : 0 ≤ a.tmod b + b := by omega
  have h3 := Int.tmod_nonneg b h2
  have h4 := Int.tmod_lt_of_pos (a.tmod b + b) hb.1
  exact CW.of (k := 0) mt_272 rfl rfl (w_272_0 (Ex.mono S n) ⟨hb.1, by unfold InI; omega, hb.1, fun _ => ⟨_, rfl, H _ h3 h4⟩⟩)
/-- rounded up -/
theorem f_275 {a b : Int} (hb : 0 < b ∧ b ≤ 1000000) (ha : -1000000000 ≤ a ∧ a ≤ 1000000000) (H : ∀ u, b * (u - 1) < a → a ≤ b * u → K u mem) : CWI (Ex S (n + 1)) 275 [.inl a, .inl b] mem K := by
  refine CW.of (k := 0) mt_275 rfl rfl (w_275_0 (Ex.mono S n) ⟨fun q => ?_, fun q => ?_⟩)
  · have e := Int.tmod_add_mul_tdiv (-a) b
    have h1 := Int.tmod_nonneg b (a := -a) (by omega)
    have h2 := Int.tmod_lt_of_pos (-a) hb.1
    have h3 : 0 ≤ (-a).tdiv b := Int.tdiv_nonneg (by omega) (by omega)
    have h4 := Int.tdiv_le_self (a := -a) b (by omega)
    have e2 : b * (-((-a).tdiv b)) = - (b * (-a).tdiv b) := Int.mul_neg _ _
    have e3 : b * (-((-a).tdiv b) - 1) = - (b * (-a).tdiv b) - b := by rw [Int.mul_sub, e2, Int.mul_one]
    exact ⟨by unfold InI; omega, hb.1, by unfold InI; omega, fun _ => ⟨_, rfl, H _ (by omega) (by omega)⟩⟩
  · have e := Int.tmod_add_mul_tdiv (a + b - 1) b
    have h1 := Int.tmod_nonneg b (a := a + b - 1) (by omega)
    have h2 := Int.tmod_lt_of_pos (a + b - 1) hb.1
    have e3 : b * ((a + b - 1).tdiv b - 1) = b * (a + b - 1).tdiv b - b := by rw [Int.mul_sub, Int.mul_one]
    exact ⟨by unfold InI; omega, by unfold InI; omega, hb.1, fun _ => ⟨_, rfl, H _ (by omega) (by omega)⟩⟩
/-- a turn, or -1 -/
theorem f_319 {c b d t : Int} (hd : 0 < d) (h : InI (c - b)) (H : ∀ r, -1 ≤ r → (r < t ∨ r = -1) → (0 ≤ r → c = b + d * r) → K r mem) : CWI (Ex S (n + 1)) 319 [.inl c, .inl b, .inl d, .inl t] mem K := by
  have hN : K (-1) mem := H (-1) (by omega) (Or.inr rfl) (fun q => by omega)
  refine CW.of (k := 1) mt_319 rfl rfl (w_319_0 (Ex.mono S n) ⟨h, fun q _ => ⟨_, rfl, hN⟩, fun q => ⟨hd, fun q2 _ => ⟨_, rfl, hN⟩, fun q2 => ⟨hd, fun q3 _ => ⟨_, rfl, hN⟩, fun q3 => ⟨hd, fun _ => ⟨_, rfl, ?_⟩⟩⟩⟩⟩)
  have e := Int.tmod_add_mul_tdiv (c - b) d
  have h3 : 0 ≤ (c - b).tdiv d := Int.tdiv_nonneg (by omega) (by omega)
  exact H _ (by omega) (Or.inl (by omega)) (fun _ => by omega)
/-- isIn -/
theorem f_227 {v lo hi : Int} (H1 : lo ≤ v → v ≤ hi → K 1 mem) (H0 : v < lo ∨ hi < v → K 0 mem) : CWI (Ex S (n + 1)) 227 [.inl v, .inl lo, .inl hi] mem K := by
  refine CW.of (k := 0) mt_227 rfl rfl (w_227_0 (Ex.mono S n) ?_)
  refine ⟨fun q => ⟨_, rfl, H0 (Or.inl (by omega))⟩, fun q => ⟨fun q2 => ⟨_, rfl, H0 (Or.inr (by omega))⟩, fun q2 => ⟨_, rfl, H1 (by omega) (by omega)⟩⟩⟩
end SPEC
