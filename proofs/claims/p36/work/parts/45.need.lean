/-! needs of the reference: what comes in, how many there are -/
def NdAll (P : Int → Int → Int → Int → Prop) (m : MM) (k : Int) : Prop := ∀ j : Nat, (j : Int) < k → P (m 154 j) (m 155 j) (m 156 j) (m 157 j)
def FrN (m m' : MM) : Prop := ∀ A i, ¬ A = 154 → ¬ A = 155 → ¬ A = 156 → ¬ A = 157 → ¬ (A = 143 ∧ i = 12) → m' A i = m A i
theorem FrN.rf {m : MM} : FrN m m := fun _ _ _ _ _ _ _ => rfl
theorem FrN.tr {a b c : MM} (h1 : FrN a b) (h2 : FrN b c) : FrN a c := fun A i e1 e2 e3 e4 e5 => (h2 A i e1 e2 e3 e4 e5).trans (h1 A i e1 e2 e3 e4 e5)
/-- ranges of what may lie in the rows of needs, all 48 places -/
def Rg (a b d l : Int) : Prop := (0 ≤ a ∧ a ≤ 7) ∧ (0 ≤ b ∧ b ≤ 7) ∧ (0 ≤ d ∧ d ≤ 7) ∧ -5 ≤ l ∧ l ≤ 6
def R48 (m : MM) : Prop := ∀ j, j < 48 → Rg (m 154 j) (m 155 j) (m 156 j) (m 157 j)
def R4 (m m' : MM) : Prop := R48 m → R48 m'
theorem R4.rf {m : MM} : R4 m m := fun h => h
theorem R4.tr {a b c : MM} (h1 : R4 a b) (h2 : R4 b c) : R4 a c := fun h => h2 (h1 h)
theorem R4.same {m m' : MM} (h : ∀ A i, A = 154 ∨ A = 155 ∨ A = 156 ∨ A = 157 → m' A i = m A i) : R4 m m' := fun H j hj => by
  rw [h 154 j (by omega), h 155 j (by omega), h 156 j (by omega), h 157 j (by omega)]; exact H j hj
section NEED
variable {S : Nat × (Nat → Int32)} {n : Nat} {mem : MM} {P : Int → Int → Int → Int → Prop} {a b d l : Int}
theorem f_248 {K : Int → MM → Prop} {k : Int} (h : 0 ≤ k ∧ k < 48) (H : ∀ r, r = 0 ∨ r = 1 → K r mem) : CWI (Ex S (n + 1)) 248 [.inr 143, .inl k, .inl a, .inl b, .inl d, .inl l] mem K := by
  have h0 : ∃ y, some (0 : Int) = some y ∧ K y mem := ⟨_, rfl, H _ (Or.inl rfl)⟩
  have h1 : ∃ y, some (1 : Int) = some y ∧ K y mem := ⟨_, rfl, H _ (Or.inr rfl)⟩
  refine CW.of (k := 0) mt_248 rfl rfl (w_248_0 (Ex.mono S n) ⟨h, fun v1 _ _ => ⟨fun _ => ⟨h, fun v2 _ _ => ⟨fun _ => ⟨h, fun v3 _ _ => ⟨fun _ => ⟨h, fun v4 _ _ => ⟨fun _ => h0, fun _ => h1⟩⟩, fun _ => ⟨h, fun v4 _ _ => ⟨fun _ => h0, fun _ => h1⟩⟩⟩⟩, fun _ => ⟨h, fun v4 _ _ => ⟨fun _ => h0, fun _ => h1⟩⟩⟩⟩, fun _ => ⟨h, fun v4 _ _ => ⟨fun _ => h0, fun _ => h1⟩⟩⟩⟩)
/-- the place is made -/
theorem cn_70 {m0 : MM} {c : Int} (hc : 0 ≤ c ∧ c < 48) (hP : P a b d l) (hr : Rg a b d l) {Kk : WK} (H : ∀ m', FrN m0 m' → R4 m0 m' → m' 143 12 = c + 1 → NdAll P m' (c + 1) → Kk none m') : ∀ (N : Nat) (k : Int) (mem : MM), 0 ≤ k → k ≤ c → k.toNat < N → FrN m0 mem → R4 m0 mem → mem 143 12 = c → (∀ j : Nat, (j : Int) ≤ c → ¬ (j : Int) = k → P (mem 154 j) (mem 155 j) (mem 156 j) (mem 157 j)) → Wx (Ex S (n + 1)) S M_247 Kk 70 [some (.inr 143), some (.inl a), some (.inl b), some (.inl d), some (.inl l), some (.inl k)] [] mem := by
  intro N
  induction N with
  | zero => intros; omega
  | succ N ih =>
    intro k mem hk1 hk2 hN hF h4r hc2 hA
    have hk : 0 ≤ k ∧ k < 48 := by omega
    have fin : ∀ v1 : Int, v1 = (upm (upm (upm (upm mem 154 (Int.toNat k) a) 155 (Int.toNat k) b) 156 (Int.toNat k) d) 157 (Int.toNat k) l) 143 12 → InI v1 → (InI (v1 + 1)) ∧ (Kk none (upm (upm (upm (upm (upm mem 154 (Int.toNat k) a) 155 (Int.toNat k) b) 156 (Int.toNat k) d) 157 (Int.toNat k) l) 143 12 (v1 + 1))) := by
      intro v1 e _
      have e : v1 = c := by rw [e]; simp [upm]; exact hc2
      subst e
      refine ⟨by unfold InI; omega, H _ ?_ ?_ (by simp [upm]) ?_⟩
      · intro A i h1 h2 h3 h4 h5
        rw [← hF A i h1 h2 h3 h4 h5]
        simp only [upm]
        rw [if_neg h5, if_neg (fun q => h4 q.1), if_neg (fun q => h3 q.1), if_neg (fun q => h2 q.1), if_neg (fun q => h1 q.1)]
      · intro h0 j hj
        have := h4r h0 j hj
        by_cases hjk : j = k.toNat
        · subst hjk
          simp [upm]
          exact hr
        · simp [upm, hjk]
          exact this
      · intro j hj
        by_cases hjk : j = k.toNat
        · subst hjk
          simp [upm]
          exact hP
        · have := hA j (by omega) (by omega)
          simp [upm, hjk]
          exact this
    refine w_247_70 (Ex.mono S (n + 1)) ⟨fun q => ⟨hk, hk, hk, hk, fin⟩, fun q => ⟨by unfold InI; omega, f_248 ⟨by omega, by omega⟩ (fun r _ _ => ⟨fun _ => ⟨hk, hk, hk, hk, fin⟩, fun _ => ?_⟩)⟩⟩
    have hk3 : 0 ≤ k - 1 ∧ k - 1 < 48 := by omega
    have hI : InI (k - 1) := by unfold InI; omega
    refine ⟨hI, hk3, fun v5 e5 _ => ⟨hk, hI, hk3, fun v6 e6 _ => ⟨hk, hI, hk3, fun v7 e7 _ => ⟨hk, hI, hk3, fun v8 e8 _ => ⟨hk, by unfold InI; omega, ?_⟩⟩⟩⟩⟩
    have e6 : v6 = mem 155 (k - 1).toNat := by rw [e6]; simp [upm]
    have e7 : v7 = mem 156 (k - 1).toNat := by rw [e7]; simp [upm]
    have e8 : v8 = mem 157 (k - 1).toNat := by rw [e8]; simp [upm]
    rw [show k + -1 = k - 1 by omega]
    refine ih (k - 1) _ (by omega) (by omega) (by omega) ?_ ?_ (by simp [upm]; exact hc2) ?_
    · intro A i h1 h2 h3 h4 h5
      rw [← hF A i h1 h2 h3 h4 h5]
      simp only [upm]
      rw [if_neg (fun q => h4 q.1), if_neg (fun q => h3 q.1), if_neg (fun q => h2 q.1), if_neg (fun q => h1 q.1)]
    · intro h0 j hj
      have := h4r h0 j hj
      by_cases hjk : j = k.toNat
      · subst hjk
        simp [upm]
        rw [e5, e6, e7, e8]
        exact h4r h0 _ (by omega)
      · simp [upm, hjk]
        exact this
    · intro j h1 h2
      by_cases hjk : j = k.toNat
      · subst hjk
        simp [upm]
        rw [e5, e6, e7, e8]
        exact hA _ (by omega) (by omega)
      · have := hA j (by omega) (by omega)
        simp [upm, hjk]
        exact this
/-- one more need, or it was there -/
theorem f_247 {K : MM → Prop} (hc : 0 ≤ mem 143 12 ∧ mem 143 12 < 48) (hP : P a b d l) (hr : Rg a b d l) (hA : NdAll P mem (mem 143 12)) (H : ∀ m', FrN mem m' → R4 mem m' → mem 143 12 ≤ m' 143 12 → m' 143 12 ≤ mem 143 12 + 1 → NdAll P m' (m' 143 12) → K m') : CWV (Ex S (n + 2)) 247 [.inr 143, .inl a, .inl b, .inl d, .inl l] mem K := by
  refine CW.of (k := 1) mt_247 rfl rfl (w_247_0 (Ex.mono S (n + 1)) ?_)
  have key : ∀ (N : Nat) (k : Int), 0 ≤ k → k ≤ mem 143 12 → (mem 143 12 - k).toNat < N → Wx (Ex S (n + 1)) S M_247 (fun r m => r = none ∧ K m) 3 [some (.inr 143), some (.inl a), some (.inl b), some (.inl d), some (.inl l), some (.inl k)] [] mem := by
    intro N
    induction N with
    | zero => intros; omega
    | succ N ih =>
      intro k hk1 hk2 hN
      refine w_247_3 (Ex.mono S (n + 1)) (fun v e _ => ⟨fun q v2 e2 _ => ?_, fun q => ?_⟩)
      · subst e2
        refine cn_70 hc hP hr (m0 := mem) (fun m' h1 h4 h2 h3 => ⟨rfl, H m' h1 h4 (by omega) (by omega) (by rw [h2]; exact h3)⟩) _ _ mem hc.1 (Int.le_refl _) (Nat.lt_succ_self _) FrN.rf R4.rf rfl (fun j h1 h2 => hA j (by omega))
      · have hk : 0 ≤ k ∧ k < 48 := by omega
        have nx : InI (k + 1) ∧ Wx (Ex S (n + 1)) S M_247 (fun r m => r = none ∧ K m) 3 [some (.inr 143), some (.inl a), some (.inl b), some (.inl d), some (.inl l), some (.inl (k + 1))] [] mem := ⟨by unfold InI; omega, ih (k + 1) (by omega) (by omega) (by omega)⟩
        exact ⟨hk, fun v3 _ _ => ⟨fun _ => nx, fun _ => ⟨hk, fun v4 _ _ => ⟨fun _ => nx, fun _ => ⟨hk, fun v5 _ _ => ⟨fun _ => nx, fun _ => ⟨hk, fun v6 _ _ => ⟨fun _ => nx, fun _ => ⟨rfl, H mem FrN.rf R4.rf (by omega) (by omega) hA⟩⟩⟩⟩⟩⟩⟩⟩⟩
  exact key _ 0 (by omega) hc.1 (Nat.lt_succ_self _)
end NEED
