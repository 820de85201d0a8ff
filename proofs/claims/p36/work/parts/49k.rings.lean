/-! all rings from an op on, and the rate -/
def FrE (m m' : MM) : Prop := ∀ A i, ¬ A = 170 → ¬ (A = 143 ∧ (i = 31 ∨ i = 32 ∨ i = 33)) → m' A i = m A i
theorem FrE.rf {m : MM} : FrE m m := fun _ _ _ _ => rfl
theorem FrE.tr {a b c : MM} (h1 : FrE a b) (h2 : FrE b c) : FrE a c := fun A i e1 e2 => (h2 A i e1 e2).trans (h1 A i e1 e2)
theorem FrR.e {a b : MM} (h : FrR a b) : FrE a b := fun A i _ e => h A i e
theorem FrE.up {m : MM} {i : Nat} {x : Int} : FrE m (upm m 170 i x) := fun A j e _ => upm_ne (fun z => e z.1)
theorem FrE.nds {m m' : MM} (h : FrE m m') (H : NdsOK m) : NdsOK m' := by
  have e1 := h 143 1 (by omega) (by omega)
  have e12 := h 143 12 (by omega) (by omega)
  refine ⟨by rw [e1]; exact H.1, by rw [e12]; exact H.2.1, fun j hj => ?_⟩
  rw [e12] at hj
  rw [e1, h 154 j (by omega) (by omega), h 155 j (by omega) (by omega), h 156 j (by omega) (by omega), h 157 j (by omega) (by omega)]
  exact H.2.2 j hj
def RfI (m : MM) (b : Int) (j : Nat) : Prop := ChOK m b j ∧ (∀ i, i < j → b < m 155 (m 170 i).toNat) ∧ (∀ p q, p < q → q < j → ¬ m 155 (m 170 p).toNat = m 155 (m 170 q).toNat)
theorem RfI.congr {m m' : MM} {b : Int} {j : Nat} (h : FrE m m') (he : ∀ i, i < j → m' 170 i = m 170 i) (H : RfI m b j) : RfI m' b j := by
  have e4 : ∀ i, m' 154 i = m 154 i := fun i => h 154 i (by omega) (by omega)
  have e5 : ∀ i, m' 155 i = m 155 i := fun i => h 155 i (by omega) (by omega)
  have e12 := h 143 12 (by omega) (by omega)
  refine ⟨fun i hi => ?_, fun i hi => ?_, fun p q h1 h2 => ?_⟩
  · have := H.1 i hi
    have hp : chP m' b i = chP m b i := by
      unfold chP
      split
      · rfl
      · rw [he (i - 1) (by omega), e5]
    rw [he i hi, e12, e4, hp]; exact this
  · rw [he i hi, e5]; exact H.2.1 i hi
  · rw [he p (by omega), he q h2, e5, e5]; exact H.2.2 p q h1 h2
theorem RfI.lower {m : MM} {b : Int} {j k : Nat} (hk : k ≤ j) (H : RfI m b j) : RfI m b k := ⟨fun i hi => H.1 i (by omega), fun i hi => H.2.1 i (by omega), fun p q h1 h2 => H.2.2 p q h1 (by omega)⟩
theorem RfI.push {m : MM} {b : Int} {j : Nat} (H : RfI m b j) (h1 : 0 ≤ m 170 j) (h2 : m 170 j < m 143 12) (h3 : m 154 (m 170 j).toNat = chP m b j) (h4 : b < m 155 (m 170 j).toNat) (h5 : ∀ i, i < j → ¬ m 155 (m 170 i).toNat = m 155 (m 170 j).toNat) : RfI m b (j + 1) := by
  refine ⟨fun i hi => ?_, fun i hi => ?_, fun p q hp hq => ?_⟩
  · by_cases e : i = j
    · subst e; exact ⟨h1, h2, h3⟩
    · exact H.1 i (by omega)
  · by_cases e : i = j
    · subst e; exact h4
    · exact H.2.1 i (by omega)
  · by_cases e : q = j
    · subst e; exact h5 p hp
    · exact H.2.2 p q hp (by omega)
theorem RfI.le {m : MM} {b : Int} {j : Nat} (hb : 0 ≤ b) (hN : NdsOK m) (H : RfI m b j) : j ≤ 7 := by
  refine pigeon 7 j (fun i => m 155 (m 170 i).toNat) (fun i hi => ?_) (fun p q h1 h2 => H.2.2 p q h1 h2)
  obtain ⟨c1, c2, -⟩ := H.1 i hi
  obtain ⟨-, -, n3, n4, -⟩ := hN.2.2 (m 170 i).toNat (by omega)
  have := H.2.1 i hi
  have := hN.1
  show 0 < m 155 (m 170 i).toNat ∧ m 155 (m 170 i).toNat ≤ ((7 : Nat) : Int)
  omega
def odE (m : MM) (c : Int) : Nat → Nat := smN (fun i => (c - m 170 i).toNat * 50 ^ (9 - i))
theorem odE_eq {m m' : MM} {c : Int} {k : Nat} (h : ∀ i, i < k → m' 170 i = m 170 i) : odE m' c k = odE m c k := smN_congr k (fun i hi => by rw [h i hi])
section RINGS
variable {S : Nat × (Nat → Int32)} {n : Nat}
theorem rf_9 {m0 : MM} {b c : Int} (hb : 0 ≤ b) (hN : NdsOK m0) (hc : m0 143 12 = c) (hc1 : 0 < c ∧ c ≤ 48) {Kk : WK} (H : ∀ m', FrE m0 m' → RtOK m' → Kk none m') : ∀ (N : Nat) (j : Nat) (mem : MM), odE mem c (j + 1) < N → FrE m0 mem → RtOK mem → RfI mem b j → -1 ≤ mem 170 j → mem 170 j < c → Wx (Ex S (n + 3)) S M_345 Kk 9 [some (.inr 143), some (.inl b), some (.inl (j : Int)), none, none, none, none] [] mem := by
  intro N
  induction N with
  | zero => intros; omega
  | succ N ih =>
    intro j mem hNN hF hR hI hs1 hs2
    have hj7 := hI.le hb (hF.nds hN)
    have hj9 : 0 ≤ (j : Int) ∧ (j : Int) < 9 := by omega
    have pw : 1 ≤ 50 ^ (9 - j) := Nat.one_le_pow _ _ (by omega)
    have hod : odE mem c (j + 1) = odE mem c j + (c - mem 170 j).toNat * 50 ^ (9 - j) := rfl
    generalize hM1 : upm mem 170 j (mem 170 j + 1) = M1
    have hF1 : FrE m0 M1 := by rw [← hM1]; exact hF.tr FrE.up
    have hR1 : RtOK M1 := by
      rw [← hM1]; unfold RtOK
      rw [upm_ne (by omega), upm_ne (by omega)]; exact hR
    have q1 : ∀ i, M1 170 i = if i = j then mem 170 j + 1 else mem 170 i := fun i => by
      rw [← hM1]
      by_cases e : i = j
      · subst e; rw [upm_eq, if_pos rfl]
      · rw [upm_ne (fun z => e z.2), if_neg e]
    have hI1 : RfI M1 b j := hI.congr (by rw [← hM1]; exact FrE.up) (fun i hi => by rw [q1, if_neg (by omega)])
    have hN1 := hF1.nds hN
    have e12 : M1 143 12 = c := by rw [hF1 143 12 (by omega) (by omega)]; exact hc
    -- again at the same place
    have stay : ∀ m, FrE M1 m → RtOK m → (∀ i, m 170 i = M1 170 i) → mem 170 j + 1 < c → Wx (Ex S (n + 3)) S M_345 Kk 9 [some (.inr 143), some (.inl b), some (.inl (j : Int)), none, none, none, none] [] m := by
      intro m k1 k2 k3 k4
      refine ih j m ?_ (hF1.tr k1) k2 (hI1.congr k1 (fun i _ => k3 i)) (by rw [k3, q1, if_pos rfl]; omega) (by rw [k3, q1, if_pos rfl]; omega)
      have e5 : odE m c (j + 1) = odE m c j + (c - m 170 j).toNat * 50 ^ (9 - j) := rfl
      have e6 : odE m c j = odE mem c j := odE_eq (fun i hi => by rw [k3, q1, if_neg (by omega)])
      have e7 : (c - m 170 j).toNat + 1 = (c - mem 170 j).toNat := by rw [k3, q1, if_pos rfl]; omega
      rw [← e7, Nat.add_mul, Nat.one_mul] at hod
      omega
    have rest : ∀ v8 : Int, v8 = chP M1 b j → ((0 : Int) ≤ (j : Int) ∧ ((j : Int) : Int) < 9) ∧ ∀ v9 : Int, v9 = M1 170 (Int.toNat (j : Int)) → InI v9 → ∀ v10 : Int, v10 = M1 143 12 → InI v10 → ((v9 < v10 → ((0 : Int) ≤ (j : Int) ∧ ((j : Int) : Int) < 9) ∧ ∀ v11 : Int, v11 = M1 170 (Int.toNat (j : Int)) → InI v11 → ((0 : Int) ≤ v11 ∧ (v11 : Int) < 48) ∧ ∀ v12 : Int, v12 = M1 154 (Int.toNat v11) → InI v12 → ((¬ v12 = v8 → (Wx (Ex S (n + 3)) S M_345 Kk 9 [some (.inr 143), some (.inl b), some (.inl (j : Int)), none, none, none, none] [] M1)) ∧ (¬ (¬ v12 = v8) → ((0 : Int) ≤ v11 ∧ (v11 : Int) < 48) ∧ ∀ v13 : Int, v13 = M1 155 (Int.toNat v11) → InI v13 → ((b ≤ v13 → ((0 : Int) ≤ v11 ∧ (v11 : Int) < 48) ∧ ∀ v14 : Int, v14 = M1 155 (Int.toNat v11) → InI v14 → ((¬ v14 = b → (Wx (Ex S (n + 3)) S M_345 Kk 136 [some (.inr 143), some (.inl b), some (.inl (j : Int)), some (.inl v8), some (.inl v11), some (.inl 0), some (.inl 0)] [] M1)) ∧ (¬ (¬ v14 = b) → (CWV (Ex S (n + 3)) 346 [.inr 143, .inl (j : Int), .inl b] M1 fun m15 => (Wx (Ex S (n + 3)) S M_345 Kk 9 [some (.inr 143), some (.inl b), some (.inl (j : Int)), none, none, none, none] [] m15))))) ∧ (¬ (b ≤ v13) → (Wx (Ex S (n + 3)) S M_345 Kk 9 [some (.inr 143), some (.inl b), some (.inl (j : Int)), none, none, none, none] [] M1)))))) ∧ (¬ (v9 < v10) → (InI ((j : Int) + (-1))) ∧ (Wx (Ex S (n + 3)) S M_345 Kk 9 [some (.inr 143), some (.inl b), some (.inl ((j : Int) + (-1))), none, none, none, none] [] M1))) := by
      intro v8 e8
      simp only [Int.toNat_natCast]
      have q1j := q1 j
      rw [if_pos rfl] at q1j
      refine ⟨hj9, fun v9 e9 _ v10 e10 _ => ⟨fun q => ⟨hj9, fun v11 e11 _ => ⟨by omega, fun v12 e12' _ => ⟨fun z => stay M1 FrE.rf hR1 (fun _ => rfl) (by omega), fun z => ⟨by omega, fun v13 e13 _ => ⟨fun z2 => ⟨by omega, fun v14 e14 _ => ⟨fun z3 => ?_, fun z3 => ?_⟩⟩, fun z2 => stay M1 FrE.rf hR1 (fun _ => rfl) (by omega)⟩⟩⟩⟩⟩, fun q => ⟨by unfold InI; omega, ?_⟩⟩⟩
      · -- has it been seen
        have psh : (∀ i, i < j → ¬ M1 155 (M1 170 i).toNat = M1 155 (M1 170 j).toNat) → (InI ((j : Int) + 1)) ∧ ((0 : Int) ≤ ((j : Int) + 1) ∧ (((j : Int) + 1) : Int) < 9) ∧ (Wx (Ex S (n + 3)) S M_345 Kk 9 [some (.inr 143), some (.inl b), some (.inl ((j : Int) + 1)), none, none, none, none] [] (upm M1 170 (Int.toNat ((j : Int) + 1)) (-1))) := by
          intro hd
          have hP : RfI M1 b (j + 1) := hI1.push (by omega) (by omega) (by rw [← e11]; omega) (by rw [← e11]; omega) hd
          have := hP.le hb hN1
          refine ⟨by unfold InI; omega, by omega, ?_⟩
          rw [show ((j : Int) + 1) = ((j + 1 : Nat) : Int) by omega, Int.toNat_natCast]
          have q2 : ∀ i, upm M1 170 (j + 1) (-1) 170 i = if i = j + 1 then -1 else M1 170 i := fun i => by
            by_cases e : i = j + 1
            · subst e; rw [upm_eq, if_pos rfl]
            · rw [upm_ne (fun z => e z.2), if_neg e]
          refine ih (j + 1) _ ?_ (hF1.tr FrE.up) (by unfold RtOK; rw [upm_ne (by omega), upm_ne (by omega)]; exact hR1) (hP.congr FrE.up (fun i hi => by rw [q2, if_neg (by omega)])) (by rw [q2, if_pos rfl]; omega) (by rw [q2, if_pos rfl]; omega)
          have e5 : odE (upm M1 170 (j + 1) (-1)) c (j + 1 + 1) = odE (upm M1 170 (j + 1) (-1)) c j + (c - upm M1 170 (j + 1) (-1) 170 j).toNat * 50 ^ (9 - j) + (c - upm M1 170 (j + 1) (-1) 170 (j + 1)).toNat * 50 ^ (9 - (j + 1)) := rfl
          have e6 : odE (upm M1 170 (j + 1) (-1)) c j = odE mem c j := odE_eq (fun i hi => by rw [q2, if_neg (by omega), q1, if_neg (by omega)])
          have e7 : (c - upm M1 170 (j + 1) (-1) 170 j).toNat + 1 = (c - mem 170 j).toNat := by rw [q2, if_neg (by omega), q1, if_pos rfl]; omega
          have e8 : (c - upm M1 170 (j + 1) (-1) 170 (j + 1)).toNat ≤ 49 := by rw [q2, if_pos rfl]; omega
          have e9 : 50 ^ (9 - j) = 50 ^ (9 - (j + 1)) * 50 := by rw [show 9 - j = (9 - (j + 1)) + 1 by omega, Nat.pow_succ]
          have e10 := Nat.mul_le_mul_right (50 ^ (9 - (j + 1))) e8
          have p2 : 1 ≤ 50 ^ (9 - (j + 1)) := Nat.one_le_pow _ _ (by omega)
          rw [← e7, Nat.add_mul, Nat.one_mul] at hod
          omega
        have loop : ∀ (N' i : Nat) (x5 : Int), i ≤ j → j - i < N' → (x5 = 0 → ∀ i', i' < i → ¬ M1 155 (M1 170 i').toNat = M1 155 (M1 170 j).toNat) → Wx (Ex S (n + 3)) S M_345 Kk 136 [some (.inr 143), some (.inl b), some (.inl (j : Int)), some (.inl v8), some (.inl v11), some (.inl x5), some (.inl (i : Int))] [] M1 := by
          intro N'
          induction N' with
          | zero => intros; omega
          | succ N' ih2 =>
            intro i x5 hi hN' h5
            refine w_345_136 (Ex.mono S (n + 3)) ⟨fun z4 => ⟨fun z5 => psh (fun i' hi' => h5 z5 i' (by omega)), fun z5 => stay M1 FrE.rf hR1 (fun _ => rfl) (by omega)⟩, fun z4 => ⟨fun z5 => ⟨by unfold InI; omega, ih2 (i + 1) 1 (by omega) (by omega) (fun z6 => by omega)⟩, fun z5 => ?_⟩⟩
            have hi9 : 0 ≤ (i : Int) ∧ (i : Int) < 9 := by omega
            obtain ⟨c1, c2, -⟩ := hI1.1 i (by omega)
            rw [Int.toNat_natCast]
            refine ⟨hi9, fun w1 f1 _ => ⟨by omega, fun w2 f2 _ => ⟨by omega, fun w3 f3 _ => ⟨fun z6 => ⟨by unfold InI; omega, ih2 (i + 1) 0 (by omega) (by omega) (fun _ i' hi' => ?_)⟩, fun z6 => ⟨by unfold InI; omega, ih2 (i + 1) 1 (by omega) (by omega) (fun z7 => by omega)⟩⟩⟩⟩⟩
            by_cases e : i' = i
            · subst e
              rw [← f1, ← e11, ← f2, ← f3]; exact z6
            · exact h5 (by omega) i' (by omega)
        exact loop _ 0 0 (by omega) (Nat.lt_succ_self _) (fun _ i' hi' => by omega)
      · refine f_346 (by omega) hN1 (fun i hi => ?_) (by rw [← e11]; omega) hR1 (fun m15 k1 k2 => stay m15 k1.e k2 (fun i => k1 170 i (by omega)) (by omega))
        by_cases e : i = j
        · subst e
          exact ⟨by omega, by omega, by rw [← e11]; omega⟩
        · exact hI1.1 i (by omega)
      · by_cases e : j = 0
        · refine w_345_9 (Ex.mono S (n + 3)) ⟨fun _ => H M1 hF1 hR1, fun z => ?_⟩
          omega
        · rw [show (j : Int) + -1 = ((j - 1 : Nat) : Int) by omega]
          have hh := hI1.1 (j - 1) (by omega)
          refine ih (j - 1) M1 ?_ hF1 hR1 (hI1.lower (by omega)) (by omega) (by omega)
          have e6 : odE M1 c j = odE mem c j := odE_eq (fun i hi => by rw [q1, if_neg (by omega)])
          rw [show j - 1 + 1 = j by omega, e6]
          have e7 : (c - mem 170 j).toNat = 1 := by omega
          rw [e7, Nat.one_mul] at hod
          omega
    refine w_345_9 (Ex.mono S (n + 3)) ⟨fun q => by omega, fun q => ⟨hj9, fun v1 e1 _ => ?_⟩⟩
    rw [Int.toNat_natCast] at e1
    subst e1
    refine ⟨by unfold InI; omega, hj9, fun q2 => ?_, fun q2 => ?_⟩
    · simp only [Int.toNat_natCast]
      rw [hM1]
      refine fun v2 e2 _ => ⟨by unfold InI; omega, by unfold InI; omega, by omega, fun v3 e3 _ => f_257 (fun _ _ => f_258 (fun _ _ => ?_))⟩
      obtain ⟨c1, c2, -⟩ := hI1.1 (j - 1) (by omega)
      rw [show ((j : Int) - 1).toNat = j - 1 by omega] at e3
      have e8 : min (v2 - 1) (max 0 v3) = M1 170 (j - 1) := by omega
      rw [e8]
      refine ⟨by omega, fun v8 e8 _ => ?_⟩
      have := rest v8 (by rw [e8]; unfold chP; rw [if_neg (by omega)])
      simp only [Int.toNat_natCast] at this
      exact this
    · have := rest b (by unfold chP; rw [if_pos (by omega)])
      simp only [Int.toNat_natCast] at this ⊢
      rw [hM1]
      exact this
theorem f_345 {m0 : MM} {K : MM → Prop} {b : Int} (hb : 0 ≤ b) (hN : NdsOK m0) (hc : 0 < m0 143 12) (hR : RtOK m0) (H : ∀ m', FrE m0 m' → RtOK m' → K m') : CWV (Ex S (n + 4)) 345 [.inr 143, .inl b] m0 K := by
  refine CW.of (k := 5) mt_345 rfl rfl (w_345_0 (Ex.mono S (n + 3)) ⟨by omega, ?_⟩)
  rw [show (0 : Int).toNat = 0 from rfl]
  refine rf_9 hb hN rfl ⟨hc, hN.2.1.2⟩ (fun m' a c => ⟨rfl, H m' a c⟩) _ 0 _ (Nat.lt_succ_self _) FrE.up (by unfold RtOK; rw [upm_ne (by omega), upm_ne (by omega)]; exact hR) ⟨fun i hi => by omega, fun i hi => by omega, fun p q h1 h2 => by omega⟩ (by rw [upm_eq]; omega) (by rw [upm_eq]; omega)
def FrL (m m' : MM) : Prop := ∀ A i, ¬ A = 154 → ¬ A = 155 → ¬ A = 156 → ¬ A = 157 → ¬ A = 170 → ¬ (A = 143 ∧ (i = 12 ∨ i = 31 ∨ i = 32 ∨ i = 33)) → m' A i = m A i
theorem FrE.l {a b : MM} (h : FrE a b) : FrL a b := fun A i _ _ _ _ e5 e6 => h A i e5 (by omega)
theorem FrN.l {a b : MM} (h : FrN a b) : FrL a b := fun A i e1 e2 e3 e4 _ e6 => h A i e1 e2 e3 e4 (by omega)
theorem FrL.tr {a b c : MM} (h1 : FrL a b) (h2 : FrL b c) : FrL a c := fun A i e1 e2 e3 e4 e5 e6 => (h2 A i e1 e2 e3 e4 e5 e6).trans (h1 A i e1 e2 e3 e4 e5 e6)
theorem FrE.rn {m m' : MM} (h : FrE m m') : RN m m' := RN.same (fun B i e => h B i (by omega) (by omega)) (h _ _ (by omega) (by omega))
/-- laysRate -/
theorem f_344 {m0 : MM} {K : MM → Prop} (hO : OpsOK m0) (hS : SoundM m0) (H : ∀ m', FrL m0 m' → RN m0 m' → NdsOK m' → RtOK m' → K m') : CWV (Ex S (n + 5)) 344 [.inr 143] m0 K := by
  refine CW.of (k := 1) mt_344 rfl rfl (w_344_0 (Ex.mono S (n + 4)) (f_245 hO hS (fun m1 g1 g5 g2 g3 g4 => ?_)))
  have hN1 := NdsOK.of hO g1 g2 g3 g4
  generalize hm2 : upm (upm (upm m1 143 31 0) 143 32 1) 143 33 0 = m2
  have hE : FrE m1 m2 := by
    rw [← hm2]
    intro A i e1 e2
    rw [upm_ne (by omega), upm_ne (by omega), upm_ne (by omega)]
  have hR2 : RtOK m2 := by
    rw [← hm2]
    unfold RtOK
    rw [upm_ne (by omega), upm_ne (by omega), upm_eq, upm_ne (by omega), upm_eq]
    omega
  have key : ∀ (N : Nat) (o : Int) (mem : MM), 0 ≤ o → (8 - o).toNat < N → FrE m1 mem → RtOK mem → Wx (Ex S (n + 4)) S M_344 (fun r m => r = none ∧ K m) 21 [some (.inr 143), some (.inl o)] [] mem := by
    intro N
    induction N with
    | zero => intros; omega
    | succ N ih =>
      intro o mem ho hNN hF hR
      have fin : K mem := H mem (g1.l.tr hF.l) ((show RN m0 m1 from ⟨g5, fun _ => ⟨g2, g3⟩⟩).tr hF.rn) (hF.nds hN1) hR
      have h8 := (hF.nds hN1).1
      refine w_344_21 (Ex.mono S (n + 4)) (fun v1 e1 _ => ⟨fun q => ⟨rfl, fin⟩, fun q v2 e2 _ => ⟨fun q2 => ⟨rfl, fin⟩, fun q2 => ?_⟩⟩)
      refine f_345 ho (hF.nds hN1) (by omega) hR (fun m3 k1 k2 => ⟨by unfold InI; omega, ih (o + 1) m3 (by omega) ?_ (hF.tr k1) k2⟩)
      omega
  exact key 9 0 m2 (by omega) (by omega) hE hR2
end RINGS
