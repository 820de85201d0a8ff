/-! heights of a plan; laysTimes comes to an end below them -/
theorem ceil_ex (t : Int) {d : Int} (hd : 0 < d) : ∃ x, d * (x - 1) < t ∧ t ≤ d * x := by
  refine ⟨-((-t) / d), ?_, ?_⟩
  · have e := Int.mul_ediv_add_emod (-t) d
    have h1 := Int.emod_lt_of_pos (-t) hd
    have e2 : d * (-((-t) / d) - 1) = -(d * ((-t) / d)) - d := by rw [Int.mul_sub, Int.mul_neg, Int.mul_one]
    omega
  · have e := Int.mul_ediv_add_emod (-t) d
    have h1 := Int.emod_nonneg (-t) (show d ≠ 0 by omega)
    have e2 : d * (-((-t) / d)) = -(d * ((-t) / d)) := Int.mul_neg _ _
    omega
theorem Wk.scal {E : Nat → Nat → Int → Prop} {d c : Int} {ψ : Nat → Int} (h : ∀ a b x, E a b x → d * x ≤ ψ b - ψ a + c) : ∀ {p : List Nat} {a b : Nat} {v : Int}, Wk E a p b v → d * v ≤ ψ b - ψ a + c * (p.length + 1)
  | [], a, b, v, hw => by have := h a b v hw; simp; omega
  | e :: p, a, b, v, ⟨x, y, h1, h2, h3⟩ => by
    have g1 := h _ _ _ h1
    have g2 := Wk.scal h h2
    rw [List.length_cons, h3, Int.mul_add]
    have e1 : c * ((p.length + 1 : Nat) + 1 : Int) = c * (p.length + 1) + c := by
      rw [Int.natCast_add]
      show c * ((p.length : Int) + 1 + 1) = _
      rw [Int.mul_add, Int.mul_one]
    omega
theorem plan_pot {m : MM} {d : Int} (hN : NdsOK m) (hd : 1 ≤ d ∧ d ≤ 12) (hW : WayOK m d) (hC : CanOK m d (m 143 1).toNat) (hs : ∀ o : Nat, (o : Int) < m 143 1 → 0 ≤ m 160 o ∧ m 160 o ≤ d - 1) : ∃ P : Nat → Int, (∀ b, 0 ≤ P b ∧ d * P b ≤ 42 + 8 * (d - 1)) ∧ PotE (UE m (m 143 1).toNat d) P := by
  have h8 := hN.1
  have hd48 : 0 ≤ d ∧ d ≤ 48 := by omega
  have hd0 : 0 < d := by omega
  -- no way round is above 0
  have hD : ∀ o : Nat, o < (m 143 1).toNat → WM m 158 o o ≤ 0 := by
    intro o ho
    by_cases e : WM m 158 o o = -1000
    · omega
    · obtain ⟨x, h1, h2⟩ := ceil_ex (WM m 158 o o + m 160 o - m 160 o) hd0
      have h3 := hC.1.2.2.2.2 o o x ho ho ⟨ho, ho, e, h1, h2⟩
      have h4 := hC.2 o ho
      have := Int.mul_le_mul_of_nonneg_left (show x ≤ 0 by omega) (show 0 ≤ d by omega)
      rw [Int.mul_zero] at this
      omega
  have ring : ∀ (E : Nat → Nat → Int → Prop) (A : Nat) (R : Int), FwI R E A (m 143 1).toNat m (m 143 1).toNat 0 0 → Aup E → (∀ o : Nat, o < (m 143 1).toNat → WM m A o o ≤ 0) → ∀ a p v, a < (m 143 1).toNat → p.Nodup → (∀ c ∈ p, c < (m 143 1).toNat) → Wk E a p a v → v ≤ 0 := by
    intro E A R hI hu hD a p v ha n1 n2 n3
    have hl := nd_len n1 n2
    by_cases hv : v ≤ 0
    · exact hv
    · have := hI.2.1 hu a a ha ha p v n1 n2 n3 (by omega)
      have := hD a ha
      omega
  obtain ⟨φ, f1, f2⟩ := pot (E := NdE m d) (k := (m 143 1).toNat) (B := 42) (fun a b x h => by have := NdE.rng hN hd48 h; omega) (ring _ _ _ hW (NdE.aup hN hd48) hD) (fun a p b v hb n1 n2 n3 => by
    have l1 := nd_len (k := (m 143 1).toNat) n1 (fun c hc => by
      rcases List.mem_cons.mp hc with rfl | hc
      · exact hb
      · exact n2 c hc)
    have l2 := Wk.le6 (c := 6) (by omega) (fun a b x h => (NdE.rng hN hd48 h).2.2.2) n3
    rw [List.length_cons, List.length_cons] at l1
    omega)
  have hE : ∀ a b x, UE m (m 143 1).toNat d a b x → d * x ≤ (φ b - m 160 b) - (φ a - m 160 a) + (d - 1) := by
    intro a b x ⟨h1, h2, h3, h4, h5⟩
    have fa := f1 a
    have fb := f1 b
    have up : φ a + WM m 158 a b ≤ φ b := by
      by_cases e : -1000 < WM m 158 a b
      · exact hW.2.2.2.1 φ f2 a b h1 h2 e
      · omega
    rw [Int.mul_sub, Int.mul_one] at h4
    omega
  have hV : ∀ a b x, UE m (m 143 1).toNat d a b x → a < (m 143 1).toNat ∧ b < (m 143 1).toNat := fun a b x h => ⟨h.1, h.2.1⟩
  have hwk : ∀ a p b v, Wk (UE m (m 143 1).toNat d) a p b v → a < (m 143 1).toNat ∧ b < (m 143 1).toNat ∧ d * v ≤ 42 + (d - 1) + (d - 1) * (p.length + 1) := by
    intro a p b v hw
    have h1 := Wk.scal hE hw
    have ha : a < (m 143 1).toNat := by
      cases p with
      | nil => exact (hV _ _ _ hw).1
      | cons c p => obtain ⟨x, y, g1, -, -⟩ := hw; exact (hV _ _ _ g1).1
    have hb : ∀ {p : List Nat} {a b : Nat} {v : Int}, Wk (UE m (m 143 1).toNat d) a p b v → b < (m 143 1).toNat := by
      intro p
      induction p with
      | nil => intro a b v hw; exact (hV _ _ _ hw).2
      | cons c p ih => intro a b v hw; obtain ⟨x, y, -, g2, -⟩ := hw; exact ih g2
    have hb := hb hw
    have fa := f1 a
    have fb := f1 b
    have sa := hs a (by omega)
    have sb := hs b (by omega)
    exact ⟨ha, hb, by omega⟩
  have hAup : Aup (UE m (m 143 1).toNat d) := by
    intro a p b v n1 n2 n3
    obtain ⟨-, -, h1⟩ := hwk a p b v n3
    have hl := nd_len n1 n2
    have h2 := Int.mul_le_mul_of_nonneg_left (show (p.length + 1 : Int) ≤ 9 by omega) (show 0 ≤ d - 1 by omega)
    by_cases hv : v ≤ 99
    · exact hv
    · have := Int.mul_le_mul_of_nonneg_left (show (100 : Int) ≤ v by omega) (show 0 ≤ d by omega)
      omega
  have hq : 0 ≤ (42 + 8 * (d - 1)) / d := Int.ediv_nonneg (by omega) (by omega)
  have hq2 := Int.mul_ediv_self_le (x := 42 + 8 * (d - 1)) (k := d) (by omega)
  obtain ⟨P, p1, p2⟩ := pot (E := UE m (m 143 1).toNat d) (k := (m 143 1).toNat) (B := ((42 + 8 * (d - 1)) / d).toNat) hV (ring _ _ _ hC.1 hAup hC.2) (fun a p b v hb n1 n2 n3 => by
    obtain ⟨-, -, h1⟩ := hwk a p b v n3
    have l1 := nd_len (k := (m 143 1).toNat) n1 (fun c hc => by
      rcases List.mem_cons.mp hc with rfl | hc
      · exact hb
      · exact n2 c hc)
    rw [List.length_cons, List.length_cons] at l1
    have h2 := Int.mul_le_mul_of_nonneg_left (show (p.length + 1 : Int) ≤ 7 by omega) (show 0 ≤ d - 1 by omega)
    have h3 : v ≤ (42 + 8 * (d - 1)) / d := by
      rw [Int.le_ediv_iff_mul_le hd0, Int.mul_comm]
      omega
    omega)
  refine ⟨P, fun b => ⟨(p1 b).1, ?_⟩, p2⟩
  have h1 := (p1 b).2
  have := Int.mul_le_mul_of_nonneg_left (show P b ≤ (42 + 8 * (d - 1)) / d by omega) (show 0 ≤ d by omega)
  omega
section TIMES
variable {S : Nat × (Nat → Int32)} {n : Nat} {m0 : MM} {d : Int}
theorem lt_38 (hN : NdsOK m0) (hd : 1 ≤ d ∧ d ≤ 12) (hL : m0 143 18 = -1) (hW : WayOK m0 d) (hs : ∀ o : Nat, (o : Int) < m0 143 1 → 0 ≤ m0 160 o ∧ m0 160 o ≤ d - 1) {P : Nat → Int} (hP1 : ∀ b, 0 ≤ P b ∧ d * P b ≤ 42 + 8 * (d - 1)) (hP2 : PotE (UE m0 (m0 143 1).toNat d) P) {Kk : WK} (H : ∀ m', Fr1 161 m0 m' → (∀ o : Nat, (o : Int) < m0 143 1 → 0 ≤ m' 161 o ∧ m' 161 o ≤ 42 + 9 * (d - 1)) → Kk none m') : ∀ (N : Nat) (more : Int) (k : Nat) (mem : MM) (T : Nat → Int), (more = 0 ∨ more = 1) → (k : Int) ≤ m0 143 12 → 200 * smN (fun o => (P o - T o).toNat) (m0 143 1).toNat + 100 * more.toNat + (49 - k) < N → Fr1 161 m0 mem → (∀ o : Nat, (o : Int) < m0 143 1 → mem 161 o = m0 160 o + d * T o ∧ 0 ≤ T o ∧ T o ≤ P o) → Wx (Ex S (n + 1)) S M_276 Kk 38 [some (.inr 143), some (.inl d), some (.inl more), some (.inl (k : Int)), none] [] mem := by
  intro N
  induction N with
  | zero => intros; omega
  | succ N ih =>
    intro more k mem T hm hk hNN hF hT
    have h8 := hN.1
    have h48 := hN.2.1
    have hd0 : 0 < d := by omega
    have en : mem 143 12 = m0 143 12 := hF _ _ (by omega)
    have bnd : ∀ o : Nat, (o : Int) < m0 143 1 → 0 ≤ mem 161 o ∧ mem 161 o ≤ 42 + 9 * (d - 1) := by
      intro o ho
      obtain ⟨t1, t2, t3⟩ := hT o ho
      have := hs o ho
      have := (hP1 o).2
      have := Int.mul_nonneg (show 0 ≤ d by omega) t2
      have := Int.mul_le_mul_of_nonneg_left t3 (show 0 ≤ d by omega)
      omega
    refine w_276_38 (Ex.mono S (n + 1)) (fun v e _ => ⟨fun q => ?_, fun q => ?_⟩)
    · refine w_276_30 (Ex.mono S (n + 1)) ⟨fun q2 => H mem hF bnd, fun q2 => ?_⟩
      have : more = 1 := by omega
      subst this
      exact ih 0 0 mem T (Or.inl rfl) (by omega) (by omega) hF hT
    · have hk48 : 0 ≤ (k : Int) ∧ (k : Int) < 48 := by omega
      obtain ⟨p1, p2, p3, p4, p5, p6, p7, p8, p9⟩ := hN.2.2 k (by omega)
      have f4 : mem 154 k = m0 154 k := hF _ _ (by omega)
      have f5 : mem 155 k = m0 155 k := hF _ _ (by omega)
      have f6 : mem 156 k = m0 156 k := hF _ _ (by omega)
      have f7 : mem 157 k = m0 157 k := hF _ _ (by omega)
      have dm := dmul (d := d) ⟨by omega, by omega⟩ ⟨p5, p6⟩
      obtain ⟨a, ha⟩ : ∃ a : Nat, m0 154 k = a := ⟨(m0 154 k).toNat, by omega⟩
      obtain ⟨b, hb⟩ : ∃ b : Nat, m0 155 k = b := ⟨(m0 155 k).toNat, by omega⟩
      have ba := bnd a (by omega)
      have bb := bnd b (by omega)
      refine ⟨hk48, fun v2 e2 _ => ?_⟩
      rw [Int.toNat_natCast, f4, ha] at e2
      refine ⟨by omega, fun v3 e3 _ => ?_⟩
      rw [e2, Int.toNat_natCast] at e3
      refine ⟨hk48, fun v4 e4 _ => ?_⟩
      rw [Int.toNat_natCast, f7] at e4
      refine ⟨by unfold InI; omega, hk48, fun v5 e5 _ => ?_⟩
      rw [Int.toNat_natCast, f6] at e5
      subst e5
      refine ⟨by unfold InI; omega, by unfold InI; omega, hk48, fun v6 e6 _ => ?_⟩
      rw [Int.toNat_natCast, f5, hb] at e6
      refine ⟨by omega, fun v7 e7 _ => ?_⟩
      rw [e6, Int.toNat_natCast] at e7
      refine ⟨by unfold InI; omega, fun q2 => ?_, fun q2 => ⟨by unfold InI; omega, ih more (k + 1) mem T hm (by omega) (by omega) hF hT⟩⟩
      refine ⟨hk48, fun v8 e8 _ => ?_⟩
      rw [Int.toNat_natCast, f5, hb] at e8
      subst e8
      refine ⟨by omega, fun v9 e9 _ => ?_⟩
      rw [Int.toNat_natCast] at e9
      refine f_275 ⟨by omega, by omega⟩ ⟨by omega, by omega⟩ (fun c c1 c2 _ => ?_)
      obtain ⟨ta1, ta2, ta3⟩ := hT a (by omega)
      obtain ⟨tb1, tb2, tb3⟩ := hT b (by omega)
      -- the edge by slots
      have hedge : NdE m0 d a b (m0 157 k - d * m0 156 k) := ⟨k, by omega, by omega, ha, hb, rfl⟩
      have hway := hW.2.2.2.2 a b _ (by omega) (by omega) hedge
      obtain ⟨u, u1, u2⟩ := ceil_ex (WM m0 158 a b + m0 160 a - m0 160 b) hd0
      have hpu := hP2 a b u ⟨by omega, by omega, by omega, u1, u2⟩
      have hc1 : 1 ≤ c := by
        by_cases h : 1 ≤ c
        · exact h
        · have := Int.mul_le_mul_of_nonneg_left (show c ≤ 0 by omega) (show 0 ≤ d by omega)
          rw [Int.mul_zero] at this
          omega
      have hTb : T b + c ≤ T a + u := by
        have g : d * ((T b + c - T a) - 1) < WM m0 158 a b + m0 160 a - m0 160 b := by
          have e1 : d * ((T b + c - T a) - 1) = d * (c - 1) + d * T b - d * T a := by
            rw [show (T b + c - T a) - 1 = (c - 1) + T b - T a by omega, Int.mul_sub, Int.mul_add]
          omega
        have := ceil1 hd0 g u2
        omega
      have hTP : T b + c ≤ P b := by omega
      have dP := Int.mul_le_mul_of_nonneg_left hTP (show 0 ≤ d by omega)
      have dP2 := (hP1 b).2
      have dTb := Int.mul_nonneg (show 0 ≤ d by omega) tb2
      have dc := Int.mul_nonneg (show 0 ≤ d by omega) (show 0 ≤ c by omega)
      rw [Int.mul_add] at dP
      refine ⟨by unfold InI; omega, by unfold InI; omega, by omega, by unfold InI; omega, ?_⟩
      rw [Int.toNat_natCast]
      refine ih 1 (k + 1) _ (fun o => if o = b then T b + c else T o) (Or.inr rfl) (by omega) ?_ (hF.tr Fr1.up) (fun o ho => ?_)
      · have hdec : ∀ j, smN (fun o => (P o - (if o = b then T b + c else T o)).toNat) j ≤ smN (fun o => (P o - T o).toNat) j ∧ (b < j → smN (fun o => (P o - (if o = b then T b + c else T o)).toNat) j < smN (fun o => (P o - T o).toNat) j) := by
          intro j
          induction j with
          | zero => exact ⟨Nat.le_refl _, fun q => by omega⟩
          | succ j ihj =>
            simp only [smN]
            by_cases e : j = b
            · subst e
              rw [if_pos rfl]
              exact ⟨by omega, fun _ => by omega⟩
            · rw [if_neg e]
              exact ⟨by omega, fun q => by have := ihj.2 (by omega); omega⟩
        have := (hdec (m0 143 1).toNat).2 (by omega)
        have m1 : more.toNat ≤ 1 := by omega
        show 200 * smN (fun o => (P o - (if o = b then T b + c else T o)).toNat) (m0 143 1).toNat + 100 * 1 + (49 - (k + 1)) < N
        omega
      · by_cases e : o = b
        · subst e
          rw [if_pos rfl]
          refine ⟨?_, by omega, hTP⟩
          rw [upm_eq, Int.mul_add]
          omega
        · rw [if_neg e, upm_ne (fun z => e z.2)]
          exact hT o ho
theorem f_276 {K : MM → Prop} (hN : NdsOK m0) (hd : 1 ≤ d ∧ d ≤ 12) (hL : m0 143 18 = -1) (hW : WayOK m0 d) (hC : CanOK m0 d (m0 143 1).toNat) (hs : ∀ o : Nat, (o : Int) < m0 143 1 → 0 ≤ m0 160 o ∧ m0 160 o ≤ d - 1) (H : ∀ m', Fr1 161 m0 m' → (∀ o : Nat, (o : Int) < m0 143 1 → 0 ≤ m' 161 o ∧ m' 161 o ≤ 42 + 9 * (d - 1)) → K m') : CWV (Ex S (n + 2)) 276 [.inr 143, .inl d] m0 K := by
  obtain ⟨P, hP1, hP2⟩ := plan_pot hN hd hW hC hs
  refine CW.of (k := 3) mt_276 rfl rfl (w_276_0 (Ex.mono S (n + 1)) ?_)
  have h8 := hN.1
  have key : ∀ (N : Nat) (k : Nat) (mem : MM), (k : Int) ≤ m0 143 1 → m0 143 1 - k < N → Fr1 161 m0 mem → (∀ o : Nat, o < k → mem 161 o = m0 160 o) → Wx (Ex S (n + 1)) S M_276 (fun r m => r = none ∧ K m) 2 [some (.inr 143), some (.inl d), some (.inl (k : Int)), none, none] [] mem := by
    intro N
    induction N with
    | zero => intros; omega
    | succ N ih =>
      intro k mem hk hNN hF hA
      have eo : mem 143 1 = m0 143 1 := hF _ _ (by omega)
      refine w_276_2 (Ex.mono S (n + 1)) (fun v e _ => ⟨fun q => ?_, fun q => ⟨by omega, fun v2 e2 _ => ⟨by omega, by unfold InI; omega, ?_⟩⟩⟩)
      · refine w_276_30 (Ex.mono S (n + 1)) ⟨fun q2 => by omega, fun q2 => ?_⟩
        refine lt_38 hN hd hL hW hs hP1 hP2 (fun m' h1 h2 => ⟨rfl, H m' h1 h2⟩) _ 0 0 mem (fun _ => 0) (Or.inl rfl) (by have := hN.2.1; omega) (Nat.lt_succ_self _) hF (fun o ho => ⟨?_, by omega, (hP1 o).1⟩)
        rw [hA o (by omega), Int.mul_zero, Int.add_zero]
      · rw [Int.toNat_natCast] at e2 ⊢
        refine ih (k + 1) _ (by omega) (by omega) (hF.tr Fr1.up) (fun o ho => ?_)
        by_cases e3 : o = k
        · subst e3
          rw [upm_eq, e2]; exact hF _ _ (by omega)
        · rw [upm_ne (fun z => e3 z.2)]; exact hA o (by omega)
  exact key 9 0 m0 (by omega) (by omega) Fr1.rf (fun o ho => by omega)
end TIMES
