section
/-! laysNeeds: there are no more than 44, and each that is of no distance goes up -/
def smN (f : Nat → Nat) : Nat → Nat
  | 0 => 0
  | k + 1 => smN f k + f k
theorem smN_add (f g : Nat → Nat) : ∀ k, smN (fun i => f i + g i) k = smN f k + smN g k
  | 0 => rfl
  | k + 1 => by simp only [smN]; rw [smN_add f g k]; omega
theorem smN_le {f : Nat → Nat} {c : Nat} : ∀ k, (∀ i, i < k → f i ≤ c) → smN f k ≤ c * k
  | 0, _ => by simp [smN]
  | k + 1, h => by
    have := smN_le k (fun i hi => h i (by omega))
    have := h k (by omega)
    simp only [smN]
    rw [Nat.mul_succ]; omega
theorem smN_up {f : Nat → Nat} {a b : Nat} (h : a ≤ b) : smN f a ≤ smN f b := by
  induction b with
  | zero => rw [show a = 0 by omega]; exact Nat.le_refl _
  | succ b ih =>
    by_cases hb : a = b + 1
    · rw [hb]; exact Nat.le_refl _
    · have := ih (by omega)
      simp only [smN]; omega
theorem tri28 {T : Nat → Nat} (t0 : T 0 = 0) (step : ∀ k, T (k + 1) ≤ T k + k) (k : Nat) (hk : k ≤ 8) : T k ≤ 28 := by
  have t1 : T 1 ≤ T 0 + 0 := step 0
  have t2 : T 2 ≤ T 1 + 1 := step 1
  have t3 : T 3 ≤ T 2 + 2 := step 2
  have t4 : T 4 ≤ T 3 + 3 := step 3
  have t5 : T 5 ≤ T 4 + 4 := step 4
  have t6 : T 6 ≤ T 5 + 5 := step 5
  have t7 : T 7 ≤ T 6 + 6 := step 6
  have t8 : T 8 ≤ T 7 + 7 := step 7
  match k, hk with
  | 0, _ => omega
  | 1, _ => omega
  | 2, _ => omega
  | 3, _ => omega
  | 4, _ => omega
  | 5, _ => omega
  | 6, _ => omega
  | 7, _ => omega
  | 8, _ => omega
theorem pairs28 {c : Nat → Nat → Nat} (h0 : ∀ a, c a a = 0) (h1 : ∀ a b, c a b + c b a ≤ 1) : ∀ k, k ≤ 8 → smN (fun s => smN (c s) k) k ≤ 28 := by
  have step : ∀ k, smN (fun s => smN (c s) (k + 1)) (k + 1) ≤ smN (fun s => smN (c s) k) k + k := by
    intro k
    have e : smN (fun s => smN (c s) (k + 1)) (k + 1) = smN (fun s => smN (c s) k + c s k) k + (smN (c k) k + c k k) := rfl
    rw [e, smN_add, h0]
    have e2 := smN_add (fun s => c s k) (c k) k
    have e3 := smN_le (f := fun i => c i k + c k i) (c := 1) k (fun i _ => h1 i k)
    omega
  exact fun k hk => tri28 (T := fun k => smN (fun s => smN (c s) k) k) rfl step k hk
def cNd (m : MM) (s o : Nat) : Nat := if m 144 s = 5 ∧ ¬ o = s ∧ (m 144 o = 4 ∨ (m 144 o = 5 ∧ (plcF m o < plcF m s ∨ (plcF m s = plcF m o ∧ s < o)))) then 1 else 0
theorem cNd_self (m : MM) (a : Nat) : cNd m a a = 0 := by unfold cNd; rw [if_neg (fun q => q.2.1 rfl)]
theorem cNd_anti (m : MM) (a b : Nat) : cNd m a b + cNd m b a ≤ 1 := by
  unfold cNd
  split
  · rename_i h
    split
    · rename_i h2
      exfalso
      omega
    · omega
  · split <;> omega
def PN (c a b d l : Int) : Prop := 0 ≤ a ∧ a < c ∧ 0 ≤ b ∧ b < c ∧ 0 ≤ d ∧ d ≤ 7 ∧ -5 ≤ l ∧ l ≤ 6 ∧ (1 ≤ d ∨ a < b)
theorem FrN.ops {m m' : MM} (h : FrN m m') (H : OpsOK m) : OpsOK m' := by
  have e : ∀ A i, (A = 144 ∨ A = 145 ∨ A = 146 ∨ A = 147 ∨ A = 148 ∨ A = 151) → m' A i = m A i := fun A i q => h A i (by omega) (by omega) (by omega) (by omega) (by omega)
  refine ⟨by rw [h 143 1 (by omega) (by omega) (by omega) (by omega) (by omega)]; exact H.1, fun o ho => ?_, fun k hk => by rw [e 151 k (by omega)]; exact H.2.2 k hk⟩
  have := H.2.1 o ho
  unfold OpOK at this ⊢
  rw [e 144 o (by omega), e 145 o (by omega), e 146 o (by omega), e 147 o (by omega), e 148 o (by omega)]
  exact this
section LAYS
variable {S : Nat × (Nat → Int32)} {n : Nat} {m0 : MM}
theorem ln_86 (hO : OpsOK m0) {Kk : WK} (H : ∀ m', FrN m0 m' → R4 m0 m' → 0 ≤ m' 143 12 → m' 143 12 ≤ 44 → NdAll (PN (m0 143 1)) m' (m' 143 12) → Kk none m') : ∀ (N : Nat) (s o : Nat) (mem : MM), (s : Int) < m0 143 1 → (o : Int) ≤ m0 143 1 → (9 * (m0 143 1 - s) + (9 - o)).toNat < N → FrN m0 mem → R4 m0 mem → 0 ≤ mem 143 12 → mem 143 12 ≤ 16 + smN (fun s => smN (cNd m0 s) (m0 143 1).toNat) s + smN (cNd m0 s) o → NdAll (PN (m0 143 1)) mem (mem 143 12) → Wx (Ex S (n + 2)) S M_245 Kk 86 [some (.inr 143), some (.inl (s : Int)), some (.inl (o : Int)), none, none, none] [] mem := by
  intro N
  induction N with
  | zero => intros; omega
  | succ N ih =>
    intro s o mem hs ho hN hF hR4 hn0 hn1 hA
    have hO2 := hF.ops hO
    have h8 := hO.1
    have eops : mem 143 1 = m0 143 1 := hF _ _ (by omega) (by omega) (by omega) (by omega) (by omega)
    have e144 : ∀ i, mem 144 i = m0 144 i := fun i => hF _ _ (by omega) (by omega) (by omega) (by omega) (by omega)
    have e146 : ∀ i, mem 146 i = m0 146 i := fun i => hF _ _ (by omega) (by omega) (by omega) (by omega) (by omega)
    have e148 : ∀ i, mem 148 i = m0 148 i := fun i => hF _ _ (by omega) (by omega) (by omega) (by omega) (by omega)
    have epl : ∀ i, plcF mem i = plcF m0 i := fun i => by unfold plcF; rw [e144, e146, e148]
    have elat : ∀ i, latF mem i = latF m0 i := fun i => by
      unfold latF
      rw [e144]
      exact hF _ _ (by omega) (by omega) (by omega) (by omega) (by omega)
    have hs8 : 0 ≤ (s : Int) ∧ (s : Int) < 8 := by omega
    -- the next of s
    have outer : Wx (Ex S (n + 2)) S M_245 Kk 76 [some (.inr 143), some (.inl ((s : Int) + 1)), none, none, none, none] [] mem := by
      have hle : smN (cNd m0 s) o ≤ smN (cNd m0 s) (m0 143 1).toNat := smN_up (by omega)
      have hn2 : mem 143 12 ≤ 16 + smN (fun s => smN (cNd m0 s) (m0 143 1).toNat) (s + 1) := by simp only [smN]; omega
      refine w_245_76 (Ex.mono S (n + 2)) (fun v e _ => ⟨fun q => H mem hF hR4 hn0 ?_ hA, fun q => ?_⟩)
      · have := pairs28 (cNd_self m0) (cNd_anti m0) (m0 143 1).toNat (by omega)
        rw [show s + 1 = (m0 143 1).toNat by omega] at hn2
        omega
      · exact ih (s + 1) 0 mem (by omega) (by omega) (by omega) hF hR4 hn0 (by simp only [smN] at hn2 ⊢; omega) hA
    -- the next of o
    have inner : ∀ m', FrN mem m' → R4 mem m' → 0 ≤ m' 143 12 → m' 143 12 ≤ mem 143 12 + cNd m0 s o → NdAll (PN (m0 143 1)) m' (m' 143 12) → (o : Int) < m0 143 1 → InI ((o : Int) + 1) ∧ Wx (Ex S (n + 2)) S M_245 Kk 86 [some (.inr 143), some (.inl (s : Int)), some (.inl ((o : Int) + 1)), none, none, none] [] m' := fun m' h1 hr h2 h3 h4 h5 => by
      refine ⟨by unfold InI; omega, ih s (o + 1) m' hs (by omega) (by omega) (hF.tr h1) (hR4.tr hr) h2 ?_ h4⟩
      simp only [smN]; omega
    refine w_245_86 (Ex.mono S (n + 2)) (fun v e _ => ⟨fun q => ⟨by unfold InI; omega, outer⟩, fun q => ⟨hs8, fun v2 e2 _ => ⟨fun q2 => ⟨by unfold InI; omega, outer⟩, fun q2 => ?_⟩⟩⟩)
    have ho2 : (o : Int) < m0 143 1 := by omega
    have ho8 : 0 ≤ (o : Int) ∧ (o : Int) < 8 := by omega
    have same := inner mem FrN.rf R4.rf hn0 (by omega) hA ho2
    refine ⟨fun q3 => same, fun q3 => ?_⟩
    have ks : m0 144 s = 5 := by
      have := e144 s
      simp only [Int.toNat_natCast] at e2
      omega
    refine f_249 ho8 (fun q4 _ => ⟨fun q5 => same, fun _ => ?_⟩) (fun _ _ _ => ⟨fun _ => same, fun q5 => absurd rfl q5⟩)
    refine f_250 ho8 (fun _ => f_250 hs8 (fun _ => ⟨fun q5 => ?_, fun q5 => same⟩))
    refine f_251 hs8 (fun _ => f_251 ho8 (fun _ => ?_))
    simp only [Int.toNat_natCast] at q4 ⊢
    have hps : 0 ≤ plcF mem s ∧ plcF mem s ≤ 7 := by
      obtain ⟨-, -, -, h4, h5⟩ := hO2.2.1 s (by omega)
      have := h5 (by rw [e144]; exact ks)
      unfold plcF; rw [if_neg (by rw [e144]; omega)]; omega
    have hpo : 0 ≤ plcF mem o ∧ plcF mem o ≤ 7 := by
      obtain ⟨-, -, -, h4, h5⟩ := hO2.2.1 o (by omega)
      unfold plcF
      split
      · have := h4 (by assumption); omega
      · have := h5 (by omega); omega
    have hls := hO2.lat (o := s) (by omega)
    have c48 : mem 143 12 < 48 := by
      have h1 := pairs28 (cNd_self m0) (cNd_anti m0) (m0 143 1).toNat (by omega)
      have h2 : smN (cNd m0 s) o ≤ smN (cNd m0 s) (m0 143 1).toNat := smN_up (by omega)
      have h3 : smN (fun s => smN (cNd m0 s) (m0 143 1).toNat) (s + 1) ≤ smN (fun s => smN (cNd m0 s) (m0 143 1).toNat) (m0 143 1).toNat := smN_up (by omega)
      simp only [smN] at h3
      omega
    -- a need comes
    have put : ∀ a b d l : Int, PN (m0 143 1) a b d l → cNd m0 s o = 1 → CWV (Ex S (n + 2)) 247 [.inr 143, .inl a, .inl b, .inl d, .inl l] mem fun m' => InI ((o : Int) + 1) ∧ Wx (Ex S (n + 2)) S M_245 Kk 86 [some (.inr 143), some (.inl (s : Int)), some (.inl ((o : Int) + 1)), none, none, none] [] m' := fun a b d l hp hc =>
      f_247 (P := PN (m0 143 1)) ⟨hn0, c48⟩ hp (by unfold PN at hp; unfold Rg; omega) hA (fun m' h1 hr h2 h3 h4 => inner m' h1 hr (by omega) (by omega) h4 ho2)
    have sub7 : ∀ x y : Int, 0 ≤ x ∧ x ≤ 7 → 0 ≤ y ∧ y ≤ 7 → InI (x - y) := fun x y h1 h2 => by unfold InI; omega
    have at170 : ∀ ah : Int, (ah = 1 ∧ (plcF m0 o < plcF m0 s ∨ (plcF m0 s = plcF m0 o ∧ s < o))) ∨ (ah = 0 ∧ ¬ (plcF m0 o < plcF m0 s ∨ (plcF m0 s = plcF m0 o ∧ s < o))) → Wx (Ex S (n + 2)) S M_245 Kk 170 [some (.inr 143), some (.inl (s : Int)), some (.inl (o : Int)), some (.inl (plcF mem s)), some (.inl (plcF mem o)), some (.inl ah)] [] mem := by
      intro ah hah
      have kE := e144 o
      have pE := epl o
      have pS := epl s
      have nso : ¬ o = s := by omega
      have c4 : m0 144 o = 4 → cNd m0 s o = 1 := fun h => by unfold cNd; rw [if_pos ⟨ks, nso, Or.inl h⟩]
      have c5 : m0 144 o = 5 → ah = 1 → cNd m0 s o = 1 := fun h h2 => by unfold cNd; rw [if_pos ⟨ks, nso, Or.inr ⟨h, by omega⟩⟩]
      refine w_245_170 (Ex.mono S (n + 2)) ⟨ho8, fun v1 g1 _ => ⟨fun z1 => ⟨ho8, fun v2 g2 _ => ⟨fun z2 => ⟨fun z3 => same, fun z3 => ⟨sub7 _ _ hps hpo, put _ _ _ _ ?_ ?_⟩⟩, fun z2 => ?_⟩⟩, fun z1 => ⟨fun z2 => ⟨ho8, fun v2 g2 _ => ⟨fun z3 => ?_, fun z3 => ⟨sub7 _ _ hpo hps, f_246 hO2 hs8 (fun _ => ⟨?_, put _ _ _ _ ?_ ?_⟩)⟩⟩⟩, fun z2 => ⟨sub7 _ _ hps hpo, f_246 hO2 hs8 (fun _ => put _ _ _ _ ?_ ?_)⟩⟩⟩⟩
      · simp only [Int.toNat_natCast] at g1 g2; unfold PN; omega
      · simp only [Int.toNat_natCast] at g1 g2; exact c5 (by omega) (by omega)
      · exfalso; omega
      · exfalso; omega
      · simp only [Int.toNat_natCast]; unfold InI; omega
      · simp only [Int.toNat_natCast] at g1 g2 ⊢; unfold PN; omega
      · simp only [Int.toNat_natCast] at g1 g2; exact c4 (by omega)
      · simp only [Int.toNat_natCast] at g1 ⊢; unfold PN; omega
      · simp only [Int.toNat_natCast] at g1; exact c4 (by omega)
    have pE := epl o
    have pS := epl s
    exact w_245_146 (Ex.mono S (n + 2)) ⟨fun z => at170 1 (Or.inl ⟨rfl, by omega⟩), fun z => ⟨fun z2 => at170 0 (Or.inr ⟨rfl, by omega⟩), fun z2 => ⟨fun z3 => at170 0 (Or.inr ⟨rfl, by omega⟩), fun z3 => at170 1 (Or.inl ⟨rfl, by omega⟩)⟩⟩⟩
theorem ln_17 (hO : OpsOK m0) (hS : SoundM m0) {Kk : WK} (H : ∀ m', FrN m0 m' → R4 m0 m' → 0 ≤ m' 143 12 → m' 143 12 ≤ 44 → NdAll (PN (m0 143 1)) m' (m' 143 12) → Kk none m') : ∀ (N : Nat) (o : Nat) (k : Int) (mem : MM), (o : Int) < m0 143 1 → 0 ≤ k → k ≤ 2 → (3 * (m0 143 1 - o) + (3 - k)).toNat < N → FrN m0 mem → R4 m0 mem → 0 ≤ mem 143 12 → mem 143 12 ≤ 2 * o + k → NdAll (PN (m0 143 1)) mem (mem 143 12) → Wx (Ex S (n + 2)) S M_245 Kk 17 [some (.inr 143), some (.inl (o : Int)), some (.inl k), none, none, none] [] mem := by
  intro N
  induction N with
  | zero => intros; omega
  | succ N ih =>
    intro o k mem ho hk1 hk2 hN hF hR4 hn0 hn1 hA
    have hO2 := hF.ops hO
    have h8 := hO.1
    have eops : mem 143 1 = m0 143 1 := hF _ _ (by omega) (by omega) (by omega) (by omega) (by omega)
    have e : ∀ A i, (A = 144 ∨ A = 145 ∨ A = 146 ∨ A = 147 ∨ A = 148 ∨ A = 151) → mem A i = m0 A i := fun A i q => hF A i (by omega) (by omega) (by omega) (by omega) (by omega)
    have esN : srcN mem o = srcN m0 o := by unfold srcN; rw [e 144 _ (by omega)]
    have esA : srcA mem o k = srcA m0 o k := by unfold srcA; rw [e 145 _ (by omega), e 147 _ (by omega)]
    have esB : srcB mem o k = srcB m0 o k := by unfold srcB; rw [e 146 _ (by omega), e 148 _ (by omega)]
    have ho8 : 0 ≤ (o : Int) ∧ (o : Int) < 8 := by omega
    refine w_245_17 (Ex.mono S (n + 2)) (f_241 ho8 (fun _ => ⟨fun q => ⟨by unfold InI; omega, ?_⟩, fun q => ?_⟩))
    · refine w_245_7 (Ex.mono S (n + 2)) (fun v ev _ => ⟨fun q2 => ?_, fun q2 => ?_⟩)
      · refine w_245_76 (Ex.mono S (n + 2)) (fun v ev _ => ⟨fun q3 => ?_, fun q3 => ?_⟩)
        · exact H mem hF hR4 hn0 (by omega) hA
        · exact ln_86 hO H _ 0 0 mem (by omega) (by omega) (Nat.lt_succ_self _) hF hR4 hn0 (by simp only [smN]; omega) hA
      · exact ih (o + 1) 0 mem (by omega) (by omega) (by omega) (by omega) hF hR4 hn0 (by omega) hA
    · simp only [Int.toNat_natCast] at q
      have hs := hO2.src (o := o) (by omega) hk1 (by omega)
      have hS2 := hS o ho k hk1 (by omega)
      have hnn : srcN mem o ≤ 2 := by unfold srcN; split <;> (try split) <;> omega
      have nx : ∀ m', FrN mem m' → R4 mem m' → 0 ≤ m' 143 12 → m' 143 12 ≤ mem 143 12 + 1 → NdAll (PN (m0 143 1)) m' (m' 143 12) → InI (k + 1) ∧ Wx (Ex S (n + 2)) S M_245 Kk 17 [some (.inr 143), some (.inl (o : Int)), some (.inl (k + 1)), none, none, none] [] m' := fun m' h1 hr h2 h3 h4 => ⟨by unfold InI; omega, ih o (k + 1) m' ho (by omega) (by omega) (by omega) (hF.tr h1) (hR4.tr hr) h2 (by omega) h4⟩
      refine f_242 ho8 (fun _ => ⟨fun q2 => nx mem FrN.rf R4.rf hn0 (by omega) hA, fun q2 => ?_⟩)
      simp only [Int.toNat_natCast] at q2
      have hA7 : 0 ≤ srcA mem o k ∧ srcA mem o k < 8 := by unfold srcOK at hs; omega
      have hl := hO2.lat (o := (srcA mem o k).toNat) (by omega)
      refine f_242 ho8 (fun _ => f_243 ho8 (fun _ => f_242 ho8 (fun _ => f_246 hO2 (by simpa only [Int.toNat_natCast] using hA7) (fun _ => ?_))))
      simp only [Int.toNat_natCast]
      have hpn : PN (m0 143 1) (srcA mem o k) (o : Int) (srcB mem o k) (latF mem (srcA mem o k).toNat) := by
        unfold SrcS at hS2
        unfold srcOK at hs
        unfold PN
        omega
      exact f_247 (P := PN (m0 143 1)) ⟨hn0, by omega⟩ hpn (by unfold PN at hpn; unfold Rg; omega) hA (fun m' h1 hr h2 h3 h4 => nx m' h1 hr (by omega) (by omega) h4)
theorem f_245 {K : MM → Prop} (hO : OpsOK m0) (hS : SoundM m0) (H : ∀ m', FrN m0 m' → R4 m0 m' → 0 ≤ m' 143 12 → m' 143 12 ≤ 44 → NdAll (PN (m0 143 1)) m' (m' 143 12) → K m') : CWV (Ex S (n + 3)) 245 [.inr 143] m0 K := by
  have hF : FrN m0 (upm m0 143 12 0) := fun A i _ _ _ _ h => upm_ne h
  have hR : R4 m0 (upm m0 143 12 0) := R4.same (fun A i e => upm_ne (by omega))
  refine CW.of (k := 5) mt_245 rfl rfl (w_245_0 (Ex.mono S (n + 2)) (w_245_7 (Ex.mono S (n + 2)) (fun v e _ => ⟨fun q => ?_, fun q => ?_⟩)))
  · have e : v = m0 143 1 := by rw [e]; simp [upm]
    refine w_245_76 (Ex.mono S (n + 2)) (fun v2 e2 _ => ⟨fun q3 => ⟨rfl, H _ hF hR (by simp [upm]) (by simp [upm]) ?_⟩, fun q3 => ?_⟩)
    · intro j hj; simp [upm] at hj; omega
    · have e2 : v2 = m0 143 1 := by rw [e2]; simp [upm]
      omega
  · have e : v = m0 143 1 := by rw [e]; simp [upm]
    exact ln_17 hO hS (fun m' h1 hr h2 h3 h4 => ⟨rfl, H m' h1 hr h2 h3 h4⟩) _ 0 0 _ (by omega) (by omega) (by omega) (Nat.lt_succ_self _) hF hR (by simp [upm]) (by simp [upm]) (by intro j hj; simp [upm] at hj; omega)
end LAYS
end
section
/-! ways in a graph of few places: walks, rings that are not above 0, heights -/
def Wk (E : Nat → Nat → Int → Prop) : Nat → List Nat → Nat → Int → Prop
  | a, [], b, v => E a b v
  | a, c :: p, b, v => ∃ x y, E a c x ∧ Wk E c p b y ∧ v = x + y
section WALK
variable {E : Nat → Nat → Int → Prop}
theorem Wk.app : ∀ {p : List Nat} {a c b : Nat} {q : List Nat} {x y : Int}, Wk E a p c x → Wk E c q b y → Wk E a (p ++ c :: q) b (x + y)
  | [], a, c, b, q, x, y, h1, h2 => ⟨x, y, h1, h2, rfl⟩
  | e :: p, a, c, b, q, x, y, ⟨u, v, g1, g2, g3⟩, h2 => ⟨u, v + y, g1, Wk.app g2 h2, by omega⟩
theorem Wk.split : ∀ {p : List Nat} {a c b : Nat} {q : List Nat} {z : Int}, Wk E a (p ++ c :: q) b z → ∃ x y, Wk E a p c x ∧ Wk E c q b y ∧ z = x + y
  | [], a, c, b, q, z, ⟨x, y, h1, h2, h3⟩ => ⟨x, y, h1, h2, h3⟩
  | e :: p, a, c, b, q, z, ⟨u, v, g1, g2, g3⟩ => by
    obtain ⟨x, y, h1, h2, h3⟩ := Wk.split g2
    exact ⟨u + x, y, ⟨u, x, g1, h1, rfl⟩, h2, by omega⟩
theorem Wk.le (hE : ∀ a b x, E a b x → x ≤ 99) : ∀ {p : List Nat} {a b : Nat} {v : Int}, Wk E a p b v → v ≤ 99 * (p.length + 1)
  | [], a, b, v, h => by have := hE a b v h; simp; omega
  | c :: p, a, b, v, ⟨x, y, h1, h2, h3⟩ => by
    have := hE _ _ _ h1
    have := Wk.le hE h2
    rw [List.length_cons]; omega
theorem Wk.le6 {c : Int} (hc : 0 ≤ c) (hE : ∀ a b x, E a b x → x ≤ c) : ∀ {p : List Nat} {a b : Nat} {v : Int}, Wk E a p b v → v ≤ c * (p.length + 1)
  | [], a, b, v, h => by have := hE a b v h; simp; omega
  | e :: p, a, b, v, ⟨x, y, h1, h2, h3⟩ => by
    have := hE _ _ _ h1
    have := Wk.le6 hc hE h2
    rw [List.length_cons]
    have e1 : c * ((p.length + 1 : Nat) + 1 : Int) = c * (p.length + 1) + c := by
      rw [Int.natCast_add]
      show c * ((p.length : Int) + 1 + 1) = _
      rw [Int.mul_add, Int.mul_one]
    omega
theorem nd_len : ∀ {k : Nat} {l : List Nat}, l.Nodup → (∀ x ∈ l, x < k) → l.length ≤ k
  | 0, l, _, h => by
    cases l with
    | nil => simp
    | cons x l => exact absurd (h x List.mem_cons_self) (by omega)
  | k + 1, l, hn, h => by
    by_cases hk : k ∈ l
    · have := nd_len (k := k) (l := l.erase k) (hn.erase k) (fun x hx => by
        have h1 := h x (List.mem_of_mem_erase hx)
        have h2 : x ≠ k := fun e => by subst e; exact hn.not_mem_erase hx
        omega)
      rw [List.length_erase_of_mem hk] at this
      omega
    · have := nd_len (k := k) hn (fun x hx => by
        have h1 := h x hx
        have h2 : x ≠ k := fun e => by subst e; exact hk hx
        omega)
      omega
def Low (E : Nat → Nat → Int → Prop) (m : Nat) (W : Nat → Nat → Int) (a b : Nat) : Prop := ∀ p v, p.Nodup → (∀ c ∈ p, c < m) → Wk E a p b v → -999 + 99 * (p.length : Int) ≤ v → v ≤ W a b
theorem Low.piv {m a b : Nat} {W : Nat → Nat → Int} (hE : ∀ a b x, E a b x → x ≤ 99) (h1 : Low E m W a b) (h2 : Low E m W a m) (h3 : Low E m W m b) {p : List Nat} {v : Int} (hn : p.Nodup) (hp : ∀ c ∈ p, c < m + 1) (hw : Wk E a p b v) (hv : -999 + 99 * (p.length : Int) ≤ v) : v ≤ W a b ∨ (-1000 < W a m ∧ -1000 < W m b ∧ v ≤ W a m + W m b ∧ m ∈ p) := by
  by_cases hm : m ∈ p
  · right
    obtain ⟨p1, p2, rfl⟩ := List.append_of_mem hm
    obtain ⟨x, y, g1, g2, g3⟩ := Wk.split hw
    rw [List.nodup_append, List.nodup_cons] at hn
    obtain ⟨n1, ⟨n2, n3⟩, n4⟩ := hn
    have l1 := Wk.le hE g1
    have l2 := Wk.le hE g2
    rw [List.length_append, List.length_cons] at hv
    have k1 := h2 p1 x n1 (fun c hc => by
      have := hp c (List.mem_append_left _ hc)
      have : c ≠ m := fun e => n4 c hc m List.mem_cons_self e
      omega) g1 (by omega)
    have k2 := h3 p2 y n3 (fun c hc => by
      have := hp c (List.mem_append_right _ (List.mem_cons_of_mem _ hc))
      have : c ≠ m := fun e => by subst e; exact n2 hc
      omega) g2 (by omega)
    exact ⟨by omega, by omega, by omega, hm⟩
  · exact Or.inl (h1 p v hn (fun c hc => by
      have := hp c hc
      have : c ≠ m := fun e => by subst e; exact hm hc
      omega) hw hv)
theorem pot {k : Nat} {B : Nat} (hV : ∀ a b x, E a b x → a < k ∧ b < k) (hR : ∀ a p v, a < k → p.Nodup → (∀ c ∈ p, c < k) → Wk E a p a v → v ≤ 0) (hB : ∀ a p b v, b < k → (b :: a :: p).Nodup → (∀ c ∈ a :: p, c < k) → Wk E a p b v → v ≤ B) : ∃ φ : Nat → Int, (∀ b, 0 ≤ φ b ∧ φ b ≤ B) ∧ ∀ a b x, E a b x → φ a + x ≤ φ b := by
  have key : ∀ (N : Nat) (φ : Nat → Int), (∀ b, 0 ≤ φ b ∧ φ b ≤ B) → (∀ b, φ b = 0 ∨ ∃ a p v, b < k ∧ (∀ c ∈ a :: p, c < k) ∧ (b :: a :: p).Nodup ∧ Wk E a p b v ∧ φ b ≤ v) → smN (fun b => (B - φ b).toNat) k < N → ∃ φ : Nat → Int, (∀ b, 0 ≤ φ b ∧ φ b ≤ B) ∧ ∀ a b x, E a b x → φ a + x ≤ φ b := by
    intro N
    induction N with
    | zero => intros; omega
    | succ N ih =>
      intro φ h1 h2 hN
      by_cases hf : ∀ a b x, E a b x → φ a + x ≤ φ b
      · exact ⟨φ, h1, hf⟩
      · simp only [Classical.not_forall] at hf
        obtain ⟨a, b, x, hE, hlt⟩ := hf
        obtain ⟨ha, hb⟩ := hV a b x hE
        have hab : ¬ b = a := fun e => by
          subst e
          have := hR b [] x hb List.nodup_nil (fun c hc => by cases hc) hE
          omega
        -- a way to b of that value
        have hw : ∃ s p v, (∀ c ∈ s :: p, c < k) ∧ (b :: s :: p).Nodup ∧ Wk E s p b v ∧ φ a + x ≤ v := by
          rcases h2 a with h0 | ⟨s, p, v, g1, g2, g3, g4, g5⟩
          · refine ⟨a, [], x, fun c hc => ?_, ?_, hE, by omega⟩
            · rcases List.mem_cons.mp hc with rfl | hc
              · exact ha
              · cases hc
            · simp [hab]
          · have g3' := List.nodup_cons.mp g3
            have g3'' := List.nodup_cons.mp g3'.2
            have wx : Wk E s (p ++ [a]) b (v + x) := Wk.app g4 hE
            have nd : (p ++ [a]).Nodup := by
              rw [List.nodup_append]
              refine ⟨g3''.2, by simp, fun c hc e he => ?_⟩
              have : e = a := by simpa using he
              subst this
              intro q
              subst q
              exact g3'.1 (List.mem_cons_of_mem _ hc)
            have lt : ∀ c ∈ p ++ [a], c < k := fun c hc => by
              rcases List.mem_append.mp hc with hc | hc
              · exact g2 c (List.mem_cons_of_mem _ hc)
              · have : c = a := by simpa using hc
                subst this; exact ha
            by_cases hbs : b = s
            · exfalso
              subst hbs
              have := hR b _ _ hb nd lt wx
              have := h1 b
              omega
            · by_cases hbp : b ∈ p
              · obtain ⟨p1, p2, rfl⟩ := List.append_of_mem hbp
                obtain ⟨u, w, k1, k2, k3⟩ := Wk.split g4
                have wy : Wk E b (p2 ++ [a]) b (w + x) := Wk.app k2 hE
                have nda := List.nodup_append.mp g3''.2
                have ndb := List.nodup_cons.mp nda.2.1
                have nd2 : (p2 ++ [a]).Nodup := by
                  rw [List.append_assoc] at nd
                  exact (List.nodup_cons.mp (List.nodup_append.mp nd).2.1).2
                have := hR b _ _ hb nd2 (fun c hc => lt c (by
                  rw [List.append_assoc]
                  exact List.mem_append_right _ (List.mem_cons_of_mem _ hc))) wy
                refine ⟨s, p1, u, fun c hc => ?_, ?_, k1, by omega⟩
                · rcases List.mem_cons.mp hc with rfl | hc
                  · exact g2 _ List.mem_cons_self
                  · exact g2 c (List.mem_cons_of_mem _ (List.mem_append_left _ hc))
                · rw [List.nodup_cons, List.nodup_cons]
                  refine ⟨fun q => ?_, fun q => g3''.1 (List.mem_append_left _ q), nda.1⟩
                  rcases List.mem_cons.mp q with q | q
                  · exact hbs q
                  · exact nda.2.2 b q b List.mem_cons_self rfl
              · refine ⟨s, p ++ [a], v + x, fun c hc => ?_, ?_, wx, by omega⟩
                · rcases List.mem_cons.mp hc with rfl | hc
                  · exact g2 _ List.mem_cons_self
                  · exact lt c hc
                · rw [List.nodup_cons, List.nodup_cons]
                  refine ⟨fun q => ?_, fun q => ?_, nd⟩
                  · rcases List.mem_cons.mp q with q | q
                    · exact hbs q
                    · rcases List.mem_append.mp q with q | q
                      · exact hbp q
                      · exact hab (by simpa using q)
                  · rcases List.mem_append.mp q with q | q
                    · exact g3''.1 q
                    · have : s = a := by simpa using q
                      exact g3'.1 (by rw [← this]; exact List.mem_cons_self)
        obtain ⟨s, p, v, w1, w2, w3, w4⟩ := hw
        have hvB := hB s p b v hb w2 w1 w3
        refine ih (fun c => if c = b then φ a + x else φ c) (fun c => ?_) (fun c => ?_) ?_
        · split
          · have := h1 b; have := h1 a; omega
          · exact h1 c
        · split
          · rename_i e
            subst e
            exact Or.inr ⟨s, p, v, hb, w1, w2, w3, w4⟩
          · exact h2 c
        · have hd : ∀ j, smN (fun c => (B - (if c = b then φ a + x else φ c)).toNat) j ≤ smN (fun c => (B - φ c).toNat) j ∧ (b < j → smN (fun c => (B - (if c = b then φ a + x else φ c)).toNat) j < smN (fun c => (B - φ c).toNat) j) := by
            intro j
            induction j with
            | zero => exact ⟨Nat.le_refl _, fun q => by omega⟩
            | succ j ihj =>
              simp only [smN]
              by_cases e : j = b
              · subst e
                rw [if_pos rfl]
                have := h1 j
                exact ⟨by omega, fun _ => by omega⟩
              · rw [if_neg e]
                exact ⟨by omega, fun q => by have := ihj.2 (by omega); omega⟩
          have := (hd k).2 hb
          omega
  exact key _ (fun _ => 0) (fun b => ⟨by omega, by omega⟩) (fun b => Or.inl rfl) (Nat.lt_succ_self _)
end WALK
end
section
/-! laid by wip/hand/wxg.py: ways: what the paths of methods ask for -/
set_option maxRecDepth 100000 in
theorem mt_254 : MT[254]? = some M_254 := rfl
set_option maxRecDepth 100000 in
theorem mt_255 : MT[255]? = some M_255 := rfl
set_option maxRecDepth 100000 in
theorem mt_256 : MT[256]? = some M_256 := rfl
set_option maxRecDepth 100000 in
theorem mt_259 : MT[259]? = some M_259 := rfl
theorem te_254_0 : (pT M_254).find? (fun e => e.1 == 0) = some (0, .aload_n 0, 0, 0) := rfl
theorem te_254_1 : (pT M_254).find? (fun e => e.1 == 1) = some (1, .invokevirtual 137, 240, 0) := rfl
theorem te_254_4 : (pT M_254).find? (fun e => e.1 == 4) = some (4, .ifCond .ne 5, 0, 0) := rfl
theorem te_254_7 : (pT M_254).find? (fun e => e.1 == 7) = some (7, .iconst 1, 0, 0) := rfl
theorem te_254_8 : (pT M_254).find? (fun e => e.1 == 8) = some (8, .ireturn, 0, 0) := rfl
theorem te_254_9 : (pT M_254).find? (fun e => e.1 == 9) = some (9, .aload_n 0, 0, 0) := rfl
theorem te_254_10 : (pT M_254).find? (fun e => e.1 == 10) = some (10, .invokevirtual 164, 245, 0) := rfl
theorem te_254_13 : (pT M_254).find? (fun e => e.1 == 13) = some (13, .iload_n 1, 0, 0) := rfl
theorem te_254_14 : (pT M_254).find? (fun e => e.1 == 14) = some (14, .aload_n 0, 0, 0) := rfl
theorem te_254_15 : (pT M_254).find? (fun e => e.1 == 15) = some (15, .invokevirtual 195, 255, 0) := rfl
theorem te_254_18 : (pT M_254).find? (fun e => e.1 == 18) = some (18, .if_icmp .ge 7, 0, 0) := rfl
theorem te_254_21 : (pT M_254).find? (fun e => e.1 == 21) = some (21, .iconst 1, 0, 0) := rfl
theorem te_254_22 : (pT M_254).find? (fun e => e.1 == 22) = some (22, .goto 4, 0, 0) := rfl
theorem te_254_25 : (pT M_254).find? (fun e => e.1 == 25) = some (25, .iconst 0, 0, 0) := rfl
theorem te_254_26 : (pT M_254).find? (fun e => e.1 == 26) = some (26, .ireturn, 0, 0) := rfl
theorem te_255_0 : (pT M_255).find? (fun e => e.1 == 0) = some (0, .iconst 0, 0, 0) := rfl
theorem te_255_1 : (pT M_255).find? (fun e => e.1 == 1) = some (1, .istore_n 1, 0, 0) := rfl
theorem te_255_2 : (pT M_255).find? (fun e => e.1 == 2) = some (2, .aload_n 0, 0, 0) := rfl
theorem te_255_3 : (pT M_255).find? (fun e => e.1 == 3) = some (3, .iload_n 1, 0, 0) := rfl
theorem te_255_4 : (pT M_255).find? (fun e => e.1 == 4) = some (4, .invokevirtual 173, 256, 0) := rfl
theorem te_255_7 : (pT M_255).find? (fun e => e.1 == 7) = some (7, .aload_n 0, 0, 0) := rfl
theorem te_255_8 : (pT M_255).find? (fun e => e.1 == 8) = some (8, .invokevirtual 177, 259, 0) := rfl
theorem te_255_11 : (pT M_255).find? (fun e => e.1 == 11) = some (11, .ifCond .ne 14, 0, 0) := rfl
theorem te_255_14 : (pT M_255).find? (fun e => e.1 == 14) = some (14, .iinc 1 1, 0, 0) := rfl
theorem te_255_17 : (pT M_255).find? (fun e => e.1 == 17) = some (17, .aload_n 0, 0, 0) := rfl
theorem te_255_18 : (pT M_255).find? (fun e => e.1 == 18) = some (18, .iload_n 1, 0, 0) := rfl
theorem te_255_19 : (pT M_255).find? (fun e => e.1 == 19) = some (19, .invokevirtual 173, 256, 0) := rfl
theorem te_255_22 : (pT M_255).find? (fun e => e.1 == 22) = some (22, .goto (-15), 0, 0) := rfl
theorem te_255_25 : (pT M_255).find? (fun e => e.1 == 25) = some (25, .iload_n 1, 0, 0) := rfl
theorem te_255_26 : (pT M_255).find? (fun e => e.1 == 26) = some (26, .ireturn, 0, 0) := rfl
theorem te_256_0 : (pT M_256).find? (fun e => e.1 == 0) = some (0, .iconst 0, 0, 0) := rfl
theorem te_256_1 : (pT M_256).find? (fun e => e.1 == 1) = some (1, .istore_n 2, 0, 0) := rfl
theorem te_256_2 : (pT M_256).find? (fun e => e.1 == 2) = some (2, .iload_n 2, 0, 0) := rfl
theorem te_256_3 : (pT M_256).find? (fun e => e.1 == 3) = some (3, .bipush 64, 0, 0) := rfl
theorem te_256_5 : (pT M_256).find? (fun e => e.1 == 5) = some (5, .if_icmp .ge 18, 0, 0) := rfl
theorem te_256_8 : (pT M_256).find? (fun e => e.1 == 8) = some (8, .aload_n 0, 0, 0) := rfl
theorem te_256_9 : (pT M_256).find? (fun e => e.1 == 9) = some (9, .getfield 52, 10, 17) := rfl
theorem te_256_12 : (pT M_256).find? (fun e => e.1 == 12) = some (12, .iload_n 2, 0, 0) := rfl
theorem te_256_13 : (pT M_256).find? (fun e => e.1 == 13) = some (13, .sipush (-1000), 0, 0) := rfl
theorem te_256_16 : (pT M_256).find? (fun e => e.1 == 16) = some (16, .iastore, 0, 0) := rfl
theorem te_256_17 : (pT M_256).find? (fun e => e.1 == 17) = some (17, .iinc 2 1, 0, 0) := rfl
theorem te_256_20 : (pT M_256).find? (fun e => e.1 == 20) = some (20, .goto (-18), 0, 0) := rfl
theorem te_256_23 : (pT M_256).find? (fun e => e.1 == 23) = some (23, .iconst 0, 0, 0) := rfl
theorem te_256_24 : (pT M_256).find? (fun e => e.1 == 24) = some (24, .istore_n 2, 0, 0) := rfl
theorem te_256_25 : (pT M_256).find? (fun e => e.1 == 25) = some (25, .iload_n 2, 0, 0) := rfl
theorem te_256_26 : (pT M_256).find? (fun e => e.1 == 26) = some (26, .aload_n 0, 0, 0) := rfl
theorem te_256_27 : (pT M_256).find? (fun e => e.1 == 27) = some (27, .getfield 141, 10, 12) := rfl
theorem te_256_30 : (pT M_256).find? (fun e => e.1 == 30) = some (30, .if_icmp .ge 77, 0, 0) := rfl
theorem te_256_33 : (pT M_256).find? (fun e => e.1 == 33) = some (33, .iload_n 2, 0, 0) := rfl
theorem te_256_34 : (pT M_256).find? (fun e => e.1 == 34) = some (34, .aload_n 0, 0, 0) := rfl
theorem te_256_35 : (pT M_256).find? (fun e => e.1 == 35) = some (35, .getfield 55, 10, 18) := rfl
theorem te_256_38 : (pT M_256).find? (fun e => e.1 == 38) = some (38, .if_icmp .eq 63, 0, 0) := rfl
theorem te_256_41 : (pT M_256).find? (fun e => e.1 == 41) = some (41, .aload_n 0, 0, 0) := rfl
theorem te_256_42 : (pT M_256).find? (fun e => e.1 == 42) = some (42, .getfield 52, 10, 17) := rfl
theorem te_256_45 : (pT M_256).find? (fun e => e.1 == 45) = some (45, .bipush 8, 0, 0) := rfl
theorem te_256_47 : (pT M_256).find? (fun e => e.1 == 47) = some (47, .aload_n 0, 0, 0) := rfl
theorem te_256_48 : (pT M_256).find? (fun e => e.1 == 48) = some (48, .getfield 40, 10, 13) := rfl
theorem te_256_51 : (pT M_256).find? (fun e => e.1 == 51) = some (51, .iload_n 2, 0, 0) := rfl
theorem te_256_52 : (pT M_256).find? (fun e => e.1 == 52) = some (52, .iaload, 0, 0) := rfl
theorem te_256_53 : (pT M_256).find? (fun e => e.1 == 53) = some (53, .imul, 0, 0) := rfl
theorem te_256_54 : (pT M_256).find? (fun e => e.1 == 54) = some (54, .aload_n 0, 0, 0) := rfl
theorem te_256_55 : (pT M_256).find? (fun e => e.1 == 55) = some (55, .getfield 43, 10, 14) := rfl
theorem te_256_58 : (pT M_256).find? (fun e => e.1 == 58) = some (58, .iload_n 2, 0, 0) := rfl
theorem te_256_59 : (pT M_256).find? (fun e => e.1 == 59) = some (59, .iaload, 0, 0) := rfl
theorem te_256_60 : (pT M_256).find? (fun e => e.1 == 60) = some (60, .iadd, 0, 0) := rfl
theorem te_256_61 : (pT M_256).find? (fun e => e.1 == 61) = some (61, .aload_n 0, 0, 0) := rfl
theorem te_256_62 : (pT M_256).find? (fun e => e.1 == 62) = some (62, .getfield 52, 10, 17) := rfl
theorem te_256_65 : (pT M_256).find? (fun e => e.1 == 65) = some (65, .bipush 8, 0, 0) := rfl
theorem te_256_67 : (pT M_256).find? (fun e => e.1 == 67) = some (67, .aload_n 0, 0, 0) := rfl
theorem te_256_68 : (pT M_256).find? (fun e => e.1 == 68) = some (68, .getfield 40, 10, 13) := rfl
theorem te_256_71 : (pT M_256).find? (fun e => e.1 == 71) = some (71, .iload_n 2, 0, 0) := rfl
theorem te_256_72 : (pT M_256).find? (fun e => e.1 == 72) = some (72, .iaload, 0, 0) := rfl
theorem te_256_73 : (pT M_256).find? (fun e => e.1 == 73) = some (73, .imul, 0, 0) := rfl
theorem te_256_74 : (pT M_256).find? (fun e => e.1 == 74) = some (74, .aload_n 0, 0, 0) := rfl
theorem te_256_75 : (pT M_256).find? (fun e => e.1 == 75) = some (75, .getfield 43, 10, 14) := rfl
theorem te_256_78 : (pT M_256).find? (fun e => e.1 == 78) = some (78, .iload_n 2, 0, 0) := rfl
theorem te_256_79 : (pT M_256).find? (fun e => e.1 == 79) = some (79, .iaload, 0, 0) := rfl
theorem te_256_80 : (pT M_256).find? (fun e => e.1 == 80) = some (80, .iadd, 0, 0) := rfl
theorem te_256_81 : (pT M_256).find? (fun e => e.1 == 81) = some (81, .iaload, 0, 0) := rfl
theorem te_256_82 : (pT M_256).find? (fun e => e.1 == 82) = some (82, .aload_n 0, 0, 0) := rfl
theorem te_256_83 : (pT M_256).find? (fun e => e.1 == 83) = some (83, .getfield 49, 10, 16) := rfl
theorem te_256_86 : (pT M_256).find? (fun e => e.1 == 86) = some (86, .iload_n 2, 0, 0) := rfl
theorem te_256_87 : (pT M_256).find? (fun e => e.1 == 87) = some (87, .iaload, 0, 0) := rfl
theorem te_256_88 : (pT M_256).find? (fun e => e.1 == 88) = some (88, .iload_n 1, 0, 0) := rfl
theorem te_256_89 : (pT M_256).find? (fun e => e.1 == 89) = some (89, .aload_n 0, 0, 0) := rfl
theorem te_256_90 : (pT M_256).find? (fun e => e.1 == 90) = some (90, .getfield 46, 10, 15) := rfl
theorem te_256_93 : (pT M_256).find? (fun e => e.1 == 93) = some (93, .iload_n 2, 0, 0) := rfl
theorem te_256_94 : (pT M_256).find? (fun e => e.1 == 94) = some (94, .iaload, 0, 0) := rfl
theorem te_256_95 : (pT M_256).find? (fun e => e.1 == 95) = some (95, .imul, 0, 0) := rfl
theorem te_256_96 : (pT M_256).find? (fun e => e.1 == 96) = some (96, .isub, 0, 0) := rfl
theorem te_256_97 : (pT M_256).find? (fun e => e.1 == 97) = some (97, .invokestatic 167, 257, 2) := rfl
theorem te_256_100 : (pT M_256).find? (fun e => e.1 == 100) = some (100, .iastore, 0, 0) := rfl
theorem te_256_101 : (pT M_256).find? (fun e => e.1 == 101) = some (101, .iinc 2 1, 0, 0) := rfl
theorem te_256_104 : (pT M_256).find? (fun e => e.1 == 104) = some (104, .goto (-79), 0, 0) := rfl
theorem te_256_107 : (pT M_256).find? (fun e => e.1 == 107) = some (107, .iconst 0, 0, 0) := rfl
theorem te_256_108 : (pT M_256).find? (fun e => e.1 == 108) = some (108, .istore_n 2, 0, 0) := rfl
theorem te_256_109 : (pT M_256).find? (fun e => e.1 == 109) = some (109, .iload_n 2, 0, 0) := rfl
theorem te_256_110 : (pT M_256).find? (fun e => e.1 == 110) = some (110, .aload_n 0, 0, 0) := rfl
theorem te_256_111 : (pT M_256).find? (fun e => e.1 == 111) = some (111, .getfield 108, 10, 1) := rfl
theorem te_256_114 : (pT M_256).find? (fun e => e.1 == 114) = some (114, .if_icmp .ge 123, 0, 0) := rfl
theorem te_256_117 : (pT M_256).find? (fun e => e.1 == 117) = some (117, .iconst 0, 0, 0) := rfl
theorem te_256_118 : (pT M_256).find? (fun e => e.1 == 118) = some (118, .istore_n 3, 0, 0) := rfl
theorem te_256_119 : (pT M_256).find? (fun e => e.1 == 119) = some (119, .iload_n 3, 0, 0) := rfl
theorem te_256_120 : (pT M_256).find? (fun e => e.1 == 120) = some (120, .aload_n 0, 0, 0) := rfl
theorem te_256_121 : (pT M_256).find? (fun e => e.1 == 121) = some (121, .getfield 108, 10, 1) := rfl
theorem te_256_124 : (pT M_256).find? (fun e => e.1 == 124) = some (124, .if_icmp .ge 107, 0, 0) := rfl
theorem te_256_127 : (pT M_256).find? (fun e => e.1 == 127) = some (127, .iconst 0, 0, 0) := rfl
theorem te_256_128 : (pT M_256).find? (fun e => e.1 == 128) = some (128, .istore 4, 0, 0) := rfl
theorem te_256_130 : (pT M_256).find? (fun e => e.1 == 130) = some (130, .iload 4, 0, 0) := rfl
theorem te_256_132 : (pT M_256).find? (fun e => e.1 == 132) = some (132, .aload_n 0, 0, 0) := rfl
theorem te_256_133 : (pT M_256).find? (fun e => e.1 == 133) = some (133, .getfield 108, 10, 1) := rfl
theorem te_256_136 : (pT M_256).find? (fun e => e.1 == 136) = some (136, .if_icmp .ge 89, 0, 0) := rfl
theorem te_256_139 : (pT M_256).find? (fun e => e.1 == 139) = some (139, .aload_n 0, 0, 0) := rfl
theorem te_256_140 : (pT M_256).find? (fun e => e.1 == 140) = some (140, .getfield 52, 10, 17) := rfl
theorem te_256_143 : (pT M_256).find? (fun e => e.1 == 143) = some (143, .bipush 8, 0, 0) := rfl
theorem te_256_145 : (pT M_256).find? (fun e => e.1 == 145) = some (145, .iload_n 3, 0, 0) := rfl
theorem te_256_146 : (pT M_256).find? (fun e => e.1 == 146) = some (146, .imul, 0, 0) := rfl
theorem te_256_147 : (pT M_256).find? (fun e => e.1 == 147) = some (147, .iload_n 2, 0, 0) := rfl
theorem te_256_148 : (pT M_256).find? (fun e => e.1 == 148) = some (148, .iadd, 0, 0) := rfl
theorem te_256_149 : (pT M_256).find? (fun e => e.1 == 149) = some (149, .iaload, 0, 0) := rfl
theorem te_256_150 : (pT M_256).find? (fun e => e.1 == 150) = some (150, .istore 5, 0, 0) := rfl
theorem te_256_152 : (pT M_256).find? (fun e => e.1 == 152) = some (152, .aload_n 0, 0, 0) := rfl
theorem te_256_153 : (pT M_256).find? (fun e => e.1 == 153) = some (153, .getfield 52, 10, 17) := rfl
theorem te_256_156 : (pT M_256).find? (fun e => e.1 == 156) = some (156, .bipush 8, 0, 0) := rfl
theorem te_256_158 : (pT M_256).find? (fun e => e.1 == 158) = some (158, .iload_n 2, 0, 0) := rfl
theorem te_256_159 : (pT M_256).find? (fun e => e.1 == 159) = some (159, .imul, 0, 0) := rfl
theorem te_256_160 : (pT M_256).find? (fun e => e.1 == 160) = some (160, .iload 4, 0, 0) := rfl
theorem te_256_162 : (pT M_256).find? (fun e => e.1 == 162) = some (162, .iadd, 0, 0) := rfl
theorem te_256_163 : (pT M_256).find? (fun e => e.1 == 163) = some (163, .iaload, 0, 0) := rfl
theorem te_256_164 : (pT M_256).find? (fun e => e.1 == 164) = some (164, .istore 6, 0, 0) := rfl
theorem te_256_166 : (pT M_256).find? (fun e => e.1 == 166) = some (166, .iload 5, 0, 0) := rfl
theorem te_256_168 : (pT M_256).find? (fun e => e.1 == 168) = some (168, .sipush (-1000), 0, 0) := rfl
theorem te_256_171 : (pT M_256).find? (fun e => e.1 == 171) = some (171, .if_icmp .le 48, 0, 0) := rfl
theorem te_256_174 : (pT M_256).find? (fun e => e.1 == 174) = some (174, .iload 6, 0, 0) := rfl
theorem te_256_176 : (pT M_256).find? (fun e => e.1 == 176) = some (176, .sipush (-1000), 0, 0) := rfl
theorem te_256_179 : (pT M_256).find? (fun e => e.1 == 179) = some (179, .if_icmp .le 40, 0, 0) := rfl
theorem te_256_182 : (pT M_256).find? (fun e => e.1 == 182) = some (182, .aload_n 0, 0, 0) := rfl
theorem te_256_183 : (pT M_256).find? (fun e => e.1 == 183) = some (183, .getfield 52, 10, 17) := rfl
theorem te_256_186 : (pT M_256).find? (fun e => e.1 == 186) = some (186, .bipush 8, 0, 0) := rfl
theorem te_256_188 : (pT M_256).find? (fun e => e.1 == 188) = some (188, .iload_n 3, 0, 0) := rfl
theorem te_256_189 : (pT M_256).find? (fun e => e.1 == 189) = some (189, .imul, 0, 0) := rfl
theorem te_256_190 : (pT M_256).find? (fun e => e.1 == 190) = some (190, .iload 4, 0, 0) := rfl
theorem te_256_192 : (pT M_256).find? (fun e => e.1 == 192) = some (192, .iadd, 0, 0) := rfl
theorem te_256_193 : (pT M_256).find? (fun e => e.1 == 193) = some (193, .aload_n 0, 0, 0) := rfl
theorem te_256_194 : (pT M_256).find? (fun e => e.1 == 194) = some (194, .getfield 52, 10, 17) := rfl
theorem te_256_197 : (pT M_256).find? (fun e => e.1 == 197) = some (197, .bipush 8, 0, 0) := rfl
theorem te_256_199 : (pT M_256).find? (fun e => e.1 == 199) = some (199, .iload_n 3, 0, 0) := rfl
theorem te_256_200 : (pT M_256).find? (fun e => e.1 == 200) = some (200, .imul, 0, 0) := rfl
theorem te_256_201 : (pT M_256).find? (fun e => e.1 == 201) = some (201, .iload 4, 0, 0) := rfl
theorem te_256_203 : (pT M_256).find? (fun e => e.1 == 203) = some (203, .iadd, 0, 0) := rfl
theorem te_256_204 : (pT M_256).find? (fun e => e.1 == 204) = some (204, .iaload, 0, 0) := rfl
theorem te_256_205 : (pT M_256).find? (fun e => e.1 == 205) = some (205, .bipush 99, 0, 0) := rfl
theorem te_256_207 : (pT M_256).find? (fun e => e.1 == 207) = some (207, .iload 5, 0, 0) := rfl
theorem te_256_209 : (pT M_256).find? (fun e => e.1 == 209) = some (209, .iload 6, 0, 0) := rfl
theorem te_256_211 : (pT M_256).find? (fun e => e.1 == 211) = some (211, .iadd, 0, 0) := rfl
theorem te_256_212 : (pT M_256).find? (fun e => e.1 == 212) = some (212, .invokestatic 170, 258, 2) := rfl
theorem te_256_215 : (pT M_256).find? (fun e => e.1 == 215) = some (215, .invokestatic 167, 257, 2) := rfl
theorem te_256_218 : (pT M_256).find? (fun e => e.1 == 218) = some (218, .iastore, 0, 0) := rfl
theorem te_256_219 : (pT M_256).find? (fun e => e.1 == 219) = some (219, .iinc 4 1, 0, 0) := rfl
theorem te_256_222 : (pT M_256).find? (fun e => e.1 == 222) = some (222, .goto (-92), 0, 0) := rfl
theorem te_256_225 : (pT M_256).find? (fun e => e.1 == 225) = some (225, .iinc 3 1, 0, 0) := rfl
theorem te_256_228 : (pT M_256).find? (fun e => e.1 == 228) = some (228, .goto (-109), 0, 0) := rfl
theorem te_256_231 : (pT M_256).find? (fun e => e.1 == 231) = some (231, .iinc 2 1, 0, 0) := rfl
theorem te_256_234 : (pT M_256).find? (fun e => e.1 == 234) = some (234, .goto (-125), 0, 0) := rfl
theorem te_256_237 : (pT M_256).find? (fun e => e.1 == 237) = some (237, .return_, 0, 0) := rfl
theorem te_259_0 : (pT M_259).find? (fun e => e.1 == 0) = some (0, .iconst 0, 0, 0) := rfl
theorem te_259_1 : (pT M_259).find? (fun e => e.1 == 1) = some (1, .istore_n 1, 0, 0) := rfl
theorem te_259_2 : (pT M_259).find? (fun e => e.1 == 2) = some (2, .iload_n 1, 0, 0) := rfl
theorem te_259_3 : (pT M_259).find? (fun e => e.1 == 3) = some (3, .aload_n 0, 0, 0) := rfl
theorem te_259_4 : (pT M_259).find? (fun e => e.1 == 4) = some (4, .getfield 108, 10, 1) := rfl
theorem te_259_7 : (pT M_259).find? (fun e => e.1 == 7) = some (7, .if_icmp .ge 25, 0, 0) := rfl
theorem te_259_10 : (pT M_259).find? (fun e => e.1 == 10) = some (10, .aload_n 0, 0, 0) := rfl
theorem te_259_11 : (pT M_259).find? (fun e => e.1 == 11) = some (11, .getfield 52, 10, 17) := rfl
theorem te_259_14 : (pT M_259).find? (fun e => e.1 == 14) = some (14, .bipush 8, 0, 0) := rfl
theorem te_259_16 : (pT M_259).find? (fun e => e.1 == 16) = some (16, .iload_n 1, 0, 0) := rfl
theorem te_259_17 : (pT M_259).find? (fun e => e.1 == 17) = some (17, .imul, 0, 0) := rfl
theorem te_259_18 : (pT M_259).find? (fun e => e.1 == 18) = some (18, .iload_n 1, 0, 0) := rfl
theorem te_259_19 : (pT M_259).find? (fun e => e.1 == 19) = some (19, .iadd, 0, 0) := rfl
theorem te_259_20 : (pT M_259).find? (fun e => e.1 == 20) = some (20, .iaload, 0, 0) := rfl
theorem te_259_21 : (pT M_259).find? (fun e => e.1 == 21) = some (21, .ifCond .le 5, 0, 0) := rfl
theorem te_259_24 : (pT M_259).find? (fun e => e.1 == 24) = some (24, .iconst 0, 0, 0) := rfl
theorem te_259_25 : (pT M_259).find? (fun e => e.1 == 25) = some (25, .ireturn, 0, 0) := rfl
theorem te_259_26 : (pT M_259).find? (fun e => e.1 == 26) = some (26, .iinc 1 1, 0, 0) := rfl
theorem te_259_29 : (pT M_259).find? (fun e => e.1 == 29) = some (29, .goto (-27), 0, 0) := rfl
theorem te_259_32 : (pT M_259).find? (fun e => e.1 == 32) = some (32, .iconst 1, 0, 0) := rfl
theorem te_259_33 : (pT M_259).find? (fun e => e.1 == 33) = some (33, .ireturn, 0, 0) := rfl
theorem w_256_0 {C : CXW} (hC : Cmono C) {S : Nat × (Nat → Int32)} {K : WK} {mem : MM} {x1 : Int} (H : (Wx C S M_256 K 2 [some (.inr 143), some (.inl x1), some (.inl 0), none, none, none, none] [] mem)) : Wx C S M_256 K 0 [some (.inr 143), some (.inl x1), none, none, none, none, none] [] mem := by
  refine Wx.iconst hC te_256_0 rfl ?_
  refine Wx.istore_n hC te_256_1 rfl ?_
  exact H
theorem w_256_2 {C : CXW} (hC : Cmono C) {S : Nat × (Nat → Int32)} {K : WK} {mem : MM} {x1 x2 : Int} (H : ((64 ≤ x2 → (Wx C S M_256 K 25 [some (.inr 143), some (.inl x1), some (.inl 0), none, none, none, none] [] mem)) ∧ (¬ (64 ≤ x2) → (0 ≤ x2 ∧ x2 < 64) ∧ (InI (x2 + 1)) ∧ (Wx C S M_256 K 2 [some (.inr 143), some (.inl x1), some (.inl (x2 + 1)), none, none, none, none] [] (upm mem 158 (Int.toNat x2) (-1000)))))) : Wx C S M_256 K 2 [some (.inr 143), some (.inl x1), some (.inl x2), none, none, none, none] [] mem := by
  refine Wx.iload_n hC te_256_2 rfl ?_
  refine Wx.bipush hC te_256_3 rfl rfl ?_
  refine Wx.icmp hC (t := 23) te_256_5 (by decide) (fun q => ?_) (fun q => ?_)
  · replace H := H.1 q
    refine Wx.iconst hC te_256_23 rfl ?_
    refine Wx.istore_n hC te_256_24 rfl ?_
    exact H
  · replace H := H.2 q
    refine Wx.aload_n hC te_256_8 rfl ?_
    refine Wx.getR hC te_256_9 rfl rfl rfl ?_
    refine Wx.iload_n hC te_256_12 rfl ?_
    refine Wx.sipush hC te_256_13 rfl rfl ?_
    refine Wx.iast hC te_256_16 rfl H.1 ?_
    replace H := H.2
    refine Wx.iinc hC te_256_17 rfl rfl H.1 ?_
    replace H := H.2
    refine Wx.goto hC (t := 2) te_256_20 (by decide) ?_
    exact H
theorem w_256_25 {C : CXW} (hC : Cmono C) {S : Nat × (Nat → Int32)} {K : WK} {mem : MM} {x1 x2 : Int} (H : ∀ v1 : Int, v1 = mem 143 12 → InI v1 → ((v1 ≤ x2 → (Wx C S M_256 K 109 [some (.inr 143), some (.inl x1), some (.inl 0), none, none, none, none] [] mem)) ∧ (¬ (v1 ≤ x2) → ∀ v2 : Int, v2 = mem 143 18 → InI v2 → ((x2 = v2 → (InI (x2 + 1)) ∧ (Wx C S M_256 K 25 [some (.inr 143), some (.inl x1), some (.inl (x2 + 1)), none, none, none, none] [] mem)) ∧ (¬ (x2 = v2) → (0 ≤ x2 ∧ x2 < 48) ∧ ∀ v3 : Int, v3 = mem 154 (Int.toNat x2) → InI v3 → (InI (8 * v3)) ∧ (0 ≤ x2 ∧ x2 < 48) ∧ ∀ v4 : Int, v4 = mem 155 (Int.toNat x2) → InI v4 → (InI ((8 * v3) + v4)) ∧ (0 ≤ x2 ∧ x2 < 48) ∧ ∀ v5 : Int, v5 = mem 154 (Int.toNat x2) → InI v5 → (InI (8 * v5)) ∧ (0 ≤ x2 ∧ x2 < 48) ∧ ∀ v6 : Int, v6 = mem 155 (Int.toNat x2) → InI v6 → (InI ((8 * v5) + v6)) ∧ (0 ≤ ((8 * v5) + v6) ∧ ((8 * v5) + v6) < 64) ∧ ∀ v7 : Int, v7 = mem 158 (Int.toNat ((8 * v5) + v6)) → InI v7 → (0 ≤ x2 ∧ x2 < 48) ∧ ∀ v8 : Int, v8 = mem 157 (Int.toNat x2) → InI v8 → (0 ≤ x2 ∧ x2 < 48) ∧ ∀ v9 : Int, v9 = mem 156 (Int.toNat x2) → InI v9 → (InI (x1 * v9)) ∧ (InI (v8 - (x1 * v9))) ∧ (CWI C 257 [.inl v7, .inl (v8 - (x1 * v9))] mem fun r11 m10 => InI r11 → (0 ≤ ((8 * v3) + v4) ∧ ((8 * v3) + v4) < 64) ∧ (InI (x2 + 1)) ∧ (Wx C S M_256 K 25 [some (.inr 143), some (.inl x1), some (.inl (x2 + 1)), none, none, none, none] [] (upm m10 158 (Int.toNat ((8 * v3) + v4)) r11)))))))) : Wx C S M_256 K 25 [some (.inr 143), some (.inl x1), some (.inl x2), none, none, none, none] [] mem := by
  refine Wx.iload_n hC te_256_25 rfl ?_
  refine Wx.aload_n hC te_256_26 rfl ?_
  refine Wx.getI hC te_256_27 rfl rfl rfl (fun v1 e1 e2 => ?_)
  replace H := H v1 e1 e2
  refine Wx.icmp hC (t := 107) te_256_30 (by decide) (fun q => ?_) (fun q => ?_)
  · replace H := H.1 q
    refine Wx.iconst hC te_256_107 rfl ?_
    refine Wx.istore_n hC te_256_108 rfl ?_
    exact H
  · replace H := H.2 q
    refine Wx.iload_n hC te_256_33 rfl ?_
    refine Wx.aload_n hC te_256_34 rfl ?_
    refine Wx.getI hC te_256_35 rfl rfl rfl (fun v2 e1 e2 => ?_)
    replace H := H v2 e1 e2
    refine Wx.icmp hC (t := 101) te_256_38 (by decide) (fun q => ?_) (fun q => ?_)
    · replace H := H.1 q
      refine Wx.iinc hC te_256_101 rfl rfl H.1 ?_
      replace H := H.2
      refine Wx.goto hC (t := 25) te_256_104 (by decide) ?_
      exact H
    · replace H := H.2 q
      refine Wx.aload_n hC te_256_41 rfl ?_
      refine Wx.getR hC te_256_42 rfl rfl rfl ?_
      refine Wx.bipush hC te_256_45 rfl rfl ?_
      refine Wx.aload_n hC te_256_47 rfl ?_
      refine Wx.getR hC te_256_48 rfl rfl rfl ?_
      refine Wx.iload_n hC te_256_51 rfl ?_
      refine Wx.iald hC te_256_52 rfl H.1 (fun v3 e1 e2 => ?_)
      replace H := H.2 v3 e1 e2
      refine Wx.imul hC te_256_53 H.1 ?_
      replace H := H.2
      refine Wx.aload_n hC te_256_54 rfl ?_
      refine Wx.getR hC te_256_55 rfl rfl rfl ?_
      refine Wx.iload_n hC te_256_58 rfl ?_
      refine Wx.iald hC te_256_59 rfl H.1 (fun v4 e1 e2 => ?_)
      replace H := H.2 v4 e1 e2
      refine Wx.iadd hC te_256_60 H.1 ?_
      replace H := H.2
      refine Wx.aload_n hC te_256_61 rfl ?_
      refine Wx.getR hC te_256_62 rfl rfl rfl ?_
      refine Wx.bipush hC te_256_65 rfl rfl ?_
      refine Wx.aload_n hC te_256_67 rfl ?_
      refine Wx.getR hC te_256_68 rfl rfl rfl ?_
      refine Wx.iload_n hC te_256_71 rfl ?_
      refine Wx.iald hC te_256_72 rfl H.1 (fun v5 e1 e2 => ?_)
      replace H := H.2 v5 e1 e2
      refine Wx.imul hC te_256_73 H.1 ?_
      replace H := H.2
      refine Wx.aload_n hC te_256_74 rfl ?_
      refine Wx.getR hC te_256_75 rfl rfl rfl ?_
      refine Wx.iload_n hC te_256_78 rfl ?_
      refine Wx.iald hC te_256_79 rfl H.1 (fun v6 e1 e2 => ?_)
      replace H := H.2 v6 e1 e2
      refine Wx.iadd hC te_256_80 H.1 ?_
      replace H := H.2
      refine Wx.iald hC te_256_81 rfl H.1 (fun v7 e1 e2 => ?_)
      replace H := H.2 v7 e1 e2
      refine Wx.aload_n hC te_256_82 rfl ?_
      refine Wx.getR hC te_256_83 rfl rfl rfl ?_
      refine Wx.iload_n hC te_256_86 rfl ?_
      refine Wx.iald hC te_256_87 rfl H.1 (fun v8 e1 e2 => ?_)
      replace H := H.2 v8 e1 e2
      refine Wx.iload_n hC te_256_88 rfl ?_
      refine Wx.aload_n hC te_256_89 rfl ?_
      refine Wx.getR hC te_256_90 rfl rfl rfl ?_
      refine Wx.iload_n hC te_256_93 rfl ?_
      refine Wx.iald hC te_256_94 rfl H.1 (fun v9 e1 e2 => ?_)
      replace H := H.2 v9 e1 e2
      refine Wx.imul hC te_256_95 H.1 ?_
      replace H := H.2
      refine Wx.isub hC te_256_96 H.1 ?_
      replace H := H.2
      refine Wx.statI hC te_256_97 (by decide) mt_257 (args := [.inl v7, .inl (v8 - (x1 * v9))]) (rest := [.inl ((8 * v3) + v4), .inr 158]) rfl rfl rfl rfl rfl ?_
      refine CWI.mono hC (fun r11 m10 H hy => ?_) H
      replace H := H hy
      refine Wx.iast hC te_256_100 rfl H.1 ?_
      replace H := H.2
      refine Wx.iinc hC te_256_101 rfl rfl H.1 ?_
      replace H := H.2
      refine Wx.goto hC (t := 25) te_256_104 (by decide) ?_
      exact H
theorem w_256_109 {C : CXW} (hC : Cmono C) {S : Nat × (Nat → Int32)} {K : WK} {mem : MM} {x1 x2 : Int} (H : ∀ v1 : Int, v1 = mem 143 1 → InI v1 → ((v1 ≤ x2 → (K none mem)) ∧ (¬ (v1 ≤ x2) → (Wx C S M_256 K 119 [some (.inr 143), some (.inl x1), some (.inl x2), some (.inl 0), none, none, none] [] mem)))) : Wx C S M_256 K 109 [some (.inr 143), some (.inl x1), some (.inl x2), none, none, none, none] [] mem := by
  refine Wx.iload_n hC te_256_109 rfl ?_
  refine Wx.aload_n hC te_256_110 rfl ?_
  refine Wx.getI hC te_256_111 rfl rfl rfl (fun v1 e1 e2 => ?_)
  replace H := H v1 e1 e2
  refine Wx.icmp hC (t := 237) te_256_114 (by decide) (fun q => ?_) (fun q => ?_)
  · replace H := H.1 q
    exact Wx.vret hC te_256_237 rfl H
  · replace H := H.2 q
    refine Wx.iconst hC te_256_117 rfl ?_
    refine Wx.istore_n hC te_256_118 rfl ?_
    exact H
theorem w_256_119 {C : CXW} (hC : Cmono C) {S : Nat × (Nat → Int32)} {K : WK} {mem : MM} {x1 x2 x3 : Int} (H : ∀ v1 : Int, v1 = mem 143 1 → InI v1 → ((v1 ≤ x3 → (InI (x2 + 1)) ∧ (Wx C S M_256 K 109 [some (.inr 143), some (.inl x1), some (.inl (x2 + 1)), none, none, none, none] [] mem)) ∧ (¬ (v1 ≤ x3) → (Wx C S M_256 K 130 [some (.inr 143), some (.inl x1), some (.inl x2), some (.inl x3), some (.inl 0), none, none] [] mem)))) : Wx C S M_256 K 119 [some (.inr 143), some (.inl x1), some (.inl x2), some (.inl x3), none, none, none] [] mem := by
  refine Wx.iload_n hC te_256_119 rfl ?_
  refine Wx.aload_n hC te_256_120 rfl ?_
  refine Wx.getI hC te_256_121 rfl rfl rfl (fun v1 e1 e2 => ?_)
  replace H := H v1 e1 e2
  refine Wx.icmp hC (t := 231) te_256_124 (by decide) (fun q => ?_) (fun q => ?_)
  · replace H := H.1 q
    refine Wx.iinc hC te_256_231 rfl rfl H.1 ?_
    replace H := H.2
    refine Wx.goto hC (t := 109) te_256_234 (by decide) ?_
    exact Wx.weak (by repeat' (first | exact trivial | exact rfl | constructor)) H
  · replace H := H.2 q
    refine Wx.iconst hC te_256_127 rfl ?_
    refine Wx.istore hC te_256_128 rfl ?_
    exact H
theorem w_256_130 {C : CXW} (hC : Cmono C) {S : Nat × (Nat → Int32)} {K : WK} {mem : MM} {x1 x2 x3 x4 : Int} (H : ∀ v1 : Int, v1 = mem 143 1 → InI v1 → ((v1 ≤ x4 → (InI (x3 + 1)) ∧ (Wx C S M_256 K 119 [some (.inr 143), some (.inl x1), some (.inl x2), some (.inl (x3 + 1)), none, none, none] [] mem)) ∧ (¬ (v1 ≤ x4) → (InI (8 * x3)) ∧ (InI ((8 * x3) + x2)) ∧ (0 ≤ ((8 * x3) + x2) ∧ ((8 * x3) + x2) < 64) ∧ ∀ v2 : Int, v2 = mem 158 (Int.toNat ((8 * x3) + x2)) → InI v2 → (InI (8 * x2)) ∧ (InI ((8 * x2) + x4)) ∧ (0 ≤ ((8 * x2) + x4) ∧ ((8 * x2) + x4) < 64) ∧ ∀ v3 : Int, v3 = mem 158 (Int.toNat ((8 * x2) + x4)) → InI v3 → ((v2 ≤ (-1000) → (InI (x4 + 1)) ∧ (Wx C S M_256 K 130 [some (.inr 143), some (.inl x1), some (.inl x2), some (.inl x3), some (.inl (x4 + 1)), none, none] [] mem)) ∧ (¬ (v2 ≤ (-1000)) → ((v3 ≤ (-1000) → (InI (x4 + 1)) ∧ (Wx C S M_256 K 130 [some (.inr 143), some (.inl x1), some (.inl x2), some (.inl x3), some (.inl (x4 + 1)), none, none] [] mem)) ∧ (¬ (v3 ≤ (-1000)) → (InI (8 * x3)) ∧ (InI ((8 * x3) + x4)) ∧ (InI (8 * x3)) ∧ (InI ((8 * x3) + x4)) ∧ (0 ≤ ((8 * x3) + x4) ∧ ((8 * x3) + x4) < 64) ∧ ∀ v4 : Int, v4 = mem 158 (Int.toNat ((8 * x3) + x4)) → InI v4 → (InI (v2 + v3)) ∧ (CWI C 258 [.inl 99, .inl (v2 + v3)] mem fun r6 m5 => InI r6 → (CWI C 257 [.inl v4, .inl r6] m5 fun r8 m7 => InI r8 → (0 ≤ ((8 * x3) + x4) ∧ ((8 * x3) + x4) < 64) ∧ (InI (x4 + 1)) ∧ (Wx C S M_256 K 130 [some (.inr 143), some (.inl x1), some (.inl x2), some (.inl x3), some (.inl (x4 + 1)), none, none] [] (upm m7 158 (Int.toNat ((8 * x3) + x4)) r8))))))))))) : Wx C S M_256 K 130 [some (.inr 143), some (.inl x1), some (.inl x2), some (.inl x3), some (.inl x4), none, none] [] mem := by
  refine Wx.iload hC te_256_130 rfl ?_
  refine Wx.aload_n hC te_256_132 rfl ?_
  refine Wx.getI hC te_256_133 rfl rfl rfl (fun v1 e1 e2 => ?_)
  replace H := H v1 e1 e2
  refine Wx.icmp hC (t := 225) te_256_136 (by decide) (fun q => ?_) (fun q => ?_)
  · replace H := H.1 q
    refine Wx.iinc hC te_256_225 rfl rfl H.1 ?_
    replace H := H.2
    refine Wx.goto hC (t := 119) te_256_228 (by decide) ?_
    exact Wx.weak (by repeat' (first | exact trivial | exact rfl | constructor)) H
  · replace H := H.2 q
    refine Wx.aload_n hC te_256_139 rfl ?_
    refine Wx.getR hC te_256_140 rfl rfl rfl ?_
    refine Wx.bipush hC te_256_143 rfl rfl ?_
    refine Wx.iload_n hC te_256_145 rfl ?_
    refine Wx.imul hC te_256_146 H.1 ?_
    replace H := H.2
    refine Wx.iload_n hC te_256_147 rfl ?_
    refine Wx.iadd hC te_256_148 H.1 ?_
    replace H := H.2
    refine Wx.iald hC te_256_149 rfl H.1 (fun v2 e1 e2 => ?_)
    replace H := H.2 v2 e1 e2
    refine Wx.istore hC te_256_150 rfl ?_
    refine Wx.aload_n hC te_256_152 rfl ?_
    refine Wx.getR hC te_256_153 rfl rfl rfl ?_
    refine Wx.bipush hC te_256_156 rfl rfl ?_
    refine Wx.iload_n hC te_256_158 rfl ?_
    refine Wx.imul hC te_256_159 H.1 ?_
    replace H := H.2
    refine Wx.iload hC te_256_160 rfl ?_
    refine Wx.iadd hC te_256_162 H.1 ?_
    replace H := H.2
    refine Wx.iald hC te_256_163 rfl H.1 (fun v3 e1 e2 => ?_)
    replace H := H.2 v3 e1 e2
    refine Wx.istore hC te_256_164 rfl ?_
    refine Wx.iload hC te_256_166 rfl ?_
    refine Wx.sipush hC te_256_168 rfl rfl ?_
    refine Wx.icmp hC (t := 219) te_256_171 (by decide) (fun q => ?_) (fun q => ?_)
    · replace H := H.1 q
      refine Wx.iinc hC te_256_219 rfl rfl H.1 ?_
      replace H := H.2
      refine Wx.goto hC (t := 130) te_256_222 (by decide) ?_
      exact Wx.weak (by repeat' (first | exact trivial | exact rfl | constructor)) H
    · replace H := H.2 q
      refine Wx.iload hC te_256_174 rfl ?_
      refine Wx.sipush hC te_256_176 rfl rfl ?_
      refine Wx.icmp hC (t := 219) te_256_179 (by decide) (fun q => ?_) (fun q => ?_)
      · replace H := H.1 q
        refine Wx.iinc hC te_256_219 rfl rfl H.1 ?_
        replace H := H.2
        refine Wx.goto hC (t := 130) te_256_222 (by decide) ?_
        exact Wx.weak (by repeat' (first | exact trivial | exact rfl | constructor)) H
      · replace H := H.2 q
        refine Wx.aload_n hC te_256_182 rfl ?_
        refine Wx.getR hC te_256_183 rfl rfl rfl ?_
        refine Wx.bipush hC te_256_186 rfl rfl ?_
        refine Wx.iload_n hC te_256_188 rfl ?_
        refine Wx.imul hC te_256_189 H.1 ?_
        replace H := H.2
        refine Wx.iload hC te_256_190 rfl ?_
        refine Wx.iadd hC te_256_192 H.1 ?_
        replace H := H.2
        refine Wx.aload_n hC te_256_193 rfl ?_
        refine Wx.getR hC te_256_194 rfl rfl rfl ?_
        refine Wx.bipush hC te_256_197 rfl rfl ?_
        refine Wx.iload_n hC te_256_199 rfl ?_
        refine Wx.imul hC te_256_200 H.1 ?_
        replace H := H.2
        refine Wx.iload hC te_256_201 rfl ?_
        refine Wx.iadd hC te_256_203 H.1 ?_
        replace H := H.2
        refine Wx.iald hC te_256_204 rfl H.1 (fun v4 e1 e2 => ?_)
        replace H := H.2 v4 e1 e2
        refine Wx.bipush hC te_256_205 rfl rfl ?_
        refine Wx.iload hC te_256_207 rfl ?_
        refine Wx.iload hC te_256_209 rfl ?_
        refine Wx.iadd hC te_256_211 H.1 ?_
        replace H := H.2
        refine Wx.statI hC te_256_212 (by decide) mt_258 (args := [.inl 99, .inl (v2 + v3)]) (rest := [.inl v4, .inl ((8 * x3) + x4), .inr 158]) rfl rfl rfl rfl rfl ?_
        refine CWI.mono hC (fun r6 m5 H hy => ?_) H
        replace H := H hy
        refine Wx.statI hC te_256_215 (by decide) mt_257 (args := [.inl v4, .inl r6]) (rest := [.inl ((8 * x3) + x4), .inr 158]) rfl rfl rfl rfl rfl ?_
        refine CWI.mono hC (fun r8 m7 H hy => ?_) H
        replace H := H hy
        refine Wx.iast hC te_256_218 rfl H.1 ?_
        replace H := H.2
        refine Wx.iinc hC te_256_219 rfl rfl H.1 ?_
        replace H := H.2
        refine Wx.goto hC (t := 130) te_256_222 (by decide) ?_
        exact Wx.weak (by repeat' (first | exact trivial | exact rfl | constructor)) H
theorem w_259_0 {C : CXW} (hC : Cmono C) {S : Nat × (Nat → Int32)} {K : WK} {mem : MM} (H : (Wx C S M_259 K 2 [some (.inr 143), some (.inl 0)] [] mem)) : Wx C S M_259 K 0 [some (.inr 143), none] [] mem := by
  refine Wx.iconst hC te_259_0 rfl ?_
  refine Wx.istore_n hC te_259_1 rfl ?_
  exact H
theorem w_259_2 {C : CXW} (hC : Cmono C) {S : Nat × (Nat → Int32)} {K : WK} {mem : MM} {x1 : Int} (H : ∀ v1 : Int, v1 = mem 143 1 → InI v1 → ((v1 ≤ x1 → (K (some 1) mem)) ∧ (¬ (v1 ≤ x1) → (InI (8 * x1)) ∧ (InI ((8 * x1) + x1)) ∧ (0 ≤ ((8 * x1) + x1) ∧ ((8 * x1) + x1) < 64) ∧ ∀ v2 : Int, v2 = mem 158 (Int.toNat ((8 * x1) + x1)) → InI v2 → ((v2 ≤ 0 → (InI (x1 + 1)) ∧ (Wx C S M_259 K 2 [some (.inr 143), some (.inl (x1 + 1))] [] mem)) ∧ (¬ (v2 ≤ 0) → (K (some 0) mem)))))) : Wx C S M_259 K 2 [some (.inr 143), some (.inl x1)] [] mem := by
  refine Wx.iload_n hC te_259_2 rfl ?_
  refine Wx.aload_n hC te_259_3 rfl ?_
  refine Wx.getI hC te_259_4 rfl rfl rfl (fun v1 e1 e2 => ?_)
  replace H := H v1 e1 e2
  refine Wx.icmp hC (t := 32) te_259_7 (by decide) (fun q => ?_) (fun q => ?_)
  · replace H := H.1 q
    refine Wx.iconst hC te_259_32 rfl ?_
    exact Wx.bret hC te_259_33 rfl (Or.inr rfl) H
  · replace H := H.2 q
    refine Wx.aload_n hC te_259_10 rfl ?_
    refine Wx.getR hC te_259_11 rfl rfl rfl ?_
    refine Wx.bipush hC te_259_14 rfl rfl ?_
    refine Wx.iload_n hC te_259_16 rfl ?_
    refine Wx.imul hC te_259_17 H.1 ?_
    replace H := H.2
    refine Wx.iload_n hC te_259_18 rfl ?_
    refine Wx.iadd hC te_259_19 H.1 ?_
    replace H := H.2
    refine Wx.iald hC te_259_20 rfl H.1 (fun v2 e1 e2 => ?_)
    replace H := H.2 v2 e1 e2
    refine Wx.ifc hC (t := 26) te_259_21 (by decide) (fun q => ?_) (fun q => ?_)
    · replace H := H.1 q
      refine Wx.iinc hC te_259_26 rfl rfl H.1 ?_
      replace H := H.2
      refine Wx.goto hC (t := 2) te_259_29 (by decide) ?_
      exact H
    · replace H := H.2 q
      refine Wx.iconst hC te_259_24 rfl ?_
      exact Wx.bret hC te_259_25 rfl (Or.inl rfl) H
theorem w_255_0 {C : CXW} (hC : Cmono C) {S : Nat × (Nat → Int32)} {K : WK} {mem : MM} (H : (CWV C 256 [.inr 143, .inl 0] mem fun m1 => (Wx C S M_255 K 7 [some (.inr 143), some (.inl 0)] [] m1))) : Wx C S M_255 K 0 [some (.inr 143), none] [] mem := by
  refine Wx.iconst hC te_255_0 rfl ?_
  refine Wx.istore_n hC te_255_1 rfl ?_
  refine Wx.aload_n hC te_255_2 rfl ?_
  refine Wx.iload_n hC te_255_3 rfl ?_
  refine Wx.virtV hC te_255_4 mt_256 (args := [.inr 143, .inl 0]) (rest := []) rfl rfl rfl rfl rfl rfl rfl rfl ?_
  refine CWV.mono hC (fun m1 H => ?_) H
  exact H
theorem w_255_7 {C : CXW} (hC : Cmono C) {S : Nat × (Nat → Int32)} {K : WK} {mem : MM} {x1 : Int} (H : (CWI C 259 [.inr 143] mem fun r2 m1 => InI r2 → ((¬ r2 = 0 → (InI x1 → K (some x1) m1)) ∧ (¬ (¬ r2 = 0) → (InI (x1 + 1)) ∧ (CWV C 256 [.inr 143, .inl (x1 + 1)] m1 fun m3 => (Wx C S M_255 K 7 [some (.inr 143), some (.inl (x1 + 1))] [] m3)))))) : Wx C S M_255 K 7 [some (.inr 143), some (.inl x1)] [] mem := by
  refine Wx.aload_n hC te_255_7 rfl ?_
  refine Wx.virtI hC te_255_8 mt_259 (args := [.inr 143]) (rest := []) rfl rfl rfl rfl rfl rfl rfl rfl ?_
  refine CWI.mono hC (fun r2 m1 H hy => ?_) H
  replace H := H hy
  refine Wx.ifc hC (t := 25) te_255_11 (by decide) (fun q => ?_) (fun q => ?_)
  · replace H := H.1 q
    refine Wx.iload_n hC te_255_25 rfl ?_
    exact Wx.ireturn hC te_255_26 rfl H
  · replace H := H.2 q
    refine Wx.iinc hC te_255_14 rfl rfl H.1 ?_
    replace H := H.2
    refine Wx.aload_n hC te_255_17 rfl ?_
    refine Wx.iload_n hC te_255_18 rfl ?_
    refine Wx.virtV hC te_255_19 mt_256 (args := [.inr 143, .inl (x1 + 1)]) (rest := []) rfl rfl rfl rfl rfl rfl rfl rfl ?_
    refine CWV.mono hC (fun m3 H => ?_) H
    refine Wx.goto hC (t := 7) te_255_22 (by decide) ?_
    exact H
theorem w_254_0 {C : CXW} (hC : Cmono C) {S : Nat × (Nat → Int32)} {K : WK} {mem : MM} {x1 : Int} (H : (CWI C 240 [.inr 143] mem fun r2 m1 => InI r2 → ((¬ r2 = 0 → (CWV C 245 [.inr 143] m1 fun m3 => (CWI C 255 [.inr 143] m3 fun r5 m4 => InI r5 → ((r5 ≤ x1 → (K (some 0) m4)) ∧ (¬ (r5 ≤ x1) → (K (some 1) m4)))))) ∧ (¬ (¬ r2 = 0) → (K (some 1) m1))))) : Wx C S M_254 K 0 [some (.inr 143), some (.inl x1)] [] mem := by
  refine Wx.aload_n hC te_254_0 rfl ?_
  refine Wx.virtI hC te_254_1 mt_240 (args := [.inr 143]) (rest := []) rfl rfl rfl rfl rfl rfl rfl rfl ?_
  refine CWI.mono hC (fun r2 m1 H hy => ?_) H
  replace H := H hy
  refine Wx.ifc hC (t := 9) te_254_4 (by decide) (fun q => ?_) (fun q => ?_)
  · replace H := H.1 q
    refine Wx.aload_n hC te_254_9 rfl ?_
    refine Wx.virtV hC te_254_10 mt_245 (args := [.inr 143]) (rest := []) rfl rfl rfl rfl rfl rfl rfl rfl ?_
    refine CWV.mono hC (fun m3 H => ?_) H
    refine Wx.iload_n hC te_254_13 rfl ?_
    refine Wx.aload_n hC te_254_14 rfl ?_
    refine Wx.virtI hC te_254_15 mt_255 (args := [.inr 143]) (rest := [.inl x1]) rfl rfl rfl rfl rfl rfl rfl rfl ?_
    refine CWI.mono hC (fun r5 m4 H hy => ?_) H
    replace H := H hy
    refine Wx.icmp hC (t := 25) te_254_18 (by decide) (fun q => ?_) (fun q => ?_)
    · replace H := H.1 q
      refine Wx.iconst hC te_254_25 rfl ?_
      exact Wx.bret hC te_254_26 rfl (Or.inl rfl) H
    · replace H := H.2 q
      refine Wx.iconst hC te_254_21 rfl ?_
      refine Wx.goto hC (t := 26) te_254_22 (by decide) ?_
      exact Wx.bret hC te_254_26 rfl (Or.inr rfl) H
  · replace H := H.2 q
    refine Wx.iconst hC te_254_7 rfl ?_
    exact Wx.bret hC te_254_8 rfl (Or.inr rfl) H
end
section
/-! three loops that draw all ways: what holds in them -/
def WM (m : MM) (A : Nat) : Nat → Nat → Int := fun a b => m A (8 * a + b)
def Aup (E : Nat → Nat → Int → Prop) : Prop := ∀ a p b v, p.Nodup → (∀ c ∈ p, c < 8) → Wk E a p b v → v ≤ 99
def PotE (E : Nat → Nat → Int → Prop) (φ : Nat → Int) : Prop := ∀ a b x, E a b x → φ a + x ≤ φ b
def FwI (R : Int) (E : Nat → Nat → Int → Prop) (A k : Nat) (mem : MM) (m a b : Nat) : Prop :=
  (∀ a' b', a' < k → b' < k → -R ≤ WM mem A a' b' ∧ WM mem A a' b' ≤ R) ∧
  (Aup E → ∀ a' b', a' < k → b' < k → Low E m (WM mem A) a' b') ∧
  (Aup E → ∀ a' b', a' < k → b' < k → (a' < a ∨ (a' = a ∧ b' < b)) → Low E (m + 1) (WM mem A) a' b') ∧
  (∀ φ, PotE E φ → ∀ a' b', a' < k → b' < k → -1000 < WM mem A a' b' → φ a' + WM mem A a' b' ≤ φ b') ∧
  (∀ a' b' x, a' < k → b' < k → E a' b' x → x ≤ WM mem A a' b')
def Fr1 (A : Nat) (m m' : MM) : Prop := ∀ B i, ¬ B = A → m' B i = m B i
theorem Fr1.rf {A : Nat} {m : MM} : Fr1 A m m := fun _ _ _ => rfl
theorem Fr1.tr {A : Nat} {a b c : MM} (h1 : Fr1 A a b) (h2 : Fr1 A b c) : Fr1 A a c := fun B i e => (h2 B i e).trans (h1 B i e)
theorem Fr1.up {A i : Nat} {m : MM} {x : Int} : Fr1 A m (upm m A i x) := fun B j e => upm_ne (fun q => e q.1)
section FWI
variable {R : Int} {E : Nat → Nat → Int → Prop} {A k : Nat} {mem : MM} {m a b : Nat}
theorem ix8 {a b : Nat} : (8 * (a : Int) + (b : Int)).toNat = 8 * a + b := by omega
theorem WM_up {i j : Nat} {x : Int} (hb : b < 8) (hj : j < 8) : WM (upm mem A (8 * a + b) x) A i j = if i = a ∧ j = b then x else WM mem A i j := by
  unfold WM upm
  by_cases h : i = a ∧ j = b
  · rw [if_pos ⟨rfl, by omega⟩, if_pos h]
  · rw [if_neg (fun q => h (by omega)), if_neg h]
theorem Low.mono {W W' : Nat → Nat → Int} (h : Low E m W a b) (hw : W a b ≤ W' a b) : Low E m W' a b := fun p v h1 h2 h3 h4 => Int.le_trans (h p v h1 h2 h3 h4) hw
theorem FwI.skip (h : FwI R E A k mem m a b) (hm : m < k) (ha : a < k) (hb : b < k) (hg : WM mem A a m ≤ -1000 ∨ WM mem A m b ≤ -1000) : FwI R E A k mem m a (b + 1) := by
  obtain ⟨h1, h2, h3, h4, h5⟩ := h
  refine ⟨h1, h2, fun hu a' b' ha' hb' hl => ?_, h4, h5⟩
  by_cases q : a' < a ∨ (a' = a ∧ b' < b)
  · exact h3 hu a' b' ha' hb' q
  · have e1 : a' = a := by omega
    have e2 : b' = b := by omega
    subst e1
    subst e2
    intro p v n1 n2 n3 n4
    rcases Low.piv (fun a b x hx => hu a [] b x List.nodup_nil (fun c hc => by cases hc) hx) (h2 hu a' b' ha hb) (h2 hu a' m ha hm) (h2 hu m b' hm hb) n1 n2 n3 n4 with g | ⟨g1, g2, -⟩
    · exact g
    · omega
theorem FwI.upd (h : FwI R E A k mem m a b) (hR : 99 ≤ R) (hk : k ≤ 8) (hm : m < k) (ha : a < k) (hb : b < k) (g1 : -1000 < WM mem A a m) (g2 : -1000 < WM mem A m b) : FwI R E A k (upm mem A (8 * a + b) (max (WM mem A a b) (min 99 (WM mem A a m + WM mem A m b)))) m a (b + 1) := by
  obtain ⟨h1, h2, h3, h4, h5⟩ := h
  have r0 := h1 a b ha hb
  have r1 := h1 a m ha hm
  have r2 := h1 m b hm hb
  have ew : ∀ i j, j < 8 → WM (upm mem A (8 * a + b) (max (WM mem A a b) (min 99 (WM mem A a m + WM mem A m b)))) A i j = if i = a ∧ j = b then max (WM mem A a b) (min 99 (WM mem A a m + WM mem A m b)) else WM mem A i j := fun i j hj => WM_up (by omega) hj
  have ge : ∀ i j, j < 8 → WM mem A i j ≤ WM (upm mem A (8 * a + b) (max (WM mem A a b) (min 99 (WM mem A a m + WM mem A m b)))) A i j := fun i j hj => by
    rw [ew i j hj]
    split
    · rename_i q; obtain ⟨rfl, rfl⟩ := q; omega
    · exact Int.le_refl _
  refine ⟨fun i j hi hj => ?_, fun hu i j hi hj => (h2 hu i j hi hj).mono (ge i j (by omega)), fun hu i j hi hj hl => ?_, fun φ hφ i j hi hj => ?_, fun i j x hi hj hx => Int.le_trans (h5 i j x hi hj hx) (ge i j (by omega))⟩
  · rw [ew i j (by omega)]
    split
    · omega
    · exact h1 i j hi hj
  · by_cases q : i < a ∨ (i = a ∧ j < b)
    · exact (h3 hu i j hi hj q).mono (ge i j (by omega))
    · have e1 : i = a := by omega
      have e2 : j = b := by omega
      subst e1
      subst e2
      intro p v n1 n2 n3 n4
      rw [ew i j (by omega), if_pos ⟨rfl, rfl⟩]
      have hv := hu i p j v n1 (fun c hc => by have := n2 c hc; omega) n3
      rcases Low.piv (fun a b x hx => hu a [] b x List.nodup_nil (fun c hc => by cases hc) hx) (h2 hu i j ha hb) (h2 hu i m ha hm) (h2 hu m j hm hb) n1 n2 n3 n4 with g | ⟨-, -, g, -⟩
      · omega
      · omega
  · rw [ew i j (by omega)]
    have p0 := h4 φ hφ a b ha hb
    have p1 := h4 φ hφ a m ha hm g1
    have p2 := h4 φ hφ m b hm hb g2
    split
    · rename_i q
      obtain ⟨rfl, rfl⟩ := q
      intro hz
      omega
    · exact h4 φ hφ i j hi hj
theorem FwI.nextA (h : FwI R E A k mem m a k) : FwI R E A k mem m (a + 1) 0 := ⟨h.1, h.2.1, fun hu i j hi hj _ => h.2.2.1 hu i j hi hj (by omega), h.2.2.2⟩
theorem FwI.nextM {b : Nat} (h : FwI R E A k mem m k b) : FwI R E A k mem (m + 1) 0 0 := ⟨h.1, fun hu i j hi hj => h.2.2.1 hu i j hi hj (Or.inl hi), fun hu i j hi hj q => by omega, h.2.2.2⟩
end FWI
def NdE (m : MM) (d : Int) (a b : Nat) (x : Int) : Prop := ∃ j : Nat, (j : Int) < m 143 12 ∧ ¬ (j : Int) = m 143 18 ∧ m 154 j = a ∧ m 155 j = b ∧ x = m 157 j - d * m 156 j
def NdsOK (m : MM) : Prop := (0 ≤ m 143 1 ∧ m 143 1 ≤ 8) ∧ (0 ≤ m 143 12 ∧ m 143 12 ≤ 48) ∧ NdAll (PN (m 143 1)) m (m 143 12)
def WayOK (m : MM) (d : Int) : Prop := FwI 5000 (NdE m d) 158 (m 143 1).toNat m (m 143 1).toNat 0 0
theorem NdE.fr {m m' : MM} (h : Fr1 158 m m') (d : Int) : NdE m' d = NdE m d := by
  funext a b x
  unfold NdE
  simp only [h 143 12 (by omega), h 143 18 (by omega)]
  have e : ∀ B j, (B = 154 ∨ B = 155 ∨ B = 156 ∨ B = 157) → m' B j = m B j := fun B j q => h B j (by omega)
  simp only [e 154 _ (by omega), e 155 _ (by omega), e 156 _ (by omega), e 157 _ (by omega)]
theorem NdsOK.fr {m m' : MM} (h : Fr1 158 m m') (H : NdsOK m) : NdsOK m' := by
  refine ⟨by rw [h 143 1 (by omega)]; exact H.1, by rw [h 143 12 (by omega)]; exact H.2.1, fun j hj => ?_⟩
  rw [h 143 12 (by omega)] at hj
  rw [h 143 1 (by omega), h 154 j (by omega), h 155 j (by omega), h 156 j (by omega), h 157 j (by omega)]
  exact H.2.2 j hj
theorem dmul {d x : Int} (hd : 0 ≤ d ∧ d ≤ 48) (hx : 0 ≤ x ∧ x ≤ 7) : 0 ≤ d * x ∧ d * x ≤ 336 := by
  have h1 := Int.mul_nonneg hd.1 hx.1
  have h2 := Int.mul_le_mul hd.2 hx.2 hx.1 (by omega)
  omega
theorem NdE.rng {m : MM} (H : NdsOK m) {d : Int} (hd : 0 ≤ d ∧ d ≤ 48) {a b : Nat} {x : Int} (h : NdE m d a b x) : (a : Int) < m 143 1 ∧ (b : Int) < m 143 1 ∧ -341 ≤ x ∧ x ≤ 6 := by
  obtain ⟨j, h1, -, h2, h3, h4⟩ := h
  obtain ⟨p1, p2, p3, p4, p5, p6, p7, p8, -⟩ := H.2.2 j h1
  have := dmul hd ⟨p5, p6⟩
  omega
theorem NdE.aup {m : MM} (H : NdsOK m) {d : Int} (hd : 0 ≤ d ∧ d ≤ 48) : Aup (NdE m d) := by
  intro a p b v h1 h2 h3
  have := Wk.le6 (c := 6) (by omega) (fun a b x h => (NdE.rng H hd h).2.2.2) h3
  have := nd_len h1 h2
  omega
section WAYS
variable {S : Nat × (Nat → Int32)} {n : Nat} {m0 : MM} {d : Int}
theorem lw_130 (hN : NdsOK m0) (hd : 0 ≤ d ∧ d ≤ 48) {Kk : WK} (H : ∀ m', Fr1 158 m0 m' → WayOK m' d → Kk none m') : ∀ (N : Nat) (m a b : Nat) (mem : MM), (m : Int) < m0 143 1 → (a : Int) < m0 143 1 → (b : Int) ≤ m0 143 1 → 81 * (m0 143 1 - m) + 9 * (m0 143 1 - a) + (m0 143 1 - b) < N → Fr1 158 m0 mem → FwI 5000 (NdE m0 d) 158 (m0 143 1).toNat mem m a b → Wx (Ex S (n + 1)) S M_256 Kk 130 [some (.inr 143), some (.inl d), some (.inl (m : Int)), some (.inl (a : Int)), some (.inl (b : Int)), none, none] [] mem := by
  intro N
  induction N with
  | zero => intros; omega
  | succ N ih =>
    intro m a b mem hm ha hb hNN hF hI
    have h8 := hN.1
    have eops : mem 143 1 = m0 143 1 := hF _ _ (by omega)
    have go : ∀ mem', Fr1 158 mem mem' → (b : Int) < m0 143 1 → FwI 5000 (NdE m0 d) 158 (m0 143 1).toNat mem' m a (b + 1) → InI ((b : Int) + 1) ∧ Wx (Ex S (n + 1)) S M_256 Kk 130 [some (.inr 143), some (.inl d), some (.inl (m : Int)), some (.inl (a : Int)), some (.inl ((b : Int) + 1)), none, none] [] mem' := fun mem' h1 h2 h3 => ⟨by unfold InI; omega, ih m a (b + 1) mem' hm ha (by omega) (by omega) (hF.tr h1) h3⟩
    refine w_256_130 (Ex.mono S (n + 1)) (fun v e _ => ⟨fun q => ⟨by unfold InI; omega, ?_⟩, fun q => ?_⟩)
    · rw [show b = (m0 143 1).toNat by omega] at hI
      have hI := hI.nextA
      refine w_256_119 (Ex.mono S (n + 1)) (fun v e _ => ⟨fun q2 => ⟨by unfold InI; omega, ?_⟩, fun q2 => ?_⟩)
      · rw [show a + 1 = (m0 143 1).toNat by omega] at hI
        have hI := hI.nextM
        refine w_256_109 (Ex.mono S (n + 1)) (fun v e _ => ⟨fun q3 => H mem hF ?_, fun q3 => ?_⟩)
        · unfold WayOK
          rw [NdE.fr hF, eops]
          rw [show m + 1 = (m0 143 1).toNat by omega] at hI
          exact hI
        · refine w_256_119 (Ex.mono S (n + 1)) (fun v e _ => ⟨fun q4 => by omega, fun q4 => ?_⟩)
          exact ih (m + 1) 0 0 mem (by omega) (by omega) (by omega) (by omega) hF hI
      · exact ih m (a + 1) 0 mem hm (by omega) (by omega) (by omega) hF hI
    · have hb2 : (b : Int) < m0 143 1 := by omega
      have r1 := hI.1 a m (by omega) (by omega)
      have r2 := hI.1 m b (by omega) (by omega)
      have r0 := hI.1 a b (by omega) (by omega)
      have hi : ∀ x y : Nat, (x : Int) < m0 143 1 → (y : Int) < m0 143 1 → InI (8 * (x : Int)) ∧ InI (8 * (x : Int) + y) ∧ (0 ≤ 8 * (x : Int) + y ∧ 8 * (x : Int) + y < 64) := fun x y h1 h2 => by unfold InI; omega
      obtain ⟨i1, i2, i3⟩ := hi a m ha hm
      obtain ⟨j1, j2, j3⟩ := hi m b hm hb2
      obtain ⟨k1, k2, k3⟩ := hi a b ha hb2
      refine ⟨i1, i2, i3, fun v2 e2 _ => ⟨j1, j2, j3, fun v3 e3 _ => ?_⟩⟩
      have e2 : v2 = WM mem 158 a m := by rw [e2, ix8]; rfl
      have e3 : v3 = WM mem 158 m b := by rw [e3, ix8]; rfl
      refine ⟨fun q2 => go mem Fr1.rf hb2 (hI.skip (by omega) (by omega) (by omega) (Or.inl (by omega))), fun q2 => ⟨fun q3 => go mem Fr1.rf hb2 (hI.skip (by omega) (by omega) (by omega) (Or.inr (by omega))), fun q3 => ⟨k1, k2, k1, k2, k3, fun v4 e4 _ => ⟨by unfold InI; omega, ?_⟩⟩⟩⟩
      have e4 : v4 = WM mem 158 a b := by rw [e4, ix8]; rfl
      refine f_258 (fun _ _ => f_257 (fun _ _ => ⟨k3, ?_⟩))
      rw [ix8, e2, e3, e4]
      exact go _ Fr1.up hb2 (hI.upd (by omega) (by omega) (by omega) (by omega) (by omega) (by omega) (by omega))
theorem lw_25 (hN : NdsOK m0) (hd : 0 ≤ d ∧ d ≤ 48) {Kk : WK} (H : ∀ m', Fr1 158 m0 m' → WayOK m' d → Kk none m') : ∀ (N : Nat) (k : Nat) (mem : MM), (k : Int) ≤ m0 143 12 → m0 143 12 - k < N → Fr1 158 m0 mem → (∀ a' b', a' < 8 → b' < 8 → -1000 ≤ WM mem 158 a' b' ∧ WM mem 158 a' b' ≤ 99) → (∀ j : Nat, (j : Int) < k → ¬ (j : Int) = m0 143 18 → ∀ a b : Nat, m0 154 j = a → m0 155 j = b → m0 157 j - d * m0 156 j ≤ WM mem 158 a b) → (∀ φ, PotE (NdE m0 d) φ → ∀ a' b', a' < 8 → b' < 8 → -1000 < WM mem 158 a' b' → φ a' + WM mem 158 a' b' ≤ φ b') → Wx (Ex S (n + 1)) S M_256 Kk 25 [some (.inr 143), some (.inl d), some (.inl (k : Int)), none, none, none, none] [] mem := by
  intro N
  induction N with
  | zero => intros; omega
  | succ N ih =>
    intro k mem hk hNN hF hR hL hU
    have h8 := hN.1
    have h48 := hN.2.1
    have eops : mem 143 1 = m0 143 1 := hF _ _ (by omega)
    have end_ : m0 143 12 ≤ k → FwI 5000 (NdE m0 d) 158 (m0 143 1).toNat mem 0 0 0 := fun hk2 => by
      refine ⟨fun a' b' ha hb => by have := hR a' b' (by omega) (by omega); omega, fun hu a' b' ha hb p v n1 n2 n3 n4 => ?_, fun hu a' b' ha hb q => by omega, fun φ hφ a' b' ha hb => hU φ hφ a' b' (by omega) (by omega), fun a' b' x ha hb hx => by
        obtain ⟨j, g1, g2, g3, g4, g5⟩ := hx
        rw [g5]
        exact hL j (by omega) g2 a' b' g3 g4⟩
      cases p with
      | nil =>
        obtain ⟨j, g1, g2, g3, g4, g5⟩ := n3
        rw [g5]
        exact hL j (by omega) g2 a' b' g3 g4
      | cons c p => exact absurd (n2 c List.mem_cons_self) (by omega)
    refine w_256_25 (Ex.mono S (n + 1)) (fun v e _ => ⟨fun q => ?_, fun q v2 e2 _ => ?_⟩)
    · have e : v = m0 143 12 := by rw [e]; exact hF _ _ (by omega)
      have hI := end_ (by omega)
      refine w_256_109 (Ex.mono S (n + 1)) (fun v e _ => ⟨fun q3 => H mem hF ?_, fun q3 => ?_⟩)
      · unfold WayOK
        rw [NdE.fr hF, eops, show (m0 143 1).toNat = 0 by omega]
        rw [show (m0 143 1).toNat = 0 by omega] at hI
        exact hI
      · refine w_256_119 (Ex.mono S (n + 1)) (fun v e _ => ⟨fun q4 => by omega, fun q4 => ?_⟩)
        exact lw_130 hN hd H (81 * 8 + 9 * 8 + 8 + 1) 0 0 0 mem (by omega) (by omega) (by omega) (by omega) hF hI
    · have e : v = m0 143 12 := by rw [e]; exact hF _ _ (by omega)
      have e2 : v2 = m0 143 18 := by rw [e2]; exact hF _ _ (by omega)
      refine ⟨fun q2 => ⟨by unfold InI; omega, ih (k + 1) mem (by omega) (by omega) hF hR (fun j h1 h2 a b h3 h4 => hL j (by omega) h2 a b h3 h4) hU⟩, fun q2 => ?_⟩
      have hk48 : 0 ≤ (k : Int) ∧ (k : Int) < 48 := by omega
      obtain ⟨p1, p2, p3, p4, p5, p6, p7, p8, p9⟩ := hN.2.2 k (by omega)
      have f4 : mem 154 k = m0 154 k := hF _ _ (by omega)
      have f5 : mem 155 k = m0 155 k := hF _ _ (by omega)
      have f6 : mem 156 k = m0 156 k := hF _ _ (by omega)
      have f7 : mem 157 k = m0 157 k := hF _ _ (by omega)
      have dm := dmul hd ⟨p5, p6⟩
      refine ⟨hk48, fun v3 e3 _ => ?_⟩
      rw [Int.toNat_natCast, f4] at e3
      refine ⟨by unfold InI; omega, hk48, fun v4 e4 _ => ?_⟩
      rw [Int.toNat_natCast, f5] at e4
      refine ⟨by unfold InI; omega, hk48, fun v5 e5 _ => ?_⟩
      rw [Int.toNat_natCast, f4] at e5
      refine ⟨by unfold InI; omega, hk48, fun v6 e6 _ => ?_⟩
      rw [Int.toNat_natCast, f5] at e6
      refine ⟨by unfold InI; omega, by omega, fun v7 e7 _ => ⟨hk48, fun v8 e8 _ => ?_⟩⟩
      rw [Int.toNat_natCast, f7] at e8
      refine ⟨hk48, fun v9 e9 _ => ?_⟩
      rw [Int.toNat_natCast, f6] at e9
      subst e9
      refine ⟨by unfold InI; omega, by unfold InI; omega, f_257 (fun _ _ => ⟨by omega, by unfold InI; omega, ?_⟩)⟩
      obtain ⟨a, ha⟩ : ∃ a : Nat, m0 154 k = a := ⟨(m0 154 k).toNat, by omega⟩
      obtain ⟨b, hb⟩ : ∃ b : Nat, m0 155 k = b := ⟨(m0 155 k).toNat, by omega⟩
      have e7 : v7 = WM mem 158 a b := by rw [e7, e5, e6, ha, hb, ix8]; rfl
      rw [show (8 * v3 + v4).toNat = 8 * a + b by omega, e7, e8]
      have r0 := hR a b (by omega) (by omega)
      have ew : ∀ i j, j < 8 → WM (upm mem 158 (8 * a + b) (max (WM mem 158 a b) (m0 157 k - d * m0 156 k))) 158 i j = if i = a ∧ j = b then max (WM mem 158 a b) (m0 157 k - d * m0 156 k) else WM mem 158 i j := fun i j hj => WM_up (by omega) hj
      refine ih (k + 1) _ (by omega) (by omega) (hF.tr Fr1.up) (fun i j hi hj => ?_) (fun j h1 h2 a' b' h3 h4 => ?_) (fun φ hφ i j hi hj => ?_)
      · rw [ew i j hj]
        split
        · omega
        · exact hR i j hi hj
      · obtain ⟨-, -, -, t4, -⟩ := hN.2.2 j (by omega)
        rw [ew a' b' (by omega)]
        by_cases hjk : j = k
        · subst hjk
          rw [if_pos (by omega)]; omega
        · have := hL j (by omega) h2 a' b' h3 h4
          split
          · rename_i z; obtain ⟨rfl, rfl⟩ := z; omega
          · exact this
      · have hp := hφ a b _ ⟨k, by omega, by omega, ha, hb, rfl⟩
        have h0 := hU φ hφ a b (by omega) (by omega)
        rw [ew i j hj]
        split
        · rename_i z
          obtain ⟨rfl, rfl⟩ := z
          intro _
          omega
        · exact hU φ hφ i j hi hj
theorem f_256 {K : MM → Prop} (hN : NdsOK m0) (hd : 0 ≤ d ∧ d ≤ 48) (H : ∀ m', Fr1 158 m0 m' → WayOK m' d → K m') : CWV (Ex S (n + 2)) 256 [.inr 143, .inl d] m0 K := by
  refine CW.of (k := 5) mt_256 rfl rfl (w_256_0 (Ex.mono S (n + 1)) ?_)
  have key : ∀ (N : Nat) (k : Nat) (mem : MM), k ≤ 64 → 64 - k < N → Fr1 158 m0 mem → (∀ i, i < k → mem 158 i = -1000) → Wx (Ex S (n + 1)) S M_256 (fun r m => r = none ∧ K m) 2 [some (.inr 143), some (.inl d), some (.inl (k : Int)), none, none, none, none] [] mem := by
    intro N
    induction N with
    | zero => intros; omega
    | succ N ih =>
      intro k mem hk hNN hF hA
      refine w_256_2 (Ex.mono S (n + 1)) ⟨fun q => ?_, fun q => ⟨by omega, by unfold InI; omega, ?_⟩⟩
      · have hW : ∀ a b, a < 8 → b < 8 → WM mem 158 a b = -1000 := fun a b ha hb => hA _ (by omega)
        exact lw_25 hN hd (fun m' h1 h2 => ⟨rfl, H m' h1 h2⟩) 49 0 mem (by have := hN.2.1; omega) (by have := hN.2.1; omega) hF (fun a b ha hb => by rw [hW a b ha hb]; omega) (fun j h1 => by omega) (fun φ _ a b ha hb h => by rw [hW a b ha hb] at h; omega)
      · refine ih (k + 1) _ (by omega) (by omega) (hF.tr Fr1.up) (fun i hi => ?_)
        rw [Int.toNat_natCast]
        by_cases e : i = k
        · subst e; exact upm_eq
        · rw [upm_ne (fun q => e q.2)]; exact hA i (by omega)
  exact key 65 0 m0 (by omega) (by omega) Fr1.rf (fun i hi => by omega)
end WAYS
end
section
/-! rounds: the least d that rings leave; isLess -/
def FrW (m m' : MM) : Prop := ∀ A i, ¬ A = 154 → ¬ A = 155 → ¬ A = 156 → ¬ A = 157 → ¬ A = 158 → ¬ (A = 143 ∧ i = 12) → m' A i = m A i
theorem FrW.rf {m : MM} : FrW m m := fun _ _ _ _ _ _ _ _ => rfl
theorem FrW.tr {a b c : MM} (h1 : FrW a b) (h2 : FrW b c) : FrW a c := fun A i e1 e2 e3 e4 e5 e6 => (h2 A i e1 e2 e3 e4 e5 e6).trans (h1 A i e1 e2 e3 e4 e5 e6)
theorem FrN.w {a b : MM} (h : FrN a b) : FrW a b := fun A i e1 e2 e3 e4 _ e6 => h A i e1 e2 e3 e4 e6
theorem Fr1.w {a b : MM} (h : Fr1 158 a b) : FrW a b := fun A i _ _ _ _ e5 _ => h A i e5
section ROUND
variable {S : Nat × (Nat → Int32)} {n : Nat} {mem : MM} {K : Int → MM → Prop}
theorem f_259 (h8 : 0 ≤ mem 143 1 ∧ mem 143 1 ≤ 8) (H1 : (∀ o : Nat, (o : Int) < mem 143 1 → WM mem 158 o o ≤ 0) → K 1 mem) (H0 : ¬ (∀ o : Nat, (o : Int) < mem 143 1 → WM mem 158 o o ≤ 0) → K 0 mem) : CWI (Ex S (n + 1)) 259 [.inr 143] mem K := by
  refine CW.of (k := 1) mt_259 rfl rfl (w_259_0 (Ex.mono S n) ?_)
  have key : ∀ (N : Nat) (o : Nat), (o : Int) ≤ mem 143 1 → mem 143 1 - o < N → (∀ o2 : Nat, o2 < o → WM mem 158 o2 o2 ≤ 0) → Wx (Ex S n) S M_259 (fun r m => ∃ y, r = some y ∧ K y m) 2 [some (.inr 143), some (.inl (o : Int))] [] mem := by
    intro N
    induction N with
    | zero => intros; omega
    | succ N ih =>
      intro o ho hN hA
      refine w_259_2 (Ex.mono S n) (fun v e _ => ⟨fun q => ⟨_, rfl, H1 (fun o2 h2 => hA o2 (by omega))⟩, fun q => ⟨by unfold InI; omega, by unfold InI; omega, by omega, fun v2 e2 _ => ?_⟩⟩)
      have e2 : v2 = WM mem 158 o o := by rw [e2, ix8]; rfl
      refine ⟨fun q2 => ⟨by unfold InI; omega, ih (o + 1) (by omega) (by omega) (fun o2 h2 => ?_)⟩, fun q2 => ⟨_, rfl, H0 (fun h => ?_)⟩⟩
      · by_cases e3 : o2 = o
        · subst e3; omega
        · exact hA o2 (by omega)
      · have := h o (by omega); omega
  exact key 9 0 (by omega) (by omega) (fun o2 h => by omega)
theorem diag48 {m : MM} (hN : NdsOK m) (hW : WayOK m 48) (o : Nat) (ho : (o : Int) < m 143 1) : WM m 158 o o ≤ 0 := by
  have hφ : PotE (NdE m 48) (fun b => 6 * (b : Int)) := by
    rintro a b x ⟨j, g1, -, g3, g4, g5⟩
    obtain ⟨p1, p2, p3, p4, p5, p6, p7, p8, p9⟩ := hN.2.2 j g1
    have h8 := hN.1
    show 6 * (a : Int) + x ≤ 6 * (b : Int)
    omega
  by_cases h : -1000 < WM m 158 o o
  · have : 6 * (o : Int) + WM m 158 o o ≤ 6 * (o : Int) := hW.2.2.2.1 _ hφ o o (by omega) (by omega) h
    omega
  · omega
theorem f_255 (hN : NdsOK mem) (H : ∀ r m', 0 ≤ r → r ≤ 48 → Fr1 158 mem m' → K r m') : CWI (Ex S (n + 3)) 255 [.inr 143] mem K := by
  have key : ∀ (N : Nat) (d : Int) (m : MM), 0 ≤ d → d ≤ 48 → 48 - d < N → Fr1 158 mem m → WayOK m d → Wx (Ex S (n + 2)) S M_255 (fun r m => ∃ y, r = some y ∧ K y m) 7 [some (.inr 143), some (.inl d)] [] m := by
    intro N
    induction N with
    | zero => intros; omega
    | succ N ih =>
      intro d m hd1 hd2 hNN hF hW
      have hN2 := hN.fr hF
      refine w_255_7 (Ex.mono S (n + 2)) (f_259 hN2.1 (fun _ _ => ⟨fun _ _ => ⟨_, rfl, H d m hd1 hd2 hF⟩, fun q => absurd (by decide) q⟩) (fun hno _ => ⟨fun q => absurd rfl q, fun _ => ?_⟩))
      have hd3 : d < 48 := by
        by_cases e : d = 48
        · subst e
          exact absurd (fun o ho => diag48 hN2 hW o ho) hno
        · omega
      refine ⟨by unfold InI; omega, f_256 hN2 ⟨by omega, by omega⟩ (fun m' h1 h2 => ?_)⟩
      exact ih (d + 1) m' (by omega) (by omega) (by omega) (hF.tr h1) h2
  exact CW.of (k := 1) mt_255 rfl rfl (w_255_0 (Ex.mono S (n + 2)) (f_256 hN ⟨by omega, by omega⟩ (fun m' h1 h2 => key 49 0 m' (by omega) (by omega) (by omega) h1 h2)))
theorem NdsOK.of {m m' : MM} (hO : OpsOK m) (h : FrN m m') (h1 : 0 ≤ m' 143 12) (h2 : m' 143 12 ≤ 44) (h3 : NdAll (PN (m 143 1)) m' (m' 143 12)) : NdsOK m' := by
  have e : m' 143 1 = m 143 1 := h _ _ (by omega) (by omega) (by omega) (by omega) (by omega)
  exact ⟨by rw [e]; exact hO.1, ⟨h1, by omega⟩, by rw [e]; exact h3⟩
def RN (m m' : MM) : Prop := R4 m m' ∧ (0 ≤ m 143 12 ∧ m 143 12 ≤ 44 → 0 ≤ m' 143 12 ∧ m' 143 12 ≤ 44)
theorem RN.rf {m : MM} : RN m m := ⟨R4.rf, fun h => h⟩
theorem RN.tr {a b c : MM} (h1 : RN a b) (h2 : RN b c) : RN a c := ⟨h1.1.tr h2.1, fun h => h2.2 (h1.2 h)⟩
theorem RN.same {m m' : MM} (h : ∀ A i, A = 154 ∨ A = 155 ∨ A = 156 ∨ A = 157 → m' A i = m A i) (h2 : m' 143 12 = m 143 12) : RN m m' := ⟨R4.same h, fun q => by rw [h2]; exact q⟩
theorem Fr1.rn {A : Nat} {m m' : MM} (h : Fr1 A m m') (hA : 157 < A) : RN m m' := RN.same (fun B i e => h B i (by omega)) (h _ _ (by omega))
theorem f_254 {d : Int} (hO : OpsOK mem) (H1 : ∀ m', FrW mem m' → RN mem m' → K 1 m') (H0 : ∀ m', FrW mem m' → RN mem m' → SoundM mem → NdsOK m' → m' 143 12 ≤ 44 → K 0 m') : CWI (Ex S (n + 4)) 254 [.inr 143, .inl d] mem K := by
  refine CW.of (k := 0) mt_254 rfl rfl (w_254_0 (Ex.mono S (n + 3)) (f_240 hO (fun hS _ => ⟨fun _ => ?_, fun q => absurd (by decide) q⟩) (fun _ _ => ⟨fun q => absurd rfl q, fun _ => ⟨_, rfl, H1 mem FrW.rf RN.rf⟩⟩)))
  refine f_245 hO hS (fun m1 g1 g5 g2 g3 g4 => ?_)
  have hRN : RN mem m1 := ⟨g5, fun _ => ⟨g2, g3⟩⟩
  have hN := NdsOK.of hO g1 g2 g3 g4
  refine f_255 hN (fun r m2 r1 r2 k1 _ => ⟨fun q => ⟨_, rfl, H0 m2 (g1.w.tr k1.w) (hRN.tr (k1.rn (by omega))) hS (hN.fr k1) ?_⟩, fun q => ⟨_, rfl, H1 m2 (g1.w.tr k1.w) (hRN.tr (k1.rn (by omega)))⟩⟩)
  rw [k1 143 12 (by omega)]; exact g3
end ROUND
end
