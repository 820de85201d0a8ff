/-! laysNeeds: there are no more than 44, and each that is of no distance goes up -/
def smN (f : Nat → Nat) : Nat → Nat
  | 0 => 0
  | k + 1 => smN f k + f k
theorem smN_add (f g : Nat → Nat) : ∀ k, smN (fun i => f i + g i) k = smN f k + smN g k
  | 0 => rfl
  | k + 1 => by simp only [smN]; rw [smN_add f g k]; omega
theorem smN_le {f : Nat → Nat} {c : Nat} : ∀ k, (∀ i, i < k → f i ≤ c) → smN f k ≤ c * k
  | 0, _ => by simp [smN]
  | k + 1, h => by
    have := smN_le k (fun i hi => h i (by omega))
    have := h k (by omega)
    simp only [smN]
    rw [Nat.mul_succ]; omega
theorem smN_up {f : Nat → Nat} {a b : Nat} (h : a ≤ b) : smN f a ≤ smN f b := by
  induction b with
  | zero => rw [show a = 0 by omega]; exact Nat.le_refl _
  | succ b ih =>
    by_cases hb : a = b + 1
    · rw [hb]; exact Nat.le_refl _
    · have := ih (by omega)
      simp only [smN]; omega
theorem tri28 {T : Nat → Nat} (t0 : T 0 = 0) (step : ∀ k, T (k + 1) ≤ T k + k) (k : Nat) (hk : k ≤ 8) : T k ≤ 28 := by
  have t1 : T 1 ≤ T 0 + 0 := step 0
  have t2 : T 2 ≤ T 1 + 1 := step 1
  have t3 : T 3 ≤ T 2 + 2 := step 2
  have t4 : T 4 ≤ T 3 + 3 := step 3
  have t5 : T 5 ≤ T 4 + 4 := step 4
  have t6 : T 6 ≤ T 5 + 5 := step 5
  have t7 : T 7 ≤ T 6 + 6 := step 6
  have t8 : T 8 ≤ T 7 + 7 := step 7
  match k, hk with
  | 0, _ => omega
  | 1, _ => omega
  | 2, _ => omega
  | 3, _ => omega
  | 4, _ => omega
  | 5, _ => omega
  | 6, _ => omega
  | 7, _ => omega
  | 8, _ => omega
/-- pairs of which at most one counts -/
theorem pairs28 {c : Nat → Nat → Nat} (h0 : ∀ a, c a a = 0) (h1 : ∀ a b, c a b + c b a ≤ 1) : ∀ k, k ≤ 8 → smN (fun s => smN (c s) k) k ≤ 28 := by
  have step : ∀ k, smN (fun s => smN (c s) (k + 1)) (k + 1) ≤ smN (fun s => smN (c s) k) k + k := by
    intro k
    have e : smN (fun s => smN (c s) (k + 1)) (k + 1) = smN (fun s => smN (c s) k + c s k) k + (smN (c k) k + c k k) := rfl
    rw [e, smN_add, h0]
    have e2 := smN_add (fun s => c s k) (c k) k
    have e3 := smN_le (f := fun i => c i k + c k i) (c := 1) k (fun i _ => h1 i k)
    omega
  exact fun k hk => tri28 (T := fun k => smN (fun s => smN (c s) k) k) rfl step k hk
def cNd (m : MM) (s o : Nat) : Nat := if m 144 s = 5 ∧ ¬ o = s ∧ (m 144 o = 4 ∨ (m 144 o = 5 ∧ (plcF m o < plcF m s ∨ (plcF m s = plcF m o ∧ s < o)))) then 1 else 0
theorem cNd_le (m : MM) (s o : Nat) : cNd m s o ≤ 1 := by unfold cNd; split <;> omega
theorem cNd_self (m : MM) (a : Nat) : cNd m a a = 0 := by unfold cNd; rw [if_neg (fun q => q.2.1 rfl)]
theorem cNd_anti (m : MM) (a b : Nat) : cNd m a b + cNd m b a ≤ 1 := by
  unfold cNd
  split
  · rename_i h
    split
    · rename_i h2
      exfalso
      omega
    · omega
  · split <;> omega
/-- what is so of each need -/
def PN (c a b d l : Int) : Prop := 0 ≤ a ∧ a < c ∧ 0 ≤ b ∧ b < c ∧ 0 ≤ d ∧ d ≤ 7 ∧ -5 ≤ l ∧ l ≤ 6 ∧ (1 ≤ d ∨ a < b)
theorem FrN.ops {m m' : MM} (h : FrN m m') (H : OpsOK m) : OpsOK m' := by
  have e : ∀ A i, (A = 144 ∨ A = 145 ∨ A = 146 ∨ A = 147 ∨ A = 148 ∨ A = 151) → m' A i = m A i := fun A i q => h A i (by omega) (by omega) (by omega) (by omega) (by omega)
  refine ⟨by rw [h 143 1 (by omega) (by omega) (by omega) (by omega) (by omega)]; exact H.1, fun o ho => ?_, fun k hk => by rw [e 151 k (by omega)]; exact H.2.2 k hk⟩
  have := H.2.1 o ho
  unfold OpOK at this ⊢
  rw [e 144 o (by omega), e 145 o (by omega), e 146 o (by omega), e 147 o (by omega), e 148 o (by omega)]
  exact this
section LAYS
variable {S : Nat × (Nat → Int32)} {n : Nat} {m0 : MM}
theorem ln_86 (hO : OpsOK m0) {Kk : WK} (H : ∀ m', FrN m0 m' → R4 m0 m' → 0 ≤ m' 143 12 → m' 143 12 ≤ 44 → NdAll (PN (m0 143 1)) m' (m' 143 12) → Kk none m') : ∀ (N : Nat) (s o : Nat) (mem : MM), (s : Int) < m0 143 1 → (o : Int) ≤ m0 143 1 → (9 * (m0 143 1 - s) + (9 - o)).toNat < N → FrN m0 mem → R4 m0 mem → 0 ≤ mem 143 12 → mem 143 12 ≤ 16 + smN (fun s => smN (cNd m0 s) (m0 143 1).toNat) s + smN (cNd m0 s) o → NdAll (PN (m0 143 1)) mem (mem 143 12) → Wx (Ex S (n + 2)) S M_245 Kk 86 [some (.inr 143), some (.inl (s : Int)), some (.inl (o : Int)), none, none, none] [] mem := by
  intro N
  induction N with
  | zero => intros; omega
  | succ N ih =>
    intro s o mem hs ho hN hF hR4 hn0 hn1 hA
    have hO2 := hF.ops hO
    have h8 := hO.1
    have eops : mem 143 1 = m0 143 1 := hF _ _ (by omega) (by omega) (by omega) (by omega) (by omega)
    have e144 : ∀ i, mem 144 i = m0 144 i := fun i => hF _ _ (by omega) (by omega) (by omega) (by omega) (by omega)
    have e146 : ∀ i, mem 146 i = m0 146 i := fun i => hF _ _ (by omega) (by omega) (by omega) (by omega) (by omega)
    have e148 : ∀ i, mem 148 i = m0 148 i := fun i => hF _ _ (by omega) (by omega) (by omega) (by omega) (by omega)
    have epl : ∀ i, plcF mem i = plcF m0 i := fun i => by unfold plcF; rw [e144, e146, e148]
    have elat : ∀ i, latF mem i = latF m0 i := fun i => by
      unfold latF
      rw [e144]
      exact hF _ _ (by omega) (by omega) (by omega) (by omega) (by omega)
    have hs8 : 0 ≤ (s : Int) ∧ (s : Int) < 8 := by omega
    -- the next of s
    have outer : Wx (Ex S (n + 2)) S M_245 Kk 76 [some (.inr 143), some (.inl ((s : Int) + 1)), none, none, none, none] [] mem := by
      have hle : smN (cNd m0 s) o ≤ smN (cNd m0 s) (m0 143 1).toNat := smN_up (by omega)
      have hn2 : mem 143 12 ≤ 16 + smN (fun s => smN (cNd m0 s) (m0 143 1).toNat) (s + 1) := by simp only [smN]; omega
      refine w_245_76 (Ex.mono S (n + 2)) (fun v e _ => ⟨fun q => H mem hF hR4 hn0 ?_ hA, fun q => ?_⟩)
      · have := pairs28 (cNd_self m0) (cNd_anti m0) (m0 143 1).toNat (by omega)
        rw [show s + 1 = (m0 143 1).toNat by omega] at hn2
        omega
      · exact ih (s + 1) 0 mem (by omega) (by omega) (by omega) hF hR4 hn0 (by simp only [smN] at hn2 ⊢; omega) hA
    -- the next of o
    have inner : ∀ m', FrN mem m' → R4 mem m' → 0 ≤ m' 143 12 → m' 143 12 ≤ mem 143 12 + cNd m0 s o → NdAll (PN (m0 143 1)) m' (m' 143 12) → (o : Int) < m0 143 1 → InI ((o : Int) + 1) ∧ Wx (Ex S (n + 2)) S M_245 Kk 86 [some (.inr 143), some (.inl (s : Int)), some (.inl ((o : Int) + 1)), none, none, none] [] m' := fun m' h1 hr h2 h3 h4 h5 => by
      refine ⟨by unfold InI; omega, ih s (o + 1) m' hs (by omega) (by omega) (hF.tr h1) (hR4.tr hr) h2 ?_ h4⟩
      simp only [smN]; omega
    refine w_245_86 (Ex.mono S (n + 2)) (fun v e _ => ⟨fun q => ⟨by unfold InI; omega, outer⟩, fun q => ⟨hs8, fun v2 e2 _ => ⟨fun q2 => ⟨by unfold InI; omega, outer⟩, fun q2 => ?_⟩⟩⟩)
    have ho2 : (o : Int) < m0 143 1 := by omega
    have ho8 : 0 ≤ (o : Int) ∧ (o : Int) < 8 := by omega
    have same := inner mem FrN.rf R4.rf hn0 (by omega) hA ho2
    refine ⟨fun q3 => same, fun q3 => ?_⟩
    have ks : m0 144 s = 5 := by
      have := e144 s
      simp only [Int.toNat_natCast] at e2
      omega
    refine f_249 ho8 (fun q4 _ => ⟨fun q5 => same, fun _ => ?_⟩) (fun _ _ _ => ⟨fun _ => same, fun q5 => absurd rfl q5⟩)
    refine f_250 ho8 (fun _ => f_250 hs8 (fun _ => ⟨fun q5 => ?_, fun q5 => same⟩))
    refine f_251 hs8 (fun _ => f_251 ho8 (fun _ => ?_))
    simp only [Int.toNat_natCast] at q4 ⊢
    have hps : 0 ≤ plcF mem s ∧ plcF mem s ≤ 7 := by
      obtain ⟨-, -, -, h4, h5⟩ := hO2.2.1 s (by omega)
      have := h5 (by rw [e144]; exact ks)
      unfold plcF; rw [if_neg (by rw [e144]; omega)]; omega
    have hpo : 0 ≤ plcF mem o ∧ plcF mem o ≤ 7 := by
      obtain ⟨-, -, -, h4, h5⟩ := hO2.2.1 o (by omega)
      unfold plcF
      split
      · have := h4 (by assumption); omega
      · have := h5 (by omega); omega
    have hls := hO2.lat (o := s) (by omega)
    have c48 : mem 143 12 < 48 := by
      have h1 := pairs28 (cNd_self m0) (cNd_anti m0) (m0 143 1).toNat (by omega)
      have h2 : smN (cNd m0 s) o ≤ smN (cNd m0 s) (m0 143 1).toNat := smN_up (by omega)
      have h3 : smN (fun s => smN (cNd m0 s) (m0 143 1).toNat) (s + 1) ≤ smN (fun s => smN (cNd m0 s) (m0 143 1).toNat) (m0 143 1).toNat := smN_up (by omega)
      simp only [smN] at h3
      omega
    -- a need comes
    have put : ∀ a b d l : Int, PN (m0 143 1) a b d l → cNd m0 s o = 1 → CWV (Ex S (n + 2)) 247 [.inr 143, .inl a, .inl b, .inl d, .inl l] mem fun m' => InI ((o : Int) + 1) ∧ Wx (Ex S (n + 2)) S M_245 Kk 86 [some (.inr 143), some (.inl (s : Int)), some (.inl ((o : Int) + 1)), none, none, none] [] m' := fun a b d l hp hc =>
      f_247 (P := PN (m0 143 1)) ⟨hn0, c48⟩ hp (by unfold PN at hp; unfold Rg; omega) hA (fun m' h1 hr h2 h3 h4 => inner m' h1 hr (by omega) (by omega) h4 ho2)
    have sub7 : ∀ x y : Int, 0 ≤ x ∧ x ≤ 7 → 0 ≤ y ∧ y ≤ 7 → InI (x - y) := fun x y h1 h2 => by unfold InI; omega
    have at170 : ∀ ah : Int, (ah = 1 ∧ (plcF m0 o < plcF m0 s ∨ (plcF m0 s = plcF m0 o ∧ s < o))) ∨ (ah = 0 ∧ ¬ (plcF m0 o < plcF m0 s ∨ (plcF m0 s = plcF m0 o ∧ s < o))) → Wx (Ex S (n + 2)) S M_245 Kk 170 [some (.inr 143), some (.inl (s : Int)), some (.inl (o : Int)), some (.inl (plcF mem s)), some (.inl (plcF mem o)), some (.inl ah)] [] mem := by
      intro ah hah
      have kE := e144 o
      have pE := epl o
      have pS := epl s
      have nso : ¬ o = s := by omega
      have c4 : m0 144 o = 4 → cNd m0 s o = 1 := fun h => by unfold cNd; rw [if_pos ⟨ks, nso, Or.inl h⟩]
      have c5 : m0 144 o = 5 → ah = 1 → cNd m0 s o = 1 := fun h h2 => by unfold cNd; rw [if_pos ⟨ks, nso, Or.inr ⟨h, by omega⟩⟩]
      refine w_245_170 (Ex.mono S (n + 2)) ⟨ho8, fun v1 g1 _ => ⟨fun z1 => ⟨ho8, fun v2 g2 _ => ⟨fun z2 => ⟨fun z3 => same, fun z3 => ⟨sub7 _ _ hps hpo, put _ _ _ _ ?_ ?_⟩⟩, fun z2 => ?_⟩⟩, fun z1 => ⟨fun z2 => ⟨ho8, fun v2 g2 _ => ⟨fun z3 => ?_, fun z3 => ⟨sub7 _ _ hpo hps, f_246 hO2 hs8 (fun _ => ⟨?_, put _ _ _ _ ?_ ?_⟩)⟩⟩⟩, fun z2 => ⟨sub7 _ _ hps hpo, f_246 hO2 hs8 (fun _ => put _ _ _ _ ?_ ?_)⟩⟩⟩⟩
      · simp only [Int.toNat_natCast] at g1 g2; unfold PN; omega
      · simp only [Int.toNat_natCast] at g1 g2; exact c5 (by omega) (by omega)
      · exfalso; omega
      · exfalso; omega
      · simp only [Int.toNat_natCast]; unfold InI; omega
      · simp only [Int.toNat_natCast] at g1 g2 ⊢; unfold PN; omega
      · simp only [Int.toNat_natCast] at g1 g2; exact c4 (by omega)
      · simp only [Int.toNat_natCast] at g1 ⊢; unfold PN; omega
      · simp only [Int.toNat_natCast] at g1; exact c4 (by omega)
    have pE := epl o
    have pS := epl s
    exact w_245_146 (Ex.mono S (n + 2)) ⟨fun z => at170 1 (Or.inl ⟨rfl, by omega⟩), fun z => ⟨fun z2 => at170 0 (Or.inr ⟨rfl, by omega⟩), fun z2 => ⟨fun z3 => at170 0 (Or.inr ⟨rfl, by omega⟩), fun z3 => at170 1 (Or.inl ⟨rfl, by omega⟩)⟩⟩⟩
theorem ln_17 (hO : OpsOK m0) (hS : SoundM m0) {Kk : WK} (H : ∀ m', FrN m0 m' → R4 m0 m' → 0 ≤ m' 143 12 → m' 143 12 ≤ 44 → NdAll (PN (m0 143 1)) m' (m' 143 12) → Kk none m') : ∀ (N : Nat) (o : Nat) (k : Int) (mem : MM), (o : Int) < m0 143 1 → 0 ≤ k → k ≤ 2 → (3 * (m0 143 1 - o) + (3 - k)).toNat < N → FrN m0 mem → R4 m0 mem → 0 ≤ mem 143 12 → mem 143 12 ≤ 2 * o + k → NdAll (PN (m0 143 1)) mem (mem 143 12) → Wx (Ex S (n + 2)) S M_245 Kk 17 [some (.inr 143), some (.inl (o : Int)), some (.inl k), none, none, none] [] mem := by
  intro N
  induction N with
  | zero => intros; omega
  | succ N ih =>
    intro o k mem ho hk1 hk2 hN hF hR4 hn0 hn1 hA
    have hO2 := hF.ops hO
    have h8 := hO.1
    have eops : mem 143 1 = m0 143 1 := hF _ _ (by omega) (by omega) (by omega) (by omega) (by omega)
    have e : ∀ A i, (A = 144 ∨ A = 145 ∨ A = 146 ∨ A = 147 ∨ A = 148 ∨ A = 151) → mem A i = m0 A i := fun A i q => hF A i (by omega) (by omega) (by omega) (by omega) (by omega)
    have esN : srcN mem o = srcN m0 o := by unfold srcN; rw [e 144 _ (by omega)]
    have esA : srcA mem o k = srcA m0 o k := by unfold srcA; rw [e 145 _ (by omega), e 147 _ (by omega)]
    have esB : srcB mem o k = srcB m0 o k := by unfold srcB; rw [e 146 _ (by omega), e 148 _ (by omega)]
    have ho8 : 0 ≤ (o : Int) ∧ (o : Int) < 8 := by omega
    refine w_245_17 (Ex.mono S (n + 2)) (f_241 ho8 (fun _ => ⟨fun q => ⟨by unfold InI; omega, ?_⟩, fun q => ?_⟩))
    · refine w_245_7 (Ex.mono S (n + 2)) (fun v ev _ => ⟨fun q2 => ?_, fun q2 => ?_⟩)
      · refine w_245_76 (Ex.mono S (n + 2)) (fun v ev _ => ⟨fun q3 => ?_, fun q3 => ?_⟩)
        · exact H mem hF hR4 hn0 (by omega) hA
        · exact ln_86 hO H _ 0 0 mem (by omega) (by omega) (Nat.lt_succ_self _) hF hR4 hn0 (by simp only [smN]; omega) hA
      · exact ih (o + 1) 0 mem (by omega) (by omega) (by omega) (by omega) hF hR4 hn0 (by omega) hA
    · simp only [Int.toNat_natCast] at q
      have hs := hO2.src (o := o) (by omega) hk1 (by omega)
      have hS2 := hS o ho k hk1 (by omega)
      have hnn : srcN mem o ≤ 2 := by unfold srcN; split <;> (try split) <;> omega
      have nx : ∀ m', FrN mem m' → R4 mem m' → 0 ≤ m' 143 12 → m' 143 12 ≤ mem 143 12 + 1 → NdAll (PN (m0 143 1)) m' (m' 143 12) → InI (k + 1) ∧ Wx (Ex S (n + 2)) S M_245 Kk 17 [some (.inr 143), some (.inl (o : Int)), some (.inl (k + 1)), none, none, none] [] m' := fun m' h1 hr h2 h3 h4 => ⟨by unfold InI; omega, ih o (k + 1) m' ho (by omega) (by omega) (by omega) (hF.tr h1) (hR4.tr hr) h2 (by omega) h4⟩
      refine f_242 ho8 (fun _ => ⟨fun q2 => nx mem FrN.rf R4.rf hn0 (by omega) hA, fun q2 => ?_⟩)
      simp only [Int.toNat_natCast] at q2
      have hA7 : 0 ≤ srcA mem o k ∧ srcA mem o k < 8 := by unfold srcOK at hs; omega
      have hl := hO2.lat (o := (srcA mem o k).toNat) (by omega)
      refine f_242 ho8 (fun _ => f_243 ho8 (fun _ => f_242 ho8 (fun _ => f_246 hO2 (by simpa only [Int.toNat_natCast] using hA7) (fun _ => ?_))))
      simp only [Int.toNat_natCast]
      have hpn : PN (m0 143 1) (srcA mem o k) (o : Int) (srcB mem o k) (latF mem (srcA mem o k).toNat) := by
        unfold SrcS at hS2
        unfold srcOK at hs
        unfold PN
        omega
      exact f_247 (P := PN (m0 143 1)) ⟨hn0, by omega⟩ hpn (by unfold PN at hpn; unfold Rg; omega) hA (fun m' h1 hr h2 h3 h4 => nx m' h1 hr (by omega) (by omega) h4)
theorem f_245 {K : MM → Prop} (hO : OpsOK m0) (hS : SoundM m0) (H : ∀ m', FrN m0 m' → R4 m0 m' → 0 ≤ m' 143 12 → m' 143 12 ≤ 44 → NdAll (PN (m0 143 1)) m' (m' 143 12) → K m') : CWV (Ex S (n + 3)) 245 [.inr 143] m0 K := by
  have hF : FrN m0 (upm m0 143 12 0) := fun A i _ _ _ _ h => upm_ne h
  have hR : R4 m0 (upm m0 143 12 0) := R4.same (fun A i e => upm_ne (by omega))
  refine CW.of (k := 5) mt_245 rfl rfl (w_245_0 (Ex.mono S (n + 2)) (w_245_7 (Ex.mono S (n + 2)) (fun v e _ => ⟨fun q => ?_, fun q => ?_⟩)))
  · have e : v = m0 143 1 := by rw [e]; simp [upm]
    refine w_245_76 (Ex.mono S (n + 2)) (fun v2 e2 _ => ⟨fun q3 => ⟨rfl, H _ hF hR (by simp [upm]) (by simp [upm]) ?_⟩, fun q3 => ?_⟩)
    · intro j hj; simp [upm] at hj; omega
    · have e2 : v2 = m0 143 1 := by rw [e2]; simp [upm]
      omega
  · have e : v = m0 143 1 := by rw [e]; simp [upm]
    exact ln_17 hO hS (fun m' h1 hr h2 h3 h4 => ⟨rfl, H m' h1 hr h2 h3 h4⟩) _ 0 0 _ (by omega) (by omega) (by omega) (Nat.lt_succ_self _) hF hR (by simp [upm]) (by simp [upm]) (by intro j hj; simp [upm] at hj; omega)
end LAYS
