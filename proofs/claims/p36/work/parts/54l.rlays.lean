/-! the reference lays its needs, exactly -/
section RLY
variable {S : Nat × (Nat → Int32)} {n : Nat} {m0 : MM}
def nsF (m : MM) (o k : Nat) (x : Q4) : Prop := (k : Int) < srcN m o ∧ 0 ≤ srcA m o k ∧ x = (srcA m o k, (o : Int), srcB m o k, latF m (srcA m o k).toNat)
def nrF (m : MM) (s o : Nat) (x : Q4) : Prop := NdR (m 144) (rowF m) (plcF m) (latF m) s o x
def PBf (m : MM) (s o : Nat) (x : Q4) : Prop := (∃ o k : Nat, (o : Int) < m 143 1 ∧ nsF m o k x) ∨ ∃ s' o' : Nat, (s' : Int) < m 143 1 ∧ (o' : Int) < m 143 1 ∧ ¬ o' = s' ∧ (s' < s ∨ (s' = s ∧ o' < o)) ∧ nrF m s' o' x
def PAf (m : MM) (o : Nat) (k : Int) (x : Q4) : Prop := ∃ o' k' : Nat, (o' < o ∨ (o' = o ∧ (k' : Int) < k)) ∧ (o' : Int) < m 143 1 ∧ nsF m o' k' x
theorem ln_86e (hO : OpsOK m0) {Kk : WK} (H : ∀ m', FrN m0 m' → R4 m0 m' → 0 ≤ m' 143 12 → m' 143 12 ≤ 44 → NdAll (PN (m0 143 1)) m' (m' 143 12) → Enum (rq m') (m' 143 12).toNat (NdF m0) → Kk none m') : ∀ (N : Nat) (s o : Nat) (mem : MM), (s : Int) < m0 143 1 → (o : Int) ≤ m0 143 1 → (9 * (m0 143 1 - s) + (9 - o)).toNat < N → FrN m0 mem → R4 m0 mem → 0 ≤ mem 143 12 → mem 143 12 ≤ 16 + smN (fun s => smN (cNd m0 s) (m0 143 1).toNat) s + smN (cNd m0 s) o → NdAll (PN (m0 143 1)) mem (mem 143 12) → Enum (rq mem) (mem 143 12).toNat (PBf m0 s o) → Wx (Ex S (n + 2)) S M_245 Kk 86 [some (.inr 143), some (.inl (s : Int)), some (.inl (o : Int)), none, none, none] [] mem := by
  intro N
  induction N with
  | zero => intros; omega
  | succ N ih =>
    intro s o mem hs ho hN hF hR4 hn0 hn1 hA hE
    have hO2 := hF.ops hO
    have h8 := hO.1
    have eops : mem 143 1 = m0 143 1 := hF _ _ (by omega) (by omega) (by omega) (by omega) (by omega)
    have e144 : ∀ i, mem 144 i = m0 144 i := fun i => hF _ _ (by omega) (by omega) (by omega) (by omega) (by omega)
    have e145 : ∀ i, mem 145 i = m0 145 i := fun i => hF _ _ (by omega) (by omega) (by omega) (by omega) (by omega)
    have e146 : ∀ i, mem 146 i = m0 146 i := fun i => hF _ _ (by omega) (by omega) (by omega) (by omega) (by omega)
    have e147 : ∀ i, mem 147 i = m0 147 i := fun i => hF _ _ (by omega) (by omega) (by omega) (by omega) (by omega)
    have e148 : ∀ i, mem 148 i = m0 148 i := fun i => hF _ _ (by omega) (by omega) (by omega) (by omega) (by omega)
    have epl : ∀ i, plcF mem i = plcF m0 i := fun i => by unfold plcF; rw [e144, e146, e148]
    have ero : ∀ i, rowF mem i = rowF m0 i := fun i => by unfold rowF; rw [e144, e145, e147]
    have elat : ∀ i, latF mem i = latF m0 i := fun i => by
      unfold latF
      rw [e144]
      exact hF _ _ (by omega) (by omega) (by omega) (by omega) (by omega)
    have hs8 : 0 ≤ (s : Int) ∧ (s : Int) < 8 := by omega
    -- the next of s
    have outer : (∀ o' : Nat, o ≤ o' → (o' : Int) < m0 143 1 → ∀ x, ¬ nrF m0 s o' x) → Wx (Ex S (n + 2)) S M_245 Kk 76 [some (.inr 143), some (.inl ((s : Int) + 1)), none, none, none, none] [] mem := by
      intro hno
      have hle : smN (cNd m0 s) o ≤ smN (cNd m0 s) (m0 143 1).toNat := smN_up (by omega)
      have hn2 : mem 143 12 ≤ 16 + smN (fun s => smN (cNd m0 s) (m0 143 1).toNat) (s + 1) := by simp only [smN]; omega
      have eP : ∀ x, PBf m0 s o x ↔ PBf m0 (s + 1) 0 x := fun x => by
        refine or_congr Iff.rfl ⟨?_, ?_⟩
        · rintro ⟨s', o', h1, h2, h3, h4, h5⟩
          exact ⟨s', o', h1, h2, h3, by omega, h5⟩
        · rintro ⟨s', o', h1, h2, h3, h4, h5⟩
          by_cases w : s' = s ∧ o ≤ o'
          · obtain ⟨rfl, w⟩ := w
            exact absurd h5 (hno o' w h2 x)
          · exact ⟨s', o', h1, h2, h3, by omega, h5⟩
      refine w_245_76 (Ex.mono S (n + 2)) (fun v e _ => ⟨fun q => H mem hF hR4 hn0 ?_ hA (hE.cg rfl (fun _ _ => rfl) (fun x => (eP x).trans (or_congr ⟨?_, ?_⟩ ⟨?_, ?_⟩))), fun q => ?_⟩)
      · have := pairs28 (cNd_self m0) (cNd_anti m0) (m0 143 1).toNat (by omega)
        rw [show s + 1 = (m0 143 1).toNat by omega] at hn2
        omega
      · exact fun ⟨a, b, c, d⟩ => ⟨a, b, c, d⟩
      · exact fun ⟨a, b, c, d⟩ => ⟨a, b, c, d⟩
      · exact fun ⟨s', o', h1, h2, h3, _, h5⟩ => ⟨s', o', h1, h2, h3, h5⟩
      · exact fun ⟨s', o', h1, h2, h3, h5⟩ => ⟨s', o', h1, h2, h3, by omega, h5⟩
      · exact ih (s + 1) 0 mem (by omega) (by omega) (by omega) hF hR4 hn0 (by simp only [smN] at hn2 ⊢; omega) hA (hE.cg rfl (fun _ _ => rfl) eP)
    -- the next of o
    have inner : ∀ m', FrN mem m' → R4 mem m' → 0 ≤ m' 143 12 → m' 143 12 ≤ mem 143 12 + cNd m0 s o → NdAll (PN (m0 143 1)) m' (m' 143 12) → (o : Int) < m0 143 1 → Enum (rq m') (m' 143 12).toNat (PBf m0 s (o + 1)) → InI ((o : Int) + 1) ∧ Wx (Ex S (n + 2)) S M_245 Kk 86 [some (.inr 143), some (.inl (s : Int)), some (.inl ((o : Int) + 1)), none, none, none] [] m' := fun m' h1 hr h2 h3 h4 h5 h6 => by
      refine ⟨by unfold InI; omega, ih s (o + 1) m' hs (by omega) (by omega) (hF.tr h1) (hR4.tr hr) h2 ?_ h4 h6⟩
      simp only [smN]; omega
    have stp : (o : Int) < m0 143 1 → ¬ o = s → ∀ x, (PBf m0 s o x ∨ nrF m0 s o x) ↔ PBf m0 s (o + 1) x := fun ho hos x => by
      constructor
      · rintro ((h | ⟨s', o', h1, h2, h3, h4, h5⟩) | h)
        · exact Or.inl h
        · exact Or.inr ⟨s', o', h1, h2, h3, by omega, h5⟩
        · exact Or.inr ⟨s, o, hs, ho, hos, by omega, h⟩
      · rintro (h | ⟨s', o', h1, h2, h3, h4, h5⟩)
        · exact Or.inl (Or.inl h)
        · by_cases w : s' = s ∧ o' = o
          · obtain ⟨rfl, rfl⟩ := w
            exact Or.inr h5
          · exact Or.inl (Or.inr ⟨s', o', h1, h2, h3, by omega, h5⟩)
    refine w_245_86 (Ex.mono S (n + 2)) (fun v e _ => ⟨fun q => ⟨by unfold InI; omega, outer (fun o' h1 h2 => by omega)⟩, fun q => ⟨hs8, fun v2 e2 _ => ⟨fun q2 => ⟨by unfold InI; omega, outer (fun o' _ _ x hx => ?_)⟩, fun q2 => ?_⟩⟩⟩)
    · have := hx.1
      have := e144 s
      simp only [Int.toNat_natCast] at e2
      omega
    have ho2 : (o : Int) < m0 143 1 := by omega
    have ho8 : 0 ≤ (o : Int) ∧ (o : Int) < 8 := by omega
    have same : (¬ o = s → ∀ x, ¬ nrF m0 s o x) → _ := fun hn => inner mem FrN.rf R4.rf hn0 (by omega) hA ho2 (hE.cg rfl (fun _ _ => rfl) (fun x => by
      by_cases w : o = s
      · refine or_congr Iff.rfl ⟨?_, ?_⟩
        · rintro ⟨s', o', h1, h2, h3, h4, h5⟩
          exact ⟨s', o', h1, h2, h3, by omega, h5⟩
        · rintro ⟨s', o', h1, h2, h3, h4, h5⟩
          exact ⟨s', o', h1, h2, h3, by omega, h5⟩
      · exact Iff.trans ⟨Or.inl, fun h => h.elim id (fun h => absurd h (hn w x))⟩ (stp ho2 w x)))
    refine ⟨fun q3 => same (fun w => absurd (by omega) w), fun q3 => ?_⟩
    have ks : m0 144 s = 5 := by
      have := e144 s
      simp only [Int.toNat_natCast] at e2
      omega
    have nso : ¬ o = s := by omega
    have nk : ¬ mem 144 o = 4 → ¬ mem 144 o = 5 → ∀ x, ¬ nrF m0 s o x := fun w1 w2 x hx => by
      have kE := e144 o
      obtain ⟨h1, h2, ⟨h3, h4, h5⟩ | ⟨h3, h4, h5⟩ | ⟨h3, h4, h5⟩⟩ := hx <;> omega
    refine f_249 ho8 (fun q4 _ => ⟨fun q5 => by omega, fun _ => ?_⟩) (fun w1 w2 _ => ⟨fun _ => same (fun _ => nk (by simpa only [Int.toNat_natCast] using w1) (by simpa only [Int.toNat_natCast] using w2)), fun q5 => absurd rfl q5⟩)
    refine f_250 ho8 (fun _ => f_250 hs8 (fun _ => ⟨fun q5 => ?_, fun q5 => same (fun _ x hx => q5 (by
      simp only [Int.toNat_natCast]
      rw [ero, ero]
      exact hx.2.1))⟩))
    refine f_251 hs8 (fun _ => f_251 ho8 (fun _ => ?_))
    simp only [Int.toNat_natCast] at q4 q5 ⊢
    rw [ero, ero] at q5
    have hps : 0 ≤ plcF mem s ∧ plcF mem s ≤ 7 := by
      obtain ⟨-, -, -, h4, h5⟩ := hO2.2.1 s (by omega)
      have := h5 (by rw [e144]; exact ks)
      unfold plcF; rw [if_neg (by rw [e144]; omega)]; omega
    have hpo : 0 ≤ plcF mem o ∧ plcF mem o ≤ 7 := by
      obtain ⟨-, -, -, h4, h5⟩ := hO2.2.1 o (by omega)
      unfold plcF
      split
      · have := h4 (by assumption); omega
      · have := h5 (by omega); omega
    have hls := hO2.lat (o := s) (by omega)
    have c48 : mem 143 12 < 48 := by
      have h1 := pairs28 (cNd_self m0) (cNd_anti m0) (m0 143 1).toNat (by omega)
      have h2 : smN (cNd m0 s) o ≤ smN (cNd m0 s) (m0 143 1).toNat := smN_up (by omega)
      have h3 : smN (fun s => smN (cNd m0 s) (m0 143 1).toNat) (s + 1) ≤ smN (fun s => smN (cNd m0 s) (m0 143 1).toNat) (m0 143 1).toNat := smN_up (by omega)
      simp only [smN] at h3
      omega
    -- a need comes
    have put : ∀ a b d l : Int, PN (m0 143 1) a b d l → cNd m0 s o = 1 → (∀ x, x = (a, b, d, l) ↔ nrF m0 s o x) → CWV (Ex S (n + 2)) 247 [.inr 143, .inl a, .inl b, .inl d, .inl l] mem fun m' => InI ((o : Int) + 1) ∧ Wx (Ex S (n + 2)) S M_245 Kk 86 [some (.inr 143), some (.inl (s : Int)), some (.inl ((o : Int) + 1)), none, none, none] [] m' := fun a b d l hp hc hx =>
      f_247e (Pn := PN (m0 143 1)) ⟨hn0, c48⟩ hp (by unfold PN at hp; unfold Rg; omega) hA hE (fun m' h1 hr h2 h3 h4 h5 => inner m' h1 hr (by omega) (by omega) h4 ho2 (h5.cg rfl (fun _ _ => rfl) (fun x => (or_congr Iff.rfl (hx x)).trans (stp ho2 nso x))))
    have bk : ∀ y : Q4, nrF m0 s o y → (∀ x, nrF m0 s o x → x = y) → ∀ x, x = y ↔ nrF m0 s o x := fun y h1 h2 x => ⟨fun e => by rw [e]; exact h1, h2 x⟩
    have sub7 : ∀ x y : Int, 0 ≤ x ∧ x ≤ 7 → 0 ≤ y ∧ y ≤ 7 → InI (x - y) := fun x y h1 h2 => by unfold InI; omega
    have at170 : ∀ ah : Int, (ah = 1 ∧ (plcF m0 o < plcF m0 s ∨ (plcF m0 s = plcF m0 o ∧ s < o))) ∨ (ah = 0 ∧ ¬ (plcF m0 o < plcF m0 s ∨ (plcF m0 s = plcF m0 o ∧ s < o))) → Wx (Ex S (n + 2)) S M_245 Kk 170 [some (.inr 143), some (.inl (s : Int)), some (.inl (o : Int)), some (.inl (plcF mem s)), some (.inl (plcF mem o)), some (.inl ah)] [] mem := by
      intro ah hah
      have kE := e144 o
      have pE := epl o
      have pS := epl s
      have c4 : m0 144 o = 4 → cNd m0 s o = 1 := fun h => by unfold cNd; rw [if_pos ⟨ks, nso, Or.inl h⟩]
      have c5 : m0 144 o = 5 → ah = 1 → cNd m0 s o = 1 := fun h h2 => by unfold cNd; rw [if_pos ⟨ks, nso, Or.inr ⟨h, by omega⟩⟩]
      refine w_245_170 (Ex.mono S (n + 2)) ⟨ho8, fun v1 g1 _ => ⟨fun z1 => ⟨ho8, fun v2 g2 _ => ⟨fun z2 => ⟨fun z3 => same (fun _ x hx => ?_), fun z3 => ⟨sub7 _ _ hps hpo, put _ _ _ _ ?_ ?_ ?_⟩⟩, fun z2 => ?_⟩⟩, fun z1 => ⟨fun z2 => ⟨ho8, fun v2 g2 _ => ⟨fun z3 => ?_, fun z3 => ⟨sub7 _ _ hpo hps, f_246 hO2 hs8 (fun _ => ⟨?_, put _ _ _ _ ?_ ?_ ?_⟩)⟩⟩⟩, fun z2 => ⟨sub7 _ _ hps hpo, f_246 hO2 hs8 (fun _ => put _ _ _ _ ?_ ?_ ?_)⟩⟩⟩⟩
      · simp only [Int.toNat_natCast] at g1 g2
        obtain ⟨h1, h2, ⟨h3, h4, h5⟩ | ⟨h3, h4, h5⟩ | ⟨h3, h4, h5⟩⟩ := hx <;> omega
      · simp only [Int.toNat_natCast] at g1 g2; unfold PN; omega
      · simp only [Int.toNat_natCast] at g1 g2; exact c5 (by omega) (by omega)
      · simp only [Int.toNat_natCast] at g1 g2
        rw [pE, pS]
        refine bk _ ⟨ks, q5, Or.inr (Or.inr ⟨by omega, by omega, rfl⟩)⟩ (fun x => ?_)
        rintro ⟨h1, h2, ⟨h3, h4, h5⟩ | ⟨h3, h4, h5⟩ | ⟨h3, h4, h5⟩⟩ <;> first | exact h5 | (exfalso; omega)
      · exfalso; omega
      · exfalso; omega
      · simp only [Int.toNat_natCast]; unfold InI; omega
      · simp only [Int.toNat_natCast] at g1 g2 ⊢; unfold PN; omega
      · simp only [Int.toNat_natCast] at g1 g2; exact c4 (by omega)
      · simp only [Int.toNat_natCast] at g1 g2 ⊢
        rw [pE, pS, elat]
        refine bk _ ⟨ks, q5, Or.inr (Or.inl ⟨by omega, by omega, rfl⟩)⟩ (fun x => ?_)
        rintro ⟨h1, h2, ⟨h3, h4, h5⟩ | ⟨h3, h4, h5⟩ | ⟨h3, h4, h5⟩⟩ <;> first | exact h5 | (exfalso; omega)
      · simp only [Int.toNat_natCast] at g1 ⊢; unfold PN; omega
      · simp only [Int.toNat_natCast] at g1; exact c4 (by omega)
      · simp only [Int.toNat_natCast] at g1 ⊢
        rw [pE, pS, elat]
        refine bk _ ⟨ks, q5, Or.inl ⟨by omega, by omega, rfl⟩⟩ (fun x => ?_)
        rintro ⟨h1, h2, ⟨h3, h4, h5⟩ | ⟨h3, h4, h5⟩ | ⟨h3, h4, h5⟩⟩ <;> first | exact h5 | (exfalso; omega)
    have pE := epl o
    have pS := epl s
    exact w_245_146 (Ex.mono S (n + 2)) ⟨fun z => at170 1 (Or.inl ⟨rfl, by omega⟩), fun z => ⟨fun z2 => at170 0 (Or.inr ⟨rfl, by omega⟩), fun z2 => ⟨fun z3 => at170 0 (Or.inr ⟨rfl, by omega⟩), fun z3 => at170 1 (Or.inl ⟨rfl, by omega⟩)⟩⟩⟩
theorem ln_17e (hO : OpsOK m0) (hS : SoundM m0) {Kk : WK} (H : ∀ m', FrN m0 m' → R4 m0 m' → 0 ≤ m' 143 12 → m' 143 12 ≤ 44 → NdAll (PN (m0 143 1)) m' (m' 143 12) → Enum (rq m') (m' 143 12).toNat (NdF m0) → Kk none m') : ∀ (N : Nat) (o : Nat) (k : Int) (mem : MM), (o : Int) < m0 143 1 → 0 ≤ k → k ≤ 2 → (3 * (m0 143 1 - o) + (3 - k)).toNat < N → FrN m0 mem → R4 m0 mem → 0 ≤ mem 143 12 → mem 143 12 ≤ 2 * o + k → NdAll (PN (m0 143 1)) mem (mem 143 12) → Enum (rq mem) (mem 143 12).toNat (PAf m0 o k) → Wx (Ex S (n + 2)) S M_245 Kk 17 [some (.inr 143), some (.inl (o : Int)), some (.inl k), none, none, none] [] mem := by
  intro N
  induction N with
  | zero => intros; omega
  | succ N ih =>
    intro o k mem ho hk1 hk2 hN hF hR4 hn0 hn1 hA hE
    have hO2 := hF.ops hO
    have h8 := hO.1
    have eops : mem 143 1 = m0 143 1 := hF _ _ (by omega) (by omega) (by omega) (by omega) (by omega)
    have e : ∀ A i, (A = 144 ∨ A = 145 ∨ A = 146 ∨ A = 147 ∨ A = 148 ∨ A = 151) → mem A i = m0 A i := fun A i q => hF A i (by omega) (by omega) (by omega) (by omega) (by omega)
    have esN : srcN mem o = srcN m0 o := by unfold srcN; rw [e 144 _ (by omega)]
    have esA : srcA mem o k = srcA m0 o k := by unfold srcA; rw [e 145 _ (by omega), e 147 _ (by omega)]
    have esB : srcB mem o k = srcB m0 o k := by unfold srcB; rw [e 146 _ (by omega), e 148 _ (by omega)]
    have elat : ∀ i, latF mem i = latF m0 i := fun i => by unfold latF; rw [e 144 _ (by omega), e 151 _ (by omega)]
    have ho8 : 0 ≤ (o : Int) ∧ (o : Int) < 8 := by omega
    refine w_245_17 (Ex.mono S (n + 2)) (f_241 ho8 (fun _ => ⟨fun q => ⟨by unfold InI; omega, ?_⟩, fun q => ?_⟩))
    · have q : srcN m0 o ≤ k := by rw [← esN]; simpa only [Int.toNat_natCast] using q
      have eP : ∀ x, PAf m0 o k x ↔ PAf m0 (o + 1) 0 x := fun x => by
        constructor
        · rintro ⟨o', k', h1, h2, h3⟩
          exact ⟨o', k', by omega, h2, h3⟩
        · rintro ⟨o', k', h1, h2, h3⟩
          have := h3.1
          by_cases w : o' = o
          · subst w; exact ⟨o', k', by omega, h2, h3⟩
          · exact ⟨o', k', by omega, h2, h3⟩
      refine w_245_7 (Ex.mono S (n + 2)) (fun v ev _ => ⟨fun q2 => ?_, fun q2 => ?_⟩)
      · have eQ : ∀ x, PAf m0 o k x ↔ PBf m0 0 0 x := fun x => (eP x).trans (by
          constructor
          · rintro ⟨o', k', h1, h2, h3⟩
            exact Or.inl ⟨o', k', h2, h3⟩
          · rintro (⟨o', k', h2, h3⟩ | ⟨s', o', -, -, -, h4, -⟩)
            · exact ⟨o', k', by omega, h2, h3⟩
            · omega)
        refine w_245_76 (Ex.mono S (n + 2)) (fun v ev _ => ⟨fun q3 => ?_, fun q3 => ?_⟩)
        · omega
        · exact ln_86e hO H _ 0 0 mem (by omega) (by omega) (Nat.lt_succ_self _) hF hR4 hn0 (by simp only [smN]; omega) hA (hE.cg rfl (fun _ _ => rfl) eQ)
      · exact ih (o + 1) 0 mem (by omega) (by omega) (by omega) (by omega) hF hR4 hn0 (by omega) hA (hE.cg rfl (fun _ _ => rfl) eP)
    · simp only [Int.toNat_natCast] at q
      have hs := hO2.src (o := o) (by omega) hk1 (by omega)
      have hS2 := hS o ho k hk1 (by omega)
      have hnn : srcN mem o ≤ 2 := by unfold srcN; split <;> (try split) <;> omega
      have ek : ((k.toNat : Nat) : Int) = k := by omega
      have stp : ∀ x, (PAf m0 o k x ∨ nsF m0 o k.toNat x) ↔ PAf m0 o (k + 1) x := fun x => by
        constructor
        · rintro (⟨o', k', h1, h2, h3⟩ | h)
          · exact ⟨o', k', by omega, h2, h3⟩
          · exact ⟨o, k.toNat, by omega, ho, h⟩
        · rintro ⟨o', k', h1, h2, h3⟩
          by_cases w : o' = o ∧ k' = k.toNat
          · obtain ⟨rfl, rfl⟩ := w
            exact Or.inr h3
          · exact Or.inl ⟨o', k', by omega, h2, h3⟩
      have nx : ∀ m', FrN mem m' → R4 mem m' → 0 ≤ m' 143 12 → m' 143 12 ≤ mem 143 12 + 1 → NdAll (PN (m0 143 1)) m' (m' 143 12) → Enum (rq m') (m' 143 12).toNat (PAf m0 o (k + 1)) → InI (k + 1) ∧ Wx (Ex S (n + 2)) S M_245 Kk 17 [some (.inr 143), some (.inl (o : Int)), some (.inl (k + 1)), none, none, none] [] m' := fun m' h1 hr h2 h3 h4 h5 => ⟨by unfold InI; omega, ih o (k + 1) m' ho (by omega) (by omega) (by omega) (hF.tr h1) (hR4.tr hr) h2 (by omega) h4 h5⟩
      refine f_242 ho8 (fun _ => ⟨fun q2 => nx mem FrN.rf R4.rf hn0 (by omega) hA (hE.cg rfl (fun _ _ => rfl) (fun x => Iff.trans ⟨Or.inl, fun h => h.elim id (fun h => ?_)⟩ (stp x))), fun q2 => ?_⟩)
      · have := h.2.1
        rw [ek, ← esA] at this
        simp only [Int.toNat_natCast] at q2
        omega
      simp only [Int.toNat_natCast] at q2
      have hA7 : 0 ≤ srcA mem o k ∧ srcA mem o k < 8 := by unfold srcOK at hs; omega
      have hl := hO2.lat (o := (srcA mem o k).toNat) (by omega)
      refine f_242 ho8 (fun _ => f_243 ho8 (fun _ => f_242 ho8 (fun _ => f_246 hO2 (by simpa only [Int.toNat_natCast] using hA7) (fun _ => ?_))))
      simp only [Int.toNat_natCast]
      have hpn : PN (m0 143 1) (srcA mem o k) (o : Int) (srcB mem o k) (latF mem (srcA mem o k).toNat) := by
        unfold SrcS at hS2
        unfold srcOK at hs
        unfold PN
        omega
      refine f_247e (Pn := PN (m0 143 1)) ⟨hn0, by omega⟩ hpn (by unfold PN at hpn; unfold Rg; omega) hA hE (fun m' h1 hr h2 h3 h4 h5 => nx m' h1 hr (by omega) (by omega) h4 (h5.cg rfl (fun _ _ => rfl) (fun x => (or_congr Iff.rfl ?_).trans (stp x))))
      unfold nsF
      rw [ek, ← esN, ← esA, ← esB, ← elat]
      exact ⟨fun e => ⟨by omega, by omega, e⟩, fun h => h.2.2⟩
theorem f_245e {K : MM → Prop} (hO : OpsOK m0) (hS : SoundM m0) (H : ∀ m', FrN m0 m' → R4 m0 m' → 0 ≤ m' 143 12 → m' 143 12 ≤ 44 → NdAll (PN (m0 143 1)) m' (m' 143 12) → Enum (rq m') (m' 143 12).toNat (NdF m0) → K m') : CWV (Ex S (n + 3)) 245 [.inr 143] m0 K := by
  have hF : FrN m0 (upm m0 143 12 0) := fun A i _ _ _ _ h => upm_ne h
  have hR : R4 m0 (upm m0 143 12 0) := R4.same (fun A i e => upm_ne (by omega))
  refine CW.of (k := 5) mt_245 rfl rfl (w_245_0 (Ex.mono S (n + 2)) (w_245_7 (Ex.mono S (n + 2)) (fun v e _ => ⟨fun q => ?_, fun q => ?_⟩)))
  · have e : v = m0 143 1 := by rw [e]; simp [upm]
    refine w_245_76 (Ex.mono S (n + 2)) (fun v2 e2 _ => ⟨fun q3 => ⟨rfl, H _ hF hR (by simp [upm]) (by simp [upm]) ?_ ?_⟩, fun q3 => ?_⟩)
    · intro j hj; simp [upm] at hj; omega
    · rw [upm_eq]
      refine (Enum.nil (c := fun _ => (0, 0, 0, 0))).cg rfl (fun i hi => by omega) (fun x => ⟨fun h => h.elim, ?_⟩)
      rintro (⟨o, k, h1, -⟩ | ⟨s, o, h1, -⟩) <;> omega
    · have e2 : v2 = m0 143 1 := by rw [e2]; simp [upm]
      omega
  · have e : v = m0 143 1 := by rw [e]; simp [upm]
    refine ln_17e hO hS (fun m' h1 hr h2 h3 h4 h5 => ⟨rfl, H m' h1 hr h2 h3 h4 h5⟩) _ 0 0 _ (by omega) (by omega) (by omega) (Nat.lt_succ_self _) hF hR (by simp [upm]) (by simp [upm]) (by intro j hj; simp [upm] at hj; omega) ?_
    rw [upm_eq]
    refine (Enum.nil (c := fun _ => (0, 0, 0, 0))).cg rfl (fun i hi => by omega) (fun x => ⟨fun h => h.elim, ?_⟩)
    rintro ⟨o', k', h1, -⟩
    omega
end RLY
