/-! the class weaves its web, exactly -/
def nsB (m : MM) (q : Int) (o k : Nat) (x : Q4) : Prop := (k : Int) < csN m o ∧ 0 ≤ m 3 (4 * o + 2 * k) ∧ x = (m 3 (4 * o + 2 * k), (o : Int), m 3 (4 * o + 2 * k + 1), laB m q (m 3 (4 * o + 2 * k)).toNat)
/-- the needs, by the class's cells -/
def NdC (m : MM) (q : Int) (x : Q4) : Prop := (∃ o k : Nat, (o : Int) < m 1 0 ∧ nsB m q o k x) ∨ ∃ s o : Nat, (s : Int) < m 1 0 ∧ (o : Int) < m 1 0 ∧ ¬ o = s ∧ nrB m q s o x
theorem bd_fr {m m' : MM} (e : ∀ A i, 0 < A → A < 9 → ¬ A = 4 → m' A i = m A i) {q : Int} : csN m' = csN m ∧ rowB m' = rowB m ∧ plcB m' = plcB m ∧ laB m' q = laB m q := by
  refine ⟨funext fun o => ?_, funext fun o => ?_, funext fun o => ?_, funext fun o => ?_⟩
  · unfold csN; rw [e 2 o (by omega) (by omega) (by omega)]
  · unfold rowB; rw [e 2 o (by omega) (by omega) (by omega), e 3 _ (by omega) (by omega) (by omega), e 3 _ (by omega) (by omega) (by omega)]
  · unfold plcB; rw [e 2 o (by omega) (by omega) (by omega), e 3 _ (by omega) (by omega) (by omega), e 3 _ (by omega) (by omega) (by omega)]
  · unfold laB cLa2; rw [e 2 o (by omega) (by omega) (by omega), e 6 _ (by omega) (by omega) (by omega)]
theorem nsB_fr {m m' : MM} (e : ∀ A i, 0 < A → A < 9 → ¬ A = 4 → m' A i = m A i) {q : Int} {o k : Nat} {x : Q4} : nsB m' q o k x ↔ nsB m q o k x := by
  have h := bd_fr e (q := q)
  unfold nsB
  rw [h.1, h.2.2.2, e 3 _ (by omega) (by omega) (by omega), e 3 _ (by omega) (by omega) (by omega)]
theorem nrB_fr {m m' : MM} (e : ∀ A i, 0 < A → A < 9 → ¬ A = 4 → m' A i = m A i) {q : Int} {o k : Nat} {x : Q4} : nrB m' q o k x ↔ nrB m q o k x := by
  have h := bd_fr e (q := q)
  unfold nrB
  rw [h.2.1, h.2.2.1, h.2.2.2, show m' 2 = m 2 from funext fun i => e 2 i (by omega) (by omega) (by omega)]
theorem NdC.fr {m m' : MM} (e : ∀ A i, 0 < A → A < 9 → ¬ A = 4 → m' A i = m A i) {q : Int} {x : Q4} : NdC m' q x ↔ NdC m q x := by
  unfold NdC
  rw [e 1 0 (by omega) (by omega) (by omega)]
  exact or_congr (exists_congr fun o => exists_congr fun k => and_congr Iff.rfl (nsB_fr e)) (exists_congr fun o => exists_congr fun k => and_congr Iff.rfl (and_congr Iff.rfl (and_congr Iff.rfl (nrB_fr e))))
section CWV2
variable {S : Nat × (Nat → Int32)} {n : Nat} {mem : MM} {K : Int → MM → Prop}
theorem f_17e {K : MM → Prop} {W : Nat} (hW : WebSh W) (hWv : W = 9 ∨ W = 14) (hB : BodyOK mem) (hO : R64 mem W) {q : Int} (H : ∀ m', FrWb W mem m' → WbOK m' W → m' W 0 ≤ 44 → Enum (cwq m' W) (m' W 0).toNat (NdC mem q) → K m') : CWV (Ex S (n + 4)) 17 [.inr W, .inr 1, .inl q] mem K := by
  have h8 := hB.1
  have bF0 : ∀ m, FrWb W mem m → ∀ A i, 0 < A → A < 9 → m A i = mem A i := fun m hF A i e1 e2 => hF A i (by omega) (by omega)
  have bF : ∀ m, FrWb W mem m → ∀ A i, 0 < A → A < 9 → ¬ A = 4 → m A i = mem A i := fun m hF A i e1 e2 _ => hF A i (by omega) (by omega)
  have bB : ∀ m, FrWb W mem m → BodyOK m := fun m hF => hB.fr (bF0 m hF)
  have sz : ∀ m, FrWb W mem m → m 1 0 = mem 1 0 := fun m hF => hF _ _ (by omega) (by omega)
  obtain ⟨PA, ePA⟩ : ∃ PA : Nat → Nat → Q4 → Prop, PA = fun o k x => ∃ o' k' : Nat, (o' < o ∨ (o' = o ∧ k' < k)) ∧ (o' : Int) < mem 1 0 ∧ nsB mem q o' k' x := ⟨_, rfl⟩
  obtain ⟨PB, ePB⟩ : ∃ PB : Nat → Nat → Q4 → Prop, PB = fun i j x => (∃ o k : Nat, (o : Int) < mem 1 0 ∧ nsB mem q o k x) ∨ ∃ s t : Nat, s < t ∧ (t : Int) < mem 1 0 ∧ (s < i ∨ (s = i ∧ t < j)) ∧ (nrB mem q s t x ∨ nrB mem q t s x) := ⟨_, rfl⟩
  have l77 : ∀ (N : Nat) (o : Nat) (m : MM), (mem 1 0 - o).toNat < N → o ≤ 8 → FrWb W mem m → WbOK m W → m W 0 ≤ 16 + tri o → Enum (cwq m W) (m W 0).toNat (PB o 0) → Wx (Ex S (n + 3)) S M_17 (fun r m => r = none ∧ K m) 77 [some (.inr W), some (.inr 1), some (.inl q), some (.inl (o : Int)), none, none] [] m := by
    intro N
    induction N with
    | zero => intros; omega
    | succ N ih =>
      intro o m hN ho8 hF hO' hs hE
      have es := sz m hF
      have ht := tri_le ho8
      refine w_17_77 (Ex.mono S (n + 3)) hW (fun v1 e1 _ => ⟨fun z => ⟨rfl, H m hF hO' (by omega) (hE.cg rfl (fun _ _ => rfl) (fun x => ?_))⟩, fun z => ⟨by unfold InI; omega, ?_⟩⟩)
      · rw [ePB]
        refine or_congr Iff.rfl ⟨?_, ?_⟩
        · rintro ⟨s, t, h1, h2, -, h4 | h4⟩
          · exact ⟨s, t, by omega, h2, by omega, h4⟩
          · exact ⟨t, s, h2, by omega, by omega, h4⟩
        · rintro ⟨s, t, h1, h2, h3, h4⟩
          by_cases w : s < t
          · exact ⟨s, t, w, h2, by omega, Or.inl h4⟩
          · exact ⟨t, s, by omega, h1, by omega, Or.inr h4⟩
      have inner : ∀ (N' : Nat) (p : Nat) (m : MM), (mem 1 0 - p).toNat < N' → o < p → (p : Int) ≤ mem 1 0 → FrWb W mem m → WbOK m W → m W 0 ≤ 16 + tri o + ((p : Int) - o - 1) → Enum (cwq m W) (m W 0).toNat (PB o p) → Wx (Ex S (n + 3)) S M_17 (fun r m => r = none ∧ K m) 90 [some (.inr W), some (.inr 1), some (.inl q), some (.inl (o : Int)), some (.inl (p : Int)), none] [] m := by
        intro N'
        induction N' with
        | zero => intros; omega
        | succ N' ih2 =>
          intro p m hN' hop hp hF hO' hs hE
          have es := sz m hF
          refine w_17_90 (Ex.mono S (n + 3)) hW (fun v1 e1 _ => ⟨fun z2 => ⟨by unfold InI; omega, ih (o + 1) m (by omega) (by omega) hF hO' ?_ (hE.cg rfl (fun _ _ => rfl) (fun x => ?_))⟩, fun z2 => f_23e hW (bB m hF) hO' (by omega) (by omega) (by omega) hop hE (fun m' k1 k2 k3 k4 => ⟨by unfold InI; omega, ih2 (p + 1) m' (by omega) (by omega) (by omega) (hF.tr k1) k2 (by omega) (k4.cg rfl (fun _ _ => rfl) (fun x => ?_))⟩)⟩)
          · have : tri (o + 1) = tri o + (7 - o) := rfl
            omega
          · rw [ePB]
            refine or_congr Iff.rfl ⟨?_, ?_⟩
            · rintro ⟨s, t, h1, h2, h3, h4⟩
              exact ⟨s, t, h1, h2, by omega, h4⟩
            · rintro ⟨s, t, h1, h2, h3, h4⟩
              exact ⟨s, t, h1, h2, by omega, h4⟩
          · rw [ePB]
            constructor
            · rintro ((h | ⟨s, t, h1, h2, h3, h4⟩) | h | h)
              · exact Or.inl h
              · exact Or.inr ⟨s, t, h1, h2, by omega, h4⟩
              · exact Or.inr ⟨o, p, hop, by omega, by omega, Or.inl ((nrB_fr (bF m hF)).mp h)⟩
              · exact Or.inr ⟨o, p, hop, by omega, by omega, Or.inr ((nrB_fr (bF m hF)).mp h)⟩
            · rintro (h | ⟨s, t, h1, h2, h3, h4⟩)
              · exact Or.inl (Or.inl h)
              · by_cases w : s = o ∧ t = p
                · obtain ⟨rfl, rfl⟩ := w
                  exact h4.elim (fun h => Or.inr (Or.inl ((nrB_fr (bF m hF)).mpr h))) (fun h => Or.inr (Or.inr ((nrB_fr (bF m hF)).mpr h)))
                · exact Or.inl (Or.inr ⟨s, t, h1, h2, by omega, h4⟩)
      refine inner _ (o + 1) m (Nat.lt_succ_self _) (by omega) (by omega) hF hO' (by omega) (hE.cg rfl (fun _ _ => rfl) (fun x => ?_))
      rw [ePB]
      refine or_congr Iff.rfl ⟨?_, ?_⟩
      · rintro ⟨s, t, h1, h2, h3, h4⟩
        exact ⟨s, t, h1, h2, by omega, h4⟩
      · rintro ⟨s, t, h1, h2, h3, h4⟩
        exact ⟨s, t, h1, h2, by omega, h4⟩
  have l7 : ∀ (N : Nat) (o : Nat) (m : MM), (mem 1 0 - o).toNat < N → o ≤ 8 → FrWb W mem m → WbOK m W → m W 0 ≤ 2 * o → Enum (cwq m W) (m W 0).toNat (PA o 0) → Wx (Ex S (n + 3)) S M_17 (fun r m => r = none ∧ K m) 7 [some (.inr W), some (.inr 1), some (.inl q), some (.inl (o : Int)), none, none] [] m := by
    intro N
    induction N with
    | zero => intros; omega
    | succ N ih =>
      intro o m hN ho8 hF hO' hs hE
      have es := sz m hF
      refine w_17_7 (Ex.mono S (n + 3)) hW (fun v1 e1 _ => ⟨fun z => l77 _ 0 m (Nat.lt_succ_self _) (by omega) hF hO' (by unfold tri; omega) (hE.cg rfl (fun _ _ => rfl) (fun x => ?_)), fun z => ?_⟩)
      · rw [ePA, ePB]
        constructor
        · rintro ⟨o', k', -, h2, h3⟩
          exact Or.inl ⟨o', k', h2, h3⟩
        · rintro (⟨o', k', h2, h3⟩ | ⟨s, t, -, -, h3, -⟩)
          · exact ⟨o', k', by omega, h2, h3⟩
          · omega
      have inner : ∀ (N' : Nat) (k : Nat) (m : MM), k ≤ 2 → 3 - k < N' → FrWb W mem m → WbOK m W → m W 0 ≤ 2 * o + k → Enum (cwq m W) (m W 0).toNat (PA o k) → Wx (Ex S (n + 3)) S M_17 (fun r m => r = none ∧ K m) 18 [some (.inr W), some (.inr 1), some (.inl q), some (.inl (o : Int)), some (.inl (k : Int)), none] [] m := by
        intro N'
        induction N' with
        | zero => intros; omega
        | succ N' ih2 =>
          intro k m hk hN' hF hO' hs hE
          have es := sz m hF
          have hcs := csN_le m o
          have ecs := (bd_fr (bF m hF) (q := q)).1
          refine w_17_18 (Ex.mono S (n + 3)) hW (f_13 ⟨by omega, by omega⟩ (fun _ => ⟨fun z2 => ⟨by unfold InI; omega, ih (o + 1) m (by omega) (by omega) hF hO' (by omega) (hE.cg rfl (fun _ _ => rfl) (fun x => ?_))⟩, fun z2 => ?_⟩))
          · rw [Int.toNat_natCast, ecs] at z2
            rw [ePA]
            constructor
            · rintro ⟨o', k', h1, h2, h3⟩
              exact ⟨o', k', by omega, h2, h3⟩
            · rintro ⟨o', k', h1, h2, h3⟩
              by_cases w : o' = o
              · subst w
                have := h3.1
                exact ⟨o', k', by omega, h2, h3⟩
              · exact ⟨o', k', by omega, h2, h3⟩
          rw [Int.toNat_natCast] at z2
          have hsr := (bB m hF).src (o := o) (k := k) (by omega) (by omega)
          have step : ∀ x, (PA o k x ∨ nsB mem q o k x) ↔ PA o (k + 1) x := fun x => by
            rw [ePA]
            constructor
            · rintro (⟨o', k', h1, h2, h3⟩ | h)
              · exact ⟨o', k', by omega, h2, h3⟩
              · exact ⟨o, k, by omega, by omega, h⟩
            · rintro ⟨o', k', h1, h2, h3⟩
              by_cases w : o' = o ∧ k' = k
              · obtain ⟨rfl, rfl⟩ := w
                exact Or.inr h3
              · exact Or.inl ⟨o', k', by omega, h2, h3⟩
          refine f_14 (by omega) (by omega) (fun _ => ⟨fun z3 => ⟨by unfold InI; omega, ih2 (k + 1) m (by omega) (by omega) hF hO' (by omega) (hE.cg rfl (fun _ _ => rfl) (fun x => Iff.trans ?_ (step x)))⟩, fun z3 => f_15 (by omega) (by omega) (fun _ => ?_)⟩)
          · constructor
            · exact Or.inl
            · rintro (h | h)
              · exact h
              · have := ((nsB_fr (bF m hF)).mpr h).2.1; omega
          unfold srcOK at hsr
          refine f_18e (bB m hF) ⟨by omega, by omega⟩ (fun u1 u2 _ => f_20e hW hO' (by omega) (by unfold Rg; omega) hE (fun m' k1 k2 k3 k4 => ⟨by unfold InI; omega, ih2 (k + 1) m' (by omega) (by omega) (hF.tr k1) k2 (by omega) (k4.cg rfl (fun _ _ => rfl) (fun x => Iff.trans ?_ (step x)))⟩))
          refine or_congr Iff.rfl (Iff.trans ?_ (nsB_fr (bF m hF)))
          exact ⟨fun e => ⟨by omega, by omega, e⟩, fun h => h.2.2⟩
      refine inner 4 0 m (by omega) (by omega) hF hO' (by omega) hE
  refine CW.of (k := 3) mt_17 rfl rfl (w_17_0 (Ex.mono S (n + 3)) hW (l7 _ 0 _ (Nat.lt_succ_self _) (by omega) (fun A i e1 e2 => upm_ne e2) ⟨fun j hj => ?_, by rw [upm_eq]; omega⟩ (by rw [upm_eq]; omega) ?_))
  · rw [upm_ne (by omega), upm_ne (by omega), upm_ne (by omega), upm_ne (by omega)]; exact hO j hj
  · rw [upm_eq, ePA]
    refine (Enum.nil (c := fun _ => (0, 0, 0, 0))).cg rfl (fun i hi => by omega) (fun x => ⟨fun h => h.elim, ?_⟩)
    rintro ⟨o', k', h1, -⟩
    omega
end CWV2
/-- a web that holds just the needs -/
def WbY (m : MM) : Prop := WbS m ∧ Enum (cwq m 9) (m 9 0).toNat (NdC m (-1))
theorem WbY.fr {m m' : MM} (h : WbY m) (e : ∀ A i, (A = 9 ∧ i = 0) ∨ (10 ≤ A ∧ A ≤ 13) ∨ (0 < A ∧ A < 9 ∧ ¬ A = 4) → m' A i = m A i) : WbY m' := by
  refine ⟨fun j hj => ?_, ?_⟩
  · rw [e 9 0 (by omega)] at hj
    rw [e 10 j (by omega), e 11 j (by omega), e 1 0 (by omega)]; exact h.1 j hj
  · rw [e 9 0 (by omega)]
    refine h.2.cg rfl (fun i _ => ?_) (fun x => (NdC.fr (fun A i a b c => e A i (by omega))).symm)
    unfold cwq
    rw [e (9 + 1) i (by omega), e (9 + 2) i (by omega), e (9 + 3) i (by omega), e (9 + 4) i (by omega)]
theorem NdC.lt {m : MM} {q : Int} {x : Q4} (hs : Snd m) (h : NdC m q x) : x.1 < m 1 0 ∧ x.2.1 < m 1 0 := by
  rcases h with ⟨o, k, h1, h2, h3, h4⟩ | ⟨s, o, h1, h2, h3, h4, h5, ⟨h6, h7, h8⟩ | ⟨h6, h7, h8⟩ | ⟨h6, h7, h8⟩⟩
  · subst h4; exact ⟨hs o k h1 h2, h1⟩
  · subst h8; exact ⟨h1, h2⟩
  · subst h8; exact ⟨h2, h1⟩
  · subst h8; exact ⟨h1, h2⟩
