/-! rounds: the least d that rings leave; isLess -/
def FrW (m m' : MM) : Prop := ∀ A i, ¬ A = 154 → ¬ A = 155 → ¬ A = 156 → ¬ A = 157 → ¬ A = 158 → ¬ (A = 143 ∧ i = 12) → m' A i = m A i
theorem FrW.rf {m : MM} : FrW m m := fun _ _ _ _ _ _ _ _ => rfl
theorem FrW.tr {a b c : MM} (h1 : FrW a b) (h2 : FrW b c) : FrW a c := fun A i e1 e2 e3 e4 e5 e6 => (h2 A i e1 e2 e3 e4 e5 e6).trans (h1 A i e1 e2 e3 e4 e5 e6)
theorem FrN.w {a b : MM} (h : FrN a b) : FrW a b := fun A i e1 e2 e3 e4 _ e6 => h A i e1 e2 e3 e4 e6
theorem Fr1.w {a b : MM} (h : Fr1 158 a b) : FrW a b := fun A i _ _ _ _ e5 _ => h A i e5
section ROUND
variable {S : Nat × (Nat → Int32)} {n : Nat} {mem : MM} {K : Int → MM → Prop}
theorem f_259 (h8 : 0 ≤ mem 143 1 ∧ mem 143 1 ≤ 8) (H1 : (∀ o : Nat, (o : Int) < mem 143 1 → WM mem 158 o o ≤ 0) → K 1 mem) (H0 : ¬ (∀ o : Nat, (o : Int) < mem 143 1 → WM mem 158 o o ≤ 0) → K 0 mem) : CWI (Ex S (n + 1)) 259 [.inr 143] mem K := by
  refine CW.of (k := 1) mt_259 rfl rfl (w_259_0 (Ex.mono S n) ?_)
  have key : ∀ (N : Nat) (o : Nat), (o : Int) ≤ mem 143 1 → mem 143 1 - o < N → (∀ o2 : Nat, o2 < o → WM mem 158 o2 o2 ≤ 0) → Wx (Ex S n) S M_259 (fun r m => ∃ y, r = some y ∧ K y m) 2 [some (.inr 143), some (.inl (o : Int))] [] mem := by
    intro N
    induction N with
    | zero => intros; omega
    | succ N ih =>
      intro o ho hN hA
      refine w_259_2 (Ex.mono S n) (fun v e _ => ⟨fun q => ⟨_, rfl, H1 (fun o2 h2 => hA o2 (by omega))⟩, fun q => ⟨by unfold InI; omega, by unfold InI; omega, by omega, fun v2 e2 _ => ?_⟩⟩)
      have e2 : v2 = WM mem 158 o o := by rw [e2, ix8]; rfl
      refine ⟨fun q2 => ⟨by unfold InI; omega, ih (o + 1) (by omega) (by omega) (fun o2 h2 => ?_)⟩, fun q2 => ⟨_, rfl, H0 (fun h => ?_)⟩⟩
      · by_cases e3 : o2 = o
        · subst e3; omega
        · exact hA o2 (by omega)
      · have := h o (by omega); omega
  exact key 9 0 (by omega) (by omega) (fun o2 h => by omega)
theorem diag48 {m : MM} (hN : NdsOK m) (hW : WayOK m 48) (o : Nat) (ho : (o : Int) < m 143 1) : WM m 158 o o ≤ 0 := by
  have hφ : PotE (NdE m 48) (fun b => 6 * (b : Int)) := by
    rintro a b x ⟨j, g1, -, g3, g4, g5⟩
    obtain ⟨p1, p2, p3, p4, p5, p6, p7, p8, p9⟩ := hN.2.2 j g1
    have h8 := hN.1
    show 6 * (a : Int) + x ≤ 6 * (b : Int)
    omega
  by_cases h : -1000 < WM m 158 o o
  · have : 6 * (o : Int) + WM m 158 o o ≤ 6 * (o : Int) := hW.2.2.2.1 _ hφ o o (by omega) (by omega) h
    omega
  · omega
theorem f_255 (hN : NdsOK mem) (H : ∀ r m', 0 ≤ r → r ≤ 48 → Fr1 158 mem m' → K r m') : CWI (Ex S (n + 3)) 255 [.inr 143] mem K := by
  have key : ∀ (N : Nat) (d : Int) (m : MM), 0 ≤ d → d ≤ 48 → 48 - d < N → Fr1 158 mem m → WayOK m d → Wx (Ex S (n + 2)) S M_255 (fun r m => ∃ y, r = some y ∧ K y m) 7 [some (.inr 143), some (.inl d)] [] m := by
    intro N
    induction N with
    | zero => intros; omega
    | succ N ih =>
      intro d m hd1 hd2 hNN hF hW
      have hN2 := hN.fr hF
      refine w_255_7 (Ex.mono S (n + 2)) (f_259 hN2.1 (fun _ _ => ⟨fun _ _ => ⟨_, rfl, H d m hd1 hd2 hF⟩, fun q => absurd (by decide) q⟩) (fun hno _ => ⟨fun q => absurd rfl q, fun _ => ?_⟩))
      have hd3 : d < 48 := by
        by_cases e : d = 48
        · subst e
          exact absurd (fun o ho => diag48 hN2 hW o ho) hno
        · omega
      refine ⟨by unfold InI; omega, f_256 hN2 ⟨by omega, by omega⟩ (fun m' h1 h2 => ?_)⟩
      exact ih (d + 1) m' (by omega) (by omega) (by omega) (hF.tr h1) h2
  exact CW.of (k := 1) mt_255 rfl rfl (w_255_0 (Ex.mono S (n + 2)) (f_256 hN ⟨by omega, by omega⟩ (fun m' h1 h2 => key 49 0 m' (by omega) (by omega) (by omega) h1 h2)))
theorem NdsOK.of {m m' : MM} (hO : OpsOK m) (h : FrN m m') (h1 : 0 ≤ m' 143 12) (h2 : m' 143 12 ≤ 44) (h3 : NdAll (PN (m 143 1)) m' (m' 143 12)) : NdsOK m' := by
  have e : m' 143 1 = m 143 1 := h _ _ (by omega) (by omega) (by omega) (by omega) (by omega)
  exact ⟨by rw [e]; exact hO.1, ⟨h1, by omega⟩, by rw [e]; exact h3⟩
/-- the rows of needs and their number stay within their ranges -/
def RN (m m' : MM) : Prop := R4 m m' ∧ (0 ≤ m 143 12 ∧ m 143 12 ≤ 44 → 0 ≤ m' 143 12 ∧ m' 143 12 ≤ 44)
theorem RN.rf {m : MM} : RN m m := ⟨R4.rf, fun h => h⟩
theorem RN.tr {a b c : MM} (h1 : RN a b) (h2 : RN b c) : RN a c := ⟨h1.1.tr h2.1, fun h => h2.2 (h1.2 h)⟩
theorem RN.same {m m' : MM} (h : ∀ A i, A = 154 ∨ A = 155 ∨ A = 156 ∨ A = 157 → m' A i = m A i) (h2 : m' 143 12 = m 143 12) : RN m m' := ⟨R4.same h, fun q => by rw [h2]; exact q⟩
theorem Fr1.rn {A : Nat} {m m' : MM} (h : Fr1 A m m') (hA : 157 < A) : RN m m' := RN.same (fun B i e => h B i (by omega)) (h _ _ (by omega))
/-- isLess: not sound, or d below rounds -/
theorem f_254 {d : Int} (hO : OpsOK mem) (H1 : ∀ m', FrW mem m' → RN mem m' → K 1 m') (H0 : ∀ m', FrW mem m' → RN mem m' → SoundM mem → NdsOK m' → m' 143 12 ≤ 44 → K 0 m') : CWI (Ex S (n + 4)) 254 [.inr 143, .inl d] mem K := by
  refine CW.of (k := 0) mt_254 rfl rfl (w_254_0 (Ex.mono S (n + 3)) (f_240 hO (fun hS _ => ⟨fun _ => ?_, fun q => absurd (by decide) q⟩) (fun _ _ => ⟨fun q => absurd rfl q, fun _ => ⟨_, rfl, H1 mem FrW.rf RN.rf⟩⟩)))
  refine f_245 hO hS (fun m1 g1 g5 g2 g3 g4 => ?_)
  have hRN : RN mem m1 := ⟨g5, fun _ => ⟨g2, g3⟩⟩
  have hN := NdsOK.of hO g1 g2 g3 g4
  refine f_255 hN (fun r m2 r1 r2 k1 _ => ⟨fun q => ⟨_, rfl, H0 m2 (g1.w.tr k1.w) (hRN.tr (k1.rn (by omega))) hS (hN.fr k1) ?_⟩, fun q => ⟨_, rfl, H1 m2 (g1.w.tr k1.w) (hRN.tr (k1.rn (by omega)))⟩⟩)
  rw [k1 143 12 (by omega)]; exact g3
end ROUND
