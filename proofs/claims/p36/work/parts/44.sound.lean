/-! the reference's ops and its soundness -/
def srcOK (a da : Int) : Prop := a = -1 ∨ a = -2 ∨ (0 ≤ a ∧ a ≤ 7 ∧ 0 ≤ da ∧ da ≤ 3)
def OpOK (m : MM) (o : Nat) : Prop := 0 ≤ m 144 o ∧ m 144 o ≤ 5 ∧ (m 144 o ≤ 3 → srcOK (m 145 o) (m 146 o) ∧ srcOK (m 147 o) (m 148 o)) ∧ (m 144 o = 4 → 0 ≤ m 145 o ∧ m 145 o ≤ 1 ∧ 0 ≤ m 146 o ∧ m 146 o ≤ 7) ∧ (m 144 o = 5 → srcOK (m 145 o) (m 146 o) ∧ 0 ≤ m 147 o ∧ m 147 o ≤ 1 ∧ 0 ≤ m 148 o ∧ m 148 o ≤ 7)
def OpsOK (m : MM) : Prop := (0 ≤ m 143 1 ∧ m 143 1 ≤ 8) ∧ (∀ o, o < 8 → OpOK m o) ∧ ∀ k, k < 6 → 1 ≤ m 151 k ∧ m 151 k ≤ 6
def srcN (m : MM) (o : Nat) : Int := if m 144 o = 4 then 0 else if m 144 o = 5 then 1 else 2
def srcA (m : MM) (o : Nat) (k : Int) : Int := if k = 0 then m 145 o else m 147 o
def srcB (m : MM) (o : Nat) (k : Int) : Int := if k = 0 then m 146 o else m 148 o
def latF (m : MM) (o : Nat) : Int := m 151 (m 144 o).toNat
def SrcS (m : MM) (o : Nat) (k : Int) : Prop := srcA m o k < 0 ∨ (srcA m o k < m 143 1 ∧ ¬ m 144 (srcA m o k).toNat = 5 ∧ (¬ srcB m o k = 0 ∨ srcA m o k < o))
def SoundM (m : MM) : Prop := ∀ o : Nat, (o : Int) < m 143 1 → ∀ k : Int, 0 ≤ k → k < srcN m o → SrcS m o k
theorem OpsOK.src {m : MM} (H : OpsOK m) {o : Nat} (ho : o < 8) {k : Int} (hk : 0 ≤ k) (hn : k < srcN m o) : srcOK (srcA m o k) (srcB m o k) := by
  obtain ⟨h1, h2, h3, h4, h5⟩ := H.2.1 o ho
  unfold srcN at hn
  unfold srcA srcB
  split at hn
  · omega
  · split at hn
    · rw [if_pos (by omega), if_pos (by omega)]
      exact (h5 (by assumption)).1
    · split
      · exact (h3 (by omega)).1
      · exact (h3 (by omega)).2
theorem OpsOK.lat {m : MM} (H : OpsOK m) {o : Nat} (ho : o < 8) : 1 ≤ latF m o ∧ latF m o ≤ 6 := by
  obtain ⟨h1, h2, -⟩ := H.2.1 o ho
  exact H.2.2 _ (by omega)
section SND
variable {S : Nat × (Nat → Int32)} {n : Nat} {mem : MM} {K : Int → MM → Prop}
theorem f_241 {o : Int} (h : 0 ≤ o ∧ o < 8) (H : K (srcN mem o.toNat) mem) : CWI (Ex S (n + 1)) 241 [.inr 143, .inl o] mem K := by
  refine CW.of (k := 0) mt_241 rfl rfl (w_241_0 (Ex.mono S n) ⟨h, fun v e _ => ⟨fun q => ⟨h, fun v2 e2 _ => ⟨fun q2 _ => ⟨_, rfl, ?_⟩, fun q2 _ => ⟨_, rfl, ?_⟩⟩⟩, fun q _ => ⟨_, rfl, ?_⟩⟩⟩)
  · unfold srcN at H; rw [if_neg (by omega), if_neg (by omega)] at H; exact H
  · unfold srcN at H; rw [if_neg (by omega), if_pos (by omega)] at H; exact H
  · unfold srcN at H; rw [if_pos (by omega)] at H; exact H
theorem f_242 {o k : Int} (h : 0 ≤ o ∧ o < 8) (H : K (srcA mem o.toNat k) mem) : CWI (Ex S (n + 1)) 242 [.inr 143, .inl o, .inl k] mem K := by
  refine CW.of (k := 0) mt_242 rfl rfl (w_242_0 (Ex.mono S n) ⟨fun q => ⟨h, fun v e _ _ => ⟨_, rfl, ?_⟩⟩, fun q => ⟨h, fun v e _ _ => ⟨_, rfl, ?_⟩⟩⟩)
  · unfold srcA at H; rw [if_neg (by omega)] at H; rw [e]; exact H
  · unfold srcA at H; rw [if_pos (by omega)] at H; rw [e]; exact H
theorem f_243 {o k : Int} (h : 0 ≤ o ∧ o < 8) (H : K (srcB mem o.toNat k) mem) : CWI (Ex S (n + 1)) 243 [.inr 143, .inl o, .inl k] mem K := by
  refine CW.of (k := 0) mt_243 rfl rfl (w_243_0 (Ex.mono S n) ⟨fun q => ⟨h, fun v e _ _ => ⟨_, rfl, ?_⟩⟩, fun q => ⟨h, fun v e _ _ => ⟨_, rfl, ?_⟩⟩⟩)
  · unfold srcB at H; rw [if_neg (by omega)] at H; rw [e]; exact H
  · unfold srcB at H; rw [if_pos (by omega)] at H; rw [e]; exact H
theorem f_246 {o : Int} (hO : OpsOK mem) (h : 0 ≤ o ∧ o < 8) (H : K (latF mem o.toNat) mem) : CWI (Ex S (n + 1)) 246 [.inr 143, .inl o] mem K := by
  obtain ⟨h1, h2, -⟩ := hO.2.1 o.toNat (by omega)
  refine CW.of (k := 0) mt_246 rfl rfl (w_246_0 (Ex.mono S n) ⟨h, fun v e _ => ⟨by omega, fun v2 e2 _ _ => ⟨_, rfl, ?_⟩⟩⟩)
  rw [e2, e]; exact H
theorem f_249 {o : Int} (h : 0 ≤ o ∧ o < 8) (H1 : mem 144 o.toNat = 4 ∨ mem 144 o.toNat = 5 → K 1 mem) (H0 : ¬ mem 144 o.toNat = 4 → ¬ mem 144 o.toNat = 5 → K 0 mem) : CWI (Ex S (n + 1)) 249 [.inr 143, .inl o] mem K := by
  refine CW.of (k := 0) mt_249 rfl rfl (w_249_0 (Ex.mono S n) ⟨h, fun v e _ => ⟨fun q => ⟨_, rfl, H1 (Or.inl (by omega))⟩, fun q => ⟨h, fun v2 e2 _ => ⟨fun q2 => ⟨_, rfl, H0 (by omega) (by omega)⟩, fun q2 => ⟨_, rfl, H1 (Or.inr (by omega))⟩⟩⟩⟩⟩)
def rowF (m : MM) (o : Nat) : Int := if m 144 o = 4 then m 145 o else m 147 o
def plcF (m : MM) (o : Nat) : Int := if m 144 o = 4 then m 146 o else m 148 o
theorem f_250 {o : Int} (h : 0 ≤ o ∧ o < 8) (H : K (rowF mem o.toNat) mem) : CWI (Ex S (n + 1)) 250 [.inr 143, .inl o] mem K := by
  refine CW.of (k := 0) mt_250 rfl rfl (w_250_0 (Ex.mono S n) ⟨h, fun v e _ => ⟨fun q => ⟨h, fun v2 e2 _ _ => ⟨_, rfl, ?_⟩⟩, fun q => ⟨h, fun v2 e2 _ _ => ⟨_, rfl, ?_⟩⟩⟩⟩)
  · unfold rowF at H; rw [if_neg (by omega)] at H; rw [e2]; exact H
  · unfold rowF at H; rw [if_pos (by omega)] at H; rw [e2]; exact H
theorem f_251 {o : Int} (h : 0 ≤ o ∧ o < 8) (H : K (plcF mem o.toNat) mem) : CWI (Ex S (n + 1)) 251 [.inr 143, .inl o] mem K := by
  refine CW.of (k := 0) mt_251 rfl rfl (w_251_0 (Ex.mono S n) ⟨h, fun v e _ => ⟨fun q => ⟨h, fun v2 e2 _ _ => ⟨_, rfl, ?_⟩⟩, fun q => ⟨h, fun v2 e2 _ _ => ⟨_, rfl, ?_⟩⟩⟩⟩)
  · unfold plcF at H; rw [if_neg (by omega)] at H; rw [e2]; exact H
  · unfold plcF at H; rw [if_pos (by omega)] at H; rw [e2]; exact H
/-- sound -/
theorem snd_12 (hO : OpsOK mem) {Kk : WK} (H1 : SoundM mem → Kk (some 1) mem) (H0 : ¬ SoundM mem → Kk (some 0) mem) : ∀ (N : Nat) (o k : Int), 0 ≤ o → o < mem 143 1 → 0 ≤ k → k ≤ 2 → (3 * (mem 143 1 - o) + (3 - k)).toNat < N → (∀ o2 : Nat, (o2 : Int) < o → ∀ k2 : Int, 0 ≤ k2 → k2 < srcN mem o2 → SrcS mem o2 k2) → (∀ k2 : Int, 0 ≤ k2 → k2 < k → SrcS mem o.toNat k2) → Wx (Ex S (n + 1)) S M_240 Kk 12 [some (.inr 143), some (.inl o), some (.inl k), none] [] mem := by
  intro N
  induction N with
  | zero => intros; omega
  | succ N ih =>
    intro o k ho1 ho2 hk1 hk2 hN hA hB
    have ho8 : 0 ≤ o ∧ o < 8 := by have := hO.1; omega
    refine w_240_12 (Ex.mono S (n + 1)) (f_241 ho8 (fun _ => ⟨fun q => ⟨by unfold InI; omega, ?_⟩, fun q => ?_⟩))
    · refine w_240_2 (Ex.mono S (n + 1)) (fun v e _ => ⟨fun q2 => H1 ?_, fun q2 => ?_⟩)
      · intro o2 ho k2 hk hn
        by_cases h : (o2 : Int) < o
        · exact hA o2 h k2 hk hn
        · have e2 : o2 = o.toNat := by omega
          subst e2
          exact hB k2 hk (by omega)
      · refine ih (o + 1) 0 (by omega) (by omega) (by omega) (by omega) (by omega) ?_ (fun k2 h1 h2 => by omega)
        intro o2 ho k2 hk hn
        by_cases h : (o2 : Int) < o
        · exact hA o2 h k2 hk hn
        · have e2 : o2 = o.toNat := by omega
          subst e2
          exact hB k2 hk (by omega)
    · have hs := hO.src (o := o.toNat) (by omega) hk1 (by omega)
      have hn2 : srcN mem o.toNat ≤ 2 := by unfold srcN; split <;> (try split) <;> omega
      have next : SrcS mem o.toNat k → Wx (Ex S (n + 1)) S M_240 Kk 12 [some (.inr 143), some (.inl o), some (.inl (k + 1)), none] [] mem := fun hS => by
        refine ih o (k + 1) ho1 ho2 (by omega) (by omega) (by omega) hA ?_
        intro k2 h1 h2
        by_cases h : k2 < k
        · exact hB k2 h1 h
        · rw [show k2 = k by omega]; exact hS
      have bad : ¬ SrcS mem o.toNat k → ¬ SoundM mem := fun h1 h2 => h1 (h2 o.toNat (by omega) k hk1 (by omega))
      refine f_242 ho8 (fun _ => ⟨fun q2 v e _ => ⟨fun q3 => H0 (bad ?_), fun q3 => ⟨?_, fun v2 e2 _ => ⟨fun q4 => H0 (bad ?_), fun q4 => f_243 ho8 (fun _ => ⟨fun q5 => ⟨by unfold InI; omega, next ?_⟩, fun q5 => ⟨fun q6 => ⟨by unfold InI; omega, next ?_⟩, fun q6 => H0 (bad ?_)⟩⟩)⟩⟩⟩, fun q2 => ⟨by unfold InI; omega, next ?_⟩⟩)
      · unfold SrcS; omega
      · unfold srcOK at hs; omega
      · unfold SrcS; rw [← e2]; omega
      · unfold SrcS; rw [← e2]; omega
      · unfold SrcS; rw [← e2]; omega
      · unfold SrcS; rw [← e2]; omega
      · unfold SrcS; omega
theorem f_240 (hO : OpsOK mem) (H1 : SoundM mem → K 1 mem) (H0 : ¬ SoundM mem → K 0 mem) : CWI (Ex S (n + 2)) 240 [.inr 143] mem K := by
  refine CW.of (k := 3) mt_240 rfl rfl (w_240_0 (Ex.mono S (n + 1)) (w_240_2 (Ex.mono S (n + 1)) (fun v e _ => ⟨fun q2 => ⟨_, rfl, H1 ?_⟩, fun q2 => ?_⟩)))
  · intro o ho; omega
  · exact snd_12 hO (fun h => ⟨_, rfl, H1 h⟩) (fun h => ⟨_, rfl, H0 h⟩) _ 0 0 (by omega) (by omega) (by omega) (by omega) (Nat.lt_succ_self _) (fun o2 h => by omega) (fun k2 h1 h2 => by omega)
end SND
