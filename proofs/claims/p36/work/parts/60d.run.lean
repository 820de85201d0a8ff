/-! the constructors run -/
def rtH (n : Nat) (H : HT) : RT := fun _ q m h => match q with
  | .inl none => Nat.beq m n && lEqG (lEqG eEq) h H
  | _ => false
def QH (θ : Nat → Int32) (n : Nat) (H : HT) (r : Rs) (h' : PH) : Prop := r = .inl none ∧ hR θ n H h'
theorem rtH_ok {θ : Nat → Int32} {n : Nat} {H : HT} : RTOK θ (rtH n H) (QH θ n H) := by
  intro env q m h h1 he r h' hr hh
  unfold rtH at h1
  split at h1
  · rw [Bool.and_eq_true, beq_iff] at h1
    obtain ⟨e1, e2⟩ := h1
    have e2 := lEqG_ok (fun _ _ q => lEqG_ok (fun _ _ q => eEq_ok q) q) e2
    subst e1
    subst e2
    refine ⟨?_, hh⟩
    cases r with
    | inr e => exact False.elim hr
    | inl w => cases w with
      | none => rfl
      | some v => exact absurd (show [v] = [] from hr) (by simp)
  · cases h1
set_option maxRecDepth 100000 in
theorem runA : aM 0 100000 mtW 20 0 E_0 [] [.inr (.inr (.ref 0)), aU] 1 h9 (rtH 143 hA) = true := by decide +kernel
set_option maxRecDepth 100000 in
theorem runB : aM 0 100000 mtW 20 224 E_224 [] [.inr (.inr (.ref 143)), aU] 144 hM (rtH 173 hB) = true := by decide +kernel
theorem eR0 {θ : Nat → Int32} : eR θ [] := fun t r h => by simp at h
theorem lRc {θ : Nat → Int32} {a : Nat} : lR θ [.inr (.inr (.ref a)), aU] (lv_args 0 [.ref a]) := by
  intro i v hv
  rcases i with _ | _ | i
  · cases hv; exact Or.inr ⟨_, rfl, rfl, rfl⟩
  · cases hv; exact Or.inl rfl
  · simp at hv
theorem cA {θ : Nat → Int32} {h : PH} (hh : hR θ 1 h9 h) : Ex (0, θ) 24 0 [.ref 0] h (QH θ 143 hA) := ((aM_ok mtW_ok 20) 0 E_0 [] _ 1 h9 _ rfl runA).2.2 _ _ _ eR0 lRc rfl hh rtH_ok
theorem cB {θ : Nat → Int32} {h : PH} (hh : hR θ 144 hM h) : Ex (0, θ) 24 224 [.ref 143] h (QH θ 173 hB) := ((aM_ok mtW_ok 20) 224 E_224 [] _ 144 hM _ rfl runB).2.2 _ _ _ eR0 lRc rfl hh rtH_ok
/-! a method that never looks at the script doesn't mind which it is -/
def inG (μ : Nat) : Bool := Nat.ble μ 9 || Nat.beq μ 224
def gOK (te : TE) : Bool := match te.2.1 with
  | .arraylength => false
  | .invokevirtual _ => inG te.2.2.1
  | .invokestatic _ => inG te.2.2.1
  | .invokespecial _ => inG te.2.2.1
  | _ => true
theorem call_S {C C' : CXW} (hC : ∀ μ, inG μ = true → ∀ av h Q, C μ av h Q → C' μ av h Q) {M : PM} {hd : List (Nat × Nat × Nat × Int)} {Q : Rs → PH → Prop} {K : Kt} {pc μ : Nat} (hg : inG μ = true) {virt : Bool} {lv : LV} {st : List Value} {h : PH} {c s : Nat} (H : p_call C M hd Q K pc μ virt lv st h c s) : p_call C' M hd Q K pc μ virt lv st h c s := by
  unfold p_call at H ⊢
  split at H
  · exact H.elim
  · obtain ⟨h1, h2, h3, h4, h5, h6⟩ := H
    exact ⟨h1, h2, h3, h4, h5, hC _ hg _ _ _ h6⟩
theorem pmI_S {θ : Nat → Int32} {S : Nat × (Nat → Int32)} {C C' : CXW} (hC : ∀ μ, inG μ = true → ∀ av h Q, C μ av h Q → C' μ av h Q) {M : PM} {hd : List (Nat × Nat × Nat × Int)} {Q : Rs → PH → Prop} {K : Kt} {te : TE} (hg : gOK te = true) {lv : LV} {st : List Value} {h : PH} {c s : Nat} (H : pmI C (0, θ) M hd Q K te lv st h c s) : pmI C' S M hd Q K te lv st h c s := by
  obtain ⟨pc, ins, ta, tb⟩ := te
  cases ins
  case arraylength => cases hg
  case iaload =>
    have H : p_iald (0, θ) h st (fun st => K (pc + 1) lv st h c s) := H
    show p_iald S h st (fun st => K (pc + 1) lv st h c s)
    unfold p_iald at H ⊢
    split at H
    · exact H
    · have := vp_in_iff.mp H.1
      omega
    · exact H.elim
  case invokevirtual i => exact call_S hC hg H
  case invokestatic i =>
    rcases H with H | ⟨h1, H⟩
    · exact Or.inl H
    · exact Or.inr ⟨h1, call_S hC hg H⟩
  case invokespecial i =>
    rcases H with H | ⟨h1, H⟩
    · exact Or.inl H
    · exact Or.inr ⟨h1, call_S hC hg H⟩
  all_goals exact H
theorem G_ok {μ : Nat} {M : PM} (h : inG μ = true) (hM : MT[μ]? = some M) : ∀ te ∈ pT M, gOK te = true := by
  have a : μ = 0 ∨ μ = 1 ∨ μ = 2 ∨ μ = 3 ∨ μ = 4 ∨ μ = 5 ∨ μ = 6 ∨ μ = 7 ∨ μ = 8 ∨ μ = 9 ∨ μ = 224 := by
    unfold inG at h
    rw [Bool.or_eq_true, beq_iff] at h
    rcases h with h | h
    · have := Nat.le_of_ble_eq_true h; omega
    · omega
  have b : (pT M).all gOK = true := by
    rcases a with a | a | a | a | a | a | a | a | a | a | a <;> subst a <;> cases hM <;> decide +kernel
  exact fun te hte => List.all_eq_true.mp b te hte
theorem Ex_S {θ : Nat → Int32} {S : Nat × (Nat → Int32)} : ∀ (n μ : Nat), inG μ = true → ∀ (av : List Value) (h : PH) (Q : Rs → PH → Prop), Ex (0, θ) n μ av h Q → Ex S n μ av h Q := by
  intro n
  induction n with
  | zero => intro μ _ av h Q H; exact H.elim
  | succ n ih =>
    intro μ hg av h Q ⟨M, h1, h2, H⟩
    refine ⟨M, h1, h2, fun X hX => H X (fun pc lv st h c s ⟨te, h3, h4⟩ => hX _ _ _ _ _ _ ⟨te, h3, pmI_S (fun μ q av h Q w => ih μ q av h Q w) (G_ok hg h1 te (List.mem_of_find?_eq_some h3)) h4⟩)⟩
