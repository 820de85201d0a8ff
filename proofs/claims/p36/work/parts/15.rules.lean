/-! rules of the pure machine -/
theorem brn.mono {c t f t' f' : Prop} (h1 : t → t') (h2 : f → f') (h : brn c t f) : brn c t' f' := ⟨fun q => h1 (h.1 q), fun q => h2 (h.2 q)⟩
theorem jmp.mono {pc : Nat} {off : Int} {f g : Nat → Prop} (h : ∀ t, f t → g t) (H : jmp pc off f) : jmp pc off g := ⟨H.1, h _ H.2⟩
theorem on1.mono {st : List Value} {f g : Int32 → List Value → Prop} (h : ∀ x r, f x r → g x r) (H : on1 st f) : on1 st g := by
  obtain ⟨x, r, rfl, H⟩ := on1_i H; exact h _ _ H
theorem on2.mono {st : List Value} {f g : Int32 → Int32 → List Value → Prop} (h : ∀ x y r, f x y r → g x y r) (H : on2 st f) : on2 st g := by
  obtain ⟨x, y, r, rfl, H⟩ := on2_i H; exact h _ _ _ H
theorem onL2.mono {st : List Value} {f g : Int64 → Int64 → List Value → Prop} (h : ∀ x y r, f x y r → g x y r) (H : onL2 st f) : onL2 st g := by
  obtain ⟨x, y, r, rfl, H⟩ := onL2_i H; exact h _ _ _ H
theorem onLI.mono {st : List Value} {f g : Int64 → Int32 → List Value → Prop} (h : ∀ x y r, f x y r → g x y r) (H : onLI st f) : onLI st g := by
  obtain ⟨x, y, r, rfl, H⟩ := onLI_i H; exact h _ _ _ H
theorem onR.mono {st : List Value} {f g : Nat → List Value → Prop} (h : ∀ x r, f x r → g x r) (H : onR st f) : onR st g := by
  obtain ⟨x, r, rfl, H⟩ := onR_i H; exact h _ _ H
theorem p_iald.mono {S : Nat × (Nat → Int32)} {h : PH} {st : List Value} {f g : List Value → Prop} (hh : ∀ r, f r → g r) (H : p_iald S h st f) : p_iald S h st g := by
  unfold p_iald at H ⊢
  split at H
  · split at H
    · exact ⟨H.1, hh _ H.2⟩
    · exact H.elim
  · exact ⟨H.1, hh _ H.2⟩
  · exact H.elim
theorem p_iast.mono {h : PH} {st : List Value} {f g : List Value → PH → Prop} (hh : ∀ r h, f r h → g r h) (H : p_iast h st f) : p_iast h st g := by
  unfold p_iast at H ⊢
  split at H
  · split at H
    · exact ⟨H.1, hh _ _ H.2⟩
    · exact H.elim
  · exact H.elim
theorem p_lald.mono {h : PH} {st : List Value} {f g : List Value → Prop} (hh : ∀ r, f r → g r) (H : p_lald h st f) : p_lald h st g := by
  unfold p_lald at H ⊢
  split at H
  · split at H
    · exact ⟨H.1, hh _ H.2⟩
    · exact H.elim
  · exact H.elim
theorem p_last.mono {h : PH} {st : List Value} {f g : List Value → PH → Prop} (hh : ∀ r h, f r h → g r h) (H : p_last h st f) : p_last h st g := by
  unfold p_last at H ⊢
  split at H
  · split at H
    · exact ⟨H.1, hh _ _ H.2⟩
    · exact H.elim
  · exact H.elim
theorem p_aald.mono {h : PH} {st : List Value} {f g : List Value → Prop} (hh : ∀ r, f r → g r) (H : p_aald h st f) : p_aald h st g := by
  unfold p_aald at H ⊢
  split at H
  · split at H
    · obtain ⟨h1, h2, q, h3, h4⟩ := H; exact ⟨h1, h2, q, h3, hh _ h4⟩
    · exact H.elim
  · exact H.elim
theorem p_aast.mono {h : PH} {st : List Value} {f g : List Value → PH → Prop} (hh : ∀ r h, f r h → g r h) (H : p_aast h st f) : p_aast h st g := by
  unfold p_aast at H ⊢
  split at H
  · split at H
    · exact ⟨H.1, hh _ _ H.2⟩
    · exact H.elim
  · exact H.elim
theorem p_alen.mono {S : Nat × (Nat → Int32)} {h : PH} {st : List Value} {f g : List Value → Prop} (hh : ∀ r, f r → g r) (H : p_alen S h st f) : p_alen S h st g := by
  unfold p_alen at H ⊢
  split at H
  · split at H
    · exact ⟨H.1, hh _ H.2⟩
    · exact H.elim
  · exact hh _ H
  · exact H.elim
theorem p_get.mono {h : PH} {ci k : Nat} {st : List Value} {f g : List Value → Prop} (hh : ∀ r, f r → g r) (H : p_get h ci k st f) : p_get h ci k st g := by
  unfold p_get at H ⊢
  split at H
  · split at H
    · obtain ⟨h1, h2, v, h3, h4⟩ := H; exact ⟨h1, h2, v, h3, hh _ h4⟩
    · exact H.elim
  · exact H.elim
theorem p_put.mono {h : PH} {ci k : Nat} {st : List Value} {f g : List Value → PH → Prop} (hh : ∀ r h, f r h → g r h) (H : p_put h ci k st f) : p_put h ci k st g := by
  unfold p_put at H ⊢
  split at H
  · split at H
    · obtain ⟨h1, h2, h3, h4, h5, h6⟩ := H; exact ⟨h1, h2, h3, h4, h5, hh _ _ h6⟩
    · exact H.elim
  · exact H.elim
theorem p_copy.mono {h : PH} {st : List Value} {f g : List Value → PH → Prop} (hh : ∀ r h, f r h → g r h) (H : p_copy h st f) : p_copy h st g := by
  unfold p_copy at H ⊢
  split at H
  · split at H
    · obtain ⟨h1, h2, h3, h4, h5, h6⟩ := H; exact ⟨h1, h2, h3, h4, h5, hh _ _ h6⟩
    · exact H.elim
  · exact H.elim
theorem p_new2.mono {h : PH} {st : List Value} {f g : List Value → PH → Nat → Nat → Prop} (hh : ∀ r h a b, f r h a b → g r h a b) (H : p_new2 h st f) : p_new2 h st g := by
  unfold p_new2 at H ⊢
  split at H
  · obtain ⟨h1, h2, h3, h4, h5⟩ := H; exact ⟨h1, h2, h3, h4, hh _ _ _ _ h5⟩
  · exact H.elim
theorem p_back.mono {M : PM} {hd : List (Nat × Nat × Nat × Int)} {Q Q' : Rs → PH → Prop} {K K' : Kt} (hQ : ∀ r h, Q r h → Q' r h) (hK : ∀ pc lv st h c s, K pc lv st h c s → K' pc lv st h c s) {pc : Nat} {lv : LV} {rest : List Value} {c s : Nat} (r : Rs) (h : PH) (H : p_back M hd Q K pc lv rest c s r h) : p_back M hd Q' K' pc lv rest c s r h := by
  unfold p_back at H ⊢
  cases r with
  | inl v => exact hK _ _ _ _ _ _ H
  | inr e =>
    simp only at H ⊢
    split at H
    · exact hQ _ _ H
    · exact hQ _ _ H
def Cmono (C : Nat → List Value → PH → (Rs → PH → Prop) → Prop) : Prop := ∀ (μ : Nat) (av : List Value) (h : PH) (Q Q' : Rs → PH → Prop), (∀ r h, Q r h → Q' r h) → C μ av h Q → C μ av h Q'
theorem p_call.mono {C : Nat → List Value → PH → (Rs → PH → Prop) → Prop} (hC : Cmono C) {M : PM} {hd : List (Nat × Nat × Nat × Int)} {Q Q' : Rs → PH → Prop} {K K' : Kt} (hQ : ∀ r h, Q r h → Q' r h) (hK : ∀ pc lv st h c s, K pc lv st h c s → K' pc lv st h c s) {pc μ : Nat} {virt : Bool} {lv : LV} {st : List Value} {h : PH} {c s : Nat} (H : p_call C M hd Q K pc μ virt lv st h c s) : p_call C M hd Q' K' pc μ virt lv st h c s := by
  unfold p_call at H ⊢
  split at H
  · exact H.elim
  · obtain ⟨h1, h2, h3, h4, h5, h6⟩ := H
    exact ⟨h1, h2, h3, h4, h5, hC _ _ _ _ _ (p_back.mono hQ hK) h6⟩
set_option maxHeartbeats 1000000 in
theorem pmI.mono {C : Nat → List Value → PH → (Rs → PH → Prop) → Prop} (hC : Cmono C) {S : Nat × (Nat → Int32)} {M : PM} {hd : List (Nat × Nat × Nat × Int)} {Q Q' : Rs → PH → Prop} {K K' : Kt} (hQ : ∀ r h, Q r h → Q' r h) (hK : ∀ pc lv st h c s, K pc lv st h c s → K' pc lv st h c s) {te : TE} {lv : LV} {st : List Value} {h : PH} {c s : Nat} (H : pmI C S M hd Q K te lv st h c s) : pmI C S M hd Q' K' te lv st h c s := by
  obtain ⟨pc, ins, ta, tb⟩ := te
  cases ins
  case ldc i => obtain ⟨q, h1, h2, H⟩ := H; exact ⟨q, h1, h2, hK _ _ _ _ _ _ H⟩
  case ldc_w i => obtain ⟨q, h1, h2, H⟩ := H; exact ⟨q, h1, h2, hK _ _ _ _ _ _ H⟩
  case iload i => obtain ⟨q, h1, H⟩ := H; exact ⟨q, h1, hK _ _ _ _ _ _ H⟩
  case iload_n i => obtain ⟨q, h1, H⟩ := H; exact ⟨q, h1, hK _ _ _ _ _ _ H⟩
  case lload i => obtain ⟨q, h1, H⟩ := H; exact ⟨q, h1, hK _ _ _ _ _ _ H⟩
  case aload i => obtain ⟨q, h1, h2, H⟩ := H; exact ⟨q, h1, h2, hK _ _ _ _ _ _ H⟩
  case aload_n i => obtain ⟨q, h1, h2, H⟩ := H; exact ⟨q, h1, h2, hK _ _ _ _ _ _ H⟩
  case istore i => exact ⟨H.1, on1.mono (fun _ _ => hK _ _ _ _ _ _) H.2⟩
  case istore_n i => exact ⟨H.1, on1.mono (fun _ _ => hK _ _ _ _ _ _) H.2⟩
  case lstore i => obtain ⟨h1, x, r, h2, H⟩ := H; exact ⟨h1, x, r, h2, hK _ _ _ _ _ _ H⟩
  case astore i => exact ⟨H.1, onR.mono (fun _ _ => hK _ _ _ _ _ _) H.2⟩
  case astore_n i => exact ⟨H.1, onR.mono (fun _ _ => hK _ _ _ _ _ _) H.2⟩
  case iinc i z => obtain ⟨h1, x, h2, H⟩ := H; exact ⟨h1, x, h2, hK _ _ _ _ _ _ H⟩
  case idiv => exact on2.mono (fun _ _ _ q => ⟨q.1, hK _ _ _ _ _ _ q.2⟩) H
  case irem => exact on2.mono (fun _ _ _ q => ⟨q.1, hK _ _ _ _ _ _ q.2⟩) H
  case dup => obtain ⟨v, r, h1, h2, H⟩ := H; exact ⟨v, r, h1, h2, hK _ _ _ _ _ _ H⟩
  case dup2 => obtain ⟨v, w, r, h1, h2, h3, H⟩ := H; exact ⟨v, w, r, h1, h2, h3, hK _ _ _ _ _ _ H⟩
  case pop => obtain ⟨v, r, h1, h2, H⟩ := H; exact ⟨v, r, h1, h2, hK _ _ _ _ _ _ H⟩
  case goto z => exact jmp.mono (fun _ => hK _ _ _ _ _ _) H
  case ifCond cc z => exact on1.mono (fun _ _ q => jmp.mono (fun _ => brn.mono (hK _ _ _ _ _ _) (hK _ _ _ _ _ _)) q) H
  case if_icmp cc z => exact on2.mono (fun _ _ _ q => jmp.mono (fun _ => brn.mono (hK _ _ _ _ _ _) (hK _ _ _ _ _ _)) q) H
  case tableswitch d lo hi offs => exact on1.mono (fun _ _ q => ⟨fun a => jmp.mono (fun _ => hK _ _ _ _ _ _) (q.1 a), fun a b => by obtain ⟨off, h1, h2⟩ := q.2 a b; exact ⟨off, h1, jmp.mono (fun _ => hK _ _ _ _ _ _) h2⟩⟩) H
  case iaload => exact p_iald.mono (f := fun st => K (pc + 1) lv st h c s) (g := fun st => K' (pc + 1) lv st h c s) (fun _ => hK _ _ _ _ _ _) H
  case iastore => exact p_iast.mono (f := fun st h => K (pc + 1) lv st h c s) (g := fun st h => K' (pc + 1) lv st h c s) (fun _ _ => hK _ _ _ _ _ _) H
  case laload => exact p_lald.mono (f := fun st => K (pc + 1) lv st h c s) (g := fun st => K' (pc + 1) lv st h c s) (fun _ => hK _ _ _ _ _ _) H
  case lastore => exact p_last.mono (f := fun st h => K (pc + 1) lv st h c s) (g := fun st h => K' (pc + 1) lv st h c s) (fun _ _ => hK _ _ _ _ _ _) H
  case aaload => exact p_aald.mono (f := fun st => K (pc + 1) lv st h c s) (g := fun st => K' (pc + 1) lv st h c s) (fun _ => hK _ _ _ _ _ _) H
  case aastore => exact p_aast.mono (f := fun st h => K (pc + 1) lv st h c s) (g := fun st h => K' (pc + 1) lv st h c s) (fun _ _ => hK _ _ _ _ _ _) H
  case arraylength => exact p_alen.mono (f := fun st => K (pc + 1) lv st h c s) (g := fun st => K' (pc + 1) lv st h c s) (fun _ => hK _ _ _ _ _ _) H
  case getfield i => exact p_get.mono (f := fun st => K (pc + 3) lv st h c s) (g := fun st => K' (pc + 3) lv st h c s) (fun _ => hK _ _ _ _ _ _) H
  case putfield i => exact p_put.mono (f := fun st h => K (pc + 3) lv st h c s) (g := fun st h => K' (pc + 3) lv st h c s) (fun _ _ => hK _ _ _ _ _ _) H
  case newarray t => exact on1.mono (fun _ _ q => ⟨q.1, q.2.1, q.2.2.1, q.2.2.2.1, q.2.2.2.2.imp (fun w => ⟨w.1, hK _ _ _ _ _ _ w.2⟩) (fun w => ⟨w.1, hK _ _ _ _ _ _ w.2⟩)⟩) H
  case anewarray i => exact on1.mono (fun _ _ q => ⟨q.1, q.2.1, q.2.2.1, q.2.2.2.1, hK _ _ _ _ _ _ q.2.2.2.2⟩) H
  case multianewarray i d => exact p_new2.mono (f := fun st h dc ds => c + dc ≤ pC M ∧ s + ds ≤ pS M ∧ K (pc + 4) lv st h (c + dc) (s + ds)) (g := fun st h dc ds => c + dc ≤ pC M ∧ s + ds ≤ pS M ∧ K' (pc + 4) lv st h (c + dc) (s + ds)) (fun _ _ _ _ q => ⟨q.1, q.2.1, hK _ _ _ _ _ _ q.2.2⟩) H
  case new i =>
    rcases H with ⟨h1, h2, h3, H⟩ | ⟨h1, h2, h3, h4, h5, x, h6, H⟩
    · exact Or.inl ⟨h1, h2, h3, hK _ _ _ _ _ _ H⟩
    · exact Or.inr ⟨h1, h2, h3, h4, h5, x, h6, hQ _ _ H⟩
  case invokevirtual i => exact p_call.mono hC hQ hK H
  case invokestatic i =>
    rcases H with ⟨h1, H⟩ | ⟨h1, H⟩
    · exact Or.inl ⟨h1, p_copy.mono (fun _ _ q => ⟨q.1, hK _ _ _ _ _ _ q.2⟩) H⟩
    · exact Or.inr ⟨h1, p_call.mono hC hQ hK H⟩
  case invokespecial i =>
    rcases H with ⟨h1, H⟩ | ⟨h1, H⟩
    · exact Or.inl ⟨h1, onR.mono (fun _ _ q => ⟨q.1, hK _ _ _ _ _ _ q.2⟩) H⟩
    · exact Or.inr ⟨h1, p_call.mono hC hQ hK H⟩
  case ireturn => obtain ⟨x, h1, h2, H⟩ := H; exact ⟨x, h1, h2, hQ _ _ H⟩
  case lreturn => obtain ⟨x, h1, h2, H⟩ := H; exact ⟨x, h1, h2, hQ _ _ H⟩
  case areturn => obtain ⟨x, h1, h2, H⟩ := H; exact ⟨x, h1, h2, hQ _ _ H⟩
  case return_ => obtain ⟨h1, h2, H⟩ := H; exact ⟨h1, h2, hQ _ _ H⟩
  all_goals first | exact hK _ _ _ _ _ _ H | exact on1.mono (fun _ _ => hK _ _ _ _ _ _) H | exact on2.mono (fun _ _ _ => hK _ _ _ _ _ _) H | exact onL2.mono (fun _ _ _ => hK _ _ _ _ _ _) H | exact onLI.mono (fun _ _ _ => hK _ _ _ _ _ _) H | exact (show False from H).elim
theorem Vx.mono {C : Nat → List Value → PH → (Rs → PH → Prop) → Prop} (hC : Cmono C) {S : Nat × (Nat → Int32)} {M : PM} {hd : List (Nat × Nat × Nat × Int)} {Q Q' : Rs → PH → Prop} (hQ : ∀ r h, Q r h → Q' r h) {pc : Nat} {lv : LV} {st : List Value} {h : PH} {c s : Nat} (H : Vx C S M hd Q pc lv st h c s) : Vx C S M hd Q' pc lv st h c s := by
  intro X hX
  refine H X (fun pc lv st h c s ⟨te, h1, h2⟩ => hX _ _ _ _ _ _ ⟨te, h1, pmI.mono hC hQ (fun _ _ _ _ _ _ q => q) h2⟩)
theorem Ex.mono (S : Nat × (Nat → Int32)) : ∀ n, Cmono (Ex S n)
  | 0 => fun _ _ _ _ _ _ H => H.elim
  | n + 1 => fun _ _ _ _ _ hQ ⟨M, h1, h2, H⟩ => ⟨M, h1, h2, Vx.mono (Ex.mono S n) hQ H⟩
/-- a step -/
theorem Vx.go {C : Nat → List Value → PH → (Rs → PH → Prop) → Prop} (hC : Cmono C) {S : Nat × (Nat → Int32)} {M : PM} {hd : List (Nat × Nat × Nat × Int)} {Q : Rs → PH → Prop} {pc : Nat} {lv : LV} {st : List Value} {h : PH} {c s : Nat} {te : TE} (h1 : (pT M).find? (fun e => e.1 == pc) = some te) (H : pmI C S M hd Q (Vx C S M hd Q) te lv st h c s) : Vx C S M hd Q pc lv st h c s := by
  intro X hX
  exact hX _ _ _ _ _ _ ⟨te, h1, pmI.mono hC (fun _ _ q => q) (fun _ _ _ _ _ _ q => q X hX) H⟩
