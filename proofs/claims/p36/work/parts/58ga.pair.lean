/-! op and uses on both sides: nothing of the ops changes -/
def Hf7 (p0 p1 t y : Int) (m : MM) : Prop := ClS m ∧ RefOK m ∧ RelB m ∧ ((t = 0 ∧ (0 ≤ p0 ∧ p0 < m 1 0) ∧ (0 ≤ p1 ∧ p1 ≤ 5) ∧ y = opF m p0.toNat p1) ∨ (t = 1 ∧ ¬ (0 ≤ p0 ∧ p0 < m 1 0)) ∨ (t = 2 ∧ (0 ≤ p0 ∧ p0 < m 1 0) ∧ ¬ (0 ≤ p1 ∧ p1 ≤ 5)))
theorem cl7 {S : Nat × (Nat → Int32)} {n : Nat} {m : MM} {p0 p1 : Int} (hc : ClS m) (hr : RefOK m) (hb : RelB m) : CQI (Ex S (n + 3)) 65 [.inr 0, .inl p0, .inl p1] m (fun y m' => Hf7 p0 p1 0 y m') (fun e m' => (e = 2 ∧ Hf7 p0 p1 1 0 m') ∨ (e = 3 ∧ Hf7 p0 p1 2 0 m')) :=
  f_65x (n := n + 1) hc (fun q l r er => ⟨hc, hr, hb, Or.inl ⟨rfl, q, l, er⟩⟩) (fun q => Or.inl ⟨rfl, hc, hr, hb, Or.inr (Or.inl ⟨rfl, q⟩)⟩) (fun q l => Or.inr ⟨rfl, hc, hr, hb, Or.inr (Or.inr ⟨rfl, q, l⟩)⟩)
theorem rf7 {S : Nat × (Nat → Int32)} {n : Nat} {m : MM} {p0 p1 t y : Int} (H : Hf7 p0 p1 t y m) : CQI (Ex S (n + 4)) 238 [.inr 143, .inl p0, .inl p1] m (fun r m2 => ClS m2 ∧ RefOK m2 ∧ RelB m2 ∧ m2 143 0 = t ∧ (t = 0 → r = y)) (fun _ _ => False) := by
  obtain ⟨hc, hr, hb, H⟩ := H
  have hz := hb.1
  have h8 := hr.ops.1
  refine f_238x hr.ops.1 (fun q l r er => ?_) (fun q => ?_) (fun q l => ?_)
  · rcases H with ⟨rfl, q', l', e⟩ | ⟨rfl, q'⟩ | ⟨rfl, q', l'⟩
    · exact ⟨hc.ref (fun A i w => upm_ne (by unfold pRf at w; omega)), hr.th' (by omega), hb.one (by omega), upm_eq, fun _ => by rw [er, e]; exact (hb.op (by omega) (by omega)).symm⟩
    · omega
    · omega
  · rcases H with ⟨rfl, q', l', e⟩ | ⟨rfl, q'⟩ | ⟨rfl, q', l'⟩
    · omega
    · exact ⟨hc.ref (fun A i w => upm_ne (by unfold pRf at w; omega)), hr.th' (by omega), hb.one (by omega), upm_eq, fun z => by omega⟩
    · omega
  · rcases H with ⟨rfl, q', l', e⟩ | ⟨rfl, q'⟩ | ⟨rfl, q', l'⟩
    · omega
    · omega
    · exact ⟨hc.ref (fun A i w => upm_ne (by unfold pRf at w; omega)), hr.th' (by omega), hb.one (by omega), upm_eq, fun z => by omega⟩
def Hf12 (p0 t y : Int) (m : MM) : Prop := ClS m ∧ RefOK m ∧ RelB m ∧ ((t = 0 ∧ (0 ≤ p0 ∧ p0 < 3) ∧ y = usC m p0) ∨ (t = 1 ∧ ¬ (0 ≤ p0 ∧ p0 < 3)))
theorem cl12 {S : Nat × (Nat → Int32)} {n : Nat} {m : MM} {p0 : Int} (hc : ClS m) (hr : RefOK m) (hb : RelB m) : CQI (Ex S (n + 3)) 82 [.inr 0, .inl p0] m (fun y m' => Hf12 p0 0 y m') (fun e m' => (e = 2 ∧ Hf12 p0 1 0 m')) :=
  f_82x hc (fun q r er => ⟨hc, hr, hb, Or.inl ⟨rfl, q, er⟩⟩) (fun q => ⟨rfl, hc, hr, hb, Or.inr ⟨rfl, q⟩⟩)
theorem rf12 {S : Nat × (Nat → Int32)} {n : Nat} {m : MM} {p0 t y : Int} (H : Hf12 p0 t y m) : CQI (Ex S (n + 3)) 262 [.inr 143, .inl p0] m (fun r m2 => ClS m2 ∧ RefOK m2 ∧ RelB m2 ∧ m2 143 0 = t ∧ (t = 0 → r = y)) (fun _ _ => False) := by
  obtain ⟨hc, hr, hb, H⟩ := H
  refine f_262x hr (fun q r er => ?_) (fun q => ?_)
  · rcases H with ⟨rfl, q', e⟩ | ⟨rfl, q'⟩
    · exact ⟨hc.ref (fun A i w => upm_ne (by unfold pRf at w; omega)), hr.th' (by omega), hb.one (by omega), upm_eq, fun _ => by rw [er, e]; exact (hb.uses hc.1.b p0).symm⟩
    · omega
  · rcases H with ⟨rfl, q', e⟩ | ⟨rfl, q'⟩
    · omega
    · exact ⟨hc.ref (fun A i w => upm_ne (by unfold pRf at w; omega)), hr.th' (by omega), hb.one (by omega), upm_eq, fun z => by omega⟩
