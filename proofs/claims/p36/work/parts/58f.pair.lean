/-! reckon on both sides -/
def Hf0 (p0 p1 p2 p3 p4 t y : Int) (m' : MM) : Prop := ClS m' ∧ RefOK m' ∧ ∃ m, RelB m ∧ ((t = 0 ∧ ((0 ≤ p0 ∧ p0 < 4) ∧ srcX p1 p2 ∧ srcX p3 p4) ∧ m 1 0 < 8 ∧ y = m 1 0 ∧ m' = upm (putM m (m 1 0).toNat p0 p1 p2 p3 p4) 0 11 1) ∨ (t = 1 ∧ ¬ ((0 ≤ p0 ∧ p0 < 4) ∧ srcX p1 p2 ∧ srcX p3 p4) ∧ m' = m) ∨ (t = 2 ∧ ((0 ≤ p0 ∧ p0 < 4) ∧ srcX p1 p2 ∧ srcX p3 p4) ∧ ¬ m 1 0 < 8 ∧ m' = m))
theorem cl0 {S : Nat × (Nat → Int32)} {n : Nat} {m : MM} {p0 p1 p2 p3 p4 : Int} (hc : ClS m) (hr : RefOK m) (hb : RelB m) : CQI (Ex S (n + 3)) 44 [.inr 0, .inl p0, .inl p1, .inl p2, .inl p3, .inl p4] m (fun y m' => Hf0 p0 p1 p2 p3 p4 0 y m') (fun e m' => (e = 0 ∧ Hf0 p0 p1 p2 p3 p4 1 0 m') ∨ (e = 1 ∧ Hf0 p0 p1 p2 p3 p4 2 0 m')) :=
  f_44x hc (fun q h8 r m' er hc' em => ⟨hc', hr.fr (fun A i a b => by rw [em]; unfold putM; repeat rw [upm_ne (by omega)]), m, hb, Or.inl ⟨rfl, q, h8, er, em⟩⟩) (fun q => Or.inl ⟨rfl, hc, hr, m, hb, Or.inr (Or.inl ⟨rfl, q, rfl⟩)⟩) (fun q h8 => Or.inr ⟨rfl, hc, hr, m, hb, Or.inr (Or.inr ⟨rfl, q, h8, rfl⟩)⟩)
theorem rf0 {S : Nat × (Nat → Int32)} {n : Nat} {m' : MM} {p0 p1 p2 p3 p4 t y : Int} (H : Hf0 p0 p1 p2 p3 p4 t y m') : CQI (Ex S (n + 3)) 226 [.inr 143, .inl p0, .inl p1, .inl p2, .inl p3, .inl p4] m' (fun r m2 => ClS m2 ∧ RefOK m2 ∧ RelB m2 ∧ m2 143 0 = t ∧ (t = 0 → r = y)) (fun _ _ => False) := by
  obtain ⟨hc, hr, m, hb, H⟩ := H
  have h8 : 0 ≤ m' 143 1 ∧ m' 143 1 ≤ 8 := hr.ops.1
  have hz := hb.1
  have e1 : m' 143 1 = m 143 1 := by
    rcases H with ⟨-, -, -, -, e⟩ | ⟨-, -, e⟩ | ⟨-, -, -, e⟩ <;> rw [e]
    unfold putM
    repeat rw [upm_ne (by omega)]
  refine f_226x h8 (fun q l r m2 er em => ?_) (fun q => ?_) (fun q l => ?_)
  · rcases H with ⟨rfl, q', l', ey, e⟩ | ⟨rfl, q', e⟩ | ⟨rfl, q', l', e⟩
    · have en : (m' 143 1).toNat = (m 1 0).toNat := by rw [e1, hz]
      refine ⟨hc.ref (fun A i w => ?_), ?_, ?_, ?_, fun _ => by rw [er, ey, e1, hz]⟩
      · unfold pRf at w
        rw [em]; unfold addM
        repeat rw [upm_ne (by omega)]
      · rw [em]
        have es : upm m' 143 0 0 143 1 = m' 143 1 := upm_ne (by omega)
        refine RefOK.add (hr.th' (by omega)) (by rw [es]; omega) (by rw [es]; exact l) (by omega) (fun _ => ⟨q.2.1.ok, q.2.2.ok⟩) (fun z => by omega) (fun z => by omega) ?_
        have := q.2.2
        unfold srcX at this
        omega
      · rw [em, en]
        refine RelB.add hb (by omega) (fun A i a b => ?_)
        rw [upm_ne (by omega), e, upm_ne (by omega)]
      · rw [em]; unfold addM
        repeat rw [upm_ne (by omega)]
        exact upm_eq
    · exact absurd q q'
    · omega
  · rcases H with ⟨rfl, q', l', ey, e⟩ | ⟨rfl, q', e⟩ | ⟨rfl, q', l', e⟩
    · exact absurd q' q
    · subst e
      exact ⟨hc.ref (fun A i w => upm_ne (by unfold pRf at w; omega)), hr.th' (by omega), hb.one (by omega), upm_eq, fun z => by omega⟩
    · exact absurd q' q
  · rcases H with ⟨rfl, q', l', ey, e⟩ | ⟨rfl, q', e⟩ | ⟨rfl, q', l', e⟩
    · omega
    · exact absurd q q'
    · subst e
      exact ⟨hc.ref (fun A i w => upm_ne (by unfold pRf at w; omega)), hr.th' (by omega), hb.one (by omega), upm_eq, fun z => by omega⟩
