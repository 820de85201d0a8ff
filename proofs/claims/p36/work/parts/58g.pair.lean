/-! load, store, drop, first, kind, unit on both sides (wip/hand/pair.py) -/
def Hf1 (p0 p1 t y : Int) (m' : MM) : Prop := ClS m' ∧ RefOK m' ∧ ∃ m, RelB m ∧ ((t = 0 ∧ (rowX p0 p1) ∧ m 1 0 < 8 ∧ y = m 1 0 ∧ m' = upm (putM m (m 1 0).toNat 4 p0 p1 0 0) 0 11 1) ∨ (t = 1 ∧ ¬ (rowX p0 p1) ∧ m' = m) ∨ (t = 2 ∧ (rowX p0 p1) ∧ ¬ m 1 0 < 8 ∧ m' = m))
theorem cl1 {S : Nat × (Nat → Int32)} {n : Nat} {m : MM} {p0 p1 : Int} (hc : ClS m) (hr : RefOK m) (hb : RelB m) : CQI (Ex S (n + 3)) 49 [.inr 0, .inl p0, .inl p1] m (fun y m' => Hf1 p0 p1 0 y m') (fun e m' => (e = 0 ∧ Hf1 p0 p1 1 0 m') ∨ (e = 1 ∧ Hf1 p0 p1 2 0 m')) :=
  f_49x hc (fun q h8 r m' er hc' em => ⟨hc', hr.fr (fun A i a b => by rw [em]; unfold putM; repeat rw [upm_ne (by omega)]), m, hb, Or.inl ⟨rfl, q, h8, er, em⟩⟩) (fun q => Or.inl ⟨rfl, hc, hr, m, hb, Or.inr (Or.inl ⟨rfl, q, rfl⟩)⟩) (fun q h8 => Or.inr ⟨rfl, hc, hr, m, hb, Or.inr (Or.inr ⟨rfl, q, h8, rfl⟩)⟩)
theorem rf1 {S : Nat × (Nat → Int32)} {n : Nat} {m' : MM} {p0 p1 t y : Int} (H : Hf1 p0 p1 t y m') : CQI (Ex S (n + 3)) 230 [.inr 143, .inl p0, .inl p1] m' (fun r m2 => ClS m2 ∧ RefOK m2 ∧ RelB m2 ∧ m2 143 0 = t ∧ (t = 0 → r = y)) (fun _ _ => False) := by
  obtain ⟨hc, hr, m, hb, H⟩ := H
  have h8 : 0 ≤ m' 143 1 ∧ m' 143 1 ≤ 8 := hr.ops.1
  have hz := hb.1
  have e1 : m' 143 1 = m 143 1 := by
    rcases H with ⟨-, -, -, -, e⟩ | ⟨-, -, e⟩ | ⟨-, -, -, e⟩ <;> rw [e]
    unfold putM
    repeat rw [upm_ne (by omega)]
  refine f_230x h8 (fun q l r m2 er em => ?_) (fun q => ?_) (fun q l => ?_)
  · rcases H with ⟨rfl, q', l', ey, e⟩ | ⟨rfl, q', e⟩ | ⟨rfl, q', l', e⟩
    · have en : (m' 143 1).toNat = (m 1 0).toNat := by rw [e1, hz]
      refine ⟨hc.ref (fun A i w => ?_), ?_, ?_, ?_, fun _ => by rw [er, ey, e1, hz]⟩
      · unfold pRf at w
        rw [em]; unfold addM
        repeat rw [upm_ne (by omega)]
      · rw [em]
        have es : upm m' 143 0 0 143 1 = m' 143 1 := upm_ne (by omega)
        refine RefOK.add (hr.th' (by omega)) (by rw [es]; omega) (by rw [es]; exact l) (by omega) (fun z => by omega) (fun _ => q.w) (fun z => by omega) ?_
        omega
      · rw [em, en]
        refine RelB.add hb (by omega) (fun A i a b => ?_)
        rw [upm_ne (by omega), e, upm_ne (by omega)]
      · rw [em]; unfold addM
        repeat rw [upm_ne (by omega)]
        exact upm_eq
    · exact absurd q q'
    · omega
  · rcases H with ⟨rfl, q', l', ey, e⟩ | ⟨rfl, q', e⟩ | ⟨rfl, q', l', e⟩
    · exact absurd q' q
    · subst e
      exact ⟨hc.ref (fun A i w => upm_ne (by unfold pRf at w; omega)), hr.th' (by omega), hb.one (by omega), upm_eq, fun z => by omega⟩
    · exact absurd q' q
  · rcases H with ⟨rfl, q', l', ey, e⟩ | ⟨rfl, q', e⟩ | ⟨rfl, q', l', e⟩
    · omega
    · exact absurd q q'
    · subst e
      exact ⟨hc.ref (fun A i w => upm_ne (by unfold pRf at w; omega)), hr.th' (by omega), hb.one (by omega), upm_eq, fun z => by omega⟩
def Hf2 (p0 p1 p2 p3 t y : Int) (m' : MM) : Prop := ClS m' ∧ RefOK m' ∧ ∃ m, RelB m ∧ ((t = 0 ∧ (srcX p0 p1 ∧ rowX p2 p3) ∧ m 1 0 < 8 ∧ y = m 1 0 ∧ m' = upm (putM m (m 1 0).toNat 5 p0 p1 p2 p3) 0 11 1) ∨ (t = 1 ∧ ¬ (srcX p0 p1 ∧ rowX p2 p3) ∧ m' = m) ∨ (t = 2 ∧ (srcX p0 p1 ∧ rowX p2 p3) ∧ ¬ m 1 0 < 8 ∧ m' = m))
theorem cl2 {S : Nat × (Nat → Int32)} {n : Nat} {m : MM} {p0 p1 p2 p3 : Int} (hc : ClS m) (hr : RefOK m) (hb : RelB m) : CQI (Ex S (n + 3)) 52 [.inr 0, .inl p0, .inl p1, .inl p2, .inl p3] m (fun y m' => Hf2 p0 p1 p2 p3 0 y m') (fun e m' => (e = 0 ∧ Hf2 p0 p1 p2 p3 1 0 m') ∨ (e = 1 ∧ Hf2 p0 p1 p2 p3 2 0 m')) :=
  f_52x hc (fun q h8 r m' er hc' em => ⟨hc', hr.fr (fun A i a b => by rw [em]; unfold putM; repeat rw [upm_ne (by omega)]), m, hb, Or.inl ⟨rfl, q, h8, er, em⟩⟩) (fun q => Or.inl ⟨rfl, hc, hr, m, hb, Or.inr (Or.inl ⟨rfl, q, rfl⟩)⟩) (fun q h8 => Or.inr ⟨rfl, hc, hr, m, hb, Or.inr (Or.inr ⟨rfl, q, h8, rfl⟩)⟩)
theorem rf2 {S : Nat × (Nat → Int32)} {n : Nat} {m' : MM} {p0 p1 p2 p3 t y : Int} (H : Hf2 p0 p1 p2 p3 t y m') : CQI (Ex S (n + 3)) 232 [.inr 143, .inl p0, .inl p1, .inl p2, .inl p3] m' (fun r m2 => ClS m2 ∧ RefOK m2 ∧ RelB m2 ∧ m2 143 0 = t ∧ (t = 0 → r = y)) (fun _ _ => False) := by
  obtain ⟨hc, hr, m, hb, H⟩ := H
  have h8 : 0 ≤ m' 143 1 ∧ m' 143 1 ≤ 8 := hr.ops.1
  have hz := hb.1
  have e1 : m' 143 1 = m 143 1 := by
    rcases H with ⟨-, -, -, -, e⟩ | ⟨-, -, e⟩ | ⟨-, -, -, e⟩ <;> rw [e]
    unfold putM
    repeat rw [upm_ne (by omega)]
  refine f_232x h8 (fun q l r m2 er em => ?_) (fun q => ?_) (fun q l => ?_)
  · rcases H with ⟨rfl, q', l', ey, e⟩ | ⟨rfl, q', e⟩ | ⟨rfl, q', l', e⟩
    · have en : (m' 143 1).toNat = (m 1 0).toNat := by rw [e1, hz]
      refine ⟨hc.ref (fun A i w => ?_), ?_, ?_, ?_, fun _ => by rw [er, ey, e1, hz]⟩
      · unfold pRf at w
        rw [em]; unfold addM
        repeat rw [upm_ne (by omega)]
      · rw [em]
        have es : upm m' 143 0 0 143 1 = m' 143 1 := upm_ne (by omega)
        refine RefOK.add (hr.th' (by omega)) (by rw [es]; omega) (by rw [es]; exact l) (by omega) (fun z => by omega) (fun z => by omega) (fun _ => ⟨q.1.ok, q.2.w⟩) ?_
        have := q.2.w; omega
      · rw [em, en]
        refine RelB.add hb (by omega) (fun A i a b => ?_)
        rw [upm_ne (by omega), e, upm_ne (by omega)]
      · rw [em]; unfold addM
        repeat rw [upm_ne (by omega)]
        exact upm_eq
    · exact absurd q q'
    · omega
  · rcases H with ⟨rfl, q', l', ey, e⟩ | ⟨rfl, q', e⟩ | ⟨rfl, q', l', e⟩
    · exact absurd q' q
    · subst e
      exact ⟨hc.ref (fun A i w => upm_ne (by unfold pRf at w; omega)), hr.th' (by omega), hb.one (by omega), upm_eq, fun z => by omega⟩
    · exact absurd q' q
  · rcases H with ⟨rfl, q', l', ey, e⟩ | ⟨rfl, q', e⟩ | ⟨rfl, q', l', e⟩
    · omega
    · exact absurd q q'
    · subst e
      exact ⟨hc.ref (fun A i w => upm_ne (by unfold pRf at w; omega)), hr.th' (by omega), hb.one (by omega), upm_eq, fun z => by omega⟩
def Hf3 (t y : Int) (m' : MM) : Prop := ClS m' ∧ RefOK m' ∧ ∃ m, RelB m ∧ ((t = 0 ∧ 0 < m 1 0 ∧ y = m 1 0 - 1 ∧ m' = upm (upm m 1 0 (m 1 0 - 1)) 0 11 1) ∨ (t = 1 ∧ ¬ 0 < m 1 0 ∧ m' = m))
theorem cl3 {S : Nat × (Nat → Int32)} {n : Nat} {m : MM} (hc : ClS m) (hr : RefOK m) (hb : RelB m) : CQI (Ex S (n + 3)) 54 [.inr 0] m (fun y m' => Hf3 0 y m') (fun e m' => (e = 1 ∧ Hf3 1 0 m')) :=
  f_54x hc (fun q r m' er hc' em => ⟨hc', hr.fr (fun A i a b => by rw [em]; repeat rw [upm_ne (by omega)]), m, hb, Or.inl ⟨rfl, q, er, em⟩⟩) (fun q => ⟨rfl, hc, hr, m, hb, Or.inr ⟨rfl, q, rfl⟩⟩)
theorem rf3 {S : Nat × (Nat → Int32)} {n : Nat} {m' : MM} {t y : Int} (H : Hf3 t y m') : CQI (Ex S (n + 3)) 233 [.inr 143] m' (fun r m2 => ClS m2 ∧ RefOK m2 ∧ RelB m2 ∧ m2 143 0 = t ∧ (t = 0 → r = y)) (fun _ _ => False) := by
  obtain ⟨hc, hr, m, hb, H⟩ := H
  have h8 : 0 ≤ m' 143 1 ∧ m' 143 1 ≤ 8 := hr.ops.1
  have hz := hb.1
  have e1 : m' 143 1 = m 143 1 := by
    rcases H with ⟨-, -, -, e⟩ | ⟨-, -, e⟩ <;> rw [e]
    repeat rw [upm_ne (by omega)]
  refine f_233x h8 (fun q r m2 er em => ?_) (fun q => ?_)
  · rcases H with ⟨rfl, q', ey, e⟩ | ⟨rfl, q', e⟩
    · refine ⟨hc.ref (fun A i w => ?_), ?_, ?_, ?_, fun _ => by rw [er, ey, e1, hz]⟩
      · unfold pRf at w
        rw [em]
        repeat rw [upm_ne (by omega)]
      · rw [em]
        exact RefOK.up (hr.th' (by omega)) (Or.inl ⟨rfl, rfl, by omega, by omega⟩)
      · rw [em, e1]
        refine RelB.size (z := m 1 0 - 1) hb ?_ ?_ (fun A i w => ?_)
        · rw [upm_ne (by omega), upm_ne (by omega), e, upm_ne (by omega), upm_eq]
        · rw [upm_eq, hz]
        · rw [upm_ne (by omega), upm_ne (by omega), e, upm_ne (by omega), upm_ne (by omega)]
      · rw [em, upm_ne (by omega), upm_eq]
    · omega
  · rcases H with ⟨rfl, q', ey, e⟩ | ⟨rfl, q', e⟩
    · omega
    · subst e
      exact ⟨hc.ref (fun A i w => upm_ne (by unfold pRf at w; omega)), hr.th' (by omega), hb.one (by omega), upm_eq, fun z => by omega⟩
def Hf4 (p0 p1 t y : Int) (m' : MM) : Prop := ClS m' ∧ RefOK m' ∧ ∃ m, RelB m ∧ ((t = 0 ∧ (0 ≤ p0 ∧ p0 < m 1 0) ∧ (-9999 ≤ p1 ∧ p1 ≤ 9999) ∧ y = m 4 p0.toNat ∧ m' = upm m 4 p0.toNat p1) ∨ (t = 1 ∧ ¬ (0 ≤ p0 ∧ p0 < m 1 0) ∧ m' = m) ∨ (t = 2 ∧ (0 ≤ p0 ∧ p0 < m 1 0) ∧ ¬ (-9999 ≤ p1 ∧ p1 ≤ 9999) ∧ m' = m))
theorem cl4 {S : Nat × (Nat → Int32)} {n : Nat} {m : MM} {p0 p1 : Int} (hc : ClS m) (hr : RefOK m) (hb : RelB m) : CQI (Ex S (n + 3)) 56 [.inr 0, .inl p0, .inl p1] m (fun y m' => Hf4 p0 p1 0 y m') (fun e m' => (e = 2 ∧ Hf4 p0 p1 1 0 m') ∨ (e = 0 ∧ Hf4 p0 p1 2 0 m')) :=
  f_56x (n := n + 1) hc (fun q l r m' er hc' em => ⟨hc', hr.fr (fun A i a b => by rw [em]; repeat rw [upm_ne (by omega)]), m, hb, Or.inl ⟨rfl, q, l, er, em⟩⟩) (fun q => Or.inl ⟨rfl, hc, hr, m, hb, Or.inr (Or.inl ⟨rfl, q, rfl⟩)⟩) (fun q l => Or.inr ⟨rfl, hc, hr, m, hb, Or.inr (Or.inr ⟨rfl, q, l, rfl⟩)⟩)
theorem rf4 {S : Nat × (Nat → Int32)} {n : Nat} {m' : MM} {p0 p1 t y : Int} (H : Hf4 p0 p1 t y m') : CQI (Ex S (n + 4)) 234 [.inr 143, .inl p0, .inl p1] m' (fun r m2 => ClS m2 ∧ RefOK m2 ∧ RelB m2 ∧ m2 143 0 = t ∧ (t = 0 → r = y)) (fun _ _ => False) := by
  obtain ⟨hc, hr, m, hb, H⟩ := H
  have h8 : 0 ≤ m' 143 1 ∧ m' 143 1 ≤ 8 := hr.ops.1
  have hz := hb.1
  have e1 : m' 143 1 = m 143 1 := by
    rcases H with ⟨-, -, -, -, e⟩ | ⟨-, -, e⟩ | ⟨-, -, -, e⟩ <;> rw [e]
    repeat rw [upm_ne (by omega)]
  refine f_234x h8 (fun q l r m2 er em => ?_) (fun q => ?_) (fun q l => ?_)
  · rcases H with ⟨rfl, q', l', ey, e⟩ | ⟨rfl, q', e⟩ | ⟨rfl, q', l', e⟩
    · have er2 : m' 149 p0.toNat = m 149 p0.toNat := by
        rw [e]
        repeat rw [upm_ne (by omega)]
      have er3 : m 149 p0.toNat = m 4 p0.toNat := (hb.2.1 p0.toNat (by omega)).2.2.2.2.2.symm
      refine ⟨hc.ref (fun A i w => ?_), ?_, ?_, ?_, fun _ => by rw [er, ey, er2, er3]⟩
      · unfold pRf at w
        rw [em]
        repeat rw [upm_ne (by omega)]
      · rw [em]
        exact RefOK.up (hr.th' (by omega)) (by omega)
      · rw [em]
        refine RelB.row (A := 4) (B := 149) hb (by omega) (fun C j a b => ?_)
        rw [upm_ne (by omega), e]
      · rw [em, upm_ne (by omega), upm_eq]
    · omega
    · omega
  · rcases H with ⟨rfl, q', l', ey, e⟩ | ⟨rfl, q', e⟩ | ⟨rfl, q', l', e⟩
    · omega
    · subst e
      exact ⟨hc.ref (fun A i w => upm_ne (by unfold pRf at w; omega)), hr.th' (by omega), hb.one (by omega), upm_eq, fun z => by omega⟩
    · omega
  · rcases H with ⟨rfl, q', l', ey, e⟩ | ⟨rfl, q', e⟩ | ⟨rfl, q', l', e⟩
    · omega
    · omega
    · subst e
      exact ⟨hc.ref (fun A i w => upm_ne (by unfold pRf at w; omega)), hr.th' (by omega), hb.one (by omega), upm_eq, fun z => by omega⟩
def Hf6 (p0 p1 t y : Int) (m' : MM) : Prop := ClS m' ∧ RefOK m' ∧ ∃ m, RelB m ∧ ((t = 0 ∧ (0 ≤ p0 ∧ p0 < 3) ∧ (1 ≤ p1 ∧ p1 ≤ 3) ∧ y = m 8 p0.toNat ∧ m' = upm (upm m 8 p0.toNat p1) 0 11 1) ∨ (t = 1 ∧ ¬ (0 ≤ p0 ∧ p0 < 3) ∧ m' = m) ∨ (t = 2 ∧ (0 ≤ p0 ∧ p0 < 3) ∧ ¬ (1 ≤ p1 ∧ p1 ≤ 3) ∧ m' = m))
theorem cl6 {S : Nat × (Nat → Int32)} {n : Nat} {m : MM} {p0 p1 : Int} (hc : ClS m) (hr : RefOK m) (hb : RelB m) : CQI (Ex S (n + 3)) 62 [.inr 0, .inl p0, .inl p1] m (fun y m' => Hf6 p0 p1 0 y m') (fun e m' => (e = 2 ∧ Hf6 p0 p1 1 0 m') ∨ (e = 0 ∧ Hf6 p0 p1 2 0 m')) :=
  f_62x (n := n + 1) hc (fun q l r m' er hc' em => ⟨hc', hr.fr (fun A i a b => by rw [em]; repeat rw [upm_ne (by omega)]), m, hb, Or.inl ⟨rfl, q, l, er, em⟩⟩) (fun q => Or.inl ⟨rfl, hc, hr, m, hb, Or.inr (Or.inl ⟨rfl, q, rfl⟩)⟩) (fun q l => Or.inr ⟨rfl, hc, hr, m, hb, Or.inr (Or.inr ⟨rfl, q, l, rfl⟩)⟩)
theorem rf6 {S : Nat × (Nat → Int32)} {n : Nat} {m' : MM} {p0 p1 t y : Int} (H : Hf6 p0 p1 t y m') : CQI (Ex S (n + 4)) 237 [.inr 143, .inl p0, .inl p1] m' (fun r m2 => ClS m2 ∧ RefOK m2 ∧ RelB m2 ∧ m2 143 0 = t ∧ (t = 0 → r = y)) (fun _ _ => False) := by
  obtain ⟨hc, hr, m, hb, H⟩ := H
  have h8 : 0 ≤ m' 143 1 ∧ m' 143 1 ≤ 8 := hr.ops.1
  have hz := hb.1
  have e1 : m' 143 1 = m 143 1 := by
    rcases H with ⟨-, -, -, -, e⟩ | ⟨-, -, e⟩ | ⟨-, -, -, e⟩ <;> rw [e]
    repeat rw [upm_ne (by omega)]
  refine f_237x h8 (fun q l r m2 er em => ?_) (fun q => ?_) (fun q l => ?_)
  · rcases H with ⟨rfl, q', l', ey, e⟩ | ⟨rfl, q', e⟩ | ⟨rfl, q', l', e⟩
    · have er2 : m' 153 p0.toNat = m 153 p0.toNat := by
        rw [e]
        repeat rw [upm_ne (by omega)]
      have er3 : m 153 p0.toNat = m 8 p0.toNat := (hb.2.2.2 p0.toNat (by omega)).symm
      refine ⟨hc.ref (fun A i w => ?_), ?_, ?_, ?_, fun _ => by rw [er, ey, er2, er3]⟩
      · unfold pRf at w
        rw [em]
        repeat rw [upm_ne (by omega)]
      · rw [em]
        exact RefOK.up (hr.th' (by omega)) (by omega)
      · rw [em]
        refine RelB.row (A := 8) (B := 153) hb (by omega) (fun C j a b => ?_)
        rw [upm_ne (by omega), e, upm_ne (by omega)]
      · rw [em, upm_ne (by omega), upm_eq]
    · omega
    · omega
  · rcases H with ⟨rfl, q', l', ey, e⟩ | ⟨rfl, q', e⟩ | ⟨rfl, q', l', e⟩
    · omega
    · subst e
      exact ⟨hc.ref (fun A i w => upm_ne (by unfold pRf at w; omega)), hr.th' (by omega), hb.one (by omega), upm_eq, fun z => by omega⟩
    · omega
  · rcases H with ⟨rfl, q', l', ey, e⟩ | ⟨rfl, q', e⟩ | ⟨rfl, q', l', e⟩
    · omega
    · omega
    · subst e
      exact ⟨hc.ref (fun A i w => upm_ne (by unfold pRf at w; omega)), hr.th' (by omega), hb.one (by omega), upm_eq, fun z => by omega⟩
def Hf5 (p0 p1 p2 p3 t y : Int) (m' : MM) : Prop := ClS m' ∧ RefOK m' ∧ ∃ m, RelB m ∧ ((t = 0 ∧ (0 ≤ p0 ∧ p0 < 6) ∧ ((0 ≤ p1 ∧ p1 < 3) ∧ (1 ≤ p2 ∧ p2 ≤ 6) ∧ 1 ≤ p3 ∧ p3 ≤ 15) ∧ y = 0 ∧ m' = upm (upm (upm (upm m 5 p0.toNat p1) 6 p0.toNat p2) 7 p0.toNat p3) 0 11 1) ∨ (t = 1 ∧ ¬ (0 ≤ p0 ∧ p0 < 6) ∧ m' = m) ∨ (t = 2 ∧ (0 ≤ p0 ∧ p0 < 6) ∧ ¬ ((0 ≤ p1 ∧ p1 < 3) ∧ (1 ≤ p2 ∧ p2 ≤ 6) ∧ 1 ≤ p3 ∧ p3 ≤ 15) ∧ m' = m))
theorem cl5 {S : Nat × (Nat → Int32)} {n : Nat} {m : MM} {p0 p1 p2 p3 : Int} (hc : ClS m) (hr : RefOK m) (hb : RelB m) : CQV (Ex S (n + 3)) 59 [.inr 0, .inl p0, .inl p1, .inl p2, .inl p3] m (fun m' => Hf5 p0 p1 p2 p3 0 0 m') (fun e m' => (e = 2 ∧ Hf5 p0 p1 p2 p3 1 0 m') ∨ (e = 0 ∧ Hf5 p0 p1 p2 p3 2 0 m')) :=
  f_59x (n := n + 1) hc (fun q l m' hc' em => ⟨hc', hr.fr (fun A i a b => by rw [em]; repeat rw [upm_ne (by omega)]), m, hb, Or.inl ⟨rfl, q, l, rfl, em⟩⟩) (fun q => Or.inl ⟨rfl, hc, hr, m, hb, Or.inr (Or.inl ⟨rfl, q, rfl⟩)⟩) (fun q l => Or.inr ⟨rfl, hc, hr, m, hb, Or.inr (Or.inr ⟨rfl, q, l, rfl⟩)⟩)
theorem rf5 {S : Nat × (Nat → Int32)} {n : Nat} {m' : MM} {p0 p1 p2 p3 t y : Int} (H : Hf5 p0 p1 p2 p3 t y m') : CQI (Ex S (n + 4)) 236 [.inr 143, .inl p0, .inl p1, .inl p2, .inl p3] m' (fun r m2 => ClS m2 ∧ RefOK m2 ∧ RelB m2 ∧ m2 143 0 = t ∧ (t = 0 → r = y)) (fun _ _ => False) := by
  obtain ⟨hc, hr, m, hb, H⟩ := H
  have h8 : 0 ≤ m' 143 1 ∧ m' 143 1 ≤ 8 := hr.ops.1
  refine f_236x h8 (fun q l m2 em => ?_) (fun q => ?_) (fun q l => ?_)
  · rcases H with ⟨rfl, q', l', ey, e⟩ | ⟨rfl, q', e⟩ | ⟨rfl, q', l', e⟩
    · refine ⟨hc.ref (fun A i w => ?_), ?_, ?_, ?_, fun _ => ey.symm⟩
      · unfold pRf at w
        rw [em]
        repeat rw [upm_ne (by omega)]
      · rw [em]
        exact RefOK.up (RefOK.up (RefOK.up (hr.th' (by omega)) (by omega)) (by omega)) (by omega)
      · have b1 := RelB.row (A := 5) (B := 150) (i := p0.toNat) (x := p1) hb (by omega) (m2 := upm m 5 p0.toNat p1) (fun C j a b => rfl)
        have b2 := RelB.row (A := 6) (B := 151) (i := p0.toNat) (x := p2) b1 (by omega) (fun C j a b => rfl)
        have b3 := RelB.row (A := 7) (B := 152) (i := p0.toNat) (x := p3) b2 (by omega) (fun C j a b => rfl)
        refine b3.fr (fun A i w => ?_)
        rw [em, e]
        unfold upm
        repeat' split
        all_goals first | rfl | omega
      · rw [em]
        repeat rw [upm_ne (by omega)]
        exact upm_eq
    · omega
    · omega
  · rcases H with ⟨rfl, q', l', ey, e⟩ | ⟨rfl, q', e⟩ | ⟨rfl, q', l', e⟩
    · omega
    · subst e
      exact ⟨hc.ref (fun A i w => upm_ne (by unfold pRf at w; omega)), hr.th' (by omega), hb.one (by omega), upm_eq, fun z => by omega⟩
    · omega
  · rcases H with ⟨rfl, q', l', ey, e⟩ | ⟨rfl, q', e⟩ | ⟨rfl, q', l', e⟩
    · omega
    · omega
    · subst e
      exact ⟨hc.ref (fun A i w => upm_ne (by unfold pRf at w; omega)), hr.th' (by omega), hb.one (by omega), upm_eq, fun z => by omega⟩
