/-! plain on both sides -/
theorem RelB.ag {m : MM} (h : RelB m) (hB : BodyOK m) (hr : RefOK m) {o : Nat} (ho : o < 8) : AgO (acsC m) (acsR m) o := by
  have q := h.rpl hB ho
  have w := h.ops ho
  have hab := hr.ab o ho
  refine ⟨q.1, q.2.2, fun k hk => ?_⟩
  have e := w.2 k hk
  have rg : -2 ≤ srcA m o k ∧ srcA m o k ≤ 7 := by
    have a : k = 0 ∨ k = 1 := by omega
    rcases a with rfl | rfl
    · exact hab.1
    · exact hab.2
  refine ⟨e.1, e.2, fun z => ?_, ?_⟩
  · show m 4 (m 3 (4 * o + 2 * k)).toNat = m 149 (m 3 (4 * o + 2 * k)).toNat
    rw [e.1]
    exact (h.2.1 _ (by omega)).2.2.2.2.2
  · show -2 ≤ m 3 (4 * o + 2 * k)
    rw [e.1]; exact rg.1
def plOK (p0 p1 p2 : Int) : Prop := ((0 ≤ p0 ∧ p0 ≤ 1) ∧ 0 ≤ p1 ∧ p1 ≤ 63) ∧ 0 ≤ p2 ∧ p2 ≤ 40
def Hf27 (p0 p1 p2 t y : Int) (m : MM) : Prop := ClS m ∧ RefOK m ∧ RelB m ∧ ((t = 1 ∧ ¬ plOK p0 p1 p2) ∨ (t = 2 ∧ plOK p0 p1 p2 ∧ ¬ SndX m) ∨ (t = 0 ∧ plOK p0 p1 p2 ∧ SndX m ∧ y = (trM (acsC m) (m 1 0).toNat p2.toNat).1 p0.toNat p1.toNat))
theorem cl27 {S : Nat × (Nat → Int32)} {n : Nat} {m : MM} {p0 p1 p2 : Int} (hc : ClS m) (hr : RefOK m) (hb : RelB m) : CQI (Ex S (n + 17)) 169 [.inr 0, .inl p0, .inl p1, .inl p2] m (fun y m' => Hf27 p0 p1 p2 0 y m') (fun e m' => (e = 0 ∧ Hf27 p0 p1 p2 1 0 m') ∨ (e = 1 ∧ Hf27 p0 p1 p2 2 0 m')) :=
  f_169x hc (fun q r m' c f s er => ⟨c, krf hr f, krb hb f, Or.inr (Or.inr ⟨rfl, q, s, er⟩)⟩) (fun q => Or.inl ⟨rfl, hc, hr, hb, Or.inl ⟨rfl, q⟩⟩) (fun q m' c f s => Or.inr ⟨rfl, c, krf hr f, krb hb f, Or.inr (Or.inl ⟨rfl, q, s⟩)⟩)
theorem rf27 {S : Nat × (Nat → Int32)} {n : Nat} {m : MM} {p0 p1 p2 t y : Int} (H : Hf27 p0 p1 p2 t y m) : CQI (Ex S (n + 5)) 327 [.inr 143, .inl p0, .inl p1, .inl p2] m (fun r m2 => ClS m2 ∧ RefOK m2 ∧ RelB m2 ∧ m2 143 0 = t ∧ (t = 0 → r = y)) (fun _ _ => False) := by
  obtain ⟨hc, hr, hb, H⟩ := H
  have hs := hb.snd hr
  have hz := hb.1
  have hB := hc.1.b
  have h8 := hB.1
  refine f_327x hr (fun q s m' f p r er => ?_) (fun q => ?_) (fun q s => ?_)
  · have h0 := hr.th' (z := 0) (by omega)
    have fq : FrQ m m' := fun A i w => by rw [f A i (by unfold pPr; omega), upm_ne (by omega)]
    have r1 : RefOK m' := h0.fr0 f
    have th : m' 143 0 = 0 := by rw [f 143 0 (by unfold pPr; omega)]; exact upm_eq
    rcases H with ⟨-, h1⟩ | ⟨-, -, h1⟩ | ⟨rfl, -, -, ey⟩
    · exact absurd q h1
    · exact absurd (hs.mpr s) h1
    · refine ⟨(qQ hc hb fq).1, r1, (qQ hc hb fq).2, th, fun _ => ?_⟩
      rw [er, ey, p.1 p0.toNat p1.toNat (by omega) (by omega), ← hz, trM.cg (A := acsC m) (B := acsR m) (fun o ho => hb.ag hB hr (by omega))]
  · rcases H with ⟨rfl, h1⟩ | ⟨-, h1, -⟩ | ⟨-, h1, -⟩
    · exact ⟨hc.ref (fun A i w => upm_ne (by unfold pRf at w; omega)), hr.th' (by omega), hb.one (by omega), upm_eq, fun z => by omega⟩
    · exact absurd h1 q
    · exact absurd h1 q
  · rcases H with ⟨-, h1⟩ | ⟨rfl, h1, -⟩ | ⟨-, h1, h2, -⟩
    · exact absurd q h1
    · exact ⟨hc.ref (fun A i w => upm_ne (by unfold pRf at w; omega)), hr.th' (by omega), hb.one (by omega), upm_eq, fun z => by omega⟩
    · exact absurd (hs.mp h2) s
