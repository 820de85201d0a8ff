/-! rate and critical on both sides -/
/-- behind laysRate -/
def RtF (m0 m : MM) : Prop := 0 ≤ m 143 12 ∧ Enum (rq m) (m 143 12).toNat (NdF m0) ∧ RtR ((ringsAll (rq m) (m 143 12).toNat (m0 143 1).toNat).foldl wRg (0, 1, 0)) (m 143 31) (m 143 32) (m 143 33)
/-- both rates are one -/
theorem RelB.rates {m m' : MM} (h : RelB m) (hB : BodyOK m) (hr : RefOK m) (w0 : 0 ≤ m 9 0) (h2 : WbX m) (w : RtF m m') : m 9 5 = m' 143 31 ∧ m 9 6 = m' 143 32 ∧ m 9 7 = m' 143 33 := by
  obtain ⟨v0, e, r⟩ := w
  have u := h.webs hB hr w0 v0 h2.2.1 e
  have el : ringsAll (cwq m 9) (m 9 0).toNat (m 1 0).toNat = ringsAll (rq m') (m' 143 12).toNat (m 143 1).toNat := by
    rw [h.1, show (m 9 0).toNat = (m' 143 12).toNat by rw [u.1]]
    exact ringsAll_cg (fun i hi => u.2 i (by omega)) _
  have x := h2.2.2.2
  rw [el] at x
  exact x.eq r
section GD
variable {S : Nat × (Nat → Int32)} {n : Nat} {mem : MM} {K : Int → MM → Prop}
theorem f_344r (h : RefOK mem) (hS : SoundM mem) {K : MM → Prop} (H : ∀ m', RefOK m' → FrQ mem m' → m' 143 0 = 0 → RtF mem m' → RtOK m' → K m') : CWV (Ex S (n + 5)) 344 [.inr 143] (upm mem 143 0 0) K := by
  have h' := h.th' (z := 0) (by omega)
  refine f_344e h'.ops hS.th (fun m' k1 k2 k3 k4 k5 k6 => H m' (k1.rest k2 h') (FrQ.th.tr k1.q) ((k1 143 0 (by omega) (by omega) (by omega) (by omega) (by omega) (by omega)).trans upm_eq) ⟨k3.2.1.1, k5, ?_⟩ k4)
  rw [upm_ne (by omega)] at k6
  exact k6
theorem f_343e {x : Int} (h : RefOK mem) (H1 : ∀ m', RefOK m' → FrQ mem m' → ¬ SoundM mem → m' 143 0 = 1 → K 0 m') (H : ∀ r m', RefOK m' → FrQ mem m' → SoundM mem → m' 143 0 = 0 → RtF mem m' → r = (if x = 0 then m' 143 31 else m' 143 32) → K r m') : CWI (Ex S (n + 6)) 343 [.inr 143, .inl x] mem K := by
  refine CW.of (k := 0) mt_343 rfl rfl (w_343_0 (Ex.mono S (n + 5)) (f_240 h.ops (fun hS _ => ⟨fun z => absurd z (by decide), fun _ => ?_⟩) (fun hS _ => ⟨fun _ _ => ⟨_, rfl, H1 _ (h.th' (by omega)) FrQ.th hS upm_eq⟩, fun z => absurd rfl z⟩)))
  exact f_344r h hS (fun m' k1 k2 k3 k4 _ => ⟨fun q v e _ _ => ⟨_, rfl, H _ m' k1 k2 hS k3 k4 (by rw [if_pos q]; exact e)⟩, fun q v e _ _ => ⟨_, rfl, H _ m' k1 k2 hS k3 k4 (by rw [if_neg q]; exact e)⟩⟩)
theorem f_348e (h : RefOK mem) (H1 : ∀ m', RefOK m' → FrQ mem m' → ¬ SoundM mem → m' 143 0 = 1 → K 0 m') (H : ∀ r m', RefOK m' → FrQ mem m' → SoundM mem → m' 143 0 = 0 → RtF mem m' → r = m' 143 33 → K r m') : CWI (Ex S (n + 6)) 348 [.inr 143] mem K := by
  refine CW.of (k := 0) mt_348 rfl rfl (w_348_0 (Ex.mono S (n + 5)) (f_240 h.ops (fun hS _ => ⟨fun z => absurd z (by decide), fun _ => ?_⟩) (fun hS _ => ⟨fun _ _ => ⟨_, rfl, H1 _ (h.th' (by omega)) FrQ.th hS upm_eq⟩, fun z => absurd rfl z⟩)))
  exact f_344r h hS (fun m' k1 k2 k3 k4 _ v e _ _ => ⟨_, rfl, H _ m' k1 k2 hS k3 k4 e⟩)
end GD
def Hf34 (p0 t y : Int) (m : MM) : Prop := ClS m ∧ RefOK m ∧ RelB m ∧ ((t = 1 ∧ ¬ SndX m) ∨ (t = 0 ∧ SndX m ∧ WbX m ∧ y = (if p0 = 0 then m 9 5 else m 9 6)))
theorem cl34 {S : Nat × (Nat → Int32)} {n : Nat} {m : MM} {p0 : Int} (hc : ClS m) (hr : RefOK m) (hb : RelB m) : CQI (Ex S (n + 17)) 188 [.inr 0, .inl p0] m (fun y m' => Hf34 p0 0 y m') (fun e m' => e = 1 ∧ Hf34 p0 1 0 m') :=
  f_188x hc (fun r m' c f s w q => ⟨c, krf hr f, krb hb f, Or.inr ⟨rfl, s, w, q⟩⟩) (fun m' c f s => ⟨rfl, c, krf hr f, krb hb f, Or.inl ⟨rfl, s⟩⟩)
theorem rf34 {S : Nat × (Nat → Int32)} {n : Nat} {m : MM} {p0 t y : Int} (H : Hf34 p0 t y m) : CQI (Ex S (n + 6)) 343 [.inr 143, .inl p0] m (fun r m2 => ClS m2 ∧ RefOK m2 ∧ RelB m2 ∧ m2 143 0 = t ∧ (t = 0 → r = y)) (fun _ _ => False) := by
  obtain ⟨hc, hr, hb, H⟩ := H
  have hs := hb.snd hr
  refine CWI.q (Ex.mono S (n + 6)) (f_343e hr (fun m' r1 f1 s1 t1 => ?_) (fun r m' r1 f1 s1 t1 w1 e1 => ?_))
  · rcases H with ⟨rfl, h1⟩ | ⟨-, h1, -⟩
    · exact ⟨(qQ hc hb f1).1, r1, (qQ hc hb f1).2, t1, fun z => by omega⟩
    · exact absurd (hs.mp h1) s1
  · rcases H with ⟨-, h1⟩ | ⟨rfl, h1, h2, h3⟩
    · exact absurd (hs.mpr s1) h1
    · have q := hb.rates hc.1.b hr hc.1.w.2.1 h2 w1
      exact ⟨(qQ hc hb f1).1, r1, (qQ hc hb f1).2, t1, fun _ => by rw [e1, h3, q.1, q.2.1]⟩
def Hf35 (t y : Int) (m : MM) : Prop := ClS m ∧ RefOK m ∧ RelB m ∧ ((t = 1 ∧ ¬ SndX m) ∨ (t = 0 ∧ SndX m ∧ WbX m ∧ y = m 9 7))
theorem cl35 {S : Nat × (Nat → Int32)} {n : Nat} {m : MM} (hc : ClS m) (hr : RefOK m) (hb : RelB m) : CQI (Ex S (n + 17)) 190 [.inr 0] m (fun y m' => Hf35 0 y m') (fun e m' => e = 1 ∧ Hf35 1 0 m') :=
  f_190x hc (fun r m' c f s w q => ⟨c, krf hr f, krb hb f, Or.inr ⟨rfl, s, w, q⟩⟩) (fun m' c f s => ⟨rfl, c, krf hr f, krb hb f, Or.inl ⟨rfl, s⟩⟩)
theorem rf35 {S : Nat × (Nat → Int32)} {n : Nat} {m : MM} {t y : Int} (H : Hf35 t y m) : CQI (Ex S (n + 6)) 348 [.inr 143] m (fun r m2 => ClS m2 ∧ RefOK m2 ∧ RelB m2 ∧ m2 143 0 = t ∧ (t = 0 → r = y)) (fun _ _ => False) := by
  obtain ⟨hc, hr, hb, H⟩ := H
  have hs := hb.snd hr
  refine CWI.q (Ex.mono S (n + 6)) (f_348e hr (fun m' r1 f1 s1 t1 => ?_) (fun r m' r1 f1 s1 t1 w1 e1 => ?_))
  · rcases H with ⟨rfl, h1⟩ | ⟨-, h1, -⟩
    · exact ⟨(qQ hc hb f1).1, r1, (qQ hc hb f1).2, t1, fun z => by omega⟩
    · exact absurd (hs.mp h1) s1
  · rcases H with ⟨-, h1⟩ | ⟨rfl, h1, h2, h3⟩
    · exact absurd (hs.mpr s1) h1
    · have q := hb.rates hc.1.b hr hc.1.w.2.1 h2 w1
      exact ⟨(qQ hc hb f1).1, r1, (qQ hc hb f1).2, t1, fun _ => by rw [e1, h3, q.2.2]⟩
