/-! fold and bestFold on both sides -/
section GE
variable {S : Nat × (Nat → Int32)} {n : Nat} {mem : MM} {K : Int → MM → Prop}
theorem f_349e {x : Int} (h : RefOK mem) (H1 : ¬ (1 ≤ x ∧ x ≤ 4) → ∀ m', RefOK m' → FrQ mem m' → m' 143 0 = 1 → K 0 m') (H2 : 1 ≤ x ∧ x ≤ 4 → ¬ SoundM mem → ∀ m', RefOK m' → FrQ mem m' → m' 143 0 = 2 → K 0 m') (H : 1 ≤ x ∧ x ≤ 4 → SoundM mem → ∀ m', RefOK m' → FrQ mem m' → m' 143 0 = 0 → RtF mem m' → RtOK m' → K (fbR m' x) m') : CWI (Ex S (n + 6)) 349 [.inr 143, .inl x] mem K := by
  refine CW.of (k := 0) mt_349 rfl rfl (w_349_0 (Ex.mono S (n + 5)) (f_227 (fun a1 a2 _ => ⟨fun _ => f_240 h.ops (fun hS _ => ⟨fun _ => ?_, fun z => absurd (by decide) z⟩) (fun hS _ => ⟨fun z => absurd rfl z, fun _ _ => ⟨_, rfl, H2 ⟨a1, a2⟩ hS _ (h.th' (by omega)) FrQ.th upm_eq⟩⟩), fun z => absurd (by decide) z⟩) (fun b1 _ => ⟨fun z => absurd rfl z, fun _ _ => ⟨_, rfl, H1 (by omega) _ (h.th' (by omega)) FrQ.th upm_eq⟩⟩)))
  exact f_344r h hS (fun m' k1 k2 k3 k4 k5 => f_350e k1 k5 ⟨a1, a2⟩ (fun _ _ => ⟨_, rfl, H ⟨a1, a2⟩ hS m' k1 k2 k3 k4 k5⟩))
theorem f_351e (h : RefOK mem) (H1 : ∀ m', RefOK m' → FrQ mem m' → ¬ SoundM mem → m' 143 0 = 1 → K 0 m') (H : ∀ m', RefOK m' → FrQ mem m' → SoundM mem → m' 143 0 = 0 → RtF mem m' → RtOK m' → K (bfV (fbR m') 3) m') : CWI (Ex S (n + 6)) 351 [.inr 143] mem K := by
  refine CW.of (k := 2) mt_351 rfl rfl (w_351_0 (Ex.mono S (n + 5)) (f_240 h.ops (fun hS _ => ⟨fun z => absurd z (by decide), fun _ => ?_⟩) (fun hS _ => ⟨fun _ _ => ⟨_, rfl, H1 _ (h.th' (by omega)) FrQ.th hS upm_eq⟩, fun z => absurd rfl z⟩)))
  refine f_344r h hS (fun m' k1 k2 k3 k4 k5 => ?_)
  have key : ∀ (N : Nat) (k : Nat), k ≤ 3 → 3 - k < N → Wx (Ex S (n + 5)) S M_351 (fun r m => ∃ y, r = some y ∧ K y m) 33 [some (.inr 143), some (.inl (bfV (fbR m') k)), some (.inl ((k : Int) + 2))] [] m' := by
    intro N
    induction N with
    | zero => intros; omega
    | succ N ih =>
      intro k hk hN
      have b := bfV_rg (f := fbR m') k
      refine w_351_33 (Ex.mono S (n + 5)) ⟨fun q _ => ⟨_, rfl, ?_⟩, fun q => ?_⟩
      · rw [show k = 3 by omega]; exact H m' k1 k2 hS k3 k4 k5
      have bs : bfV (fbR m') (k + 1) = if fbR m' ((k : Int) + 2) * bfV (fbR m') k < fbR m' (bfV (fbR m') k) * ((k : Int) + 2) then (k : Int) + 2 else bfV (fbR m') k := rfl
      refine f_350e k1 k5 ⟨by omega, by omega⟩ (fun _ => ⟨mul4 (by have := fbR_rg k1 k5 (x := (k : Int) + 2) ⟨by omega, by omega⟩; omega) ⟨by omega, by omega⟩, f_350e k1 k5 ⟨by omega, by omega⟩ (fun _ => ⟨mul4 (by have := fbR_rg k1 k5 (x := bfV (fbR m') k) ⟨by omega, by omega⟩; omega) ⟨by omega, by omega⟩, fun z => ⟨by unfold InI; omega, ?_⟩, fun z => ⟨by unfold InI; omega, ?_⟩⟩)⟩)
      · have e : bfV (fbR m') k = bfV (fbR m') (k + 1) := by rw [bs, if_neg (by omega)]
        rw [e, show (k : Int) + 2 + 1 = ((k + 1 : Nat) : Int) + 2 by omega]
        exact ih (k + 1) (by omega) (by omega)
      · have e : (k : Int) + 2 = bfV (fbR m') (k + 1) := by rw [bs, if_pos (by omega)]
        have w := ih (k + 1) (by omega) (by omega)
        rw [← e, show ((k + 1 : Nat) : Int) + 2 = (k : Int) + 2 + 1 by omega] at w
        exact w
  exact key 4 0 (by omega) (by omega)
end GE
/-- what fold is made of is one on both sides -/
theorem RelB.folds {m m' : MM} (h : RelB m) (hB : BodyOK m) (hr : RefOK m) (w0 : 0 ≤ m 9 0) (h2 : WbX m) (w : RtF m m') (hq : FrQ m m') (k : Int) : fbC m k = fbR m' k := by
  have q := h.rates hB hr w0 h2 w
  unfold fbC fbR
  rw [q.1, q.2.1]
  refine foV_cg 3 (fun i hi => ⟨?_, ?_⟩)
  · show usC m (i : Int) = usR m' (i : Int)
    rw [h.uses hB]
    unfold usR
    rw [hq 143 1 (by omega)]
    exact usN_eq _ (fun o _ => ⟨by unfold rUn; rw [hq 144 o (by omega), hq 150 _ (by omega)], by unfold rBu; rw [hq 144 o (by omega), hq 152 _ (by omega)]⟩)
  · rw [hq 153 i (by omega)]
    exact h.2.2.2 i hi
def Hf36 (p0 t y : Int) (m : MM) : Prop := ClS m ∧ RefOK m ∧ RelB m ∧ ((t = 1 ∧ ¬ (1 ≤ p0 ∧ p0 ≤ 4)) ∨ (t = 2 ∧ (1 ≤ p0 ∧ p0 ≤ 4) ∧ ¬ SndX m) ∨ (t = 0 ∧ (1 ≤ p0 ∧ p0 ≤ 4) ∧ SndX m ∧ WbX m ∧ y = fbC m p0))
theorem cl36 {S : Nat × (Nat → Int32)} {n : Nat} {m : MM} {p0 : Int} (hc : ClS m) (hr : RefOK m) (hb : RelB m) : CQI (Ex S (n + 17)) 192 [.inr 0, .inl p0] m (fun y m' => Hf36 p0 0 y m') (fun e m' => (e = 0 ∧ Hf36 p0 1 0 m') ∨ (e = 1 ∧ Hf36 p0 2 0 m')) :=
  f_192x hc (fun a m' c f s w r q => ⟨c, krf hr f, krb hb f, Or.inr (Or.inr ⟨rfl, a, s, w, q⟩)⟩) (fun a => Or.inl ⟨rfl, hc, hr, hb, Or.inl ⟨rfl, a⟩⟩) (fun a m' c f s => Or.inr ⟨rfl, c, krf hr f, krb hb f, Or.inr (Or.inl ⟨rfl, a, s⟩)⟩)
theorem rf36 {S : Nat × (Nat → Int32)} {n : Nat} {m : MM} {p0 t y : Int} (H : Hf36 p0 t y m) : CQI (Ex S (n + 6)) 349 [.inr 143, .inl p0] m (fun r m2 => ClS m2 ∧ RefOK m2 ∧ RelB m2 ∧ m2 143 0 = t ∧ (t = 0 → r = y)) (fun _ _ => False) := by
  obtain ⟨hc, hr, hb, H⟩ := H
  have hs := hb.snd hr
  refine CWI.q (Ex.mono S (n + 6)) (f_349e hr (fun a m' r1 f1 t1 => ?_) (fun a s1 m' r1 f1 t1 => ?_) (fun a s1 m' r1 f1 t1 w1 k1 => ?_))
  · rcases H with ⟨rfl, h1⟩ | ⟨-, h1, -⟩ | ⟨-, h1, -⟩
    · exact ⟨(qQ hc hb f1).1, r1, (qQ hc hb f1).2, t1, fun z => by omega⟩
    · exact absurd h1 a
    · exact absurd h1 a
  · rcases H with ⟨-, h1⟩ | ⟨rfl, -, h1⟩ | ⟨-, -, h1, -⟩
    · exact absurd a h1
    · exact ⟨(qQ hc hb f1).1, r1, (qQ hc hb f1).2, t1, fun z => by omega⟩
    · exact absurd (hs.mp h1) s1
  · rcases H with ⟨-, h1⟩ | ⟨-, -, h1⟩ | ⟨rfl, -, h1, h2, h3⟩
    · exact absurd a h1
    · exact absurd (hs.mpr s1) h1
    · exact ⟨(qQ hc hb f1).1, r1, (qQ hc hb f1).2, t1, fun _ => by rw [h3, hb.folds hc.1.b hr hc.1.w.2.1 h2 w1 f1]⟩
def Hf37 (t y : Int) (m : MM) : Prop := ClS m ∧ RefOK m ∧ RelB m ∧ ((t = 1 ∧ ¬ SndX m) ∨ (t = 0 ∧ SndX m ∧ WbX m ∧ y = bfV (fbC m) 3))
theorem cl37 {S : Nat × (Nat → Int32)} {n : Nat} {m : MM} (hc : ClS m) (hr : RefOK m) (hb : RelB m) : CQI (Ex S (n + 17)) 194 [.inr 0] m (fun y m' => Hf37 0 y m') (fun e m' => e = 1 ∧ Hf37 1 0 m') :=
  f_194x hc (fun m' c f s w r q => ⟨c, krf hr f, krb hb f, Or.inr ⟨rfl, s, w, q⟩⟩) (fun m' c f s => ⟨rfl, c, krf hr f, krb hb f, Or.inl ⟨rfl, s⟩⟩)
theorem rf37 {S : Nat × (Nat → Int32)} {n : Nat} {m : MM} {t y : Int} (H : Hf37 t y m) : CQI (Ex S (n + 6)) 351 [.inr 143] m (fun r m2 => ClS m2 ∧ RefOK m2 ∧ RelB m2 ∧ m2 143 0 = t ∧ (t = 0 → r = y)) (fun _ _ => False) := by
  obtain ⟨hc, hr, hb, H⟩ := H
  have hs := hb.snd hr
  refine CWI.q (Ex.mono S (n + 6)) (f_351e hr (fun m' r1 f1 s1 t1 => ?_) (fun m' r1 f1 s1 t1 w1 k1 => ?_))
  · rcases H with ⟨rfl, h1⟩ | ⟨-, h1, -⟩
    · exact ⟨(qQ hc hb f1).1, r1, (qQ hc hb f1).2, t1, fun z => by omega⟩
    · exact absurd (hs.mp h1) s1
  · rcases H with ⟨-, h1⟩ | ⟨rfl, h1, h2, h3⟩
    · exact absurd (hs.mpr s1) h1
    · have e : fbC m = fbR m' := funext (fun k => hb.folds hc.1.b hr hc.1.w.2.1 h2 w1 f1 k)
      exact ⟨(qQ hc hb f1).1, r1, (qQ hc hb f1).2, t1, fun _ => by rw [h3, e]⟩
