/-! faster and without on both sides -/
/-- needs, all but one, by d -/
def EdX (c : Nat → Q4) (n : Nat) (k d : Int) (a b : Nat) (x : Int) : Prop := ∃ j : Nat, j < n ∧ ¬ (j : Int) = k ∧ (c j).1 = a ∧ (c j).2.1 = b ∧ x = (c j).2.2.2 - d * (c j).2.2.1
theorem NdE.x {m : MM} (h12 : 0 ≤ m 143 12) {d : Int} : NdE m d = EdX (rq m) (m 143 12).toNat (m 143 18) d := by
  funext a b x
  refine propext ⟨?_, ?_⟩
  · rintro ⟨j, h1, h0, h2, h3, h4⟩
    exact ⟨j, by omega, h0, h2, h3, h4⟩
  · rintro ⟨j, h1, h0, h2, h3, h4⟩
    exact ⟨j, by omega, h0, h2, h3, h4⟩
/-- needs by the reference's cells, latencies told apart -/
def NdG (m : MM) (la : Nat → Int) (x : Q4) : Prop := (∃ o k : Nat, (o : Int) < m 143 1 ∧ (k : Int) < srcN m o ∧ 0 ≤ srcA m o k ∧ x = (srcA m o k, (o : Int), srcB m o k, la (srcA m o k).toNat)) ∨ ∃ s o : Nat, (s : Int) < m 143 1 ∧ (o : Int) < m 143 1 ∧ ¬ o = s ∧ NdR (m 144) (rowF m) (plcF m) la s o x
theorem RelB.ndl {m : MM} {q : Int} {lr : Nat → Int} (h : RelB m) (hB : BodyOK m) (hr : RefOK m) (hl : ∀ o, o < 8 → laB m q o = lr o) (x : Q4) : NdC m q x ↔ NdG m lr x := by
  have h8 := hr.ops.1
  have hz := h.1
  have la : ∀ a : Int, 0 ≤ a → a ≤ 7 → laB m q a.toNat = lr a.toNat := fun a b c => hl a.toNat (by omega)
  have sy : ∀ o : Nat, o < 8 → (m 2 o = m 144 o ∧ laB m q o = lr o ∧ (m 2 o = 4 ∨ m 2 o = 5 → rowB m o = rowF m o ∧ plcB m o = plcF m o)) := fun o ho => ⟨(h.rpl hB ho).1, hl o ho, (h.rpl hB ho).2.2⟩
  have ys : ∀ o : Nat, o < 8 → (m 144 o = m 2 o ∧ lr o = laB m q o ∧ (m 144 o = 4 ∨ m 144 o = 5 → rowF m o = rowB m o ∧ plcF m o = plcB m o)) := fun o ho => by
    have q := sy o ho
    exact ⟨q.1.symm, q.2.1.symm, fun k => by
      have w := q.2.2 (by rw [q.1]; exact k)
      exact ⟨w.1.symm, w.2.symm⟩⟩
  constructor
  · rintro (⟨o, k, h1, h2, h3, h4⟩ | ⟨s, o, h1, h2, h3, h4⟩)
    · have q := h.ops (o := o) (by omega)
      have w := csN_rg m o
      have e := q.2 k (by omega)
      have so := hr.ops.src (o := o) (by omega) (k := (k : Int)) (by omega) (by rw [← q.1]; exact h2)
      rw [e.1] at h3 h4
      rw [e.2] at h4
      unfold srcOK at so
      rw [la _ h3 (by omega)] at h4
      exact Or.inl ⟨o, k, by omega, by rw [← q.1]; exact h2, h3, h4⟩
    · exact Or.inr ⟨s, o, by omega, by omega, h3, NdR.cg h4 (sy s (by omega)) (sy o (by omega))⟩
  · rintro (⟨o, k, h1, h2, h3, h4⟩ | ⟨s, o, h1, h2, h3, h4⟩)
    · have q := h.ops (o := o) (by omega)
      have w := csN_rg m o
      rw [q.1] at w
      have e := q.2 k (by omega)
      have so := hr.ops.src (o := o) (by omega) (k := (k : Int)) (by omega) h2
      unfold srcOK at so
      rw [← la _ h3 (by omega), ← e.1, ← e.2] at h4
      rw [← e.1] at h3
      exact Or.inl ⟨o, k, by omega, by rw [q.1]; exact h2, h3, h4⟩
    · exact Or.inr ⟨s, o, by omega, by omega, h3, NdR.cg h4 (ys s (by omega)) (ys o (by omega))⟩
section GG
variable {S : Nat × (Nat → Int32)} {n : Nat} {mem : MM} {K : Int → MM → Prop}
theorem f_352e {x : Int} (h : RefOK mem) (H1 : ¬ (0 ≤ x ∧ x < 6) → ∀ m', RefOK m' → FrQ mem m' → m' 143 0 = 1 → K 0 m') (H2 : 0 ≤ x ∧ x < 6 → (¬ SoundM mem ∨ (SoundM mem ∧ mem 151 x.toNat = 1)) → ∀ m', RefOK m' → FrQ mem m' → m' 143 0 = 2 → K 0 m') (H : 0 ≤ x ∧ x < 6 → SoundM mem → ¬ mem 151 x.toNat = 1 → ∀ r z m', RefOK m' → FrQ mem m' → m' 143 0 = 0 → NdRd (upm mem 151 x.toNat (mem 151 x.toNat - 1)) m' r → z = max 1 (max r (byR mem)) → K z m') : CWI (Ex S (n + 5)) 352 [.inr 143, .inl x] mem K := by
  refine CW.of (k := 1) mt_352 rfl rfl (w_352_0 (Ex.mono S (n + 4)) (f_227 (fun a1 a2 _ => ⟨fun _ => f_240 h.ops (fun hS _ => ⟨fun z => absurd z (by decide), fun _ => ⟨by omega, fun v6 e6 _ => ⟨fun q => ⟨by omega, fun v8 e8 _ => ?_⟩, fun q _ => ⟨_, rfl, H2 ⟨a1, by omega⟩ (Or.inr ⟨hS, by omega⟩) _ (h.th' (by omega)) FrQ.th upm_eq⟩⟩⟩⟩) (fun hS _ => ⟨fun _ _ => ⟨_, rfl, H2 ⟨a1, by omega⟩ (Or.inl hS) _ (h.th' (by omega)) FrQ.th upm_eq⟩, fun z => absurd rfl z⟩), fun z => absurd (by decide) z⟩) (fun b1 _ => ⟨fun z => absurd rfl z, fun _ _ => ⟨_, rfl, H1 (by omega) _ (h.th' (by omega)) FrQ.th upm_eq⟩⟩)))
  have h' := h.th' (z := 0) (by omega)
  have e8' : v8 = v6 := by rw [e8, e6, upm_ne (by omega)]
  have hl := h.ops.2.2 x.toNat (by omega)
  refine ⟨by unfold InI; omega, by omega, f_353e (h'.ops.lat1 ⟨by omega, by omega⟩) hS h'.bz h'.cn9 (fun r m9 k1 k2 k3 _ => ⟨by omega, fun v11 e11 _ => ?_⟩)⟩
  have e11' : v11 = v8 - 1 := by rw [e11, k1 _ _ (by omega) (by omega) (by omega) (by omega) (by omega) (by omega), upm_eq]
  obtain ⟨b1, b2⟩ := back (w := v11 + 1) (Or.inl rfl) h' (by rw [e11', ← e8]; omega) k1 k2
  have t0 : upm m9 151 x.toNat (v11 + 1) 143 0 = 0 := by
    rw [upm_ne (by omega), k1 143 0 (by omega) (by omega) (by omega) (by omega) (by omega) (by omega), upm_ne (by omega)]; exact upm_eq
  refine ⟨by unfold InI; omega, by omega, fun _ => ⟨_, rfl, H ⟨a1, by omega⟩ hS (by omega) r _ _ b1 (FrQ.th.tr b2) t0 ?_ ?_⟩⟩
  · have e : v8 - 1 = mem 151 x.toNat - 1 := by omega
    rw [e] at k3
    exact k3
  · have eb : byR (upm (upm mem 143 0 0) 151 x.toNat (v8 - 1)) = byR mem := byR.fr (fun A i q => by rw [upm_ne (by omega), upm_ne (by omega)])
    rw [eb]
theorem f_355e {x : Int} (h : RefOK mem) (H1 : ¬ SoundM mem → ∀ m', RefOK m' → FrQ mem m' → m' 143 0 = 1 → K 0 m') (H2 : SoundM mem → ∀ m', RefOK m' → FrQ mem m' → m' 143 0 = 2 → 0 ≤ m' 143 12 → Enum (rq m') (m' 143 12).toNat (NdF mem) → ¬ (0 ≤ x ∧ x < m' 143 12) → K 0 m') (H : SoundM mem → ∀ r m', RefOK m' → FrQ mem m' → m' 143 0 = 0 → NdsOK m' → Enum (rq m') (m' 143 12).toNat (NdF mem) → (0 ≤ x ∧ x < m' 143 12) → 0 ≤ r → RdsM (EdX (rq m') (m' 143 12).toNat x) r → K r m') : CWI (Ex S (n + 4)) 355 [.inr 143, .inl x] mem K := by
  refine CW.of (k := 1) mt_355 rfl rfl (w_355_0 (Ex.mono S (n + 3)) (f_240 h.ops (fun hS _ => ⟨fun z => absurd z (by decide), fun _ => ?_⟩) (fun hS _ => ⟨fun _ _ => ⟨_, rfl, H1 hS _ (h.th' (by omega)) FrQ.th upm_eq⟩, fun z => absurd rfl z⟩)))
  have h' := h.th' (z := 0) (by omega)
  refine f_245e h'.ops hS.th (fun m4 g1 g5 g2 g3 g4 gE v5 e5 _ => ⟨by unfold InI; omega, ?_⟩)
  have hN := NdsOK.of h'.ops g1 g2 g3 g4
  have hm : RefOK m4 := g1.w.rest ⟨g5, fun _ => ⟨g2, g3⟩⟩ h'
  have hq : FrQ mem m4 := FrQ.th.tr g1.w.f.q
  have gE : Enum (rq m4) (m4 143 12).toNat (NdF mem) := gE
  refine f_227 (fun a1 a2 _ => ⟨fun z => absurd z (by decide), fun _ => ?_⟩) (fun b1 _ => ⟨fun _ _ => ⟨_, rfl, H2 hS _ (hm.th' (by omega)) (hq.tr FrQ.th) upm_eq (by rw [upm_ne (by omega)]; exact g2) gE (by rw [upm_ne (by omega)]; omega)⟩, fun z => absurd rfl z⟩)
  have hN2 : NdsOK (upm (upm m4 143 0 0) 143 18 x) := hN
  refine f_255e hN2 (fun r m5 r1 r2 k1 kR _ _ => ⟨_, rfl, ?_⟩)
  have e : ∀ A i, ¬ A = 158 → ¬ (A = 143 ∧ i = 18) → upm m5 143 18 (-1) A i = upm m4 143 0 0 A i := fun A i q1 q2 => by rw [upm_ne q2, k1 A i q1, upm_ne q2]
  have hm' := hm.th' (z := 0) (by omega)
  have hR1 : RefOK (upm m5 143 18 (-1)) := by
    refine Kp.rest (m := upm m4 143 0 0) (fun A i q => ?_) hm' (fun o ho => by rw [e _ _ (by omega) (by omega)]; exact hm'.sl o ho) (fun j hj => by rw [e _ _ (by omega) (by omega), e _ _ (by omega) (by omega), e _ _ (by omega) (by omega), e _ _ (by omega) (by omega)]; exact hm'.r48 j hj) (by rw [e _ _ (by omega) (by omega)]; exact hm'.nd)
    by_cases q2 : A = 143 ∧ i = 18
    · obtain ⟨rfl, rfl⟩ := q2
      rw [upm_eq]; exact hm'.lo.symm
    · exact e A i (by omega) q2
  have er : rq (upm m5 143 18 (-1)) = rq m4 := funext fun i => by
    unfold rq
    rw [e 154 i (by omega) (by omega), e 155 i (by omega) (by omega), e 156 i (by omega) (by omega), e 157 i (by omega) (by omega), upm_ne (by omega), upm_ne (by omega), upm_ne (by omega), upm_ne (by omega)]
  have e12 : upm m5 143 18 (-1) 143 12 = m4 143 12 := by rw [e 143 12 (by omega) (by omega), upm_ne (by omega)]
  have e1 : upm m5 143 18 (-1) 143 1 = m4 143 1 := by rw [e 143 1 (by omega) (by omega), upm_ne (by omega)]
  have hN3 : NdsOK (upm m5 143 18 (-1)) := by
    refine ⟨by rw [e1]; exact hN.1, by rw [e12]; exact hN.2.1, fun j hj => ?_⟩
    rw [e12] at hj
    have w := hN.2.2 j hj
    rw [e1, e 154 j (by omega) (by omega), e 155 j (by omega) (by omega), e 156 j (by omega) (by omega), e 157 j (by omega) (by omega), upm_ne (by omega), upm_ne (by omega), upm_ne (by omega), upm_ne (by omega)]
    exact w
  have hRd : RdsM (EdX (rq (upm m5 143 18 (-1))) (upm m5 143 18 (-1) 143 12).toNat x) r := by
    rw [er, e12]
    have ee : NdE (upm (upm m4 143 0 0) 143 18 x) = EdX (rq m4) (m4 143 12).toNat x := funext fun d => by
      rw [NdE.x (by rw [upm_ne (by omega), upm_ne (by omega)]; exact g2)]
      rw [upm_eq, upm_ne (by omega), upm_ne (by omega)]
      rfl
    rw [ee] at kR
    exact kR
  refine H hS r _ hR1 (hq.tr (fun A i q => ?_)) ?_ hN3 (by rw [er, e12]; exact gE) (by rw [e12]; omega) r1 hRd
  · rw [upm_ne (by omega), k1 A i (by omega), upm_ne (by omega), upm_ne (by omega)]
  · rw [e 143 0 (by omega) (by omega)]; exact upm_eq
end GG
def Hf38 (p0 t y : Int) (m : MM) : Prop := ClS m ∧ RefOK m ∧ RelB m ∧ ((t = 1 ∧ ¬ (0 ≤ p0 ∧ p0 < 6)) ∨ (t = 2 ∧ (0 ≤ p0 ∧ p0 < 6) ∧ (¬ SndX m ∨ (SndX m ∧ m 6 p0.toNat = 1))) ∨ (t = 0 ∧ (0 ≤ p0 ∧ p0 < 6) ∧ SndX m ∧ WtOK m 14 ∧ Enum (cwq m 14) (m 14 0).toNat (NdC m p0) ∧ RtL (ringsAll (cwq m 14) (m 14 0).toNat (m 1 0).toNat) m 14 ∧ ¬ m 6 p0.toNat = 1 ∧ y = max 1 (max (upV (m 14 5) (m 14 6)) (byC m (-1)))))
theorem cl38 {S : Nat × (Nat → Int32)} {n : Nat} {m : MM} {p0 : Int} (hc : ClS m) (hr : RefOK m) (hb : RelB m) : CQI (Ex S (n + 17)) 196 [.inr 0, .inl p0] m (fun y m' => Hf38 p0 0 y m') (fun e m' => (e = 2 ∧ Hf38 p0 1 0 m') ∨ (e = 1 ∧ Hf38 p0 2 0 m')) :=
  f_196x hc (fun a m' c f s t e l k r q => ⟨c, krf hr f, krb hb f, Or.inr (Or.inr ⟨rfl, a, s, t, e.cg rfl (fun _ _ => rfl) (fun x => (NdC.fr (fun A i u v w => f A i (by unfold pNb; omega))).symm), by rw [f 1 0 (by unfold pNb; omega)]; exact l, by rw [f 6 _ (by unfold pNb; omega)]; exact k, q⟩)⟩) (fun a => Or.inl ⟨rfl, hc, hr, hb, Or.inl ⟨rfl, a⟩⟩) (fun a m' c f s => Or.inr ⟨rfl, c, krf hr f, krb hb f, Or.inr (Or.inl ⟨rfl, a, by rw [f 6 _ (by unfold pNb; omega)]; exact s⟩)⟩)
theorem rf38 {S : Nat × (Nat → Int32)} {n : Nat} {m : MM} {p0 t y : Int} (H : Hf38 p0 t y m) : CQI (Ex S (n + 5)) 352 [.inr 143, .inl p0] m (fun r m2 => ClS m2 ∧ RefOK m2 ∧ RelB m2 ∧ m2 143 0 = t ∧ (t = 0 → r = y)) (fun _ _ => False) := by
  obtain ⟨hc, hr, hb, H⟩ := H
  have hs := hb.snd hr
  have e6 : 0 ≤ p0 ∧ p0 < 6 → m 6 p0.toNat = m 151 p0.toNat := fun a => (hb.2.2.1 p0.toNat (by omega)).2.1
  refine CWI.q (Ex.mono S (n + 5)) (f_352e hr (fun a m' r1 f1 t1 => ?_) (fun a s1 m' r1 f1 t1 => ?_) (fun a s1 k1 r z m' r1 f1 t1 w1 ez => ?_))
  · rcases H with ⟨rfl, h1⟩ | ⟨-, h1, -⟩ | ⟨-, h1, -⟩
    · exact ⟨(qQ hc hb f1).1, r1, (qQ hc hb f1).2, t1, fun z => by omega⟩
    · exact absurd h1 a
    · exact absurd h1 a
  · rcases H with ⟨-, h1⟩ | ⟨rfl, -, h1⟩ | ⟨-, -, h1, -, -, -, h2, -⟩
    · exact absurd a h1
    · exact ⟨(qQ hc hb f1).1, r1, (qQ hc hb f1).2, t1, fun z => by omega⟩
    · rcases s1 with s1 | ⟨-, s1⟩
      · exact absurd (hs.mp h1) s1
      · exact absurd ((e6 a).trans s1) h2
  · rcases H with ⟨-, h1⟩ | ⟨-, -, h1⟩ | ⟨rfl, -, h1, h2, h3, h4, h5, h6⟩
    · exact absurd a h1
    · rcases h1 with h1 | ⟨-, h1⟩
      · exact absurd (hs.mpr s1) h1
      · exact absurd ((e6 a).symm.trans h1) k1
    · have hB := hc.1.b
      have h8 := hB.1
      have e1 : m' 143 1 = m 1 0 := (f1 143 1 (by omega)).trans hb.1.symm
      have eN : ∀ x, NdC m p0 x ↔ NdF (upm m 151 p0.toNat (m 151 p0.toNat - 1)) x := fun x => (hb.ndl hB hr (lr := latF (upm m 151 p0.toNat (m 151 p0.toNat - 1))) (fun o ho => by
        have kd := hB.kd ho
        have q := (hb.2.1 o ho).1
        have w := (hb.2.2.1 (m 2 o).toNat (by omega)).2.1
        unfold laB cLa2 latF
        rw [upm_ne (A := 151) (B := 144) (by omega), ← q]
        by_cases z : m 2 o = p0
        · rw [if_pos z, z, upm_eq, e6 a]
        · rw [if_neg z, upm_ne (by omega), w]) x).trans Iff.rfl
      have er := (w1.rnd (mc := m) (W := 14) (o := (m 1 0).toNat) (by omega) hc.1.w2.2.1 h3 h2 h4 eN r1.lo (by omega)).1
      exact ⟨(qQ hc hb f1).1, r1, (qQ hc hb f1).2, t1, fun _ => by rw [ez, h6, er, hb.by0 hB (m' := m) (fun _ _ _ => rfl)]⟩
def Hf39 (p0 t y : Int) (m : MM) : Prop := ClS m ∧ RefOK m ∧ RelB m ∧ ((t = 1 ∧ ¬ SndX m) ∨ (t = 2 ∧ SndX m ∧ WbX m ∧ ¬ (0 ≤ p0 ∧ p0 < m 9 0)) ∨ (t = 0 ∧ SndX m ∧ WbX m ∧ (0 ≤ p0 ∧ p0 < m 9 0) ∧ WtOK m 14 ∧ TalQ m p0 ∧ RtL (ringsAll (cwq m 14) (m 14 0).toNat (m 1 0).toNat) m 14 ∧ y = upV (m 14 5) (m 14 6)))
theorem cl39 {S : Nat × (Nat → Int32)} {n : Nat} {m : MM} {p0 : Int} (hc : ClS m) (hr : RefOK m) (hb : RelB m) : CQI (Ex S (n + 17)) 198 [.inr 0, .inl p0] m (fun y m' => Hf39 p0 0 y m') (fun e m' => (e = 1 ∧ Hf39 p0 1 0 m') ∨ (e = 2 ∧ Hf39 p0 2 0 m')) :=
  f_198x hc (fun m' c f s w a t k l r q => ⟨c, krf hr f, krb hb f, Or.inr (Or.inr ⟨rfl, s, w, a, t, k, by rw [f 1 0 (by unfold pNb; omega)]; exact l, q⟩)⟩) (fun m' c f s w a => Or.inr ⟨rfl, c, krf hr f, krb hb f, Or.inr (Or.inl ⟨rfl, s, w, a⟩)⟩) (fun m' c f s => Or.inl ⟨rfl, c, krf hr f, krb hb f, Or.inl ⟨rfl, s⟩⟩)
theorem rf39 {S : Nat × (Nat → Int32)} {n : Nat} {m : MM} {p0 t y : Int} (H : Hf39 p0 t y m) : CQI (Ex S (n + 4)) 355 [.inr 143, .inl p0] m (fun r m2 => ClS m2 ∧ RefOK m2 ∧ RelB m2 ∧ m2 143 0 = t ∧ (t = 0 → r = y)) (fun _ _ => False) := by
  obtain ⟨hc, hr, hb, H⟩ := H
  have hs := hb.snd hr
  refine CWI.q (Ex.mono S (n + 4)) (f_355e hr (fun s1 m' r1 f1 t1 => ?_) (fun s1 m' r1 f1 t1 v0 w1 a => ?_) (fun s1 r m' r1 f1 t1 hN w1 a r0 hR => ?_))
  · rcases H with ⟨rfl, h1⟩ | ⟨-, h1, -⟩ | ⟨-, h1, -⟩
    · exact ⟨(qQ hc hb f1).1, r1, (qQ hc hb f1).2, t1, fun z => by omega⟩
    · exact absurd (hs.mp h1) s1
    · exact absurd (hs.mp h1) s1
  · rcases H with ⟨-, h1⟩ | ⟨rfl, -, -, -⟩ | ⟨-, -, h1, h2, -⟩
    · exact absurd (hs.mpr s1) h1
    · exact ⟨(qQ hc hb f1).1, r1, (qQ hc hb f1).2, t1, fun z => by omega⟩
    · have u := hb.webs hc.1.b hr hc.1.w.2.1 v0 h1.2.1 w1
      exact absurd (by omega) a
  · rcases H with ⟨-, h1⟩ | ⟨-, -, h1, h2⟩ | ⟨rfl, -, h1, h2, h3, h4, h5, h6⟩
    · exact absurd (hs.mpr s1) h1
    · have u := hb.webs hc.1.b hr hc.1.w.2.1 hN.2.1.1 h1.2.1 w1
      exact absurd (by omega) h2
    · have hB := hc.1.b
      have h8 := hB.1
      have u := hb.webs hB hr hc.1.w.2.1 hN.2.1.1 h1.2.1 w1
      have e1 : m' 143 1 = m 1 0 := (f1 143 1 (by omega)).trans hb.1.symm
      have hV := hN.v
      obtain ⟨k0, k1⟩ := h4
      -- which need of all it is
      have at_ : ∀ j, j < (m 14 0).toNat → ∃ i : Nat, i < (m' 143 12).toNat ∧ ¬ (i : Int) = p0 ∧ cwq m 14 j = rq m' i := fun j hj => by
        have w := k1 j (by omega)
        by_cases z : (j : Int) < p0
        · rw [if_pos z] at w
          exact ⟨j, by omega, by omega, w.trans (u.2 j (by omega))⟩
        · rw [if_neg z] at w
          exact ⟨j + 1, by omega, by omega, w.trans (u.2 (j + 1) (by omega))⟩
      have hV2 : EdV (cwq m 14) (m 14 0).toNat (m 1 0).toNat := fun j hj => by
        obtain ⟨i, i1, -, i3⟩ := at_ j hj
        have w := hV i i1
        rw [i3, show (m 1 0).toNat = (m' 143 1).toNat by rw [e1]]
        exact w
      have ee : ∀ d, EdX (rq m') (m' 143 12).toNat p0 d = EdQ (cwq m 14) (m 14 0).toNat d := fun d => by
        funext a b x
        refine propext ⟨?_, ?_⟩
        · rintro ⟨i, i1, i2, i3, i4, i5⟩
          by_cases z : (i : Int) < p0
          · have w := k1 i (by omega)
            rw [if_pos z, u.2 i (by omega)] at w
            exact ⟨i, by omega, by rw [w]; exact i3, by rw [w]; exact i4, by rw [w]; exact i5⟩
          · have w := k1 (i - 1) (by omega)
            rw [if_neg (by omega), show i - 1 + 1 = i by omega, u.2 i (by omega)] at w
            exact ⟨i - 1, by omega, by rw [w]; exact i3, by rw [w]; exact i4, by rw [w]; exact i5⟩
        · rintro ⟨j, i1, i3, i4, i5⟩
          obtain ⟨i, g1, g2, g3⟩ := at_ j i1
          rw [g3] at i3 i4 i5
          exact ⟨i, g1, g2, i3, i4, i5⟩
      obtain ⟨⟨t1', t2'⟩, t3, t4⟩ := h3
      have er : r = upV (m 14 5) (m 14 6) := hR.eq r0 t1' (by omega) (fun d hd => by
        rw [ee d]
        exact h5.noup (by omega) hV2 hd)
      exact ⟨(qQ hc hb f1).1, r1, (qQ hc hb f1).2, t1, fun _ => by rw [er, h6]⟩
