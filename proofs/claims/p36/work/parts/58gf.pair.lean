/-! rounds, bounds, counts on both sides -/
theorem NdRd.rnd {mc mr m' : MM} {W o : Nat} {r : Int} {P : Q4 → Prop} (ho : o ≤ 8) (w0 : 0 ≤ mc W 0) (hE : Enum (cwq mc W) (mc W 0).toNat P) (hT : WtOK mc W) (hL : RtL (ringsAll (cwq mc W) (mc W 0).toNat o) mc W) (eP : ∀ x, P x ↔ NdF mr x) (w : NdRd mr m' r) (h18 : m' 143 18 = -1) (e1 : m' 143 1 = (o : Int)) : r = upV (mc W 5) (mc W 6) ∧ mc W 0 = m' 143 12 := by
  obtain ⟨hN, hE2, r0, hR⟩ := w
  have u := hE.uniq hE2 eP
  have n0 := hN.2.1.1
  have hV := hN.v
  rw [show (m' 143 1).toNat = o by omega, ← u.1] at hV
  have hV2 : EdV (cwq mc W) (mc W 0).toNat o := fun j hj => by rw [u.2 j hj]; exact hV j hj
  obtain ⟨⟨t1, t2⟩, t3, t4⟩ := hT
  refine ⟨hR.eq r0 t1 (by omega) (fun d hd => ?_), by omega⟩
  rw [NdE.q h18 n0, ← u.1, ← EdQ_cg u.2]
  exact hL.noup ho hV2 hd
theorem RelB.by {m m' : MM} (h : RelB m) (hB : BodyOK m) {u : Int} (e : ∀ A i, (A = 143 ∧ i = 1) ∨ (143 < A ∧ A < 153) → m' A i = m A i) (g : ∀ i : Nat, i < 3 → m' 153 i = gY m u i) : byC m u = byR m' := by
  unfold byC byR
  refine buV_cg 3 (fun i hi => ⟨?_, (g i hi).symm⟩)
  show usC m (i : Int) = usR m' (i : Int)
  rw [h.uses hB]
  unfold usR
  rw [e 143 1 (by omega)]
  exact (usN_eq _ (fun o _ => ⟨by unfold rUn; rw [e 144 o (by omega), e 150 _ (by omega)], by unfold rBu; rw [e 144 o (by omega), e 152 _ (by omega)]⟩)).symm
theorem RelB.by0 {m m' : MM} (h : RelB m) (hB : BodyOK m) (e : ∀ A i, (A = 143 ∧ i = 1) ∨ (143 < A ∧ A < 154) → m' A i = m A i) : byC m (-1) = byR m' := h.by hB (fun A i q => e A i (by omega)) (fun i hi => by
  rw [gY_n, e 153 i (by omega)]
  exact (h.2.2.2 i hi).symm)
theorem RelB.lats {m : MM} (h : RelB m) (hB : BodyOK m) : laC m = laR m := by
  unfold laC laR
  rw [← h.1]
  have := hB.1
  exact laN_eq _ (fun o ho => (h.un hB (by omega)).2.2)
section GF
variable {S : Nat × (Nat → Int32)} {n : Nat} {mem : MM} {K : Int → MM → Prop}
theorem f_357e {x : Int} (h : RefOK mem) (H1 : ¬ (0 ≤ x ∧ x < 3) → ∀ m', RefOK m' → FrQ mem m' → m' 143 0 = 1 → K 0 m') (H2 : 0 ≤ x ∧ x < 3 → ¬ SoundM mem → ∀ m', RefOK m' → FrQ mem m' → m' 143 0 = 2 → K 0 m') (H : 0 ≤ x ∧ x < 3 → SoundM mem → ∀ r z m', RefOK m' → FrQ mem m' → m' 143 0 = 0 → NdRd mem m' r → z = max 1 (max r (byR (upm mem 153 x.toNat (mem 153 x.toNat + 1)))) → K z m') : CWI (Ex S (n + 5)) 357 [.inr 143, .inl x] mem K := by
  refine CW.of (k := 1) mt_357 rfl rfl (w_357_0 (Ex.mono S (n + 4)) (f_227 (fun a1 a2 _ => ⟨fun _ => f_240 h.ops (fun hS _ => ⟨fun _ => ⟨by omega, fun v6 e6 _ => ?_⟩, fun z => absurd (by decide) z⟩) (fun hS _ => ⟨fun z => absurd rfl z, fun _ _ => ⟨_, rfl, H2 ⟨a1, by omega⟩ hS _ (h.th' (by omega)) FrQ.th upm_eq⟩⟩), fun z => absurd (by decide) z⟩) (fun b1 _ => ⟨fun z => absurd rfl z, fun _ _ => ⟨_, rfl, H1 (by omega) _ (h.th' (by omega)) FrQ.th upm_eq⟩⟩)))
  have h' := h.th' (z := 0) (by omega)
  have hl := h'.cn x.toNat (by omega)
  refine ⟨by unfold InI; omega, by omega, f_353e h'.ops hS h'.bz (fun k hk => ?_) (fun r m9 k1 k2 k3 _ => ⟨by omega, fun v11 e11 _ => ?_⟩)⟩
  · by_cases q : k = x.toNat
    · subst q; rw [upm_eq]; omega
    · rw [upm_ne (fun z => q z.2)]; exact h'.cn9 k hk
  have e11' : v11 = v6 + 1 := by rw [e11, k1 _ _ (by omega) (by omega) (by omega) (by omega) (by omega) (by omega), upm_eq]
  obtain ⟨b1, b2⟩ := back (w := v11 - 1) (Or.inr rfl) h' (by rw [e11', ← e6]; omega) k1 k2
  have e6' : v6 = mem 153 x.toNat := by rw [e6, upm_ne (by omega)]
  have t0 : upm m9 153 x.toNat (v11 - 1) 143 0 = 0 := by
    rw [upm_ne (by omega), k1 143 0 (by omega) (by omega) (by omega) (by omega) (by omega) (by omega), upm_ne (by omega)]; exact upm_eq
  refine ⟨by unfold InI; omega, by omega, fun _ => ⟨_, rfl, H ⟨a1, by omega⟩ hS r _ _ b1 (FrQ.th.tr b2) t0 k3 ?_⟩⟩
  have eb : byR (upm (upm mem 143 0 0) 153 x.toNat (v6 + 1)) = byR (upm mem 153 x.toNat (mem 153 x.toNat + 1)) := by
    rw [← e6']
    refine byR.fr (fun A i q => ?_)
    by_cases w : A = 153 ∧ i = x.toNat
    · obtain ⟨rfl, rfl⟩ := w
      rw [upm_eq, upm_eq]
    · rw [upm_ne w, upm_ne w, upm_ne (by omega)]
  rw [eb]
end GF
def Hf46 (p0 t y : Int) (m : MM) : Prop := ClS m ∧ RefOK m ∧ RelB m ∧ ((t = 1 ∧ ¬ (0 ≤ p0 ∧ p0 < 3)) ∨ (t = 2 ∧ (0 ≤ p0 ∧ p0 < 3) ∧ ¬ SndX m) ∨ (t = 0 ∧ (0 ≤ p0 ∧ p0 < 3) ∧ SndX m ∧ WbX m ∧ y = max 1 (max (upV (m 9 5) (m 9 6)) (byC m p0))))
theorem cl46 {S : Nat × (Nat → Int32)} {n : Nat} {m : MM} {p0 : Int} (hc : ClS m) (hr : RefOK m) (hb : RelB m) : CQI (Ex S (n + 17)) 221 [.inr 0, .inl p0] m (fun y m' => Hf46 p0 0 y m') (fun e m' => (e = 2 ∧ Hf46 p0 1 0 m') ∨ (e = 1 ∧ Hf46 p0 2 0 m')) :=
  f_221x hc (fun a m' c f s w r q => ⟨c, krf hr f, krb hb f, Or.inr (Or.inr ⟨rfl, a, s, w, q⟩)⟩) (fun a => Or.inl ⟨rfl, hc, hr, hb, Or.inl ⟨rfl, a⟩⟩) (fun a m' c f s => Or.inr ⟨rfl, c, krf hr f, krb hb f, Or.inr (Or.inl ⟨rfl, a, s⟩)⟩)
theorem rf46 {S : Nat × (Nat → Int32)} {n : Nat} {m : MM} {p0 t y : Int} (H : Hf46 p0 t y m) : CQI (Ex S (n + 5)) 357 [.inr 143, .inl p0] m (fun r m2 => ClS m2 ∧ RefOK m2 ∧ RelB m2 ∧ m2 143 0 = t ∧ (t = 0 → r = y)) (fun _ _ => False) := by
  obtain ⟨hc, hr, hb, H⟩ := H
  have hs := hb.snd hr
  refine CWI.q (Ex.mono S (n + 5)) (f_357e hr (fun a m' r1 f1 t1 => ?_) (fun a s1 m' r1 f1 t1 => ?_) (fun a s1 r z m' r1 f1 t1 w1 ez => ?_))
  · rcases H with ⟨rfl, h1⟩ | ⟨-, h1, -⟩ | ⟨-, h1, -⟩
    · exact ⟨(qQ hc hb f1).1, r1, (qQ hc hb f1).2, t1, fun z => by omega⟩
    · exact absurd h1 a
    · exact absurd h1 a
  · rcases H with ⟨-, h1⟩ | ⟨rfl, -, h1⟩ | ⟨-, -, h1, -⟩
    · exact absurd a h1
    · exact ⟨(qQ hc hb f1).1, r1, (qQ hc hb f1).2, t1, fun z => by omega⟩
    · exact absurd (hs.mp h1) s1
  · rcases H with ⟨-, h1⟩ | ⟨-, -, h1⟩ | ⟨rfl, -, h1, h2, h3⟩
    · exact absurd a h1
    · exact absurd (hs.mpr s1) h1
    · have hB := hc.1.b
      have h8 := hB.1
      have e1 : m' 143 1 = m 1 0 := (f1 143 1 (by omega)).trans hb.1.symm
      have er := (w1.rnd (mc := m) (W := 9) (o := (m 1 0).toNat) (by omega) hc.1.w.2.1 h2.2.1 h2.2.2.1 h2.2.2.2 (hb.nd hB hr) r1.lo (by omega)).1
      have eb : byC m p0 = byR (upm m 153 p0.toNat (m 153 p0.toNat + 1)) := by
        refine hb.by hB (fun A i q => upm_ne (by omega)) (fun i hi => ?_)
        have w := hb.2.2.2 i hi
        unfold gY
        by_cases q : (i : Int) = p0
        · rw [if_pos q, show i = p0.toNat by omega, upm_eq, ← hb.2.2.2 p0.toNat (by omega)]
        · rw [if_neg q, upm_ne (by omega), w]
      exact ⟨(qQ hc hb f1).1, r1, (qQ hc hb f1).2, t1, fun _ => by rw [ez, h3, er, eb]⟩
def Hf48 (p0 y : Int) (m : MM) : Prop := ClS m ∧ RefOK m ∧ RelB m ∧ CntC m m p0 y
theorem cl48 {S : Nat × (Nat → Int32)} {n : Nat} {m : MM} {p0 : Int} (hc : ClS m) (hr : RefOK m) (hb : RelB m) : CQI (Ex S (n + 17)) 31 [.inr 0, .inl p0] m (fun y m' => Hf48 p0 y m') (fun _ _ => False) :=
  f_31x hc (fun r m' c f q => ⟨c, krf hr f, krb hb f, by
    have e1 : m' 1 0 = m 1 0 := f 1 0 (by unfold pNb; omega)
    have e8 : ∀ i, m' 8 i = m 8 i := fun i => f 8 i (by unfold pNb; omega)
    obtain ⟨q1, q2, q3, q4, q5, q6⟩ := q
    exact ⟨fun z => by rw [e1]; exact q1 z, q2, q3, q4, fun z => by
      obtain ⟨u, u1, u2⟩ := q5 z
      exact ⟨u, u1, by rw [e8]; exact u2⟩, q6⟩⟩)
theorem rf48 {S : Nat × (Nat → Int32)} {n : Nat} {m : MM} {p0 y : Int} (H : Hf48 p0 y m) : CQI (Ex S (n + 6)) 366 [.inr 143, .inl p0] m (fun r m2 => ClS m2 ∧ RefOK m2 ∧ RelB m2 ∧ r = y) (fun _ _ => False) := by
  obtain ⟨hc, hr, hb, q1, q2, q3, q4, q5, q6⟩ := H
  have hs := hb.snd hr
  have hB := hc.1.b
  have h8 := hB.1
  refine CWI.q (Ex.mono S (n + 6)) (f_366e hr (fun r m' r1 f1 t1 c1 => ⟨(qQ hc hb f1).1, r1, (qQ hc hb f1).2, ?_⟩))
  obtain ⟨c1, c2, c3, c4, c5⟩ := c1
  by_cases a0 : p0 = 0
  · rw [q1 a0, c1 a0]; exact hb.1.symm
  by_cases a4 : 1 ≤ p0 ∧ p0 ≤ 4
  · rcases c2 a4 with ⟨s1, e⟩ | ⟨s1, R, w1, d1, d2, d3, d4⟩
    · rw [e, q2 a4 (fun z => s1 (hs.mp z))]
    · obtain ⟨h2, g1, g2, g3, g4⟩ := q3 a4 (hs.mpr s1)
      have e1 : m' 143 1 = m 1 0 := (f1 143 1 (by omega)).trans hb.1.symm
      obtain ⟨er, en⟩ := w1.rnd (mc := m) (W := 9) (o := (m 1 0).toNat) (by omega) hc.1.w.2.1 h2.2.1 h2.2.2.1 h2.2.2.2 (hb.nd hB hr) r1.lo (by omega)
      have eb := hb.by0 hB (m' := m) (fun _ _ _ => rfl)
      by_cases b1 : p0 = 1
      · rw [g1 b1, d1 b1, en]
      by_cases b2 : p0 = 2
      · rw [g2 b2, d2 b2, er]
      by_cases b3 : p0 = 3
      · rw [g3 b3, d3 b3, eb]
      have b4 : p0 = 4 := by omega
      rw [g4 b4, d4 b4]
      unfold fbC
      rw [foV_bu, er, ← eb, Int.one_mul]
      unfold byC
      rw [gY_n]
  by_cases a5 : p0 = 5
  · rw [q4 a5, c3 a5, hb.lats hB]
  by_cases a8 : 6 ≤ p0 ∧ p0 ≤ 8
  · obtain ⟨u, u1, u2⟩ := q5 a8
    rw [c4 a8, u2, u1]
    exact (hb.2.2.2 _ (by omega)).symm
  · rw [q6 (by omega), c5 (by omega)]
