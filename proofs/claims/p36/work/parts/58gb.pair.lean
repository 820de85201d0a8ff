/-! isSound and need on both sides -/
theorem RelB.ops {m : MM} (h : RelB m) {o : Nat} (ho : o < 8) : csN m o = srcN m o ∧ (∀ k : Nat, k < 2 → m 3 (4 * o + 2 * k) = srcA m o k ∧ m 3 (4 * o + 2 * k + 1) = srcB m o k) := by
  have q := h.2.1 o ho
  refine ⟨by unfold csN srcN; rw [q.1], fun k hk => ?_⟩
  have a : k = 0 ∨ k = 1 := by omega
  rcases a with rfl | rfl
  · exact ⟨q.2.1, q.2.2.1⟩
  · exact ⟨q.2.2.2.1, q.2.2.2.2.1⟩
theorem csN_rg (m : MM) (o : Nat) : 0 ≤ csN m o ∧ csN m o ≤ 2 := csN_le m o
/-- soundness is one thing on both sides -/
theorem RelB.snd {m : MM} (h : RelB m) (hr : RefOK m) : SndX m ↔ SoundM m := by
  have h8 := hr.ops.1
  have hz := h.1
  constructor
  · intro hs o ho k hk hn
    have q := h.ops (o := o) (by omega)
    have w := csN_rg m o
    have s := hs o k.toNat (by omega) (by rw [q.1]; omega)
    have e := q.2 k.toNat (by rw [q.1] at w; omega)
    have ek : ((k.toNat : Nat) : Int) = k := by omega
    unfold SrcC at s
    rw [e.1, e.2, ek] at s
    unfold SrcS
    rcases s with s | ⟨s1, s2, s3⟩
    · exact Or.inl s
    · have kk : m 2 (srcA m o k).toNat = m 144 (srcA m o k).toNat := by
        have so := hr.ops.src (o := o) (by omega) hk hn
        unfold srcOK at so
        exact (h.2.1 _ (by omega)).1
      rw [kk] at s2
      exact Or.inr ⟨by omega, s2, by omega⟩
  · intro hs o k ho hn
    have q := h.ops (o := o) (by omega)
    have w := csN_rg m o
    have s := hs o (by omega) k (by omega) (by rw [← q.1]; exact hn)
    have e := q.2 k (by omega)
    unfold SrcC
    rw [e.1, e.2]
    have so := hr.ops.src (o := o) (by omega) (k := (k : Int)) (by omega) (by rw [← q.1]; exact hn)
    unfold SrcS at s
    unfold srcOK at so
    rcases s with s | ⟨s1, s2, s3⟩
    · exact Or.inl s
    · by_cases w2 : srcA m o k < 0
      · exact Or.inl w2
      · have kk : m 2 (srcA m o k).toNat = m 144 (srcA m o k).toNat := (h.2.1 _ (by omega)).1
        rw [kk]
        exact Or.inr ⟨by omega, s2, by omega⟩
theorem RelB.rpl {m : MM} (h : RelB m) (hB : BodyOK m) {o : Nat} (ho : o < 8) : m 2 o = m 144 o ∧ laB m (-1) o = latF m o ∧ (m 2 o = 4 ∨ m 2 o = 5 → rowB m o = rowF m o ∧ plcB m o = plcF m o) := by
  have q := h.2.1 o ho
  have kd := hB.kd ho
  have w := h.2.2.1 (m 2 o).toNat (by omega)
  refine ⟨q.1, ?_, fun k => ?_⟩
  · unfold laB cLa2 latF
    rw [if_neg (by omega), w.2.1, q.1]
  · unfold rowB rowF plcB plcF
    rw [← q.1]
    rcases k with k | k
    · rw [if_neg (by omega), if_pos k, if_neg (by omega), if_pos k]; exact ⟨q.2.1, q.2.2.1⟩
    · rw [if_pos k, if_neg (by omega), if_pos k, if_neg (by omega)]; exact ⟨q.2.2.2.1, q.2.2.2.2.1⟩
theorem NdR.cg {kd row pl la kd2 row2 pl2 la2 : Nat → Int} {s o : Nat} {x : Q4} (h : NdR kd row pl la s o x) (es : kd s = kd2 s ∧ la s = la2 s ∧ (kd s = 4 ∨ kd s = 5 → row s = row2 s ∧ pl s = pl2 s)) (eo : kd o = kd2 o ∧ la o = la2 o ∧ (kd o = 4 ∨ kd o = 5 → row o = row2 o ∧ pl o = pl2 o)) : NdR kd2 row2 pl2 la2 s o x := by
  obtain ⟨h1, h2, h3⟩ := h
  have e1 := es.2.2 (Or.inr h1)
  have e2 := eo.2.2 (by rcases h3 with h | h | h <;> omega)
  unfold NdR
  rw [← es.1, ← es.2.1, ← eo.1, ← e1.1, ← e1.2, ← e2.1, ← e2.2]
  exact ⟨h1, h2, h3⟩
/-- the needs are one thing on both sides -/
theorem RelB.nd {m : MM} (h : RelB m) (hB : BodyOK m) (hr : RefOK m) (x : Q4) : NdC m (-1) x ↔ NdF m x := by
  have h8 := hr.ops.1
  have hz := h.1
  have la : ∀ a : Int, 0 ≤ a → a ≤ 7 → laB m (-1) a.toNat = latF m a.toNat := fun a b c => (h.rpl hB (o := a.toNat) (by omega)).2.1
  have sy : ∀ o : Nat, o < 8 → (m 2 o = m 144 o ∧ laB m (-1) o = latF m o ∧ (m 2 o = 4 ∨ m 2 o = 5 → rowB m o = rowF m o ∧ plcB m o = plcF m o)) := fun o ho => h.rpl hB ho
  have ys : ∀ o : Nat, o < 8 → (m 144 o = m 2 o ∧ latF m o = laB m (-1) o ∧ (m 144 o = 4 ∨ m 144 o = 5 → rowF m o = rowB m o ∧ plcF m o = plcB m o)) := fun o ho => by
    have q := sy o ho
    exact ⟨q.1.symm, q.2.1.symm, fun k => by
      have w := q.2.2 (by rw [q.1]; exact k)
      exact ⟨w.1.symm, w.2.symm⟩⟩
  constructor
  · rintro (⟨o, k, h1, h2, h3, h4⟩ | ⟨s, o, h1, h2, h3, h4⟩)
    · have q := h.ops (o := o) (by omega)
      have w := csN_rg m o
      have e := q.2 k (by omega)
      have so := hr.ops.src (o := o) (by omega) (k := (k : Int)) (by omega) (by rw [← q.1]; exact h2)
      rw [e.1] at h3 h4
      rw [e.2] at h4
      unfold srcOK at so
      rw [la _ h3 (by omega)] at h4
      exact Or.inl ⟨o, k, by omega, by rw [← q.1]; exact h2, h3, h4⟩
    · exact Or.inr ⟨s, o, by omega, by omega, h3, NdR.cg h4 (sy s (by omega)) (sy o (by omega))⟩
  · rintro (⟨o, k, h1, h2, h3, h4⟩ | ⟨s, o, h1, h2, h3, h4⟩)
    · have q := h.ops (o := o) (by omega)
      have w := csN_rg m o
      rw [q.1] at w
      have e := q.2 k (by omega)
      have so := hr.ops.src (o := o) (by omega) (k := (k : Int)) (by omega) h2
      unfold srcOK at so
      rw [← la _ h3 (by omega), ← e.1, ← e.2] at h4
      rw [← e.1] at h3
      exact Or.inl ⟨o, k, by omega, by rw [q.1]; exact h2, h3, h4⟩
    · exact Or.inr ⟨s, o, by omega, by omega, h3, NdR.cg h4 (ys s (by omega)) (ys o (by omega))⟩
/-- both rows of needs are one -/
theorem RelB.webs {m m' : MM} (h : RelB m) (hB : BodyOK m) (hr : RefOK m) (w0 : 0 ≤ m 9 0) (v0 : 0 ≤ m' 143 12) (h1 : Enum (cwq m 9) (m 9 0).toNat (NdC m (-1))) (h2 : Enum (rq m') (m' 143 12).toNat (NdF m)) : m 9 0 = m' 143 12 ∧ ∀ i : Nat, (i : Int) < m 9 0 → cwq m 9 i = rq m' i := by
  have u := h1.uniq h2 (h.nd hB hr)
  exact ⟨by omega, fun i hi => u.2 i (by omega)⟩
section GB
variable {S : Nat × (Nat → Int32)} {n : Nat} {mem : MM} {K : Int → MM → Prop}
def ndR (m : MM) (a w : Int) : Int := if w = 0 then m 154 a.toNat else if w = 1 then m 155 a.toNat else if w = 2 then m 156 a.toNat else m 157 a.toNat
theorem f_244e {x y : Int} (h : RefOK mem) (H1 : ∀ m', RefOK m' → FrQ mem m' → ¬ SoundM mem → m' 143 0 = 1 → K 0 m') (H : ∀ m' r t, RefOK m' → FrQ mem m' → SoundM mem → 0 ≤ m' 143 12 → Enum (rq m') (m' 143 12).toNat (NdF mem) → m' 143 0 = t → ((t = 2 ∧ ¬ (0 ≤ x ∧ x < m' 143 12)) ∨ (t = 3 ∧ (0 ≤ x ∧ x < m' 143 12) ∧ ¬ (0 ≤ y ∧ y ≤ 3)) ∨ (t = 0 ∧ (0 ≤ x ∧ x < m' 143 12) ∧ (0 ≤ y ∧ y ≤ 3) ∧ r = ndR m' x y)) → K r m') : CWI (Ex S (n + 4)) 244 [.inr 143, .inl x, .inl y] mem K := by
  refine CW.of (k := 0) mt_244 rfl rfl (w_244_0 (Ex.mono S (n + 3)) (f_240 h.ops (fun hS _ => ⟨fun _ => ?_, fun z => absurd (by decide) z⟩) (fun hS _ => ⟨fun z => absurd rfl z, fun _ _ => ⟨_, rfl, H1 _ (h.th' (by omega)) FrQ.th hS upm_eq⟩⟩)))
  have h' := h.th' (z := 0) (by omega)
  refine f_245e h'.ops hS.th (fun m4 g1 g5 g2 g3 g4 gE v5 e5 _ => ⟨by unfold InI; omega, ?_⟩)
  have hm : RefOK m4 := g1.w.rest ⟨g5, fun _ => ⟨g2, g3⟩⟩ h'
  have hq : FrQ mem m4 := FrQ.th.tr g1.w.f.q
  have eN : ∀ z x, NdF (upm mem 143 0 z) x ↔ NdF mem x := fun z x => Iff.rfl
  have eE : ∀ z, Enum (rq (upm m4 143 0 z)) ((upm m4 143 0 z) 143 12).toNat (NdF mem) := fun z => by
    rw [upm_ne (by omega)]
    refine gE.cg rfl (fun i _ => ?_) (fun x => eN 0 x)
    unfold rq
    rw [upm_ne (by omega), upm_ne (by omega), upm_ne (by omega), upm_ne (by omega)]
  have fin : ∀ (r t : Int), (0 ≤ t ∧ t ≤ 4) → ((t = 2 ∧ ¬ (0 ≤ x ∧ x < m4 143 12)) ∨ (t = 3 ∧ (0 ≤ x ∧ x < m4 143 12) ∧ ¬ (0 ≤ y ∧ y ≤ 3)) ∨ (t = 0 ∧ (0 ≤ x ∧ x < m4 143 12) ∧ (0 ≤ y ∧ y ≤ 3) ∧ r = ndR m4 x y)) → ∃ z, some r = some z ∧ K z (upm m4 143 0 t) := fun r t ht q => ⟨_, rfl, H _ r t (hm.th' ht) (hq.tr FrQ.th) hS (by rw [upm_ne (by omega)]; exact g2) (eE t) upm_eq (by
    rw [upm_ne (by omega)]
    have e : ndR (upm m4 143 0 t) x y = ndR m4 x y := by
      unfold ndR
      rw [upm_ne (by omega), upm_ne (by omega), upm_ne (by omega), upm_ne (by omega)]
    rw [e]; exact q)⟩
  refine f_227 (fun a1 a2 _ => ⟨fun _ => f_227 (fun b1 b2 _ => ⟨fun _ => ?_, fun z => absurd (by decide) z⟩) (fun b1 _ => ⟨fun z => absurd rfl z, fun _ _ => fin 0 3 (by omega) (by omega)⟩), fun z => absurd (by decide) z⟩) (fun b1 _ => ⟨fun z => absurd rfl z, fun _ _ => fin 0 2 (by omega) (by omega)⟩)
  have hx : 0 ≤ x ∧ x < 48 := by omega
  refine ⟨fun q0 => ⟨fun q1 => ⟨fun q2 => ⟨hx, fun v e _ _ => fin v 0 (by omega) (Or.inr (Or.inr ⟨rfl, by omega, by omega, ?_⟩))⟩, fun q2 => ⟨hx, fun v e _ _ => fin v 0 (by omega) (Or.inr (Or.inr ⟨rfl, by omega, by omega, ?_⟩))⟩⟩, fun q1 => ⟨hx, fun v e _ _ => fin v 0 (by omega) (Or.inr (Or.inr ⟨rfl, by omega, by omega, ?_⟩))⟩⟩, fun q0 => ⟨hx, fun v e _ _ => fin v 0 (by omega) (Or.inr (Or.inr ⟨rfl, by omega, by omega, ?_⟩))⟩⟩
  all_goals (rw [upm_ne (by omega)] at e; unfold ndR)
  · rw [if_neg q0, if_neg q1, if_neg q2]; exact e
  · rw [if_neg q0, if_neg q1, if_pos (by omega)]; exact e
  · rw [if_neg q0, if_pos (by omega)]; exact e
  · rw [if_pos (by omega)]; exact e
theorem f_239e (h : RefOK mem) (H : ∀ r m', RefOK m' → FrQ mem m' → m' 143 0 = 0 → (r = 0 ∨ r = 1) → (r = 1 ↔ SoundM mem) → K r m') : CWI (Ex S (n + 3)) 239 [.inr 143] mem K := by
  have h' := h.th' (z := 0) (by omega)
  exact CW.of (k := 0) mt_239 rfl rfl (w_239_0 (Ex.mono S (n + 2)) (f_240 h'.ops (fun hS _ => ⟨Or.inr rfl, _, rfl, H 1 _ h' FrQ.th upm_eq (Or.inr rfl) ⟨fun _ => hS, fun _ => rfl⟩⟩) (fun hS _ => ⟨Or.inl rfl, _, rfl, H 0 _ h' FrQ.th upm_eq (Or.inl rfl) ⟨fun z => by omega, fun z => absurd z hS⟩⟩)))
end GB
def Hf9 (p0 p1 t y : Int) (m : MM) : Prop := ClS m ∧ RefOK m ∧ RelB m ∧ ((t = 1 ∧ ¬ SndX m) ∨ (SndX m ∧ Enum (cwq m 9) (m 9 0).toNat (NdC m (-1)) ∧ ((t = 2 ∧ ¬ (0 ≤ p0 ∧ p0 < m 9 0)) ∨ (t = 3 ∧ (0 ≤ p0 ∧ p0 < m 9 0) ∧ ¬ (0 ≤ p1 ∧ p1 ≤ 3)) ∨ (t = 0 ∧ (0 ≤ p0 ∧ p0 < m 9 0) ∧ (0 ≤ p1 ∧ p1 ≤ 3) ∧ y = ndQ m p0 p1))))
theorem krf {m m' : MM} (hr : RefOK m) (hF : Frm pNb m m') : RefOK m' := hr.fr (fun A i a b => hF A i (by unfold pNb; omega))
theorem krb {m m' : MM} (hb : RelB m) (hF : Frm pNb m m') : RelB m' := hb.fr (fun A i q => hF A i (by unfold pNb; omega))
theorem cl9 {S : Nat × (Nat → Int32)} {n : Nat} {m : MM} {p0 p1 : Int} (hc : ClS m) (hr : RefOK m) (hb : RelB m) : CQI (Ex S (n + 17)) 68 [.inr 0, .inl p0, .inl p1] m (fun y m' => Hf9 p0 p1 0 y m') (fun e m' => (e = 1 ∧ Hf9 p0 p1 1 0 m') ∨ (e = 2 ∧ Hf9 p0 p1 2 0 m') ∨ (e = 3 ∧ Hf9 p0 p1 3 0 m')) :=
  f_68x hc (fun r m' c f s w q l er => ⟨c, krf hr f, krb hb f, Or.inr ⟨s, w, Or.inr (Or.inr ⟨rfl, q, l, er⟩)⟩⟩) (fun m' c f s => Or.inl ⟨rfl, c, krf hr f, krb hb f, Or.inl ⟨rfl, s⟩⟩) (fun m' c f s w q => Or.inr (Or.inl ⟨rfl, c, krf hr f, krb hb f, Or.inr ⟨s, w, Or.inl ⟨rfl, q⟩⟩⟩)) (fun m' c f s w q l => Or.inr (Or.inr ⟨rfl, c, krf hr f, krb hb f, Or.inr ⟨s, w, Or.inr (Or.inl ⟨rfl, q, l⟩)⟩⟩))
theorem qQ {m m' : MM} (hc : ClS m) (hb : RelB m) (hF : FrQ m m') : ClS m' ∧ RelB m' := ⟨hc.ref (fun A i q => hF A i (by unfold pRf at q; omega)), hb.fr (fun A i q => hF A i (by omega))⟩
theorem rf9 {S : Nat × (Nat → Int32)} {n : Nat} {m : MM} {p0 p1 t y : Int} (H : Hf9 p0 p1 t y m) : CQI (Ex S (n + 4)) 244 [.inr 143, .inl p0, .inl p1] m (fun r m2 => ClS m2 ∧ RefOK m2 ∧ RelB m2 ∧ m2 143 0 = t ∧ (t = 0 → r = y)) (fun _ _ => False) := by
  obtain ⟨hc, hr, hb, H⟩ := H
  have hs := hb.snd hr
  refine CWI.q (Ex.mono S (n + 4)) (f_244e hr (fun m' r1 f1 s1 t1 => ?_) (fun m' r t' r1 f1 s1 c1 w1 t1 q1 => ?_))
  · rcases H with ⟨rfl, h1⟩ | ⟨h1, -⟩
    · exact ⟨(qQ hc hb f1).1, r1, (qQ hc hb f1).2, t1, fun z => by omega⟩
    · exact absurd (hs.mp h1) s1
  · rcases H with ⟨-, h1⟩ | ⟨h1, h2, h3⟩
    · exact absurd (hs.mpr s1) h1
    · have hw0 := hc.1.w.2.1
      have u := hb.webs hc.1.b hr hw0 c1 h2 w1
      have tt : t' = t := by rw [← u.1] at q1; omega
      refine ⟨(qQ hc hb f1).1, r1, (qQ hc hb f1).2, by omega, fun z => ?_⟩
      rw [← u.1] at q1
      have q2 : r = ndR m' p0 p1 := by rcases q1 with q | q | q <;> first | omega | exact q.2.2.2
      have q3 : y = ndQ m p0 p1 := by rcases h3 with q | q | q <;> first | omega | exact q.2.2.2
      have q4 : 0 ≤ p0 ∧ p0 < m 9 0 := by omega
      have e := u.2 p0.toNat (by omega)
      unfold cwq rq at e
      simp only [Prod.mk.injEq] at e
      rw [q2, q3]
      unfold ndR ndQ
      rw [← e.1, ← e.2.1, ← e.2.2.1, ← e.2.2.2]
def Hf8 (y : Int) (m : MM) : Prop := ClS m ∧ RefOK m ∧ RelB m ∧ (y = 0 ∨ y = 1) ∧ (y = 1 ↔ SndX m)
theorem cl8 {S : Nat × (Nat → Int32)} {n : Nat} {m : MM} (hc : ClS m) (hr : RefOK m) (hb : RelB m) : CQI (Ex S (n + 14)) 10 [.inr 0] m Hf8 (fun _ _ => False) :=
  f_10x hc (fun r m' c f a b => ⟨c, krf hr f, krb hb f, a, b⟩)
theorem rf8 {S : Nat × (Nat → Int32)} {n : Nat} {m : MM} {y : Int} (H : Hf8 y m) : CQI (Ex S (n + 3)) 239 [.inr 143] m (fun r m2 => ClS m2 ∧ RefOK m2 ∧ RelB m2 ∧ r = y) (fun _ _ => False) := by
  obtain ⟨hc, hr, hb, a, b⟩ := H
  have hs := hb.snd hr
  refine CWI.q (Ex.mono S (n + 3)) (f_239e hr (fun r m' r1 f1 t1 a1 b1 => ⟨(qQ hc hb f1).1, r1, (qQ hc hb f1).2, ?_⟩))
  rw [hs, ← b1] at b
  omega
