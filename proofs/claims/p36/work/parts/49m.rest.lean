/-! the reference at rest; ops that come; a need told -/
def RefOK (m : MM) : Prop := (OpsOK m) ∧ (UnOK m) ∧ (∀ k, k < 6 → 1 ≤ m 152 k ∧ m 152 k ≤ 15) ∧ (∀ k, k < 3 → 1 ≤ m 153 k ∧ m 153 k ≤ 3) ∧ (∀ o, o < 8 → -9999 ≤ m 149 o ∧ m 149 o ≤ 9999) ∧ (∀ o, o < 8 → (-2 ≤ m 145 o ∧ m 145 o ≤ 7) ∧ -2 ≤ m 147 o ∧ m 147 o ≤ 7) ∧ (SlOK m) ∧ (m 143 18 = -1) ∧ (R48 m) ∧ (0 ≤ m 143 12 ∧ m 143 12 ≤ 44) ∧ (0 ≤ m 143 0 ∧ m 143 0 ≤ 4) ∧ (∀ o, o < 8 → 0 ≤ m 168 o ∧ m 168 o ≤ 45)
theorem RefOK.ops {m : MM} (h : RefOK m) : OpsOK m := h.1
theorem RefOK.un {m : MM} (h : RefOK m) : UnOK m := h.2.1
theorem RefOK.bz {m : MM} (h : RefOK m) : ∀ k, k < 6 → 1 ≤ m 152 k ∧ m 152 k ≤ 15 := h.2.2.1
theorem RefOK.cn {m : MM} (h : RefOK m) : ∀ k, k < 3 → 1 ≤ m 153 k ∧ m 153 k ≤ 3 := h.2.2.2.1
theorem RefOK.fi {m : MM} (h : RefOK m) : ∀ o, o < 8 → -9999 ≤ m 149 o ∧ m 149 o ≤ 9999 := h.2.2.2.2.1
theorem RefOK.ab {m : MM} (h : RefOK m) : ∀ o, o < 8 → (-2 ≤ m 145 o ∧ m 145 o ≤ 7) ∧ -2 ≤ m 147 o ∧ m 147 o ≤ 7 := h.2.2.2.2.2.1
theorem RefOK.sl {m : MM} (h : RefOK m) : SlOK m := h.2.2.2.2.2.2.1
theorem RefOK.lo {m : MM} (h : RefOK m) : m 143 18 = -1 := h.2.2.2.2.2.2.2.1
theorem RefOK.r48 {m : MM} (h : RefOK m) : R48 m := h.2.2.2.2.2.2.2.2.1
theorem RefOK.nd {m : MM} (h : RefOK m) : 0 ≤ m 143 12 ∧ m 143 12 ≤ 44 := h.2.2.2.2.2.2.2.2.2.1
theorem RefOK.th {m : MM} (h : RefOK m) : 0 ≤ m 143 0 ∧ m 143 0 ≤ 4 := h.2.2.2.2.2.2.2.2.2.2.1
theorem RefOK.pa {m : MM} (h : RefOK m) : ∀ o, o < 8 → 0 ≤ m 168 o ∧ m 168 o ≤ 45 := h.2.2.2.2.2.2.2.2.2.2.2
/-- what the methods by hand never write -/
def FrQ (m m' : MM) : Prop := ∀ A i, (A < 143 ∨ 172 < A ∨ (A = 143 ∧ i = 1) ∨ (143 < A ∧ A < 154)) → m' A i = m A i
theorem FrQ.rf {m : MM} : FrQ m m := fun _ _ _ => rfl
theorem FrQ.tr {a b c : MM} (h1 : FrQ a b) (h2 : FrQ b c) : FrQ a c := fun A i e => (h2 A i e).trans (h1 A i e)
theorem RefOK.th' {m : MM} (h : RefOK m) {z : Int} (hz : 0 ≤ z ∧ z ≤ 4) : RefOK (upm m 143 0 z) := by
  have e : ∀ A i, ¬ (A = 143 ∧ i = 0) → upm m 143 0 z A i = m A i := fun A i q => upm_ne q
  have o := h.ops
  refine ⟨⟨?_, fun k hk => ?_, fun k hk => ?_⟩, fun k hk => ?_, fun k hk => ?_, fun k hk => ?_, fun k hk => ?_, fun k hk => ?_, fun k hk => ?_, ?_, fun k hk => ?_, ?_, ?_, fun k hk => ?_⟩
  · rw [e _ _ (by omega)]; exact o.1
  · unfold OpOK
    rw [e _ _ (by omega), e _ _ (by omega), e _ _ (by omega), e _ _ (by omega), e _ _ (by omega)]; exact o.2.1 k hk
  · rw [e _ _ (by omega)]; exact o.2.2 k hk
  · rw [e _ _ (by omega)]; exact h.un k hk
  · rw [e _ _ (by omega)]; exact h.bz k hk
  · rw [e _ _ (by omega)]; exact h.cn k hk
  · rw [e _ _ (by omega)]; exact h.fi k hk
  · rw [e _ _ (by omega), e _ _ (by omega)]; exact h.ab k hk
  · rw [e _ _ (by omega)]; exact h.sl k hk
  · rw [e _ _ (by omega)]; exact h.lo
  · rw [e _ _ (by omega), e _ _ (by omega), e _ _ (by omega), e _ _ (by omega)]; exact h.r48 k hk
  · rw [e _ _ (by omega)]; exact h.nd
  · rw [upm_eq]; exact hz
  · rw [e _ _ (by omega)]; exact h.pa k hk
theorem FrQ.th {m : MM} {z : Int} : FrQ m (upm m 143 0 z) := fun A i q => upm_ne (by omega)
/-- cells that hold what is told of ops and kinds stay -/
def Kp (m m' : MM) : Prop := ∀ A i, (A = 143 ∧ (i = 0 ∨ i = 1 ∨ i = 18)) ∨ (143 < A ∧ A < 154) ∨ A = 168 → m' A i = m A i
theorem Kp.rest {m m' : MM} (e : Kp m m') (h : RefOK m) (hs : SlOK m') (hr : R48 m') (hn : 0 ≤ m' 143 12 ∧ m' 143 12 ≤ 44) : RefOK m' := by
  have o := h.ops
  refine ⟨⟨?_, fun k hk => ?_, fun k hk => ?_⟩, fun k hk => ?_, fun k hk => ?_, fun k hk => ?_, fun k hk => ?_, fun k hk => ?_, hs, ?_, hr, hn, ?_, fun k hk => ?_⟩
  · rw [e _ _ (by omega)]; exact o.1
  · unfold OpOK
    rw [e _ _ (by omega), e _ _ (by omega), e _ _ (by omega), e _ _ (by omega), e _ _ (by omega)]; exact o.2.1 k hk
  · rw [e _ _ (by omega)]; exact o.2.2 k hk
  · rw [e _ _ (by omega)]; exact h.un k hk
  · rw [e _ _ (by omega)]; exact h.bz k hk
  · rw [e _ _ (by omega)]; exact h.cn k hk
  · rw [e _ _ (by omega)]; exact h.fi k hk
  · rw [e _ _ (by omega), e _ _ (by omega)]; exact h.ab k hk
  · rw [e _ _ (by omega)]; exact h.lo
  · rw [e _ _ (by omega)]; exact h.th
  · rw [e _ _ (by omega)]; exact h.pa k hk
theorem FrF.kp {a b : MM} (h : FrF a b) : Kp a b := fun A i q => h A i (by omega) (by omega) (by omega) (by omega) (by omega) (by omega) (by omega) (by omega) (by omega) (by omega)
theorem FrF.q {a b : MM} (h : FrF a b) : FrQ a b := fun A i q => h A i (by omega) (by omega) (by omega) (by omega) (by omega) (by omega) (by omega) (by omega) (by omega) (by omega)
theorem FrW.rest {m m' : MM} (e : FrW m m') (r : RN m m') (h : RefOK m) : RefOK m' := e.f.kp.rest h (fun o ho => by rw [e 160 o (by omega) (by omega) (by omega) (by omega) (by omega) (by omega)]; exact h.sl o ho) (r.1 h.r48) (r.2 h.nd)
theorem FrF.rest {m m' : MM} (e : FrF m m') (r : RN m m') (s : SlOK m') (h : RefOK m) : RefOK m' := e.kp.rest h s (r.1 h.r48) (r.2 h.nd)
theorem FrL.q {a b : MM} (h : FrL a b) : FrQ a b := fun A i q => h A i (by omega) (by omega) (by omega) (by omega) (by omega) (by omega)
theorem FrL.rest {m m' : MM} (e : FrL m m') (r : RN m m') (h : RefOK m) : RefOK m' :=
  Kp.rest (fun A i q => e A i (by omega) (by omega) (by omega) (by omega) (by omega) (by omega)) h (fun o ho => by rw [e 160 o (by omega) (by omega) (by omega) (by omega) (by omega) (by omega)]; exact h.sl o ho) (r.1 h.r48) (r.2 h.nd)
/-- what a public method comes to -/
abbrev Fin (m : MM) (K : Int → MM → Prop) : Prop := ∀ r m', RefOK m' → FrQ m m' → K r m'
section OPS
variable {S : Nat × (Nat → Int32)} {n : Nat} {mem : MM} {K : Int → MM → Prop}
theorem f_228 {a b : Int} (H1 : srcOK a b → K 1 mem) (H0 : K 0 mem) : CWI (Ex S (n + 2)) 228 [.inl a, .inl b] mem K := by
  have h0 : ∃ y, some (0 : Int) = some y ∧ K y mem := ⟨_, rfl, H0⟩
  refine CW.of (k := 0) mt_228 rfl rfl (w_228_0 (Ex.mono S (n + 1)) ⟨fun q => ⟨fun q2 => ⟨_, rfl, H1 (Or.inl q2)⟩, fun q2 => f_227 (fun a1 a2 _ => ⟨fun z => absurd z (by decide), fun _ => f_227 (fun b1 b2 _ => ⟨fun z => absurd z (by decide), fun _ => ⟨_, rfl, H1 ?_⟩⟩) (fun _ _ => ⟨fun _ => h0, fun z => absurd rfl z⟩)⟩) (fun _ _ => ⟨fun _ => h0, fun z => absurd rfl z⟩)⟩, fun q => f_227 (fun _ _ _ => ⟨Or.inr rfl, _, rfl, H1 (Or.inr (Or.inl (by omega)))⟩) (fun _ _ => ⟨Or.inl rfl, h0⟩)⟩)
  exact Or.inr (Or.inr ⟨a1, a2, b1, b2⟩)
theorem f_231 {a b : Int} (H1 : 0 ≤ a → a ≤ 1 → 0 ≤ b → b ≤ 7 → K 1 mem) (H0 : K 0 mem) : CWI (Ex S (n + 2)) 231 [.inl a, .inl b] mem K := by
  have h0 : ∃ y, some (0 : Int) = some y ∧ K y mem := ⟨_, rfl, H0⟩
  exact CW.of (k := 0) mt_231 rfl rfl (w_231_0 (Ex.mono S (n + 1)) (f_227 (fun a1 a2 _ => ⟨fun z => absurd z (by decide), fun _ => f_227 (fun b1 b2 _ => ⟨fun z => absurd z (by decide), fun _ => ⟨_, rfl, H1 a1 a2 b1 b2⟩⟩) (fun _ _ => ⟨fun _ => h0, fun z => absurd rfl z⟩)⟩) (fun _ _ => ⟨fun _ => h0, fun z => absurd rfl z⟩)))
theorem Fin.th {m : MM} {K : Int → MM → Prop} (H : Fin m K) {z : Int} : Fin (upm m 143 0 z) K := fun r m' h1 h2 => H r m' h1 (FrQ.th.tr h2)
theorem Fin.at {m m1 : MM} {K : Int → MM → Prop} (H : Fin m K) (h1 : RefOK m1) (h2 : FrQ m m1) (r : Int) : ∃ y, some r = some y ∧ K y m1 := ⟨_, rfl, H r m1 h1 h2⟩
/-- thrown is told -/
theorem Fin.thr {m m1 : MM} {K : Int → MM → Prop} (H : Fin m K) (h1 : RefOK m1) (h2 : FrQ m m1) (r : Int) {z : Int} (hz : 0 ≤ z ∧ z ≤ 4) : ∃ y, some r = some y ∧ K y (upm m1 143 0 z) := ⟨_, rfl, H r _ (h1.th' hz) (h2.tr FrQ.th)⟩
theorem SoundM.th {m : MM} {z : Int} (h : SoundM m) : SoundM (upm m 143 0 z) := h
theorem f_244 {x y : Int} (h : RefOK mem) (H : Fin mem K) : CWI (Ex S (n + 4)) 244 [.inr 143, .inl x, .inl y] mem K := by
  refine CW.of (k := 0) mt_244 rfl rfl (w_244_0 (Ex.mono S (n + 3)) (f_240 h.ops (fun hS _ => ⟨fun _ => ?_, fun z => absurd (by decide) z⟩) (fun _ _ => ⟨fun z => absurd rfl z, fun _ _ => H.thr h FrQ.rf 0 (by omega)⟩)))
  have h' := h.th' (z := 0) (by omega)
  refine f_245 h'.ops hS.th (fun m4 g1 g5 g2 g3 g4 v5 e5 _ => ⟨by unfold InI; omega, ?_⟩)
  have hm : RefOK m4 := g1.w.rest ⟨g5, fun _ => ⟨g2, g3⟩⟩ h'
  have hq : FrQ mem m4 := FrQ.th.tr g1.w.f.q
  refine f_227 (fun a1 a2 _ => ⟨fun _ => f_227 (fun b1 b2 _ => ⟨fun _ => ?_, fun z => absurd (by decide) z⟩) (fun _ _ => ⟨fun z => absurd rfl z, fun _ _ => H.thr hm hq 0 (by omega)⟩), fun z => absurd (by decide) z⟩) (fun _ _ => ⟨fun z => absurd rfl z, fun _ _ => H.thr hm hq 0 (by omega)⟩)
  have hx : 0 ≤ x ∧ x < 48 := by omega
  exact ⟨fun _ => ⟨fun _ => ⟨fun _ => ⟨hx, fun v _ _ _ => H.thr hm hq v (by omega)⟩, fun _ => ⟨hx, fun v _ _ _ => H.thr hm hq v (by omega)⟩⟩, fun _ => ⟨hx, fun v _ _ _ => H.thr hm hq v (by omega)⟩⟩, fun _ => ⟨hx, fun v _ _ _ => H.thr hm hq v (by omega)⟩⟩
end OPS
