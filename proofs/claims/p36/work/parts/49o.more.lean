/-! bounds, folds, counts of the reference -/
theorem up_rng {a b u : Int} (hb : 0 < b) (ha : 0 ≤ a) (h1 : b * (u - 1) < a) (h2 : a ≤ b * u) : 0 ≤ u ∧ u ≤ a := by
  constructor
  · rcases Int.lt_or_le u 0 with q | q
    · have := Int.mul_neg_of_pos_of_neg hb q
      omega
    · exact q
  · rcases Int.lt_or_le u 1 with q | q
    · omega
    · have : 1 * (u - 1) ≤ b * (u - 1) := Int.mul_le_mul_of_nonneg_right (by omega) (by omega)
      omega
theorem bits_less {s b : Int} (h : 0 ≤ s ∧ s ≤ 15) (h0 : ¬ s = 0) (e : b = ((fun (x y : Int32) => x &&& y) (Int32.ofInt s) (Int32.ofInt (s - 1))).toInt) : 0 ≤ b ∧ b < s := by
  have : s = 1 ∨ s = 2 ∨ s = 3 ∨ s = 4 ∨ s = 5 ∨ s = 6 ∨ s = 7 ∨ s = 8 ∨ s = 9 ∨ s = 10 ∨ s = 11 ∨ s = 12 ∨ s = 13 ∨ s = 14 ∨ s = 15 := by omega
  rw [e]
  rcases this with h | h | h | h | h | h | h | h | h | h | h | h | h | h | h <;> subst h <;> decide
section MORE
variable {S : Nat × (Nat → Int32)} {n : Nat} {mem : MM} {K : Int → MM → Prop}
theorem f_266 {x : Int} (h : 0 ≤ x ∧ x ≤ 15) (H : ∀ r, 0 ≤ r → r ≤ 15 → K r mem) : CWI (Ex S (n + 1)) 266 [.inl x] mem K := by
  have key : ∀ (N : Nat) (c s : Int), 0 ≤ c → 0 ≤ s → c + s ≤ 15 → s.toNat < N → Wx (Ex S n) S M_266 (fun r m => ∃ y, r = some y ∧ K y m) 4 [some (.inl x), some (.inl c), some (.inl s)] [] mem := by
    intro N
    induction N with
    | zero => intros; omega
    | succ N ih =>
      intro c s hc hs h15 hN
      refine w_266_4 (Ex.mono S n) ⟨fun q _ => ⟨_, rfl, H c hc (by omega)⟩, fun q => ⟨by unfold InI; omega, by unfold InI; omega, fun b e _ => ?_⟩⟩
      have := bits_less ⟨hs, by omega⟩ q e
      exact ih (c + 1) b (by omega) this.1 (by omega) (by omega)
  exact CW.of (k := 2) mt_266 rfl rfl (w_266_0 (Ex.mono S n) (key 16 0 x (by omega) h.1 (by omega) (by omega)))
theorem f_265b (hO : OpsOK mem) (hB : ∀ k, k < 6 → 1 ≤ mem 152 k ∧ mem 152 k ≤ 15) {o : Int} (h : 0 ≤ o ∧ o < 8) (H : ∀ u, 1 ≤ u → u ≤ 15 → K u mem) : CWI (Ex S (n + 1)) 265 [.inr 143, .inl o] mem K := by
  obtain ⟨h1, h2, -⟩ := hO.2.1 o.toNat (by omega)
  refine CW.of (k := 0) mt_265 rfl rfl (w_265_0 (Ex.mono S n) ⟨h, fun v e _ => ⟨by omega, fun v2 e2 _ _ => ⟨_, rfl, ?_⟩⟩⟩)
  have := hB v.toNat (by omega)
  exact H v2 (by omega) (by omega)
theorem f_263 (hO : OpsOK mem) (hU : UnOK mem) (hB : ∀ k, k < 6 → 1 ≤ mem 152 k ∧ mem 152 k ≤ 15) {x : Int} (H : ∀ r, 0 ≤ r → r ≤ 120 → K r mem) : CWI (Ex S (n + 2)) 263 [.inr 143, .inl x] mem K := by
  have h8 := hO.1
  have key : ∀ (N : Nat) (c : Int) (o : Int), 0 ≤ o → 0 ≤ c → c ≤ 15 * o → o ≤ mem 143 1 → (mem 143 1 - o).toNat < N → Wx (Ex S (n + 1)) S M_263 (fun r m => ∃ y, r = some y ∧ K y m) 4 [some (.inr 143), some (.inl x), some (.inl c), some (.inl o)] [] mem := by
    intro N
    induction N with
    | zero => intros; omega
    | succ N ih =>
      intro c o ho hc hc2 ho2 hN
      refine w_263_4 (Ex.mono S (n + 1)) (fun v1 e1 _ => ⟨fun q _ => ⟨_, rfl, H c hc (by omega)⟩, fun q => f_264 hO hU ⟨ho, by omega⟩ (fun u _ _ _ => ⟨fun _ => ⟨by unfold InI; omega, by unfold InI; omega, ih (c + 0) (o + 1) (by omega) (by omega) (by omega) (by omega) (by omega)⟩, fun _ => ?_⟩)⟩)
      exact f_265b hO hB ⟨ho, by omega⟩ (fun w w1 w2 _ => f_266 ⟨by omega, w2⟩ (fun r r1 r2 _ => ⟨by unfold InI; omega, by unfold InI; omega, ih (c + r) (o + 1) (by omega) (by omega) (by omega) (by omega) (by omega)⟩))
  exact CW.of (k := 2) mt_263 rfl rfl (w_263_0 (Ex.mono S (n + 1)) (key 9 0 0 (by omega) (by omega) (by omega) h8.1 (by omega)))
theorem f_354 (hO : OpsOK mem) (hU : UnOK mem) (hB : ∀ k, k < 6 → 1 ≤ mem 152 k ∧ mem 152 k ≤ 15) (hC : ∀ k, k < 3 → 1 ≤ mem 153 k ∧ mem 153 k ≤ 9) (H : ∀ r, 0 ≤ r → r ≤ 120 → K r mem) : CWI (Ex S (n + 3)) 354 [.inr 143] mem K := by
  have key : ∀ (N : Nat) (c : Int) (o : Int), 0 ≤ o → 0 ≤ c → c ≤ 120 → (3 - o).toNat < N → Wx (Ex S (n + 2)) S M_354 (fun r m => ∃ y, r = some y ∧ K y m) 4 [some (.inr 143), some (.inl c), some (.inl o)] [] mem := by
    intro N
    induction N with
    | zero => intros; omega
    | succ N ih =>
      intro c o ho hc hc2 hN
      refine w_354_4 (Ex.mono S (n + 2)) ⟨fun q _ => ⟨_, rfl, H c hc hc2⟩, fun q => f_263 hO hU hB (fun r r1 r2 _ => ⟨⟨ho, by omega⟩, fun v3 e3 _ => ?_⟩)⟩
      have := hC o.toNat (by omega)
      refine f_275 ⟨by omega, by omega⟩ ⟨by omega, by omega⟩ (fun u u1 u2 _ => ?_)
      have hu := up_rng (by omega) r1 u1 u2
      exact f_257 (fun _ _ => ⟨by unfold InI; omega, ih _ (o + 1) (by omega) (by omega) (by omega) (by omega)⟩)
  exact CW.of (k := 2) mt_354 rfl rfl (w_354_0 (Ex.mono S (n + 2)) (key 4 0 0 (by omega) (by omega) (by omega) (by omega)))
theorem f_335 (hO : OpsOK mem) (H : ∀ r, 0 ≤ r → r ≤ 48 → K r mem) : CWI (Ex S (n + 2)) 335 [.inr 143] mem K := by
  have h8 := hO.1
  have key : ∀ (N : Nat) (c : Int) (o : Int), 0 ≤ o → 0 ≤ c → c ≤ 6 * o → o ≤ mem 143 1 → (mem 143 1 - o).toNat < N → Wx (Ex S (n + 1)) S M_335 (fun r m => ∃ y, r = some y ∧ K y m) 4 [some (.inr 143), some (.inl c), some (.inl o)] [] mem := by
    intro N
    induction N with
    | zero => intros; omega
    | succ N ih =>
      intro c o ho hc hc2 ho2 hN
      refine w_335_4 (Ex.mono S (n + 1)) (fun v1 e1 _ => ⟨fun q _ => ⟨_, rfl, H c hc (by omega)⟩, fun q => f_246 hO ⟨ho, by omega⟩ (fun _ => ?_)⟩)
      have := hO.lat (o := o.toNat) (by omega)
      exact ⟨by unfold InI; omega, by unfold InI; omega, ih _ (o + 1) (by omega) (by omega) (by omega) (by omega) (by omega)⟩
  exact CW.of (k := 2) mt_335 rfl rfl (w_335_0 (Ex.mono S (n + 1)) (key 9 0 0 (by omega) (by omega) (by omega) h8.1 (by omega)))
theorem f_353 (hO : OpsOK mem) (hS : SoundM mem) (hU : UnOK mem) (hB : ∀ k, k < 6 → 1 ≤ mem 152 k ∧ mem 152 k ≤ 15) (hC : ∀ k, k < 3 → 1 ≤ mem 153 k ∧ mem 153 k ≤ 9) (H : ∀ r m', FrW mem m' → RN mem m' → NdsOK m' → K r m') : CWI (Ex S (n + 4)) 353 [.inr 143] mem K := by
  refine CW.of (k := 0) mt_353 rfl rfl (w_353_0 (Ex.mono S (n + 3)) (f_245 hO hS (fun m1 g1 g5 g2 g3 g4 => ?_)))
  have hN := NdsOK.of hO g1 g2 g3 g4
  have hRN : RN mem m1 := ⟨g5, fun _ => ⟨g2, g3⟩⟩
  refine f_255 hN (fun r m2 r1 r2 k1 _ => ?_)
  have kW := g1.w.tr k1.w
  have e : ∀ A i, (143 < A ∧ A < 154) → m2 A i = mem A i := fun A i q => kW A i (by omega) (by omega) (by omega) (by omega) (by omega) (by omega)
  refine f_354 (kW.ops hO) (fun k hk => by rw [e _ _ (by omega)]; exact hU k hk) (fun k hk => by rw [e _ _ (by omega)]; exact hB k hk) (fun k hk => by rw [e _ _ (by omega)]; exact hC k hk) (fun u u1 u2 _ => f_257 (fun _ _ => f_257 (fun _ _ _ => ⟨_, rfl, H _ m2 kW (hRN.tr (k1.rn (by omega))) (hN.fr k1)⟩)))
theorem RefOK.cn9 {m : MM} (h : RefOK m) : ∀ k, k < 3 → 1 ≤ m 153 k ∧ m 153 k ≤ 9 := fun k hk => by have := h.cn k hk; omega
theorem f_367 {x : Int} (h : RefOK mem) (H : Fin mem K) : CWI (Ex S (n + 5)) 367 [.inr 143, .inl x] mem K := by
  refine CW.of (k := 1) mt_367 rfl rfl (w_367_0 (Ex.mono S (n + 4)) (f_240 h.ops (fun hS _ => ⟨fun _ => ?_, fun z => absurd (by decide) z⟩) (fun _ _ => ⟨fun z => absurd rfl z, fun _ _ => H.at h FrQ.rf _⟩)))
  refine f_353 h.ops hS h.un h.bz h.cn9 (fun r m' k1 k2 k3 _ => ?_)
  have h' := k1.rest k2 h
  have hq := k1.f.q
  exact ⟨fun _ => ⟨fun _ => ⟨fun _ _ => H.at h' hq _, fun _ => f_354 h'.ops h'.un h'.bz h'.cn9 (fun u _ _ _ _ => H.at h' hq _)⟩, fun _ => f_255 k3 (fun u m'' _ _ q _ _ => H.at (q.w.rest (q.rn (by omega)) h') (hq.tr q.w.f.q) _)⟩, fun _ v _ _ _ => H.at h' hq _⟩
theorem f_366 {x : Int} (h : RefOK mem) (H : Fin mem K) : CWI (Ex S (n + 6)) 366 [.inr 143, .inl x] mem K := by
  have h' := h.th' (z := 0) (by omega)
  refine CW.of (k := 0) mt_366 rfl rfl (w_366_0 (Ex.mono S (n + 5)) ⟨fun _ => f_227 (fun _ _ _ => ⟨fun z => absurd z (by decide), fun _ => f_367 h' (fun r m' h1 h2 _ _ => H.at h1 (FrQ.th.tr h2) _)⟩) (fun _ _ => ⟨fun _ => ⟨fun _ => f_227 (fun a b _ => ⟨fun z => absurd z (by decide), fun _ => ⟨by unfold InI; omega, by omega, fun v _ _ _ => H.at h' FrQ.th _⟩⟩) (fun _ _ => ⟨fun _ _ => H.at h' FrQ.th _, fun z => absurd rfl z⟩), fun _ => f_335 h'.ops (fun r _ _ _ _ => H.at h' FrQ.th _)⟩, fun z => absurd rfl z⟩), fun _ v _ _ _ => H.at h' FrQ.th _⟩)
theorem f_355 {x : Int} (h : RefOK mem) (H : Fin mem K) : CWI (Ex S (n + 4)) 355 [.inr 143, .inl x] mem K := by
  refine CW.of (k := 1) mt_355 rfl rfl (w_355_0 (Ex.mono S (n + 3)) (f_240 h.ops (fun hS _ => ⟨fun z => absurd z (by decide), fun _ => ?_⟩) (fun _ _ => ⟨fun _ _ => H.thr h FrQ.rf 0 (by omega), fun z => absurd rfl z⟩)))
  have h' := h.th' (z := 0) (by omega)
  refine f_245 h'.ops hS.th (fun m4 g1 g5 g2 g3 g4 v5 e5 _ => ⟨by unfold InI; omega, ?_⟩)
  have hN := NdsOK.of h'.ops g1 g2 g3 g4
  have hm : RefOK m4 := g1.w.rest ⟨g5, fun _ => ⟨g2, g3⟩⟩ h'
  have hq : FrQ mem m4 := FrQ.th.tr g1.w.f.q
  refine f_227 (fun a1 a2 _ => ⟨fun z => absurd z (by decide), fun _ => ?_⟩) (fun _ _ => ⟨fun _ _ => H.thr hm hq 0 (by omega), fun z => absurd rfl z⟩)
  have hN2 : NdsOK (upm (upm m4 143 0 0) 143 18 x) := hN
  refine f_255 hN2 (fun r m5 _ _ k1 _ _ => ⟨_, rfl, H r _ ?_ ?_⟩)
  · have e : ∀ A i, ¬ A = 158 → ¬ (A = 143 ∧ i = 18) → upm m5 143 18 (-1) A i = upm m4 143 0 0 A i := fun A i q1 q2 => by rw [upm_ne q2, k1 A i q1, upm_ne q2]
    have hm' := hm.th' (z := 0) (by omega)
    refine Kp.rest (m := upm m4 143 0 0) (fun A i q => ?_) hm' (fun o ho => by rw [e _ _ (by omega) (by omega)]; exact hm'.sl o ho) (fun j hj => by rw [e _ _ (by omega) (by omega), e _ _ (by omega) (by omega), e _ _ (by omega) (by omega), e _ _ (by omega) (by omega)]; exact hm'.r48 j hj) (by rw [e _ _ (by omega) (by omega)]; exact hm'.nd)
    by_cases q2 : A = 143 ∧ i = 18
    · obtain ⟨rfl, rfl⟩ := q2
      rw [upm_eq]; exact hm'.lo.symm
    · exact e A i (by omega) q2
  · refine hq.tr (fun A i q => ?_)
    rw [upm_ne (by omega), k1 A i (by omega), upm_ne (by omega), upm_ne (by omega)]
/-- a cell is changed, the bound is told, it is changed back -/
theorem back {A0 i0 : Nat} {u w : Int} {m m9 : MM} (hA : A0 = 151 ∨ A0 = 153) (h : RefOK m) (hw : w = m A0 i0) (k : FrW (upm m A0 i0 u) m9) (r : RN (upm m A0 i0 u) m9) : RefOK (upm m9 A0 i0 w) ∧ FrQ m (upm m9 A0 i0 w) := by
  have e : ∀ A i, ¬ A = 154 → ¬ A = 155 → ¬ A = 156 → ¬ A = 157 → ¬ A = 158 → ¬ (A = 143 ∧ i = 12) → upm m9 A0 i0 w A i = m A i := fun A i e1 e2 e3 e4 e5 e6 => by
    by_cases q : A = A0 ∧ i = i0
    · obtain ⟨rfl, rfl⟩ := q
      rw [upm_eq]; exact hw
    · rw [upm_ne q, k A i e1 e2 e3 e4 e5 e6, upm_ne q]
  have s1 : R4 m (upm m A0 i0 u) := R4.same (fun A i q => upm_ne (by omega))
  have s2 : R4 m9 (upm m9 A0 i0 w) := R4.same (fun A i q => upm_ne (by omega))
  have hn := r.2 (by rw [upm_ne (by omega)]; exact h.nd)
  exact ⟨Kp.rest (fun A i q => e A i (by omega) (by omega) (by omega) (by omega) (by omega) (by omega)) h (fun o ho => by rw [e _ _ (by omega) (by omega) (by omega) (by omega) (by omega) (by omega)]; exact h.sl o ho) (s2 (r.1 (s1 h.r48))) (by rw [upm_ne (by omega)]; exact hn), fun A i q => e A i (by omega) (by omega) (by omega) (by omega) (by omega) (by omega)⟩
theorem OpsOK.lat1 {m : MM} {i0 : Nat} {u : Int} (h : OpsOK m) (hu : 1 ≤ u ∧ u ≤ 6) : OpsOK (upm m 151 i0 u) := by
  refine ⟨h.1, fun o ho => h.2.1 o ho, fun k hk => ?_⟩
  by_cases q : k = i0
  · subst q; rw [upm_eq]; exact hu
  · rw [upm_ne (fun z => q z.2)]; exact h.2.2 k hk
theorem f_352 {x : Int} (h : RefOK mem) (H : Fin mem K) : CWI (Ex S (n + 5)) 352 [.inr 143, .inl x] mem K := by
  refine CW.of (k := 1) mt_352 rfl rfl (w_352_0 (Ex.mono S (n + 4)) (f_227 (fun a1 a2 _ => ⟨fun _ => f_240 h.ops (fun hS _ => ⟨fun z => absurd z (by decide), fun _ => ⟨by omega, fun v6 e6 _ => ⟨fun q => ⟨by omega, fun v8 e8 _ => ?_⟩, fun _ _ => H.thr h FrQ.rf 0 (by omega)⟩⟩⟩) (fun _ _ => ⟨fun _ _ => H.thr h FrQ.rf 0 (by omega), fun z => absurd rfl z⟩), fun z => absurd (by decide) z⟩) (fun _ _ => ⟨fun z => absurd rfl z, fun _ _ => H.thr h FrQ.rf 0 (by omega)⟩)))
  have h' := h.th' (z := 0) (by omega)
  have e8' : v8 = v6 := by rw [e8, e6, upm_ne (by omega)]
  have hl := h.ops.2.2 x.toNat (by omega)
  refine ⟨by unfold InI; omega, by omega, f_353 (h'.ops.lat1 ⟨by omega, by omega⟩) hS h'.un h'.bz h'.cn9 (fun r m9 k1 k2 k3 _ => ⟨by omega, fun v11 e11 _ => ?_⟩)⟩
  have e11' : v11 = v8 - 1 := by rw [e11, k1 _ _ (by omega) (by omega) (by omega) (by omega) (by omega) (by omega), upm_eq]
  obtain ⟨b1, b2⟩ := back (w := v11 + 1) (Or.inl rfl) h' (by rw [e11', ← e8]; omega) k1 k2
  exact ⟨by unfold InI; omega, by omega, fun _ => ⟨_, rfl, H r _ b1 (FrQ.th.tr b2)⟩⟩
theorem f_357 {x : Int} (h : RefOK mem) (H : Fin mem K) : CWI (Ex S (n + 5)) 357 [.inr 143, .inl x] mem K := by
  refine CW.of (k := 1) mt_357 rfl rfl (w_357_0 (Ex.mono S (n + 4)) (f_227 (fun a1 a2 _ => ⟨fun _ => f_240 h.ops (fun hS _ => ⟨fun _ => ⟨by omega, fun v6 e6 _ => ?_⟩, fun z => absurd (by decide) z⟩) (fun _ _ => ⟨fun z => absurd rfl z, fun _ _ => H.thr h FrQ.rf 0 (by omega)⟩), fun z => absurd (by decide) z⟩) (fun _ _ => ⟨fun z => absurd rfl z, fun _ _ => H.thr h FrQ.rf 0 (by omega)⟩)))
  have h' := h.th' (z := 0) (by omega)
  have hl := h'.cn x.toNat (by omega)
  refine ⟨by unfold InI; omega, by omega, f_353 h'.ops hS h'.un h'.bz (fun k hk => ?_) (fun r m9 k1 k2 k3 _ => ⟨by omega, fun v11 e11 _ => ?_⟩)⟩
  · by_cases q : k = x.toNat
    · subst q; rw [upm_eq]; omega
    · rw [upm_ne (fun z => q z.2)]; exact h'.cn9 k hk
  have e11' : v11 = v6 + 1 := by rw [e11, k1 _ _ (by omega) (by omega) (by omega) (by omega) (by omega) (by omega), upm_eq]
  obtain ⟨b1, b2⟩ := back (w := v11 - 1) (Or.inr rfl) h' (by rw [e11', ← e6]; omega) k1 k2
  exact ⟨by unfold InI; omega, by omega, fun _ => ⟨_, rfl, H r _ b1 (FrQ.th.tr b2)⟩⟩
theorem f_343 {x : Int} (h : RefOK mem) (H : Fin mem K) : CWI (Ex S (n + 6)) 343 [.inr 143, .inl x] mem K := by
  refine CW.of (k := 0) mt_343 rfl rfl (w_343_0 (Ex.mono S (n + 5)) (f_240 h.ops (fun hS _ => ⟨fun z => absurd z (by decide), fun _ => ?_⟩) (fun _ _ => ⟨fun _ _ => H.thr h FrQ.rf 0 (by omega), fun z => absurd rfl z⟩)))
  have h' := h.th' (z := 0) (by omega)
  exact f_344 h'.ops hS.th (fun m' k1 k2 _ _ => ⟨fun _ v _ _ _ => H.at (k1.rest k2 h') (FrQ.th.tr k1.q) _, fun _ v _ _ _ => H.at (k1.rest k2 h') (FrQ.th.tr k1.q) _⟩)
theorem f_348 (h : RefOK mem) (H : Fin mem K) : CWI (Ex S (n + 6)) 348 [.inr 143] mem K := by
  refine CW.of (k := 0) mt_348 rfl rfl (w_348_0 (Ex.mono S (n + 5)) (f_240 h.ops (fun hS _ => ⟨fun z => absurd z (by decide), fun _ => ?_⟩) (fun _ _ => ⟨fun _ _ => H.thr h FrQ.rf 0 (by omega), fun z => absurd rfl z⟩)))
  have h' := h.th' (z := 0) (by omega)
  exact f_344 h'.ops hS.th (fun m' k1 k2 _ _ v _ _ _ => H.at (k1.rest k2 h') (FrQ.th.tr k1.q) _)
theorem f_350 (h : RefOK mem) (hR : RtOK mem) {x : Int} (hx : 1 ≤ x ∧ x ≤ 4) (H : ∀ r, 0 ≤ r → r ≤ 500 → K r mem) : CWI (Ex S (n + 3)) 350 [.inr 143, .inl x] mem K := by
  obtain ⟨q1, q2, q3, q4⟩ := hR
  have key : ∀ (N : Nat) (c : Int) (o : Int), 0 ≤ o → 0 ≤ c → c ≤ 500 → (3 - o).toNat < N → Wx (Ex S (n + 2)) S M_350 (fun r m => ∃ y, r = some y ∧ K y m) 20 [some (.inr 143), some (.inl x), some (.inl c), some (.inl o)] [] mem := by
    intro N
    induction N with
    | zero => intros; omega
    | succ N ih =>
      intro c o ho hc hc2 hN
      refine w_350_20 (Ex.mono S (n + 2)) ⟨fun q _ => ⟨_, rfl, H c hc hc2⟩, fun q => f_263 h.ops h.un h.bz (fun r r1 r2 _ => ?_)⟩
      have p : 0 ≤ x * r ∧ x * r ≤ 480 := by
        have a1 : 0 ≤ x * r := Int.mul_nonneg (by omega) (by omega)
        have a2 : x * r ≤ 4 * r := Int.mul_le_mul_of_nonneg_right hx.2 (by omega)
        omega
      refine ⟨by unfold InI; omega, ⟨ho, by omega⟩, fun v3 e3 _ => ?_⟩
      have := h.cn o.toNat (by omega)
      refine f_275 ⟨by omega, by omega⟩ ⟨by omega, by omega⟩ (fun u u1 u2 _ => ?_)
      have hu := up_rng (by omega) p.1 u1 u2
      exact f_257 (fun _ _ => ⟨by unfold InI; omega, ih _ (o + 1) (by omega) (by omega) (by omega) (by omega)⟩)
  refine CW.of (k := 2) mt_350 rfl rfl (w_350_0 (Ex.mono S (n + 2)) (fun v1 e1 _ => ?_))
  have p : 0 ≤ x * v1 ∧ x * v1 ≤ 400 := by
    have a1 : 0 ≤ x * v1 := Int.mul_nonneg (by omega) (by omega)
    have a2 : x * v1 ≤ 4 * v1 := Int.mul_le_mul_of_nonneg_right hx.2 (by omega)
    omega
  refine ⟨by unfold InI; omega, fun v2 e2 _ => f_275 ⟨by omega, by omega⟩ ⟨by omega, by omega⟩ (fun u u1 u2 _ => ?_)⟩
  have hu := up_rng (by omega) p.1 u1 u2
  exact f_257 (fun _ _ => key 4 _ 0 (by omega) (by omega) (by omega) (by omega))
theorem f_349 {x : Int} (h : RefOK mem) (H : Fin mem K) : CWI (Ex S (n + 6)) 349 [.inr 143, .inl x] mem K := by
  refine CW.of (k := 0) mt_349 rfl rfl (w_349_0 (Ex.mono S (n + 5)) (f_227 (fun a1 a2 _ => ⟨fun _ => f_240 h.ops (fun hS _ => ⟨fun _ => ?_, fun z => absurd (by decide) z⟩) (fun _ _ => ⟨fun z => absurd rfl z, fun _ _ => H.thr h FrQ.rf 0 (by omega)⟩), fun z => absurd (by decide) z⟩) (fun _ _ => ⟨fun z => absurd rfl z, fun _ _ => H.thr h FrQ.rf 0 (by omega)⟩)))
  have h' := h.th' (z := 0) (by omega)
  exact f_344 h'.ops hS.th (fun m' k1 k2 _ k4 => f_350 (k1.rest k2 h') k4 ⟨a1, a2⟩ (fun r _ _ _ _ => H.at (k1.rest k2 h') (FrQ.th.tr k1.q) _))
theorem mul4 {r x : Int} (h : 0 ≤ r ∧ r ≤ 500) (hx : 1 ≤ x ∧ x ≤ 4) : InI (r * x) := by
  have a1 : 0 ≤ r * x := Int.mul_nonneg (by omega) (by omega)
  have a2 : r * x ≤ r * 4 := Int.mul_le_mul_of_nonneg_left hx.2 (by omega)
  unfold InI; omega
theorem f_351 (h : RefOK mem) (H : Fin mem K) : CWI (Ex S (n + 6)) 351 [.inr 143] mem K := by
  refine CW.of (k := 2) mt_351 rfl rfl (w_351_0 (Ex.mono S (n + 5)) (f_240 h.ops (fun hS _ => ⟨fun z => absurd z (by decide), fun _ => ?_⟩) (fun _ _ => ⟨fun _ _ => H.thr h FrQ.rf 0 (by omega), fun z => absurd rfl z⟩)))
  have h' := h.th' (z := 0) (by omega)
  refine f_344 h'.ops hS.th (fun m' k1 k2 _ k4 => ?_)
  have hm := k1.rest k2 h'
  have hq := FrQ.th.tr k1.q
  have key : ∀ (N : Nat) (b k : Int), 1 ≤ b → b ≤ 4 → 1 ≤ k → (5 - k).toNat < N → Wx (Ex S (n + 5)) S M_351 (fun r m => ∃ y, r = some y ∧ K y m) 33 [some (.inr 143), some (.inl b), some (.inl k)] [] m' := by
    intro N
    induction N with
    | zero => intros; omega
    | succ N ih =>
      intro b k hb hb2 hk hN
      refine w_351_33 (Ex.mono S (n + 5)) ⟨fun q _ => H.at hm hq _, fun q => f_350 hm k4 ⟨hk, by omega⟩ (fun r r1 r2 _ => ⟨mul4 ⟨r1, r2⟩ ⟨hb, hb2⟩, f_350 hm k4 ⟨hb, hb2⟩ (fun s s1 s2 _ => ⟨mul4 ⟨s1, s2⟩ ⟨hk, by omega⟩, fun _ => ⟨by unfold InI; omega, ih b (k + 1) hb hb2 (by omega) (by omega)⟩, fun _ => ⟨by unfold InI; omega, ih k (k + 1) hk (by omega) (by omega) (by omega)⟩⟩)⟩)⟩
  exact key 6 1 2 (by omega) (by omega) (by omega) (by omega)
end MORE
