/-! plan and life of the reference -/
theorem FrF.snd {m m' : MM} (k : FrF m m') (h : SoundM m) : SoundM m' := by
  have e : ∀ A i, (143 < A ∧ A < 154) ∨ (A = 143 ∧ i = 1) → m' A i = m A i := fun A i q => k A i (by omega) (by omega) (by omega) (by omega) (by omega) (by omega) (by omega) (by omega) (by omega) (by omega)
  intro o ho q h1 h2
  rw [e 143 1 (by omega)] at ho
  have e1 : srcN m' o = srcN m o := by unfold srcN; rw [e 144 o (by omega)]
  have e2 : srcA m' o q = srcA m o q := by unfold srcA; rw [e 145 o (by omega), e 147 o (by omega)]
  have e3 : srcB m' o q = srcB m o q := by unfold srcB; rw [e 146 o (by omega), e 148 o (by omega)]
  have := h o ho q h1 (by omega)
  unfold SrcS at this ⊢
  rw [e2, e3, e 143 1 (by omega), e 144 _ (by omega)]
  exact this
theorem TmOK.th {m : MM} {d z : Int} (h : TmOK m d) : TmOK (upm m 143 0 z) d := h
theorem NdsOK.th {m : MM} {z : Int} (h : NdsOK m) : NdsOK (upm m 143 0 z) := h
theorem tdiv_b {v d : Int} (hv : 0 ≤ v) (hd : 1 ≤ d) : 0 ≤ v.tdiv d ∧ v.tdiv d ≤ v := tdiv_r hv (by omega)
section PLAN
variable {S : Nat × (Nat → Int32)} {n : Nat} {mem : MM} {K : Int → MM → Prop} {d : Int}
theorem f_268r (h : RefOK mem) (hd : 1 ≤ d ∧ d ≤ 12) (H1 : ∀ m', RefOK m' → FrQ mem m' → Kp mem m' → SoundM m' → NdsOK m' → TmOK m' d → K 1 m') (H0 : ∀ m', RefOK m' → FrQ mem m' → K 0 m') : CWI (Ex S (n + 5)) 268 [.inr 143, .inl d] mem K :=
  f_268 h.ops h.un h.sl h.lo hd (fun m' k1 k2 k3 k4 k5 _ k7 => H1 m' (k1.rest k2 k3 h) k1.q k1.kp (k1.snd k4) k5 k7) (fun m' k1 k2 k3 _ => H0 m' (k1.rest k2 k3 h) k1.q)
theorem f_253 {x : Int} (H1 : 1 ≤ x → x ≤ 12 → K 1 mem) (H0 : K 0 mem) : CWI (Ex S (n + 2)) 253 [.inl x] mem K :=
  CW.of (k := 0) mt_253 rfl rfl (w_253_0 (Ex.mono S (n + 1)) (f_227 (fun a b _ => ⟨Or.inr rfl, _, rfl, H1 a b⟩) (fun _ _ => ⟨Or.inl rfl, _, rfl, H0⟩)))
theorem f_235 {x : Int} (h8 : 0 ≤ mem 143 1 ∧ mem 143 1 ≤ 8) (H1 : 0 ≤ x → x < mem 143 1 → K 1 mem) (H0 : K 0 mem) : CWI (Ex S (n + 2)) 235 [.inr 143, .inl x] mem K :=
  CW.of (k := 0) mt_235 rfl rfl (w_235_0 (Ex.mono S (n + 1)) (fun v e _ => ⟨by unfold InI; omega, f_227 (fun a b _ => ⟨Or.inr rfl, _, rfl, H1 a (by omega)⟩) (fun _ _ => ⟨Or.inl rfl, _, rfl, H0⟩)⟩))
theorem f_300 (hO : OpsOK mem) (hd : 1 ≤ d ∧ d ≤ 12) (hT : TmOK mem d) (H : ∀ r, 0 ≤ r → r ≤ 147 → (∀ o : Nat, (o : Int) < mem 143 1 → mem 161 o + latF mem o ≤ r) → K r mem) : CWI (Ex S (n + 2)) 300 [.inr 143] mem K := by
  have h8 := hO.1
  have key : ∀ (N : Nat) (c : Int) (o : Nat), 0 ≤ c → c ≤ 147 → (∀ u : Nat, u < o → mem 161 u + latF mem u ≤ c) → (o : Int) ≤ mem 143 1 → (mem 143 1 - o).toNat < N → Wx (Ex S (n + 1)) S M_300 (fun r m => ∃ y, r = some y ∧ K y m) 4 [some (.inr 143), some (.inl c), some (.inl (o : Int))] [] mem := by
    intro N
    induction N with
    | zero => intros; omega
    | succ N ih =>
      intro c o hc hc2 hA ho2 hN
      refine w_300_4 (Ex.mono S (n + 1)) (fun v1 e1 _ => ⟨fun q _ => ⟨_, rfl, H c hc hc2 (fun u hu => hA u (by omega))⟩, fun q => ⟨by omega, fun v2 e2 _ => f_246 hO ⟨by omega, by omega⟩ (fun _ => ?_)⟩⟩)
      rw [Int.toNat_natCast] at e2 ⊢
      have hl := hO.lat (o := o) (by omega)
      have ht := hT o (by omega)
      refine ⟨by unfold InI; omega, f_257 (fun _ _ => ⟨by unfold InI; omega, ih _ (o + 1) (by omega) (by omega) (fun u hu => ?_) (by omega) (by omega)⟩)⟩
      by_cases e : u = o
      · subst e; omega
      · have := hA u (by omega); omega
  exact CW.of (k := 2) mt_300 rfl rfl (w_300_0 (Ex.mono S (n + 1)) (key 9 0 0 (by omega) (by omega) (fun u hu => by omega) (by omega) (by omega)))
theorem f_301 (hO : OpsOK mem) (hd : 1 ≤ d ∧ d ≤ 12) (hT : TmOK mem d) (H : ∀ r, 1 ≤ r → r ≤ 142 → K r mem) : CWI (Ex S (n + 2)) 301 [.inr 143, .inl d] mem K := by
  have h8 := hO.1
  have key : ∀ (N : Nat) (c : Int) (o : Nat), 0 ≤ c → c ≤ 141 → (o : Int) ≤ mem 143 1 → (mem 143 1 - o).toNat < N → Wx (Ex S (n + 1)) S M_301 (fun r m => ∃ y, r = some y ∧ K y m) 4 [some (.inr 143), some (.inl d), some (.inl c), some (.inl (o : Int))] [] mem := by
    intro N
    induction N with
    | zero => intros; omega
    | succ N ih =>
      intro c o hc hc2 ho2 hN
      refine w_301_4 (Ex.mono S (n + 1)) (fun v1 e1 _ => ⟨fun q => ⟨by unfold InI; omega, fun _ => ⟨_, rfl, H _ (by omega) (by omega)⟩⟩, fun q => ⟨by omega, fun v2 e2 _ => ⟨by omega, ?_⟩⟩⟩)
      rw [Int.toNat_natCast] at e2
      have ht := hT o (by omega)
      have hv := tdiv_b (show 0 ≤ v2 by omega) hd.1
      exact f_257 (fun _ _ => ⟨by unfold InI; omega, ih _ (o + 1) (by omega) (by omega) (by omega) (by omega)⟩)
  exact CW.of (k := 2) mt_301 rfl rfl (w_301_0 (Ex.mono S (n + 1)) (key 9 0 0 (by omega) (by omega) (by omega) (by omega)))
theorem f_302 (hO : OpsOK mem) (hd : 1 ≤ d ∧ d ≤ 12) (hT : TmOK mem d) (H : ∀ r, 0 ≤ r → r ≤ 360 → K r mem) : CWI (Ex S (n + 5)) 302 [.inr 143, .inl d] mem K := by
  have h8 := hO.1
  have key : ∀ (N : Nat) (c : Int) (o : Nat), 0 ≤ c → c ≤ 45 * o → (o : Int) ≤ mem 143 1 → (mem 143 1 - o).toNat < N → Wx (Ex S (n + 4)) S M_302 (fun r m => ∃ y, r = some y ∧ K y m) 4 [some (.inr 143), some (.inl d), some (.inl c), some (.inl (o : Int))] [] mem := by
    intro N
    induction N with
    | zero => intros; omega
    | succ N ih =>
      intro c o hc hc2 ho2 hN
      refine w_302_4 (Ex.mono S (n + 4)) (fun v1 e1 _ => ⟨fun q => fun _ => ⟨_, rfl, H _ (by omega) (by omega)⟩, fun q => f_297 hO hT hd (by omega) (fun _ => ?_)⟩)
      have hv := copF_rng hO hT hd (o := o) (by omega)
      exact ⟨by unfold InI; omega, by unfold InI; omega, ih _ (o + 1) (by omega) (by omega) (by omega) (by omega)⟩
  exact CW.of (k := 2) mt_302 rfl rfl (w_302_0 (Ex.mono S (n + 4)) (key 9 0 0 (by omega) (by omega) (by omega) (by omega)))
theorem f_304 (hO : OpsOK mem) (hd : 1 ≤ d ∧ d ≤ 12) (hT : TmOK mem d) {s : Int} (H : ∀ r, 0 ≤ r → K r mem) : CWI (Ex S (n + 4)) 304 [.inr 143, .inl s, .inl d] mem K := by
  have h8 := hO.1
  have key : ∀ (N : Nat) (c : Int) (o : Nat), 0 ≤ c → c ≤ 1000 * o → (o : Int) ≤ mem 143 1 → (mem 143 1 - o).toNat < N → Wx (Ex S (n + 3)) S M_304 (fun r m => ∃ y, r = some y ∧ K y m) 5 [some (.inr 143), some (.inl s), some (.inl d), some (.inl c), some (.inl (o : Int)), none] [] mem := by
    intro N
    induction N with
    | zero => intros; omega
    | succ N ih =>
      intro c o hc hc2 ho2 hN
      refine w_304_5 (Ex.mono S (n + 3)) (fun v1 e1 _ => ⟨fun q => fun _ => ⟨_, rfl, H _ hc⟩, fun q => ?_⟩)
      have hl := lifeF_rng hO hT hd (o := o) (by omega)
      have ht := hT o (by omega)
      have hla := hO.lat (o := o) (by omega)
      have inner : ∀ (N' : Nat) (c' x : Int), 0 ≤ x → c ≤ c' → c' ≤ c + x → x ≤ 1000 → (1000 - x).toNat < N' → Wx (Ex S (n + 3)) S M_304 (fun r m => ∃ y, r = some y ∧ K y m) 17 [some (.inr 143), some (.inl s), some (.inl d), some (.inl c'), some (.inl (o : Int)), some (.inl x)] [] mem := by
        intro N'
        induction N' with
        | zero => intros; omega
        | succ N' ih2 =>
          intro c' x hx h1 h2 h3 hN'
          refine w_304_17 (Ex.mono S (n + 3)) (f_298 hO hT hd (by omega) (fun _ => ⟨fun q2 => ⟨by unfold InI; omega, ih c' (o + 1) (by omega) (by omega) (by omega) (by omega)⟩, fun q2 => f_299 hO ⟨by omega, by omega⟩ (by rw [Int.toNat_natCast]; omega) (fun _ => ?_)⟩))
          rw [Int.toNat_natCast]
          refine ⟨by unfold InI; omega, f_272 ⟨by omega, by omega⟩ (fun r _ _ _ => ⟨fun _ => ⟨by unfold InI; omega, by unfold InI; omega, ih2 (c' + 0) (x + 1) (by omega) (by omega) (by omega) (by omega) (by omega)⟩, fun _ => ⟨by unfold InI; omega, by unfold InI; omega, ih2 (c' + 1) (x + 1) (by omega) (by omega) (by omega) (by omega) (by omega)⟩⟩)⟩
      exact inner 1001 c 0 (by omega) (by omega) (by omega) (by omega) (by omega)
  exact CW.of (k := 3) mt_304 rfl rfl (w_304_0 (Ex.mono S (n + 3)) (key 9 0 0 (by omega) (by omega) (by omega) (by omega)))
theorem f_303 (hO : OpsOK mem) (hd : 1 ≤ d ∧ d ≤ 12) (hT : TmOK mem d) (H : ∀ r, K r mem) : CWI (Ex S (n + 5)) 303 [.inr 143, .inl d] mem K := by
  have key : ∀ (N : Nat) (b s : Int), 1 ≤ s → (12 - s).toNat < N → Wx (Ex S (n + 4)) S M_303 (fun r m => ∃ y, r = some y ∧ K y m) 4 [some (.inr 143), some (.inl d), some (.inl b), some (.inl s)] [] mem := by
    intro N
    induction N with
    | zero => intros; omega
    | succ N ih =>
      intro b s hs hN
      refine w_303_4 (Ex.mono S (n + 4)) ⟨fun q _ => ⟨_, rfl, H _⟩, fun q => f_304 hO hd hT (fun r _ _ => f_304 hO hd hT (fun r2 _ _ => ⟨fun _ => ⟨by unfold InI; omega, ih b (s + 1) (by omega) (by omega)⟩, fun _ => ⟨by unfold InI; omega, ih s (s + 1) (by omega) (by omega)⟩⟩))⟩
  exact CW.of (k := 2) mt_303 rfl rfl (w_303_0 (Ex.mono S (n + 4)) (key 12 0 1 (by omega) (by omega)))
theorem d7 {x : Int} (hd : 1 ≤ d ∧ d ≤ 12) (hx : 0 ≤ x ∧ x ≤ 7) : 0 ≤ d * x ∧ d * x ≤ 84 := by
  have a1 : 0 ≤ d * x := Int.mul_nonneg (by omega) (by omega)
  have a2 : d * x ≤ 12 * x := Int.mul_le_mul_of_nonneg_right hd.2 (by omega)
  omega
theorem f_306 (hd : 1 ≤ d ∧ d ≤ 12) (hN : NdsOK mem) (hT : TmOK mem d) {o : Int} (ho : 0 ≤ o ∧ o < mem 143 1) (H : ∀ r, K r mem) : CWI (Ex S (n + 2)) 306 [.inr 143, .inl o, .inl d] mem K := by
  have h8 := hN.1
  have h48 := hN.2.1
  have key : ∀ (N : Nat) (c : Int) (k : Nat), (k : Int) ≤ mem 143 12 → (mem 143 12 - k).toNat < N → Wx (Ex S (n + 1)) S M_306 (fun r m => ∃ y, r = some y ∧ K y m) 6 [some (.inr 143), some (.inl o), some (.inl d), some (.inl c), some (.inl (k : Int))] [] mem := by
    intro N
    induction N with
    | zero => intros; omega
    | succ N ih =>
      intro c k hk hNN
      refine w_306_6 (Ex.mono S (n + 1)) (fun v1 e1 _ => ⟨fun q _ => ⟨_, rfl, H _⟩, fun q => ?_⟩)
      have hk48 : 0 ≤ (k : Int) ∧ (k : Int) < 48 := by omega
      obtain ⟨p1, p2, p3, p4, p5, p6, p7, p8, p9⟩ := hN.2.2 k (by omega)
      have nx : ∀ c, InI ((k : Int) + 1) ∧ Wx (Ex S (n + 1)) S M_306 (fun r m => ∃ y, r = some y ∧ K y m) 6 [some (.inr 143), some (.inl o), some (.inl d), some (.inl c), some (.inl ((k : Int) + 1))] [] mem := fun c => ⟨by unfold InI; omega, ih c (k + 1) (by omega) (by omega)⟩
      rw [Int.toNat_natCast]
      refine ⟨hk48, fun v2 e2 _ => ⟨fun _ => nx _, fun _ => ⟨hk48, fun v3 e3 _ => ⟨fun _ => nx _, fun _ => ⟨hk48, fun v4 e4 _ => ⟨by omega, fun v5 e5 _ => ⟨hk48, fun v6 e6 _ => ?_⟩⟩⟩⟩⟩⟩⟩
      have t5 := hT v4.toNat (by omega)
      have t8 := hT o.toNat (by omega)
      have m6 := d7 (x := v6) hd (by omega)
      exact ⟨by unfold InI; omega, by unfold InI; omega, hk48, fun v7 e7 _ => ⟨by unfold InI; omega, by omega, fun v8 e8 _ => ⟨by unfold InI; omega, f_258 (fun _ _ => nx _)⟩⟩⟩
  exact CW.of (k := 2) mt_306 rfl rfl (w_306_0 (Ex.mono S (n + 1)) (key 49 99 0 (by omega) (by omega)))
theorem f_294 {x : Int} (h : RefOK mem) (H : Fin mem K) : CWI (Ex S (n + 7)) 294 [.inr 143, .inl d, .inl x] mem K := by
  refine CW.of (k := 2) mt_294 rfl rfl (w_294_0 (Ex.mono S (n + 6)) (f_227 (fun _ _ _ => ⟨fun _ => f_253 (fun d1 d2 _ => ⟨fun _ => f_268r h ⟨d1, d2⟩ (fun m' h1 h2 hk h3 h4 h5 _ => ⟨fun _ => ?_, fun z => absurd (by decide) z⟩) (fun m' h1 h2 _ => ⟨fun z => absurd rfl z, fun _ _ => H.thr h1 h2 0 (by omega)⟩), fun z => absurd (by decide) z⟩) (fun _ => ⟨fun z => absurd rfl z, fun _ _ => H.thr h FrQ.rf 0 (by omega)⟩), fun z => absurd (by decide) z⟩) (fun _ _ => ⟨fun z => absurd rfl z, fun _ _ => H.thr h FrQ.rf 0 (by omega)⟩)))
  have hm := h1.th' (z := 0) (by omega)
  have hq := h2.tr (FrQ.th (z := 0))
  have hT : TmOK (upm m' 143 0 0) d := h5
  generalize upm m' 143 0 0 = M at hm hq hT
  have hO := hm.ops
  have h8 := hO.1
  have hd : 1 ≤ d ∧ d ≤ 12 := ⟨d1, d2⟩
  have key : ∀ (N : Nat) (c : Int) (o : Nat), 0 ≤ c → c ≤ 45 * o → (o : Int) ≤ M 143 1 → (M 143 1 - o).toNat < N → Wx (Ex S (n + 6)) S M_294 (fun r m => ∃ y, r = some y ∧ K y m) 56 [some (.inr 143), some (.inl d), some (.inl x), some (.inl c), some (.inl (o : Int))] [] M := by
    intro N
    induction N with
    | zero => intros; omega
    | succ N ih =>
      intro c o hc hc2 ho2 hN
      refine w_294_56 (Ex.mono S (n + 6)) (fun v1 e1 _ => ⟨fun q => ?_, fun q => f_295 hO hT hd (by omega) (fun r r1 r2 _ _ => ⟨by unfold InI; omega, by unfold InI; omega, ih _ (o + 1) (by omega) (by omega) (by omega) (by omega)⟩)⟩)
      exact w_294_81 (Ex.mono S (n + 6)) ⟨fun _ => f_303 hO hd hT (fun r _ _ => H.at hm hq _), fun _ => f_300 hO hd hT (fun r _ _ _ _ _ => H.at hm hq _), fun _ => f_301 hO hd hT (fun r _ _ _ _ => H.at hm hq _), fun _ => f_302 hO hd hT (fun r _ _ _ _ => H.at hm hq _), fun _ => f_296 hO hT hd (fun r _ _ _ _ _ => H.at hm hq _), fun _ _ => H.at hm hq _, fun _ => f_303 hO hd hT (fun r _ => f_304 hO hd hT (fun r2 _ _ _ => H.at hm hq _))⟩
  exact key 9 0 0 (by omega) (by omega) (by omega) (by omega)
theorem f_305 {x y : Int} (h : RefOK mem) (H : Fin mem K) : CWI (Ex S (n + 7)) 305 [.inr 143, .inl x, .inl d, .inl y] mem K := by
  have h8 := h.ops.1
  refine CW.of (k := 0) mt_305 rfl rfl (w_305_0 (Ex.mono S (n + 6)) (f_235 h8 (fun o1 o2 _ => ⟨fun _ => f_227 (fun _ _ _ => ⟨fun _ => f_253 (fun d1 d2 _ => ⟨fun _ => f_268r h ⟨d1, d2⟩ (fun m' h1 h2 hk h3 h4 h5 _ => ⟨fun _ => ?_, fun z => absurd (by decide) z⟩) (fun m' h1 h2 _ => ⟨fun z => absurd rfl z, fun _ _ => H.thr h1 h2 0 (by omega)⟩), fun z => absurd (by decide) z⟩) (fun _ => ⟨fun z => absurd rfl z, fun _ _ => H.thr h FrQ.rf 0 (by omega)⟩), fun z => absurd (by decide) z⟩) (fun _ _ => ⟨fun z => absurd rfl z, fun _ _ => H.thr h FrQ.rf 0 (by omega)⟩), fun z => absurd (by decide) z⟩) (fun _ => ⟨fun z => absurd rfl z, fun _ _ => H.thr h FrQ.rf 0 (by omega)⟩)))
  have hm := h1.th' (z := 0) (by omega)
  have hq := h2.tr (FrQ.th (z := 0))
  have hT : TmOK (upm m' 143 0 0) d := h5
  have hN : NdsOK (upm m' 143 0 0) := h4
  have e1 : upm m' 143 0 0 143 1 = mem 143 1 := by rw [upm_ne (by omega)]; exact hk _ _ (by omega)
  generalize upm m' 143 0 0 = M at hm hq hT hN e1
  have hO := hm.ops
  have hd : 1 ≤ d ∧ d ≤ 12 := ⟨d1, d2⟩
  obtain ⟨o, rfl⟩ : ∃ o : Nat, x = (o : Int) := ⟨x.toNat, by omega⟩
  exact ⟨fun _ => f_306 hd hN hT ⟨o1, by omega⟩ (fun r _ _ => H.at hm hq _), fun _ => ⟨by omega, fun v _ _ => ⟨by omega, fun _ => H.at hm hq _⟩⟩, fun _ => ⟨by omega, fun v _ _ => ⟨by omega, fun _ => H.at hm hq _⟩⟩, fun _ => f_298 hO hT hd (by omega) (fun _ _ => H.at hm hq _), fun _ => f_297 hO hT hd (by omega) (fun _ _ => H.at hm hq _), fun _ => f_295 hO hT hd (by omega) (fun r _ _ _ _ _ => H.at hm hq _)⟩
end PLAN
