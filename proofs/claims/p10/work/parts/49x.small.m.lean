section
/-! the other public methods of the reference -/
theorem tmod_le {a b : Int} (ha : 0 ≤ a) (hb : 0 < b) : 0 ≤ a.tmod b ∧ a.tmod b ≤ a := by
  have h1 := tmod_r ha hb
  have h2 := tdiv_r ha hb
  have h3 := Int.mul_tdiv_add_tmod a b
  have h4 : 0 ≤ b * a.tdiv b := Int.mul_nonneg (by omega) h2.1
  omega
section SMALL
variable {S : Nat × (Nat → Int32)} {n : Nat} {mem : MM} {K : Int → MM → Prop} {d : Int}
theorem f_238 {a x : Int} (h : RefOK mem) (H : Fin mem K) : CWI (Ex S (n + 3)) 238 [.inr 143, .inl a, .inl x] mem K := by
  have h8 := h.ops.1
  have h' := h.th' (z := 0) (by omega)
  refine CW.of (k := 0) mt_238 rfl rfl (w_238_0 (Ex.mono S (n + 2)) (f_235 h8 (fun a1 a2 _ => ⟨fun _ => f_227 (fun _ _ _ => ⟨fun _ => ?_, fun z => absurd (by decide) z⟩) (fun _ _ => ⟨fun z => absurd rfl z, fun _ _ => H.thr h FrQ.rf 0 (by omega)⟩), fun z => absurd (by decide) z⟩) (fun _ => ⟨fun z => absurd rfl z, fun _ _ => H.thr h FrQ.rf 0 (by omega)⟩)))
  have ha : 0 ≤ a ∧ a < 8 := by omega
  exact ⟨fun _ => ⟨ha, fun v _ _ _ => H.at h' FrQ.th _⟩, fun _ => ⟨ha, fun v _ _ _ => H.at h' FrQ.th _⟩, fun _ => ⟨ha, fun v _ _ _ => H.at h' FrQ.th _⟩, fun _ => ⟨ha, fun v _ _ _ => H.at h' FrQ.th _⟩, fun _ => ⟨ha, fun v _ _ _ => H.at h' FrQ.th _⟩, fun _ => ⟨ha, fun v _ _ _ => H.at h' FrQ.th _⟩⟩
theorem f_254r (h : RefOK mem) (H1 : ∀ m', RefOK m' → FrQ mem m' → K 1 m') (H0 : ∀ m', RefOK m' → FrQ mem m' → Kp mem m' → NdsOK m' → K 0 m') : CWI (Ex S (n + 4)) 254 [.inr 143, .inl d] mem K :=
  f_254 h.ops (fun m' k1 k2 => H1 m' (k1.rest k2 h) k1.f.q) (fun m' k1 k2 _ k4 _ => H0 m' (k1.rest k2 h) k1.f.q k1.f.kp k4)
theorem Fr1.rest158 {m m' : MM} (k : Fr1 158 m m') (h : RefOK m) : RefOK m' ∧ FrQ m m' := ⟨k.w.rest (k.rn (by omega)) h, k.w.f.q⟩
theorem f_252 {a b : Int} (h : RefOK mem) (H : Fin mem K) : CWI (Ex S (n + 5)) 252 [.inr 143, .inl a, .inl b, .inl d] mem K := by
  have h8 := h.ops.1
  refine CW.of (k := 0) mt_252 rfl rfl (w_252_0 (Ex.mono S (n + 4)) (f_235 h8 (fun a1 a2 _ => ⟨fun z => absurd z (by decide), fun _ => f_235 h8 (fun b1 b2 _ => ⟨fun _ => f_253 (fun d1 d2 _ => ⟨fun _ => f_254r h (fun m' h1 h2 _ => ⟨fun z => absurd z (by decide), fun _ _ => H.thr h1 h2 0 (by omega)⟩) (fun m' h1 h2 hk hN _ => ⟨fun _ => ?_, fun z => absurd rfl z⟩), fun z => absurd (by decide) z⟩) (fun _ => ⟨fun z => absurd rfl z, fun _ _ => H.thr h FrQ.rf 0 (by omega)⟩), fun z => absurd (by decide) z⟩) (fun _ => ⟨fun z => absurd rfl z, fun _ _ => H.thr h FrQ.rf 0 (by omega)⟩)⟩) (fun _ => ⟨fun _ _ => H.thr h FrQ.rf 0 (by omega), fun z => absurd rfl z⟩)))
  refine f_256 hN.th ⟨by omega, by omega⟩ (fun m2 k2 _ => ?_)
  obtain ⟨g1, g2⟩ := k2.rest158 (h1.th' (z := 0) (by omega))
  exact ⟨by unfold InI; omega, by unfold InI; omega, by omega, fun v _ _ _ => H.at g1 ((h2.tr FrQ.th).tr g2) _⟩
theorem f_261 (h8 : 0 ≤ mem 143 1 ∧ mem 143 1 ≤ 8) {o : Int} (ho : 0 ≤ o ∧ o < 8) (H : ∀ r, K r mem) : CWI (Ex S (n + 2)) 261 [.inr 143, .inl o] mem K := by
  have key : ∀ (N : Nat) (c b : Int), 0 ≤ b → (8 - b).toNat < N → Wx (Ex S (n + 1)) S M_261 (fun r m => ∃ y, r = some y ∧ K y m) 4 [some (.inr 143), some (.inl o), some (.inl c), some (.inl b)] [] mem := by
    intro N
    induction N with
    | zero => intros; omega
    | succ N ih =>
      intro c b hb hN
      exact w_261_4 (Ex.mono S (n + 1)) (fun v1 e1 _ => ⟨fun _ _ => ⟨_, rfl, H _⟩, fun q => ⟨by unfold InI; omega, by unfold InI; omega, by omega, fun v2 _ _ => f_257 (fun _ _ => ⟨by unfold InI; omega, ih _ (b + 1) (by omega) (by omega)⟩)⟩⟩)
  exact CW.of (k := 2) mt_261 rfl rfl (w_261_0 (Ex.mono S (n + 1)) (key 9 0 0 (by omega) (by omega)))
theorem f_260 {a : Int} (h : RefOK mem) (H : Fin mem K) : CWI (Ex S (n + 5)) 260 [.inr 143, .inl a, .inl d] mem K := by
  have h8 := h.ops.1
  refine CW.of (k := 0) mt_260 rfl rfl (w_260_0 (Ex.mono S (n + 4)) (f_235 h8 (fun a1 a2 _ => ⟨fun _ => f_253 (fun d1 d2 _ => ⟨fun _ => f_254r h (fun m' h1 h2 _ => ⟨fun z => absurd z (by decide), fun _ _ => H.thr h1 h2 0 (by omega)⟩) (fun m' h1 h2 hk hN _ => ⟨fun _ => ?_, fun z => absurd rfl z⟩), fun z => absurd (by decide) z⟩) (fun _ => ⟨fun z => absurd rfl z, fun _ _ => H.thr h FrQ.rf 0 (by omega)⟩), fun z => absurd (by decide) z⟩) (fun _ => ⟨fun z => absurd rfl z, fun _ _ => H.thr h FrQ.rf 0 (by omega)⟩)))
  refine f_256 hN.th ⟨by omega, by omega⟩ (fun m2 k2 _ => ?_)
  obtain ⟨g1, g2⟩ := k2.rest158 (h1.th' (z := 0) (by omega))
  exact f_261 g1.ops.1 ⟨by omega, by omega⟩ (fun r _ _ => H.at g1 ((h2.tr FrQ.th).tr g2) _)
theorem f_262 {a : Int} (h : RefOK mem) (H : Fin mem K) : CWI (Ex S (n + 3)) 262 [.inr 143, .inl a] mem K := by
  have h' := h.th' (z := 0) (by omega)
  exact CW.of (k := 0) mt_262 rfl rfl (w_262_0 (Ex.mono S (n + 2)) (f_227 (fun a1 a2 _ => ⟨fun z => absurd z (by decide), fun _ => f_263 h'.ops h'.un h'.bz (fun r _ _ _ _ => H.at h' FrQ.th _)⟩) (fun _ _ => ⟨fun _ _ => H.thr h FrQ.rf 0 (by omega), fun z => absurd rfl z⟩)))
theorem f_267 (h : RefOK mem) (H : Fin mem K) : CWI (Ex S (n + 6)) 267 [.inr 143, .inl d] mem K := by
  have h' := h.th' (z := 0) (by omega)
  exact CW.of (k := 0) mt_267 rfl rfl (w_267_0 (Ex.mono S (n + 5)) (f_253 (fun d1 d2 _ => ⟨fun _ => f_240 h.ops (fun _ _ => ⟨fun _ => f_268r h' ⟨d1, d2⟩ (fun m' h1 h2 _ _ _ _ _ => ⟨fun z => absurd z (by decide), fun _ => H.at h1 (FrQ.th.tr h2) _⟩) (fun m' h1 h2 _ => ⟨fun _ => H.at h1 (FrQ.th.tr h2) _, fun z => absurd rfl z⟩), fun z => absurd (by decide) z⟩) (fun _ _ => ⟨fun z => absurd rfl z, fun _ => H.thr h FrQ.rf 0 (by omega)⟩), fun z => absurd (by decide) z⟩) (fun _ => ⟨fun z => absurd rfl z, fun _ => H.thr h FrQ.rf 0 (by omega)⟩)))
theorem f_277 (h : RefOK mem) (H : Fin mem K) : CWI (Ex S (n + 6)) 277 [.inr 143] mem K := by
  have key : ∀ (N : Nat) (c : Int) (m : MM), 1 ≤ c → (13 - c).toNat < N → RefOK m → FrQ mem m → Wx (Ex S (n + 5)) S M_277 (fun r m => ∃ y, r = some y ∧ K y m) 27 [some (.inr 143), some (.inl c)] [] m := by
    intro N
    induction N with
    | zero => intros; omega
    | succ N ih =>
      intro c m hc hN hm hq
      exact w_277_27 (Ex.mono S (n + 5)) ⟨fun _ _ => H.at hm hq _, fun q => f_268r hm ⟨hc, by omega⟩ (fun m' h1 h2 _ _ _ _ _ => ⟨fun z => absurd z (by decide), fun _ _ => H.at h1 (hq.tr h2) _⟩) (fun m' h1 h2 _ => ⟨fun _ => ⟨by unfold InI; omega, ih (c + 1) m' (by omega) (by omega) h1 (hq.tr h2)⟩, fun z => absurd rfl z⟩)⟩
  exact CW.of (k := 1) mt_277 rfl rfl (w_277_0 (Ex.mono S (n + 5)) (f_240 h.ops (fun _ _ => ⟨fun z => absurd z (by decide), fun _ => key 13 1 _ (by omega) (by omega) (h.th' (by omega)) FrQ.th⟩) (fun _ _ => ⟨fun _ _ => H.thr h FrQ.rf 0 (by omega), fun z => absurd rfl z⟩)))
theorem f_278 {a : Int} (h : RefOK mem) (H : Fin mem K) : CWI (Ex S (n + 6)) 278 [.inr 143, .inl a, .inl d] mem K := by
  have h8 := h.ops.1
  exact CW.of (k := 0) mt_278 rfl rfl (w_278_0 (Ex.mono S (n + 5)) (f_235 h8 (fun a1 a2 _ => ⟨fun _ => f_253 (fun d1 d2 _ => ⟨fun _ => f_268r h ⟨d1, d2⟩ (fun m' h1 h2 _ _ _ _ _ => ⟨fun _ => ⟨by omega, fun v _ _ _ => H.thr h1 h2 _ (by omega)⟩, fun z => absurd (by decide) z⟩) (fun m' h1 h2 _ => ⟨fun z => absurd rfl z, fun _ _ => H.thr h1 h2 0 (by omega)⟩), fun z => absurd (by decide) z⟩) (fun _ => ⟨fun z => absurd rfl z, fun _ _ => H.thr h FrQ.rf 0 (by omega)⟩), fun z => absurd (by decide) z⟩) (fun _ => ⟨fun z => absurd rfl z, fun _ _ => H.thr h FrQ.rf 0 (by omega)⟩)))
theorem f_279 {a b : Int} (h : RefOK mem) (H : Fin mem K) : CWI (Ex S (n + 6)) 279 [.inr 143, .inl a, .inl b, .inl d] mem K := by
  exact CW.of (k := 0) mt_279 rfl rfl (w_279_0 (Ex.mono S (n + 5)) (f_227 (fun a1 a2 _ => ⟨fun _ => f_253 (fun d1 d2 _ => ⟨fun z => absurd z (by decide), fun _ => ⟨by unfold InI; omega, f_227 (fun b1 b2 _ => ⟨fun _ => f_268r h ⟨d1, d2⟩ (fun m' h1 h2 _ _ _ _ _ => ⟨fun _ => ⟨by unfold InI; omega, by unfold InI; omega, by omega, fun v _ _ _ => H.thr h1 h2 _ (by omega)⟩, fun z => absurd (by decide) z⟩) (fun m' h1 h2 _ => ⟨fun z => absurd rfl z, fun _ _ => H.thr h1 h2 0 (by omega)⟩), fun z => absurd (by decide) z⟩) (fun _ _ => ⟨fun z => absurd rfl z, fun _ _ => H.thr h FrQ.rf 0 (by omega)⟩)⟩⟩) (fun _ => ⟨fun _ _ => H.thr h FrQ.rf 0 (by omega), fun z => absurd rfl z⟩), fun z => absurd (by decide) z⟩) (fun _ _ => ⟨fun z => absurd rfl z, fun _ _ => H.thr h FrQ.rf 0 (by omega)⟩)))
theorem f_307 {a : Int} (h : RefOK mem) (H : Fin mem K) : CWI (Ex S (n + 6)) 307 [.inr 143, .inl a, .inl d] mem K := by
  exact CW.of (k := 0) mt_307 rfl rfl (w_307_0 (Ex.mono S (n + 5)) (f_253 (fun d1 d2 _ => ⟨fun z => absurd z (by decide), fun _ => ⟨by unfold InI; omega, f_227 (fun b1 b2 _ => ⟨fun _ => f_268r h ⟨d1, d2⟩ (fun m' h1 h2 _ _ _ h5 _ => ⟨fun _ => f_304 (h1.th' (by omega)).ops ⟨d1, d2⟩ h5.th (fun r _ _ _ => H.thr h1 h2 _ (by omega)), fun z => absurd (by decide) z⟩) (fun m' h1 h2 _ => ⟨fun z => absurd rfl z, fun _ _ => H.thr h1 h2 0 (by omega)⟩), fun z => absurd (by decide) z⟩) (fun _ _ => ⟨fun z => absurd rfl z, fun _ _ => H.thr h FrQ.rf 0 (by omega)⟩)⟩⟩) (fun _ => ⟨fun _ _ => H.thr h FrQ.rf 0 (by omega), fun z => absurd rfl z⟩)))
end SMALL
end
section
/-! the other public methods of the reference, after a plan -/
section SMALL2
variable {S : Nat × (Nat → Int32)} {n : Nat} {mem : MM} {K : Int → MM → Prop} {d : Int}
theorem f_308 {a c x : Int} (hc : InI c) (h : RefOK mem) (H : Fin mem K) : CWI (Ex S (n + 6)) 308 [.inr 143, .inl a, .inl c, .inl d, .inl x] mem K := by
  have h8 := h.ops.1
  refine CW.of (k := 1) mt_308 rfl rfl (w_308_0 (Ex.mono S (n + 5)) (f_235 h8 (fun a1 a2 _ => ⟨fun _ => f_253 (fun d1 d2 _ => ⟨fun z => absurd z (by decide), fun _ => f_309 (fun x1 x2 _ => ⟨fun z => absurd z (by decide), fun _ => ⟨fun c0 => f_268r h ⟨d1, d2⟩ (fun m' h1 h2 hk _ _ h5 _ => ⟨fun _ => ⟨by omega, fun v e _ => ?_⟩, fun z => absurd (by decide) z⟩) (fun m' h1 h2 _ => ⟨fun z => absurd rfl z, fun _ _ => H.thr h1 h2 0 (by omega)⟩), fun _ _ => H.thr h FrQ.rf 0 (by omega)⟩⟩) (fun _ => ⟨fun _ _ => H.thr h FrQ.rf 0 (by omega), fun z => absurd rfl z⟩)⟩) (fun _ => ⟨fun _ _ => H.thr h FrQ.rf 0 (by omega), fun z => absurd rfl z⟩), fun z => absurd (by decide) z⟩) (fun _ => ⟨fun z => absurd rfl z, fun _ _ => H.thr h FrQ.rf 0 (by omega)⟩)))
  have e1 : m' 143 1 = mem 143 1 := hk _ _ (by omega)
  have ht := h5 a.toNat (by omega)
  rw [upm_ne (by omega)] at e
  unfold InI at hc
  exact ⟨by unfold InI; omega, fun _ _ => H.thr h1 h2 _ (by omega), fun _ => ⟨by omega, fun _ _ => H.thr h1 h2 _ (by omega), fun _ => ⟨by omega, fun _ _ => H.thr h1 h2 _ (by omega), fun _ => ⟨by omega, fun _ => H.thr h1 h2 _ (by omega)⟩⟩⟩⟩
theorem mul12 {d y : Int} (hd : 1 ≤ d ∧ d ≤ 12) {c : Int} (hy : 0 ≤ y ∧ y ≤ c) : 0 ≤ d * y ∧ d * y ≤ 12 * c := by
  have a1 : 0 ≤ d * y := Int.mul_nonneg (by omega) (by omega)
  have a2 : d * y ≤ 12 * y := Int.mul_le_mul_of_nonneg_right hd.2 (by omega)
  omega
theorem f_312 {x : Int} (hO : OpsOK mem) (hd : 1 ≤ d ∧ d ≤ 12) (hx : 0 ≤ x ∧ x ≤ 40) (hT : TmOK mem d) (H : ∀ r, 0 ≤ r → r ≤ 2000 → K r mem) : CWI (Ex S (n + 4)) 312 [.inr 143, .inl d, .inl x] mem K := by
  refine CW.of (k := 0) mt_312 rfl rfl (w_312_0 (Ex.mono S (n + 3)) (f_301 hO hd hT (fun r r1 r2 _ => ⟨fun _ => f_301 hO hd hT (fun s s1 s2 _ => ?_), fun _ => f_313 hO hd hx hT (fun s s1 s2 _ _ => ⟨_, rfl, H _ s1 (by omega)⟩)⟩)))
  have := mul12 hd (y := s - 1) (c := 141) (by omega)
  exact ⟨by unfold InI; omega, by unfold InI; omega, fun _ => ⟨_, rfl, H _ (by omega) (by omega)⟩⟩
theorem f_314 {x : Int} (hO : OpsOK mem) (hd : 1 ≤ d ∧ d ≤ 12) (hx : 0 ≤ x ∧ x ≤ 40) (hT : TmOK mem d) (H : ∀ r, -9000 ≤ r → r ≤ 9000 → K r mem) : CWI (Ex S (n + 5)) 314 [.inr 143, .inl d, .inl x] mem K := by
  have key : ∀ y : Int, -200 ≤ y ∧ y ≤ 100 → -2400 ≤ d * y ∧ d * y ≤ 1200 := fun y hy => by
    have a1 : d * (-200) ≤ d * y := Int.mul_le_mul_of_nonneg_left hy.1 (by omega)
    have a2 : d * y ≤ d * 100 := Int.mul_le_mul_of_nonneg_left hy.2 (by omega)
    omega
  refine CW.of (k := 0) mt_314 rfl rfl (w_314_0 (Ex.mono S (n + 4)) (f_301 hO hd hT (fun r r1 r2 _ => ⟨fun _ => f_301 hO hd hT (fun s s1 s2 _ => ?_), fun _ _ => ⟨_, rfl, H _ (by omega) (by omega)⟩⟩)))
  have := key (x - s + 1) (by omega)
  exact ⟨by unfold InI; omega, by unfold InI; omega, by unfold InI; omega, f_313 hO hd hx hT (fun p p1 p2 _ => f_312 hO hd hx hT (fun q q1 q2 _ => ⟨by unfold InI; omega, f_258 (fun _ _ _ => ⟨_, rfl, H _ (by omega) (by omega)⟩)⟩))⟩
theorem f_310 {x y : Int} (h : RefOK mem) (H : Fin mem K) : CWI (Ex S (n + 7)) 310 [.inr 143, .inl d, .inl x, .inl y] mem K := by
  have h' := h.th' (z := 0) (by omega)
  refine CW.of (k := 3) mt_310 rfl rfl (w_310_0 (Ex.mono S (n + 6)) (f_227 (fun y1 y2 _ => ⟨fun z => absurd z (by decide), fun _ => f_311 h' (fun m' d1 d2 x1 x2 h1 h2 hk h3 h5 _ => ⟨fun _ => ?_, fun z => absurd (by decide) z⟩) (fun r m' r1 r2 h1 h2 _ => ⟨fun z => by omega, fun _ => ⟨by unfold InI; omega, fun v e _ => ⟨fun z => ?_, fun _ _ => H.thr h1 (FrQ.th.tr h2) 0 (by omega)⟩⟩⟩)⟩) (fun _ _ => ⟨fun _ _ => H.thr h FrQ.rf 0 (by omega), fun z => absurd rfl z⟩)))
  · have hm := h1.th' (z := 0) (by omega)
    have hq := (FrQ.th.tr h2).tr (FrQ.th (z := 0))
    have hd : 1 ≤ d ∧ d ≤ 12 := ⟨d1, d2⟩
    have hx : 0 ≤ x ∧ x ≤ 40 := ⟨x1, x2⟩
    exact f_312 hm.ops hd hx h5.th (fun p p1 p2 _ => f_314 hm.ops hd hx h5.th (fun q q1 q2 _ => ⟨fun _ => ⟨fun _ => ⟨fun _ => f_313 hm.ops hd hx h5.th (fun s s1 s2 _ => ⟨by unfold InI; omega, by unfold InI; omega, fun _ => H.at hm hq _⟩), fun _ _ => H.at hm hq _⟩, fun _ _ => H.at hm hq _⟩, fun _ => f_313 hm.ops hd hx h5.th (fun s s1 s2 _ _ => H.at hm hq _)⟩))
  · rw [upm_eq] at e; omega
theorem f_331 {a c x : Int} (hc : InI c) (h : RefOK mem) (H : Fin mem K) : CWI (Ex S (n + 7)) 331 [.inr 143, .inl a, .inl c, .inl d, .inl x] mem K := by
  have h8 := h.ops.1
  have h' := h.th' (z := 0) (by omega)
  refine CW.of (k := 1) mt_331 rfl rfl (w_331_0 (Ex.mono S (n + 6)) (f_235 h8 (fun a1 a2 _ => ⟨fun _ => ⟨fun _ => H.thr h' FrQ.th 0 (by omega), fun c0 => ⟨fun _ => f_311 h' (fun m' d1 d2 x1 x2 h1 h2 hk h3 h5 _ => ⟨fun z => absurd rfl z, fun _ => ?_⟩) (fun r m' r1 r2 h1 h2 _ => ⟨fun _ => ⟨fun z => by omega, fun _ => ⟨by unfold InI; omega, fun v e _ => ⟨fun z => ?_, fun _ => H.thr h1 (FrQ.th.tr h2) 0 (by omega)⟩⟩⟩, fun z => by omega⟩), fun _ => H.thr h' FrQ.th 0 (by omega)⟩⟩, fun z => absurd (by decide) z⟩) (fun _ => ⟨fun z => absurd rfl z, fun _ => H.thr h FrQ.rf 0 (by omega)⟩)))
  · have hm := h1.th' (z := 0) (by omega)
    have hq := (FrQ.th.tr h2).tr (FrQ.th (z := 0))
    have e1 : m' 143 1 = mem 143 1 := by rw [hk 143 1 (by omega), upm_ne (by omega)]
    have ht := h5 a.toNat (by omega)
    unfold InI at hc
    refine f_301 h1.ops ⟨d1, d2⟩ h5 (fun r r1 r2 _ => ⟨by unfold InI; omega, by unfold InI; omega, fun q => ⟨fun _ => ⟨by omega, fun v e _ => ?_⟩, fun z => absurd (by decide) z⟩, fun _ => H.thr h1 (FrQ.th.tr h2) 0 (by omega)⟩)
    rw [upm_ne (by omega)] at e
    have hv := tdiv_b (show 0 ≤ v by omega) d1
    exact ⟨by omega, by unfold InI; omega, by unfold InI; omega, f_227 (fun _ _ _ => ⟨Or.inr rfl, H.at hm hq _⟩) (fun _ _ => ⟨Or.inl rfl, H.at hm hq _⟩)⟩
  · rw [upm_eq] at e; omega
theorem f_332 {x : Int} (h : RefOK mem) (H : Fin mem K) : CWI (Ex S (n + 6)) 332 [.inr 143, .inl d, .inl x] mem K := by
  refine CW.of (k := 0) mt_332 rfl rfl (w_332_0 (Ex.mono S (n + 5)) (f_253 (fun d1 d2 _ => ⟨fun _ => f_268r h ⟨d1, d2⟩ (fun m' h1 h2 hk _ _ h5 _ => ⟨fun _ => ⟨fun _ v e _ => ?_, fun _ v _ _ _ => H.thr h1 h2 _ (by omega)⟩, fun z => absurd (by decide) z⟩) (fun m' h1 h2 _ => ⟨fun z => absurd rfl z, fun _ _ => H.thr h1 h2 0 (by omega)⟩), fun z => absurd (by decide) z⟩) (fun _ => ⟨fun z => absurd rfl z, fun _ _ => H.thr h FrQ.rf 0 (by omega)⟩)))
  have hm := h1.th' (z := 0) (by omega)
  have h8 := hm.ops.1
  refine f_301 hm.ops ⟨d1, d2⟩ h5.th (fun r r1 r2 _ => ?_)
  have p := Int.mul_nonneg (show 0 ≤ v by omega) (show 0 ≤ r - 1 by omega)
  have p2 : v * (r - 1) ≤ 8 * (r - 1) := Int.mul_le_mul_of_nonneg_right (by omega) (by omega)
  refine ⟨by unfold InI; omega, by unfold InI; omega, f_296 hm.ops h5.th ⟨d1, d2⟩ (fun s s1 s2 _ _ w ew _ => ?_)⟩
  have q := Int.mul_nonneg (show 0 ≤ s by omega) (show 0 ≤ w by omega)
  have q2 : s * w ≤ s * 8 := Int.mul_le_mul_of_nonneg_left (by omega) (by omega)
  exact ⟨by unfold InI; omega, by unfold InI; omega, fun _ => H.thr h1 h2 _ (by omega)⟩
def stgN (m : MM) (d : Int) : Nat → Int
  | 0 => 0
  | k + 1 => max (stgN m d k) ((m 161 k).tdiv d)
theorem f_301d (hO : OpsOK mem) (hd : 1 ≤ d ∧ d ≤ 12) (hT : TmOK mem d) (H : 1 ≤ stgN mem d (mem 143 1).toNat + 1 → stgN mem d (mem 143 1).toNat + 1 ≤ 142 → K (stgN mem d (mem 143 1).toNat + 1) mem) : CWI (Ex S (n + 2)) 301 [.inr 143, .inl d] mem K := by
  have h8 := hO.1
  have key : ∀ (N : Nat) (c : Int) (o : Nat), c = stgN mem d o → 0 ≤ c → c ≤ 141 → (o : Int) ≤ mem 143 1 → (mem 143 1 - o).toNat < N → Wx (Ex S (n + 1)) S M_301 (fun r m => ∃ y, r = some y ∧ K y m) 4 [some (.inr 143), some (.inl d), some (.inl c), some (.inl (o : Int))] [] mem := by
    intro N
    induction N with
    | zero => intros; omega
    | succ N ih =>
      intro c o he hc hc2 ho2 hN
      refine w_301_4 (Ex.mono S (n + 1)) (fun v1 e1 _ => ⟨fun q => ⟨by unfold InI; omega, fun _ => ⟨_, rfl, ?_⟩⟩, fun q => ⟨by omega, fun v2 e2 _ => ⟨by omega, ?_⟩⟩⟩)
      · rw [show (mem 143 1).toNat = o by omega, ← he] at H
        exact H (by omega) (by omega)
      · rw [Int.toNat_natCast] at e2
        have ht := hT o (by omega)
        have hv := tdiv_b (show 0 ≤ v2 by omega) hd.1
        exact f_257 (fun _ _ => ⟨by unfold InI; omega, ih _ (o + 1) (by rw [he, e2]; rfl) (by omega) (by omega) (by omega) (by omega)⟩)
  exact CW.of (k := 2) mt_301 rfl rfl (w_301_0 (Ex.mono S (n + 1)) (key 9 0 0 rfl (by omega) (by omega) (by omega) (by omega)))
theorem f_334 {x : Int} (hO : OpsOK mem) (hd : 1 ≤ d ∧ d ≤ 12) (hx : 0 ≤ x ∧ x ≤ 40) (hT : TmOK mem d) (H : ∀ r, 0 ≤ r → r ≤ x → K r mem) : CWI (Ex S (n + 6)) 334 [.inr 143, .inl d, .inl x] mem K := by
  refine CW.of (k := 0) mt_334 rfl rfl (w_334_0 (Ex.mono S (n + 5)) (f_301d hO hd hT (fun r1 r2 _ => ⟨fun q => f_301d hO hd hT (fun s1 s2 _ => ?_), fun _ _ => ⟨_, rfl, H _ (by omega) (by omega)⟩⟩)))
  refine ⟨by unfold InI; omega, by unfold InI; omega, f_296 hO hT hd (fun u u1 u2 _ _ => ⟨by omega, fun _ => ⟨_, rfl, ?_⟩⟩)⟩
  have := tmod_le (show 0 ≤ x - (stgN mem d (mem 143 1).toNat + 1) + 1 by omega) (show 0 < u by omega)
  exact H _ (by omega) (by omega)
theorem f_333 {x y : Int} (h : RefOK mem) (H : Fin mem K) : CWI (Ex S (n + 7)) 333 [.inr 143, .inl d, .inl x, .inl y] mem K := by
  refine CW.of (k := 1) mt_333 rfl rfl (w_333_0 (Ex.mono S (n + 6)) (f_311 h (fun m' d1 d2 x1 x2 h1 h2 hk h3 h5 _ => ⟨fun _ => ?_, fun z => absurd (by decide) z⟩) (fun r m' r1 r2 h1 h2 _ => ⟨fun z => by omega, fun _ _ => H.thr h1 h2 0 (by omega)⟩)))
  have hm := h1.th' (z := 0) (by omega)
  have hq := h2.tr (FrQ.th (z := 0))
  refine f_334 hm.ops ⟨d1, d2⟩ ⟨x1, x2⟩ h5.th (fun r r1 r2 _ => ⟨fun _ _ => H.at hm hq _, fun _ => f_335 hm.ops (fun s s1 s2 _ => ?_)⟩)
  have p := Int.mul_nonneg r1 s1
  have p2 : r * s ≤ r * 48 := Int.mul_le_mul_of_nonneg_left s2 r1
  exact ⟨by unfold InI; omega, by unfold InI; omega, f_313 hm.ops ⟨d1, d2⟩ ⟨by omega, by omega⟩ h5.th (fun u u1 u2 _ => ⟨by unfold InI; omega, fun _ => H.at hm hq _⟩)⟩
theorem f_336 (h : RefOK mem) (H : Fin mem K) : CWI (Ex S (n + 6)) 336 [.inr 143, .inl d] mem K := by
  refine CW.of (k := 1) mt_336 rfl rfl (w_336_0 (Ex.mono S (n + 5)) (f_253 (fun d1 d2 _ => ⟨fun _ => f_268r h ⟨d1, d2⟩ (fun m' h1 h2 hk _ _ h5 _ => ⟨fun _ => ?_, fun z => absurd (by decide) z⟩) (fun m' h1 h2 _ => ⟨fun z => absurd rfl z, fun _ _ => H.thr h1 h2 0 (by omega)⟩), fun z => absurd (by decide) z⟩) (fun _ => ⟨fun z => absurd rfl z, fun _ _ => H.thr h FrQ.rf 0 (by omega)⟩)))
  have hm := h1.th' (z := 0) (by omega)
  have hq := h2.tr (FrQ.th (z := 0))
  have hT : TmOK (upm m' 143 0 0) d := h5
  generalize upm m' 143 0 0 = M at hm hq hT
  have key : ∀ (N : Nat) (c : Int), 1 ≤ c → (41 - c).toNat < N → Wx (Ex S (n + 5)) S M_336 (fun r m => ∃ y, r = some y ∧ K y m) 39 [some (.inr 143), some (.inl d), some (.inl c)] [] M := by
    intro N
    induction N with
    | zero => intros; omega
    | succ N ih =>
      intro c hc hN
      refine w_336_39 (Ex.mono S (n + 5)) ⟨fun _ _ => H.at hm hq _, fun q => f_313 hm.ops ⟨d1, d2⟩ ⟨by omega, by omega⟩ hT (fun r r1 r2 _ => f_335 hm.ops (fun s s1 s2 _ => ?_))⟩
      have p := Int.mul_nonneg (show 0 ≤ c by omega) s1
      have p2 : c * s ≤ c * 48 := Int.mul_le_mul_of_nonneg_left s2 (by omega)
      exact ⟨by unfold InI; omega, fun _ => ⟨by unfold InI; omega, ih (c + 1) (by omega) (by omega)⟩, fun _ _ => H.at hm hq _⟩
  exact key 41 1 (by omega) (by omega)
theorem f_356 {a : Int} (h : RefOK mem) (H : Fin mem K) : CWI (Ex S (n + 6)) 356 [.inr 143, .inl a, .inl d] mem K := by
  refine CW.of (k := 0) mt_356 rfl rfl (w_356_0 (Ex.mono S (n + 5)) (f_227 (fun a1 a2 _ => ⟨fun _ => f_253 (fun d1 d2 _ => ⟨fun _ => f_268r h ⟨d1, d2⟩ (fun m' h1 h2 hk _ _ h5 _ => ⟨fun _ => ⟨by omega, fun v e _ => ?_⟩, fun z => absurd (by decide) z⟩) (fun m' h1 h2 _ => ⟨fun z => absurd rfl z, fun _ _ => H.thr h1 h2 0 (by omega)⟩), fun z => absurd (by decide) z⟩) (fun _ => ⟨fun z => absurd rfl z, fun _ _ => H.thr h FrQ.rf 0 (by omega)⟩), fun z => absurd (by decide) z⟩) (fun _ _ => ⟨fun z => absurd rfl z, fun _ _ => H.thr h FrQ.rf 0 (by omega)⟩)))
  have hm := h1.th' (z := 0) (by omega)
  have hv := hm.cn a.toNat (by omega)
  have p := mul12 (d := d) ⟨d1, d2⟩ (y := v) (c := 3) (by omega)
  exact ⟨by unfold InI; omega, f_263 hm.ops hm.un hm.bz (fun r r1 r2 _ => ⟨by unfold InI; omega, fun _ => H.thr h1 h2 _ (by omega)⟩)⟩
theorem f_358 {a : Int} (h : RefOK mem) (H : Fin mem K) : CWI (Ex S (n + 6)) 358 [.inr 143, .inl a] mem K := by
  have key : ∀ (N : Nat) (c : Int) (m : MM), 1 ≤ c → (13 - c).toNat < N → RefOK m → FrQ mem m → Wx (Ex S (n + 5)) S M_358 (fun r m => ∃ y, r = some y ∧ K y m) 41 [some (.inr 143), some (.inl a), some (.inl c)] [] m := by
    intro N
    induction N with
    | zero => intros; omega
    | succ N ih =>
      intro c m hc hN hm hq
      exact w_358_41 (Ex.mono S (n + 5)) ⟨fun _ _ => H.at hm hq _, fun q => f_268r hm ⟨hc, by omega⟩ (fun m' h1 h2 _ _ _ h5 _ => ⟨fun z => absurd z (by decide), fun _ => f_302 h1.ops ⟨hc, by omega⟩ h5 (fun r _ _ _ => ⟨fun _ => ⟨by unfold InI; omega, ih (c + 1) m' (by omega) (by omega) h1 (hq.tr h2)⟩, fun _ _ => H.at h1 (hq.tr h2) _⟩)⟩) (fun m' h1 h2 _ => ⟨fun _ => ⟨by unfold InI; omega, ih (c + 1) m' (by omega) (by omega) h1 (hq.tr h2)⟩, fun z => absurd rfl z⟩)⟩
  exact CW.of (k := 1) mt_358 rfl rfl (w_358_0 (Ex.mono S (n + 5)) (f_227 (fun _ _ _ => ⟨fun _ => f_240 h.ops (fun _ _ => ⟨fun _ => key 13 1 _ (by omega) (by omega) (h.th' (by omega)) FrQ.th, fun z => absurd (by decide) z⟩) (fun _ _ => ⟨fun z => absurd rfl z, fun _ _ => H.thr h FrQ.rf 0 (by omega)⟩), fun z => absurd (by decide) z⟩) (fun _ _ => ⟨fun z => absurd rfl z, fun _ _ => H.thr h FrQ.rf 0 (by omega)⟩)))
theorem f_363 {c x : Int} (hO : OpsOK mem) (hd : 1 ≤ d ∧ d ≤ 12) (hT : TmOK mem d) (hc : 0 ≤ c ∧ c ≤ 700) (H : ∀ r, K r mem) : CWI (Ex S (n + 2)) 363 [.inr 143, .inl c, .inl d, .inl x] mem K := by
  have h8 := hO.1
  have key : ∀ (N : Nat) (o : Nat), (o : Int) ≤ mem 143 1 → (mem 143 1 - o).toNat < N → Wx (Ex S (n + 1)) S M_363 (fun r m => ∃ y, r = some y ∧ K y m) 3 [some (.inr 143), some (.inl c), some (.inl d), some (.inl x), some (.inl (o : Int))] [] mem := by
    intro N
    induction N with
    | zero => intros; omega
    | succ N ih =>
      intro o ho hN
      refine w_363_3 (Ex.mono S (n + 1)) (fun v1 e1 _ => ⟨fun _ => ⟨_, rfl, H _⟩, fun q => ⟨by omega, fun v2 e2 _ => ?_⟩⟩)
      rw [Int.toNat_natCast] at e2
      have ht := hT o (by omega)
      exact f_319d (by omega) (by unfold InI; omega) (fun _ => ⟨fun _ => ⟨by unfold InI; omega, ih (o + 1) (by omega) (by omega)⟩, fun _ => ⟨_, rfl, H _⟩⟩)
  exact CW.of (k := 1) mt_363 rfl rfl (w_363_0 (Ex.mono S (n + 1)) (key 9 0 (by omega) (by omega)))
theorem f_362 {x : Int} (h : RefOK mem) (H : Fin mem K) : CWI (Ex S (n + 7)) 362 [.inr 143, .inl d, .inl x] mem K := by
  refine CW.of (k := 2) mt_362 rfl rfl (w_362_0 (Ex.mono S (n + 6)) (f_311 h (fun m' d1 d2 x1 x2 h1 h2 hk h3 h5 _ => ⟨fun _ => ?_, fun z => absurd (by decide) z⟩) (fun r m' r1 r2 h1 h2 _ => ⟨fun z => by omega, fun _ _ => H.thr h1 h2 0 (by omega)⟩)))
  have hm := h1.th' (z := 0) (by omega)
  have hq := h2.tr (FrQ.th (z := 0))
  have hT : TmOK (upm m' 143 0 0) d := h5
  generalize upm m' 143 0 0 = M at hm hq hT
  have key : ∀ (N : Nat) (s c : Int), 0 ≤ c → 0 ≤ s → s ≤ c → (701 - c).toNat < N → Wx (Ex S (n + 6)) S M_362 (fun r m => ∃ y, r = some y ∧ K y m) 24 [some (.inr 143), some (.inl d), some (.inl x), some (.inl s), some (.inl c)] [] M := by
    intro N
    induction N with
    | zero => intros; omega
    | succ N ih =>
      intro s c hc hs hsc hN
      exact w_362_24 (Ex.mono S (n + 6)) (f_313 hm.ops ⟨d1, d2⟩ ⟨x1, x2⟩ hT (fun r r1 r2 _ => ⟨fun _ _ => H.at hm hq _, fun q => f_363 hm.ops ⟨d1, d2⟩ hT ⟨hc, by omega⟩ (fun u _ => ⟨fun _ => ⟨by unfold InI; omega, by unfold InI; omega, ih _ (c + 1) (by omega) (by omega) (by omega) (by omega)⟩, fun _ => ⟨by unfold InI; omega, by unfold InI; omega, ih _ (c + 1) (by omega) (by omega) (by omega) (by omega)⟩⟩)⟩))
  exact key 702 0 0 (by omega) (by omega) (by omega) (by omega)
theorem f_361 {a b : Int} (h : RefOK mem) (H : Fin mem K) : CWI (Ex S (n + 6)) 361 [.inr 143, .inl a, .inl b, .inl d] mem K := by
  refine CW.of (k := 3) mt_361 rfl rfl (w_361_0 (Ex.mono S (n + 5)) (f_227 (fun a1 a2 _ => ⟨fun _ => f_253 (fun d1 d2 _ => ⟨fun z => absurd z (by decide), fun _ => ⟨by unfold InI; omega, f_227 (fun b1 b2 _ => ⟨fun _ => f_268r h ⟨d1, d2⟩ (fun m' h1 h2 _ _ _ h5 _ => ⟨fun _ => ?_, fun z => absurd (by decide) z⟩) (fun m' h1 h2 _ => ⟨fun z => absurd rfl z, fun _ _ => H.thr h1 h2 0 (by omega)⟩), fun z => absurd (by decide) z⟩) (fun _ _ => ⟨fun z => absurd rfl z, fun _ _ => H.thr h FrQ.rf 0 (by omega)⟩)⟩⟩) (fun _ => ⟨fun _ _ => H.thr h FrQ.rf 0 (by omega), fun z => absurd rfl z⟩), fun z => absurd (by decide) z⟩) (fun _ _ => ⟨fun z => absurd rfl z, fun _ _ => H.thr h FrQ.rf 0 (by omega)⟩)))
  have hm := h1.th' (z := 0) (by omega)
  have hq := h2.tr (FrQ.th (z := 0))
  have hT : TmOK (upm m' 143 0 0) d := h5
  generalize upm m' 143 0 0 = M at hm hq hT
  have h8 := hm.ops.1
  have key : ∀ (N : Nat) (s : Int) (o : Nat), (o : Int) ≤ M 143 1 → (M 143 1 - o).toNat < N → Wx (Ex S (n + 5)) S M_361 (fun r m => ∃ y, r = some y ∧ K y m) 67 [some (.inr 143), some (.inl a), some (.inl b), some (.inl d), some (.inl s), some (.inl (o : Int)), none] [] M := by
    intro N
    induction N with
    | zero => intros; omega
    | succ N ih =>
      intro s o ho hN
      refine w_361_67 (Ex.mono S (n + 5)) (fun v1 e1 _ => ⟨fun _ _ => H.at hm hq _, fun q => ?_⟩)
      have ho8 : 0 ≤ (o : Int) ∧ (o : Int) < 8 := by omega
      have ht := hT o (by omega)
      have inner : ∀ (N' : Nat) (s k : Int), 0 ≤ k → (5 - k).toNat < N' → Wx (Ex S (n + 5)) S M_361 (fun r m => ∃ y, r = some y ∧ K y m) 79 [some (.inr 143), some (.inl a), some (.inl b), some (.inl d), some (.inl s), some (.inl (o : Int)), some (.inl k)] [] M := by
        intro N'
        induction N' with
        | zero => intros; omega
        | succ N' ih2 =>
          intro s k hk hN'
          have nx : ∀ s, ¬ 4 ≤ k → InI (k + 1) ∧ Wx (Ex S (n + 5)) S M_361 (fun r m => ∃ y, r = some y ∧ K y m) 79 [some (.inr 143), some (.inl a), some (.inl b), some (.inl d), some (.inl s), some (.inl (o : Int)), some (.inl (k + 1))] [] M := fun s z => ⟨by unfold InI; omega, ih2 s (k + 1) (by omega) (by omega)⟩
          refine w_361_79 (Ex.mono S (n + 5)) ⟨fun _ => ⟨by unfold InI; omega, ih s (o + 1) (by omega) (by omega)⟩, fun z => f_264 hm.ops hm.un ho8 (fun u _ _ _ => ⟨fun _ => nx _ z, fun _ => f_265 hm.ops ho8 (fun w _ b5 _ _ b6 _ _ => ⟨fun _ => nx _ z, fun _ => ⟨ho8, fun v7 e7 _ => ?_⟩⟩)⟩)⟩
          rw [Int.toNat_natCast] at e7
          exact ⟨by unfold InI; omega, by omega, fun _ => nx _ z, fun _ b8 _ _ b9 _ _ => nx _ z⟩
      exact inner 6 s 0 (by omega) (by omega)
  exact key 9 0 0 (by omega) (by omega)
end SMALL2
end
