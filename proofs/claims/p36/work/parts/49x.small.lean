/-! the other public methods of the reference -/
theorem tmod_le {a b : Int} (ha : 0 ≤ a) (hb : 0 < b) : 0 ≤ a.tmod b ∧ a.tmod b ≤ a := by
  have h1 := tmod_r ha hb
  have h2 := tdiv_r ha hb
  have h3 := Int.mul_tdiv_add_tmod a b
  have h4 : 0 ≤ b * a.tdiv b := Int.mul_nonneg (by omega) h2.1
  omega
theorem RefOK.gen {m m' : MM} (h : RefOK m) (e : ∀ A i, (A = 143 ∧ ¬ i = 1) ∨ (143 < A ∧ A < 149) ∨ (153 < A ∧ A < 169) → m' A i = m A i) (h1 : 0 ≤ m' 143 1 ∧ m' 143 1 ≤ 8) (hl : ∀ k, k < 6 → 1 ≤ m' 151 k ∧ m' 151 k ≤ 6) (hu : UnOK m') (hb : ∀ k, k < 6 → 1 ≤ m' 152 k ∧ m' 152 k ≤ 15) (hc : ∀ k, k < 3 → 1 ≤ m' 153 k ∧ m' 153 k ≤ 3) (hf : ∀ o, o < 8 → -9999 ≤ m' 149 o ∧ m' 149 o ≤ 9999) : RefOK m' := by
  refine ⟨⟨h1, fun k hk => ?_, hl⟩, hu, hb, hc, hf, fun k hk => ?_, fun k hk => ?_, ?_, fun k hk => ?_, ?_, ?_, fun k hk => ?_⟩
  · unfold OpOK
    rw [e _ _ (by omega), e _ _ (by omega), e _ _ (by omega), e _ _ (by omega), e _ _ (by omega)]; exact h.ops.2.1 k hk
  · rw [e _ _ (by omega), e _ _ (by omega)]; exact h.ab k hk
  · rw [e _ _ (by omega)]; exact h.sl k hk
  · rw [e _ _ (by omega)]; exact h.lo
  · rw [e _ _ (by omega), e _ _ (by omega), e _ _ (by omega), e _ _ (by omega)]; exact h.r48 k hk
  · rw [e _ _ (by omega)]; exact h.nd
  · rw [e _ _ (by omega)]; exact h.th
  · rw [e _ _ (by omega)]; exact h.pa k hk
theorem up_in {m : MM} {A i k n : Nat} {x lo hi : Int} (h : ∀ k, k < n → lo ≤ m A k ∧ m A k ≤ hi) (hx : lo ≤ x ∧ x ≤ hi) (hk : k < n) : lo ≤ upm m A i x A k ∧ upm m A i x A k ≤ hi := by
  by_cases q : k = i
  · subst q; rw [upm_eq]; exact hx
  · rw [upm_ne (fun z => q z.2)]; exact h k hk
section SMALL
variable {S : Nat × (Nat → Int32)} {n : Nat} {mem : MM} {K : Int → MM → Prop} {d : Int}
theorem f_225 (H : K (mem 143 0) mem) : CWI (Ex S (n + 1)) 225 [.inr 143] mem K := by
  refine CW.of (k := 0) mt_225 rfl rfl (w_225_0 (Ex.mono S n) (fun v e _ _ => ⟨_, rfl, ?_⟩))
  rw [e]; exact H
/-- kind: what is thrown is told by the arguments alone -/
theorem f_238 {a x : Int} (h : RefOK mem) (H : Fin mem K) : CWI (Ex S (n + 3)) 238 [.inr 143, .inl a, .inl x] mem K := by
  have h8 := h.ops.1
  have h' := h.th' (z := 0) (by omega)
  refine CW.of (k := 0) mt_238 rfl rfl (w_238_0 (Ex.mono S (n + 2)) (f_235 h8 (fun a1 a2 _ => ⟨fun _ => f_227 (fun _ _ _ => ⟨fun _ => ?_, fun z => absurd (by decide) z⟩) (fun _ _ => ⟨fun z => absurd rfl z, fun _ _ => H.thr h FrQ.rf 0 (by omega)⟩), fun z => absurd (by decide) z⟩) (fun _ => ⟨fun z => absurd rfl z, fun _ _ => H.thr h FrQ.rf 0 (by omega)⟩)))
  have ha : 0 ≤ a ∧ a < 8 := by omega
  exact ⟨fun _ => ⟨ha, fun v _ _ _ => H.at h' FrQ.th _⟩, fun _ => ⟨ha, fun v _ _ _ => H.at h' FrQ.th _⟩, fun _ => ⟨ha, fun v _ _ _ => H.at h' FrQ.th _⟩, fun _ => ⟨ha, fun v _ _ _ => H.at h' FrQ.th _⟩, fun _ => ⟨ha, fun v _ _ _ => H.at h' FrQ.th _⟩, fun _ => ⟨ha, fun v _ _ _ => H.at h' FrQ.th _⟩⟩
theorem f_239 (h : RefOK mem) (H : Fin mem K) : CWI (Ex S (n + 3)) 239 [.inr 143] mem K := by
  have h' := h.th' (z := 0) (by omega)
  exact CW.of (k := 0) mt_239 rfl rfl (w_239_0 (Ex.mono S (n + 2)) (f_240 h'.ops (fun _ _ => ⟨Or.inr rfl, H.at h' FrQ.th _⟩) (fun _ _ => ⟨Or.inl rfl, H.at h' FrQ.th _⟩)))
theorem f_254r (h : RefOK mem) (H1 : ∀ m', RefOK m' → FrQ mem m' → K 1 m') (H0 : ∀ m', RefOK m' → FrQ mem m' → Kp mem m' → NdsOK m' → K 0 m') : CWI (Ex S (n + 4)) 254 [.inr 143, .inl d] mem K :=
  f_254 h.ops (fun m' k1 k2 => H1 m' (k1.rest k2 h) k1.f.q) (fun m' k1 k2 _ k4 _ => H0 m' (k1.rest k2 h) k1.f.q k1.f.kp k4)
theorem Fr1.rest158 {m m' : MM} (k : Fr1 158 m m') (h : RefOK m) : RefOK m' ∧ FrQ m m' := ⟨k.w.rest (k.rn (by omega)) h, k.w.f.q⟩
theorem f_252 {a b : Int} (h : RefOK mem) (H : Fin mem K) : CWI (Ex S (n + 5)) 252 [.inr 143, .inl a, .inl b, .inl d] mem K := by
  have h8 := h.ops.1
  refine CW.of (k := 0) mt_252 rfl rfl (w_252_0 (Ex.mono S (n + 4)) (f_235 h8 (fun a1 a2 _ => ⟨fun z => absurd z (by decide), fun _ => f_235 h8 (fun b1 b2 _ => ⟨fun _ => f_253 (fun d1 d2 _ => ⟨fun _ => f_254r h (fun m' h1 h2 _ => ⟨fun z => absurd z (by decide), fun _ _ => H.thr h1 h2 0 (by omega)⟩) (fun m' h1 h2 hk hN _ => ⟨fun _ => ?_, fun z => absurd rfl z⟩), fun z => absurd (by decide) z⟩) (fun _ => ⟨fun z => absurd rfl z, fun _ _ => H.thr h FrQ.rf 0 (by omega)⟩), fun z => absurd (by decide) z⟩) (fun _ => ⟨fun z => absurd rfl z, fun _ _ => H.thr h FrQ.rf 0 (by omega)⟩)⟩) (fun _ => ⟨fun _ _ => H.thr h FrQ.rf 0 (by omega), fun z => absurd rfl z⟩)))
  refine f_256 hN.th ⟨by omega, by omega⟩ (fun m2 k2 _ => ?_)
  obtain ⟨g1, g2⟩ := k2.rest158 (h1.th' (z := 0) (by omega))
  exact ⟨by unfold InI; omega, by unfold InI; omega, by omega, fun v _ _ _ => H.at g1 ((h2.tr FrQ.th).tr g2) _⟩
theorem f_261 (h8 : 0 ≤ mem 143 1 ∧ mem 143 1 ≤ 8) {o : Int} (ho : 0 ≤ o ∧ o < 8) (H : ∀ r, K r mem) : CWI (Ex S (n + 2)) 261 [.inr 143, .inl o] mem K := by
  have key : ∀ (N : Nat) (c b : Int), 0 ≤ b → (8 - b).toNat < N → Wx (Ex S (n + 1)) S M_261 (fun r m => ∃ y, r = some y ∧ K y m) 4 [some (.inr 143), some (.inl o), some (.inl c), some (.inl b)] [] mem := by
    intro N
    induction N with
    | zero => intros; omega
    | succ N ih =>
      intro c b hb hN
      exact w_261_4 (Ex.mono S (n + 1)) (fun v1 e1 _ => ⟨fun _ _ => ⟨_, rfl, H _⟩, fun q => ⟨by unfold InI; omega, by unfold InI; omega, by omega, fun v2 _ _ => f_257 (fun _ _ => ⟨by unfold InI; omega, ih _ (b + 1) (by omega) (by omega)⟩)⟩⟩)
  exact CW.of (k := 2) mt_261 rfl rfl (w_261_0 (Ex.mono S (n + 1)) (key 9 0 0 (by omega) (by omega)))
theorem f_260 {a : Int} (h : RefOK mem) (H : Fin mem K) : CWI (Ex S (n + 5)) 260 [.inr 143, .inl a, .inl d] mem K := by
  have h8 := h.ops.1
  refine CW.of (k := 0) mt_260 rfl rfl (w_260_0 (Ex.mono S (n + 4)) (f_235 h8 (fun a1 a2 _ => ⟨fun _ => f_253 (fun d1 d2 _ => ⟨fun _ => f_254r h (fun m' h1 h2 _ => ⟨fun z => absurd z (by decide), fun _ _ => H.thr h1 h2 0 (by omega)⟩) (fun m' h1 h2 hk hN _ => ⟨fun _ => ?_, fun z => absurd rfl z⟩), fun z => absurd (by decide) z⟩) (fun _ => ⟨fun z => absurd rfl z, fun _ _ => H.thr h FrQ.rf 0 (by omega)⟩), fun z => absurd (by decide) z⟩) (fun _ => ⟨fun z => absurd rfl z, fun _ _ => H.thr h FrQ.rf 0 (by omega)⟩)))
  refine f_256 hN.th ⟨by omega, by omega⟩ (fun m2 k2 _ => ?_)
  obtain ⟨g1, g2⟩ := k2.rest158 (h1.th' (z := 0) (by omega))
  exact f_261 g1.ops.1 ⟨by omega, by omega⟩ (fun r _ _ => H.at g1 ((h2.tr FrQ.th).tr g2) _)
theorem f_262 {a : Int} (h : RefOK mem) (H : Fin mem K) : CWI (Ex S (n + 3)) 262 [.inr 143, .inl a] mem K := by
  have h' := h.th' (z := 0) (by omega)
  exact CW.of (k := 0) mt_262 rfl rfl (w_262_0 (Ex.mono S (n + 2)) (f_227 (fun a1 a2 _ => ⟨fun z => absurd z (by decide), fun _ => f_263 h'.ops h'.un h'.bz (fun r _ _ _ _ => H.at h' FrQ.th _)⟩) (fun _ _ => ⟨fun _ _ => H.thr h FrQ.rf 0 (by omega), fun z => absurd rfl z⟩)))
theorem f_267 (h : RefOK mem) (H : Fin mem K) : CWI (Ex S (n + 6)) 267 [.inr 143, .inl d] mem K := by
  have h' := h.th' (z := 0) (by omega)
  exact CW.of (k := 0) mt_267 rfl rfl (w_267_0 (Ex.mono S (n + 5)) (f_253 (fun d1 d2 _ => ⟨fun _ => f_240 h.ops (fun _ _ => ⟨fun _ => f_268r h' ⟨d1, d2⟩ (fun m' h1 h2 _ _ _ _ _ => ⟨fun z => absurd z (by decide), fun _ => H.at h1 (FrQ.th.tr h2) _⟩) (fun m' h1 h2 _ => ⟨fun _ => H.at h1 (FrQ.th.tr h2) _, fun z => absurd rfl z⟩), fun z => absurd (by decide) z⟩) (fun _ _ => ⟨fun z => absurd rfl z, fun _ => H.thr h FrQ.rf 0 (by omega)⟩), fun z => absurd (by decide) z⟩) (fun _ => ⟨fun z => absurd rfl z, fun _ => H.thr h FrQ.rf 0 (by omega)⟩)))
theorem f_277 (h : RefOK mem) (H : Fin mem K) : CWI (Ex S (n + 6)) 277 [.inr 143] mem K := by
  have key : ∀ (N : Nat) (c : Int) (m : MM), 1 ≤ c → (13 - c).toNat < N → RefOK m → FrQ mem m → Wx (Ex S (n + 5)) S M_277 (fun r m => ∃ y, r = some y ∧ K y m) 27 [some (.inr 143), some (.inl c)] [] m := by
    intro N
    induction N with
    | zero => intros; omega
    | succ N ih =>
      intro c m hc hN hm hq
      exact w_277_27 (Ex.mono S (n + 5)) ⟨fun _ _ => H.at hm hq _, fun q => f_268r hm ⟨hc, by omega⟩ (fun m' h1 h2 _ _ _ _ _ => ⟨fun z => absurd z (by decide), fun _ _ => H.at h1 (hq.tr h2) _⟩) (fun m' h1 h2 _ => ⟨fun _ => ⟨by unfold InI; omega, ih (c + 1) m' (by omega) (by omega) h1 (hq.tr h2)⟩, fun z => absurd rfl z⟩)⟩
  exact CW.of (k := 1) mt_277 rfl rfl (w_277_0 (Ex.mono S (n + 5)) (f_240 h.ops (fun _ _ => ⟨fun z => absurd z (by decide), fun _ => key 13 1 _ (by omega) (by omega) (h.th' (by omega)) FrQ.th⟩) (fun _ _ => ⟨fun _ _ => H.thr h FrQ.rf 0 (by omega), fun z => absurd rfl z⟩)))
theorem f_278 {a : Int} (h : RefOK mem) (H : Fin mem K) : CWI (Ex S (n + 6)) 278 [.inr 143, .inl a, .inl d] mem K := by
  have h8 := h.ops.1
  exact CW.of (k := 0) mt_278 rfl rfl (w_278_0 (Ex.mono S (n + 5)) (f_235 h8 (fun a1 a2 _ => ⟨fun _ => f_253 (fun d1 d2 _ => ⟨fun _ => f_268r h ⟨d1, d2⟩ (fun m' h1 h2 _ _ _ _ _ => ⟨fun _ => ⟨by omega, fun v _ _ _ => H.thr h1 h2 _ (by omega)⟩, fun z => absurd (by decide) z⟩) (fun m' h1 h2 _ => ⟨fun z => absurd rfl z, fun _ _ => H.thr h1 h2 0 (by omega)⟩), fun z => absurd (by decide) z⟩) (fun _ => ⟨fun z => absurd rfl z, fun _ _ => H.thr h FrQ.rf 0 (by omega)⟩), fun z => absurd (by decide) z⟩) (fun _ => ⟨fun z => absurd rfl z, fun _ _ => H.thr h FrQ.rf 0 (by omega)⟩)))
theorem f_279 {a b : Int} (h : RefOK mem) (H : Fin mem K) : CWI (Ex S (n + 6)) 279 [.inr 143, .inl a, .inl b, .inl d] mem K := by
  exact CW.of (k := 0) mt_279 rfl rfl (w_279_0 (Ex.mono S (n + 5)) (f_227 (fun a1 a2 _ => ⟨fun _ => f_253 (fun d1 d2 _ => ⟨fun z => absurd z (by decide), fun _ => ⟨by unfold InI; omega, f_227 (fun b1 b2 _ => ⟨fun _ => f_268r h ⟨d1, d2⟩ (fun m' h1 h2 _ _ _ _ _ => ⟨fun _ => ⟨by unfold InI; omega, by unfold InI; omega, by omega, fun v _ _ _ => H.thr h1 h2 _ (by omega)⟩, fun z => absurd (by decide) z⟩) (fun m' h1 h2 _ => ⟨fun z => absurd rfl z, fun _ _ => H.thr h1 h2 0 (by omega)⟩), fun z => absurd (by decide) z⟩) (fun _ _ => ⟨fun z => absurd rfl z, fun _ _ => H.thr h FrQ.rf 0 (by omega)⟩)⟩⟩) (fun _ => ⟨fun _ _ => H.thr h FrQ.rf 0 (by omega), fun z => absurd rfl z⟩), fun z => absurd (by decide) z⟩) (fun _ _ => ⟨fun z => absurd rfl z, fun _ _ => H.thr h FrQ.rf 0 (by omega)⟩)))
theorem f_307 {a : Int} (h : RefOK mem) (H : Fin mem K) : CWI (Ex S (n + 6)) 307 [.inr 143, .inl a, .inl d] mem K := by
  exact CW.of (k := 0) mt_307 rfl rfl (w_307_0 (Ex.mono S (n + 5)) (f_253 (fun d1 d2 _ => ⟨fun z => absurd z (by decide), fun _ => ⟨by unfold InI; omega, f_227 (fun b1 b2 _ => ⟨fun _ => f_268r h ⟨d1, d2⟩ (fun m' h1 h2 _ _ _ h5 _ => ⟨fun _ => f_304 (h1.th' (by omega)).ops ⟨d1, d2⟩ h5.th (fun r _ _ _ => H.thr h1 h2 _ (by omega)), fun z => absurd (by decide) z⟩) (fun m' h1 h2 _ => ⟨fun z => absurd rfl z, fun _ _ => H.thr h1 h2 0 (by omega)⟩), fun z => absurd (by decide) z⟩) (fun _ _ => ⟨fun z => absurd rfl z, fun _ _ => H.thr h FrQ.rf 0 (by omega)⟩)⟩⟩) (fun _ => ⟨fun _ _ => H.thr h FrQ.rf 0 (by omega), fun z => absurd rfl z⟩)))
end SMALL
