/-! plain and late of the reference -/
section LATE
variable {S : Nat × (Nat → Int32)} {n : Nat} {mem : MM} {K : Int → MM → Prop} {d : Int}
theorem f_330 (hO : OpsOK mem) {o : Nat} {k t : Int} (ho : (o : Int) < mem 143 1) (hk : 0 ≤ k ∧ k < srcN mem o) (ht : 0 ≤ t ∧ t ≤ 39) (H : ∀ r, K r mem) : CWI (Ex S (n + 2)) 330 [.inr 143, .inl (o : Int), .inl k, .inl t] mem K := by
  have h8 := hO.1
  have ho8 : 0 ≤ (o : Int) ∧ (o : Int) < 8 := by omega
  have hs := hO.src (o := o) (by omega) hk.1 hk.2
  refine CW.of (k := 2) mt_330 rfl rfl (w_330_0 (Ex.mono S (n + 1)) (f_242 ho8 (fun _ => ?_)))
  rw [Int.toNat_natCast]
  refine ⟨fun q1 => ⟨fun q2 => f_243 ho8 (fun _ => ?_), fun q2 => f_243 ho8 (fun _ _ => ⟨_, rfl, H _⟩)⟩, fun q1 _ => ⟨_, rfl, H _⟩⟩
  rw [Int.toNat_natCast]
  unfold srcOK at hs
  exact ⟨by unfold InI; omega, fun _ => ⟨by unfold InI; omega, by unfold InI; omega, by omega, fun v _ _ _ => ⟨_, rfl, H _⟩⟩, fun _ => ⟨by omega, fun v _ _ _ => ⟨_, rfl, H _⟩⟩⟩
theorem f_329 (hO : OpsOK mem) {o : Nat} {t : Int} (ho : (o : Int) < mem 143 1) (ht : 0 ≤ t ∧ t ≤ 39) (H : ∀ r, K r mem) : CWI (Ex S (n + 3)) 329 [.inr 143, .inl (o : Int), .inl t] mem K := by
  have h8 := hO.1
  have ho8 : 0 ≤ (o : Int) ∧ (o : Int) < 8 := by omega
  refine CW.of (k := 0) mt_329 rfl rfl (w_329_0 (Ex.mono S (n + 2)) ⟨ho8, fun v1 e1 _ => ⟨fun q1 => ⟨ho8, fun v2 e2 _ => ⟨fun q2 => ⟨ho8, fun v3 e3 _ => ?_⟩, fun q2 => ?_⟩⟩, fun q1 => ?_⟩⟩)
  · rw [Int.toNat_natCast] at e1 e2
    have hn : srcN mem o = 2 := by unfold srcN; rw [if_neg (by omega), if_neg (by omega)]
    exact f_330 hO ho ⟨by omega, by omega⟩ ht (fun r _ => f_330 hO ho ⟨by omega, by omega⟩ ht (fun r2 _ => f_324 (fun r3 _ _ => ⟨_, rfl, H _⟩)))
  · rw [Int.toNat_natCast] at e1 e2
    have hn : srcN mem o = 1 := by unfold srcN; rw [if_neg (by omega), if_pos (by omega)]
    exact f_330 hO ho ⟨by omega, by omega⟩ ht (fun r _ _ => ⟨_, rfl, H _⟩)
  · rw [Int.toNat_natCast] at e1
    have hr := hO.row (o := o) (by omega) (Or.inl (by omega))
    refine f_250 ho8 (fun _ => ⟨?_, ?_, f_251 ho8 (fun _ => ⟨?_, ?_, fun v _ _ _ => ⟨_, rfl, H _⟩⟩)⟩) <;> (simp only [Int.toNat_natCast]; try unfold InI) <;> omega
theorem f_328 {K : MM → Prop} {x : Int} (h : RefOK mem) (hx : 0 ≤ x ∧ x ≤ 40) (H : ∀ m', RefOK m' → FrQ mem m' → K m') : CWV (Ex S (n + 4)) 328 [.inr 143, .inl x] mem K := by
  have hO := h.ops
  have h8 := hO.1
  refine CW.of (k := 3) mt_328 rfl rfl (w_328_0 (Ex.mono S (n + 3)) (f_318 (fun m1 k1 => ?_)))
  have key : ∀ (N : Nat) (t : Int) (m : MM), 0 ≤ t → (x - t).toNat < N → FrV mem m → Wx (Ex S (n + 3)) S M_328 (fun r m => r = none ∧ K m) 6 [some (.inr 143), some (.inl x), some (.inl t), none, none] [] m := by
    intro N
    induction N with
    | zero => intros; omega
    | succ N ih =>
      intro t m ht hN hF
      refine w_328_6 (Ex.mono S (n + 3)) ⟨fun _ => ⟨rfl, H m (hF.u.rest h (fun u hu => by rw [hF 168 u (by omega)]; exact h.pa u hu)) hF.u.q⟩, fun q => ?_⟩
      have lp : ∀ (N' : Nat) (o : Nat) (m : MM), (o : Int) ≤ mem 143 1 → (mem 143 1 - o).toNat < N' → FrV mem m → Wx (Ex S (n + 3)) S M_328 (fun r m => r = none ∧ K m) 13 [some (.inr 143), some (.inl x), some (.inl t), some (.inl (o : Int)), none] [] m := by
        intro N'
        induction N' with
        | zero => intros; omega
        | succ N' ih2 =>
          intro o m ho hN' hF
          have hO' := hF.u.ops hO
          have e1' : m 143 1 = mem 143 1 := hF _ _ (by omega)
          refine w_328_13 (Ex.mono S (n + 3)) (fun v1 e1 _ => ⟨fun z => ⟨by unfold InI; omega, ih (t + 1) m (by omega) (by omega) hF⟩, fun z => f_329 hO' (by omega) ⟨ht, by omega⟩ (fun r _ => ?_)⟩)
          have ho8 : 0 ≤ (o : Int) ∧ (o : Int) < 8 := by omega
          have hF2 : ∀ i z, FrV mem (upm m 167 i z) := fun i z => hF.tr (FrV.up (by omega))
          refine ⟨by unfold InI; omega, by unfold InI; omega, by omega, ho8, fun v4 e4 _ => ⟨fun _ => ⟨by unfold InI; omega, ih2 (o + 1) _ (by omega) (by omega) (hF2 _ _)⟩, fun q4 => ?_⟩⟩
          rw [Int.toNat_natCast, upm_ne (by omega)] at e4
          have hr := ((hF2 ((41 * (o : Int)) + t).toNat r).u.ops hO).row (o := o) (by omega) (Or.inr (by rw [upm_ne (by omega)]; omega))
          refine f_250 ho8 (fun _ => ⟨?_, ?_, f_251 ho8 (fun _ => ⟨?_, ?_, by unfold InI; omega, ih2 (o + 1) _ (by omega) (by omega) ((hF2 _ _).tr (FrV.up (by omega)))⟩)⟩) <;> (simp only [Int.toNat_natCast]; try unfold InI) <;> omega
      exact lp 9 0 m (by omega) (by omega) hF
  exact key _ 0 m1 (by omega) (Nat.lt_succ_self _) (fun A i q => k1 A i (by omega))
theorem f_327 {a b x : Int} (h : RefOK mem) (H : Fin mem K) : CWI (Ex S (n + 5)) 327 [.inr 143, .inl a, .inl b, .inl x] mem K := by
  have h' := h.th' (z := 0) (by omega)
  refine CW.of (k := 0) mt_327 rfl rfl (w_327_0 (Ex.mono S (n + 4)) (f_316 (fun a1 a2 b1 b2 _ => ⟨fun z => absurd z (by decide), fun _ => f_309 (fun x1 x2 _ => ⟨fun _ => f_240 h.ops (fun hS _ => ⟨fun _ => ?_, fun z => absurd (by decide) z⟩) (fun _ _ => ⟨fun z => absurd rfl z, fun _ _ => H.thr h FrQ.rf 0 (by omega)⟩), fun z => absurd (by decide) z⟩) (fun _ => ⟨fun z => absurd rfl z, fun _ _ => H.thr h FrQ.rf 0 (by omega)⟩)⟩) (fun _ => ⟨fun _ _ => H.thr h FrQ.rf 0 (by omega), fun z => absurd rfl z⟩)))
  exact f_328 h' ⟨x1, x2⟩ (fun m8 k1 k2 => ⟨by unfold InI; omega, by unfold InI; omega, by omega, fun v _ _ _ => H.at k1 (FrQ.th.tr k2) _⟩)
theorem f_365 (hO : OpsOK mem) {o : Nat} {k t : Int} (ho : (o : Int) < mem 143 1) (hk : 0 ≤ k ∧ k < srcN mem o) (ht : 0 ≤ t ∧ t ≤ 39) (H : ∀ r, K r mem) : CWI (Ex S (n + 2)) 365 [.inr 143, .inl (o : Int), .inl k, .inl t] mem K := by
  have h8 := hO.1
  have ho8 : 0 ≤ (o : Int) ∧ (o : Int) < 8 := by omega
  have hs := hO.src (o := o) (by omega) hk.1 hk.2
  refine CW.of (k := 1) mt_365 rfl rfl (w_365_0 (Ex.mono S (n + 1)) (f_242 ho8 (fun _ => ?_)))
  rw [Int.toNat_natCast]
  refine ⟨fun _ _ => ⟨_, rfl, H _⟩, fun q => f_243 ho8 (fun _ => ?_)⟩
  rw [Int.toNat_natCast]
  unfold srcOK at hs
  refine ⟨fun q2 => ⟨by unfold InI; omega, by unfold InI; omega, f_243 ho8 (fun _ => ?_)⟩, fun _ _ => ⟨_, rfl, H _⟩⟩
  rw [Int.toNat_natCast]
  exact ⟨by unfold InI; omega, by omega, fun v _ _ _ => ⟨_, rfl, H _⟩⟩
theorem lt_50 {m0 : MM} {x a e : Int} (hO : OpsOK m0) (hT : TmOK m0 d) (hd : 1 ≤ d ∧ d ≤ 12) (hx : 0 ≤ x ∧ x ≤ 40) (ha : 1 ≤ a) {Kk : WK} (H : ∀ r m', FrV m0 m' → Kk (some r) m') : ∀ (N : Nat) (w c : Int) (mem : MM), 0 ≤ c → (701 - c).toNat < N → FrV m0 mem → Wx (Ex S (n + 3)) S M_364 Kk 50 [some (.inr 143), some (.inl d), some (.inl x), some (.inl a), some (.inl e), some (.inl w), some (.inl c), none, none, none, none] [] mem := by
  have h8 := hO.1
  intro N
  induction N with
  | zero => intros; omega
  | succ N ih =>
    intro w c mem hc hN hF
    refine w_364_50 (Ex.mono S (n + 3)) (f_313 (hF.u.ops hO) hd hx (hF.u.tm hT) (fun r r1 r2 _ => ⟨fun _ _ => H _ mem hF, fun q z _ _ => ?_⟩))
    have lp2 : ∀ (N' : Nat) (o : Nat) (w z : Int) (m : MM), (o : Int) ≤ m0 143 1 → (m0 143 1 - o).toNat < N' → FrV m0 m → Wx (Ex S (n + 3)) S M_364 Kk 163 [some (.inr 143), some (.inl d), some (.inl x), some (.inl a), some (.inl e), some (.inl w), some (.inl c), some (.inl z), some (.inl (o : Int)), none, none] [] m := by
      intro N'
      induction N' with
      | zero => intros; omega
      | succ N' ih2 =>
        intro o w z m ho hN' hF
        have hO' := hF.u.ops hO
        have hT' := hF.u.tm hT
        have e1' : m 143 1 = m0 143 1 := hF _ _ (by omega)
        refine w_364_163 (Ex.mono S (n + 3)) (fun v1 e1 _ => ⟨fun _ => ⟨by unfold InI; omega, ih w (c + 1) m (by omega) (by omega) hF⟩, fun q1 => ⟨by omega, fun v2 e2 _ => ?_⟩⟩)
        rw [Int.toNat_natCast] at e2
        have ht := hT' o (by omega)
        have ho8 : 0 ≤ (o : Int) ∧ (o : Int) < 8 := by omega
        refine f_319d (by omega) (by unfold InI; omega) (fun _ => ⟨fun q2 => ⟨ho8, fun v5 e5 _ => ?_⟩, fun _ => ⟨by unfold InI; omega, ih2 (o + 1) w z m (by omega) (by omega) hF⟩⟩)
        have hr := turnF_rng (by omega) q2
        have fin : ∀ i y, InI ((o : Int) + 1) ∧ Wx (Ex S (n + 3)) S M_364 Kk 163 [some (.inr 143), some (.inl d), some (.inl x), some (.inl a), some (.inl e), some (.inl w), some (.inl c), some (.inl z), some (.inl ((o : Int) + 1)), none, none] [] (upm m 167 i y) := fun i y => ⟨by unfold InI; omega, ih2 (o + 1) w z _ (by omega) (by omega) (hF.tr (FrV.up (by omega)))⟩
        refine ⟨fun _ => ⟨by unfold InI; omega, by unfold InI; omega, f_246 hO' ho8 (fun _ y1 _ _ y2 _ _ => ⟨by omega, fin _ _⟩)⟩, fun q5 => f_251 ho8 (fun _ => ?_)⟩
        rw [Int.toNat_natCast] at e5 ⊢
        have hrow := hO'.row (o := o) (by omega) (Or.inl (by omega))
        exact ⟨by unfold InI; omega, by omega, fun _ => ⟨by unfold InI; omega, by unfold InI; omega, f_246 hO' ho8 (fun _ y1 _ _ y2 _ _ => ⟨by omega, fin _ _⟩)⟩, fun _ => ⟨by unfold InI; omega, by unfold InI; omega, f_246 hO' ho8 (fun _ y1 _ _ y2 _ _ => ⟨by omega, fin _ _⟩)⟩⟩
    have lp1 : ∀ (N' : Nat) (o : Nat) (z : Int) (m : MM), (o : Int) ≤ m0 143 1 → (m0 143 1 - o).toNat < N' → FrV m0 m → Wx (Ex S (n + 3)) S M_364 Kk 71 [some (.inr 143), some (.inl d), some (.inl x), some (.inl a), some (.inl e), some (.inl w), some (.inl c), some (.inl z), some (.inl (o : Int)), none, none] [] m := by
      intro N'
      induction N' with
      | zero => intros; omega
      | succ N' ih2 =>
        intro o z m ho hN' hF
        have hO' := hF.u.ops hO
        have hT' := hF.u.tm hT
        have e1' : m 143 1 = m0 143 1 := hF _ _ (by omega)
        refine w_364_71 (Ex.mono S (n + 3)) (fun v1 e1 _ => ⟨fun _ y _ _ => lp2 9 0 _ _ m (by omega) (by omega) hF, fun q1 => ?_⟩)
        have ho8 : 0 ≤ (o : Int) ∧ (o : Int) < 8 := by omega
        have ht := hT' o (by omega)
        have lp3 : ∀ (N3 : Nat) (k z : Int), 0 ≤ k → (3 - k).toNat < N3 → Wx (Ex S (n + 3)) S M_364 Kk 83 [some (.inr 143), some (.inl d), some (.inl x), some (.inl a), some (.inl e), some (.inl w), some (.inl c), some (.inl z), some (.inl (o : Int)), some (.inl k), none] [] m := by
          intro N3
          induction N3 with
          | zero => intros; omega
          | succ N3 ih3 =>
            intro k z hk hN3
            have hsn := srcN_le m o
            refine w_364_83 (Ex.mono S (n + 3)) (f_241 ho8 (fun _ => ⟨fun _ => ⟨by unfold InI; omega, ih2 (o + 1) z m (by omega) (by omega) hF⟩, fun q3 => ⟨ho8, fun v3 e3 _ => ?_⟩⟩))
            rw [Int.toNat_natCast] at q3 e3
            refine f_319d (by omega) (by unfold InI; omega) (fun _ => ⟨fun _ => ⟨by unfold InI; omega, ih2 (o + 1) z m (by omega) (by omega) hF⟩, fun q4 => ⟨ho8, fun v6 e6 _ => ?_⟩⟩)
            have e6' : v6 = v3 := by rw [e6, Int.toNat_natCast, e3]
            subst e6'
            have hr := turnF_rng (by omega) q4
            exact f_319d (by omega) (by unfold InI; omega) (fun _ => f_365 hO' (by omega) ⟨hk, by omega⟩ ⟨hr.1, by omega⟩ (fun r _ => f_257 (fun _ _ => ⟨by unfold InI; omega, ih3 (k + 1) _ (by omega) (by omega)⟩)))
        exact lp3 4 0 z (by omega) (by omega)
    exact lp1 9 0 z mem (by omega) (by omega) hF
theorem f_364 {x a e : Int} (h : RefOK mem) (H : Fin mem K) : CWI (Ex S (n + 7)) 364 [.inr 143, .inl d, .inl x, .inl a, .inl e] mem K := by
  refine CW.of (k := 6) mt_364 rfl rfl (w_364_0 (Ex.mono S (n + 6)) (f_227 (fun a1 a2 _ => ⟨fun z => absurd z (by decide), fun _ => f_227 (fun e1 e2 _ => ⟨fun _ => f_311 h (fun m' d1 d2 x1 x2 h1 h2 hk h3 h5 _ => ⟨fun _ => ?_, fun z => absurd (by decide) z⟩) (fun r m' r1 r2 h1 h2 _ => ⟨fun z => by omega, fun _ _ => H.thr h1 h2 0 (by omega)⟩), fun z => absurd (by decide) z⟩) (fun _ _ => ⟨fun z => absurd rfl z, fun _ _ => H.thr h FrQ.rf 0 (by omega)⟩)⟩) (fun _ _ => ⟨fun _ _ => H.thr h FrQ.rf 0 (by omega), fun z => absurd rfl z⟩)))
  have hm := h1.th' (z := 0) (by omega)
  have hq := h2.tr (FrQ.th (z := 0))
  exact lt_50 (n := n + 3) hm.ops h5.th ⟨d1, d2⟩ ⟨x1, x2⟩ a1 (fun r m8 k => H.at (k.u.rest hm (fun u hu => by rw [k 168 u (by omega)]; exact hm.pa u hu)) (hq.tr k.u.q) r) _ 0 0 _ (by omega) (Nat.lt_succ_self _) FrV.rf
end LATE
