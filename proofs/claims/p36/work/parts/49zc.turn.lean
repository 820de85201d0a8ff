/-! turning, rotary, bare of the reference -/
def SpOK (m : MM) (k : Nat) : Prop := ∀ a, a < k → -1 ≤ m 169 a ∧ m 169 a ≤ 40
theorem Fr1.rest169 {m m' : MM} (e : Fr1 169 m m') (h : RefOK m) : RefOK m' ∧ FrQ m m' :=
  ⟨Kp.rest (fun A i q => e A i (by omega)) h (fun o ho => by rw [e _ _ (by omega)]; exact h.sl o ho) (fun j hj => by rw [e _ _ (by omega), e _ _ (by omega), e _ _ (by omega), e _ _ (by omega)]; exact h.r48 j hj) (by rw [e _ _ (by omega)]; exact h.nd), fun A i q => e A i (by omega)⟩
theorem Fr1.tm169 {m m' : MM} {d : Int} (e : Fr1 169 m m') (h : TmOK m d) : TmOK m' d := fun o ho => by
  rw [e 143 1 (by omega)] at ho
  rw [e 161 o (by omega)]; exact h o ho
section TURN
variable {S : Nat × (Nat → Int32)} {n : Nat} {mem : MM} {K : Int → MM → Prop} {d : Int}
theorem f_341 (hO : OpsOK mem) (hT : TmOK mem d) (hd : 1 ≤ d ∧ d ≤ 12) {a b : Nat} {t : Int} (ha : (a : Int) < mem 143 1) (hb : (b : Int) < mem 143 1) (ht : -1000 ≤ t ∧ t ≤ 1000) (H : ∀ r, K r mem) : CWI (Ex S (n + 4)) 341 [.inr 143, .inl (a : Int), .inl (b : Int), .inl t, .inl d] mem K := by
  have h8 := hO.1
  have ta := hT a ha
  have tb := hT b hb
  have la := hO.lat (o := a) (by omega)
  have lb := hO.lat (o := b) (by omega)
  have fa := lifeF_rng hO hT hd ha
  have fb := lifeF_rng hO hT hd hb
  have p : -12000 ≤ d * t ∧ d * t ≤ 12000 := by
    have a1 : d * (-1000) ≤ d * t := Int.mul_le_mul_of_nonneg_left ht.1 (by omega)
    have a2 : d * t ≤ d * 1000 := Int.mul_le_mul_of_nonneg_left ht.2 (by omega)
    omega
  refine CW.of (k := 2) mt_341 rfl rfl (w_341_0 (Ex.mono S (n + 3)) (f_299 hO ⟨by omega, ha⟩ (by rw [Int.toNat_natCast]; omega) (fun _ => f_299 hO ⟨by omega, hb⟩ (by rw [Int.toNat_natCast]; omega) (fun _ => ?_))))
  rw [Int.toNat_natCast, Int.toNat_natCast]
  exact ⟨by unfold InI; omega, by unfold InI; omega, f_298 hO hT hd ha (fun _ => ⟨by unfold InI; omega, by unfold InI; omega, fun _ => ⟨_, rfl, H _⟩, fun _ => f_298 hO hT hd hb (fun _ => ⟨by unfold InI; omega, by unfold InI; omega, fun _ => ⟨_, rfl, H _⟩, fun _ => ⟨_, rfl, H _⟩⟩)⟩)⟩
theorem f_340 (hO : OpsOK mem) (hT : TmOK mem d) (hd : 1 ≤ d ∧ d ≤ 12) {a b : Nat} {r : Int} (hr : 1 ≤ r ∧ r ≤ 40) (ha : (a : Int) < mem 143 1) (hb : (b : Int) < mem 143 1) (sa : -1 ≤ mem 169 a ∧ mem 169 a ≤ 40) (sb : -1 ≤ mem 169 b ∧ mem 169 b ≤ 40) (H : ∀ r, K r mem) : CWI (Ex S (n + 5)) 340 [.inr 143, .inl (a : Int), .inl (b : Int), .inl d, .inl r] mem K := by
  have h8 := hO.1
  have key : ∀ (N : Nat) (y t : Int), -1000 ≤ t → t ≤ 441 → (441 - t).toNat < N → Wx (Ex S (n + 4)) S M_340 (fun r m => ∃ y, r = some y ∧ K y m) 37 [some (.inr 143), some (.inl (a : Int)), some (.inl (b : Int)), some (.inl d), some (.inl r), some (.inl y), some (.inl t)] [] mem := by
    intro N
    induction N with
    | zero => intros; omega
    | succ N ih =>
      intro y t t1 t2 hN
      have nx : ¬ 400 < t → InI (t + r) ∧ Wx (Ex S (n + 4)) S M_340 (fun r m => ∃ y, r = some y ∧ K y m) 37 [some (.inr 143), some (.inl (a : Int)), some (.inl (b : Int)), some (.inl d), some (.inl r), some (.inl y), some (.inl (t + r))] [] mem := fun z => ⟨by unfold InI; omega, ih y (t + r) (by omega) (by omega) (by omega)⟩
      exact w_340_37 (Ex.mono S (n + 4)) ⟨fun _ => ⟨_, rfl, H _⟩, fun q => ⟨fun _ => f_341 hO hT hd ha hb ⟨by omega, by omega⟩ (fun r _ => ⟨fun _ => nx q, fun _ => ⟨_, rfl, H _⟩⟩), fun _ => ⟨fun _ => nx q, fun _ => f_341 hO hT hd ha hb ⟨by omega, by omega⟩ (fun r _ => ⟨fun _ => nx q, fun _ => ⟨_, rfl, H _⟩⟩)⟩⟩⟩
  refine CW.of (k := 2) mt_340 rfl rfl (w_340_0 (Ex.mono S (n + 4)) ⟨by omega, fun v1 e1 _ => ⟨by omega, fun v2 e2 _ => ?_⟩⟩)
  rw [Int.toNat_natCast] at e1 e2
  have e := Int.mul_tdiv_add_tmod 400 r
  have e2' := tmod_r (x := 400) (y := r) (by omega) (by omega)
  rw [Int.mul_comm] at e
  exact ⟨by unfold InI; omega, f_272 ⟨by omega, by omega⟩ (fun u u1 u2 _ => ⟨by omega, by unfold InI; omega, by unfold InI; omega, by unfold InI; omega, key _ u _ (by omega) (by omega) (Nat.lt_succ_self _)⟩)⟩
theorem f_339 (hO : OpsOK mem) (hT : TmOK mem d) (hd : 1 ≤ d ∧ d ≤ 12) {o : Nat} {x r : Int} (hr : 1 ≤ r ∧ r ≤ 40) (hx : 0 ≤ x ∧ x ≤ 40) (ho : (o : Int) < mem 143 1) (hs : SpOK mem o) (H : ∀ r, K r (upm mem 169 o x)) : CWI (Ex S (n + 6)) 339 [.inr 143, .inl (o : Int), .inl x, .inl d, .inl r] mem K := by
  have h8 := hO.1
  have hO' : OpsOK (upm mem 169 o x) := hO
  have hT' : TmOK (upm mem 169 o x) d := hT
  have hso : -1 ≤ upm mem 169 o x 169 o ∧ upm mem 169 o x 169 o ≤ 40 := by rw [upm_eq]; omega
  have key : ∀ (N : Nat) (a : Nat), a ≤ o → o - a < N → Wx (Ex S (n + 5)) S M_339 (fun r m => ∃ y, r = some y ∧ K y m) 24 [some (.inr 143), some (.inl (o : Int)), some (.inl x), some (.inl d), some (.inl r), some (.inl (a : Int))] [] (upm mem 169 o x) := by
    intro N
    induction N with
    | zero => intros; omega
    | succ N ih =>
      intro a ha hN
      refine w_339_24 (Ex.mono S (n + 5)) ⟨fun _ => ⟨_, rfl, H _⟩, fun q => ?_⟩
      have hsa : -1 ≤ upm mem 169 o x 169 a ∧ upm mem 169 o x 169 a ≤ 40 := by rw [upm_ne (by omega)]; exact hs a (by omega)
      have ha1 : (a : Int) < upm mem 169 o x 143 1 := by rw [upm_ne (by omega)]; omega
      exact f_298 hO' hT' hd ha1 (fun _ => ⟨fun _ => ⟨by unfold InI; omega, ih (a + 1) (by omega) (by omega)⟩, fun _ => f_340 hO' hT' hd hr ha1 ho hsa hso (fun r _ => ⟨fun _ => ⟨by unfold InI; omega, ih (a + 1) (by omega) (by omega)⟩, fun _ => ⟨_, rfl, H _⟩⟩)⟩)
  refine CW.of (k := 1) mt_339 rfl rfl (w_339_0 (Ex.mono S (n + 5)) ⟨by omega, ?_⟩)
  rw [Int.toNat_natCast]
  exact f_340 hO' hT' hd hr ho ho hso hso (fun r _ => ⟨fun _ => key _ 0 (by omega) (Nat.lt_succ_self _), fun _ => ⟨_, rfl, H _⟩⟩)
theorem f_338 (hO : OpsOK mem) (hT : TmOK mem d) (hd : 1 ≤ d ∧ d ≤ 12) {r : Int} (hr : 1 ≤ r ∧ r ≤ 40) (H : ∀ y m', Fr1 169 mem m' → K y m') : CWI (Ex S (n + 7)) 338 [.inr 143, .inl d, .inl r] mem K := by
  have h8 := hO.1
  have spu : ∀ (m : MM) (o : Nat) (x : Int), SpOK m o → -1 ≤ x → x ≤ 40 → SpOK (upm m 169 o x) (o + 1) := fun m o x h x1 x2 a ha => by
    by_cases e : a = o
    · subst e; rw [upm_eq]; omega
    · rw [upm_ne (fun z => e z.2)]; exact h a (by omega)
  have key : ∀ (N : Nat) (o : Nat) (m : MM), (o : Int) ≤ mem 143 1 → (mem 143 1 - o).toNat < N → Fr1 169 mem m → SpOK m o → Wx (Ex S (n + 6)) S M_338 (fun r m => ∃ y, r = some y ∧ K y m) 2 [some (.inr 143), some (.inl d), some (.inl r), some (.inl (o : Int)), none] [] m := by
    intro N
    induction N with
    | zero => intros; omega
    | succ N ih =>
      intro o m ho hN hF hS
      have e1' : m 143 1 = mem 143 1 := hF _ _ (by omega)
      refine w_338_2 (Ex.mono S (n + 6)) (fun v1 e1 _ => ⟨fun q v2 _ _ _ => ⟨_, rfl, H _ _ hF⟩, fun q => ⟨by omega, ?_⟩⟩)
      rw [Int.toNat_natCast]
      have up : ∀ (m : MM) (x : Int), Fr1 169 mem m → Fr1 169 mem (upm m 169 o x) := fun m x h => h.tr Fr1.up
      have opsF : ∀ m, Fr1 169 mem m → OpsOK m := fun m h => by
        refine ⟨by rw [h 143 1 (by omega)]; exact hO.1, fun u hu => ?_, fun i hi => by rw [h 151 i (by omega)]; exact hO.2.2 i hi⟩
        have := hO.2.1 u hu
        unfold OpOK at this ⊢
        rw [h 144 u (by omega), h 145 u (by omega), h 146 u (by omega), h 147 u (by omega), h 148 u (by omega)]
        exact this
      have inner : ∀ (N' : Nat) (x : Int) (m' : MM), 0 ≤ x → x ≤ r → (r - x).toNat < N' → Fr1 169 mem m' → SpOK m' o → Wx (Ex S (n + 6)) S M_338 (fun r m => ∃ y, r = some y ∧ K y m) 32 [some (.inr 143), some (.inl d), some (.inl r), some (.inl (o : Int)), some (.inl x)] [] m' := by
        intro N'
        induction N' with
        | zero => intros; omega
        | succ N' ih2 =>
          intro x m' x1 x2 hN' hF' hS'
          have e2' : m' 143 1 = mem 143 1 := hF' _ _ (by omega)
          have fin : ∀ m2, Fr1 169 mem m2 → SpOK m2 o → (¬ x = r → ((0 : Int) ≤ (o : Int) ∧ ((o : Int) : Int) < 8) ∧ (InI ((o : Int) + 1)) ∧ (Wx (Ex S (n + 6)) S M_338 (fun r m => ∃ y, r = some y ∧ K y m) 2 [some (.inr 143), some (.inl d), some (.inl r), some (.inl ((o : Int) + 1)), none] [] (upm m2 169 (Int.toNat (o : Int)) x))) ∧ (¬ (¬ x = r) → ((0 : Int) ≤ (o : Int) ∧ ((o : Int) : Int) < 8) ∧ (InI (o : Int) → ∃ y, some (o : Int) = some y ∧ K y (upm m2 169 (Int.toNat (o : Int)) (-1)))) := fun m2 g1 g2 => by
            rw [Int.toNat_natCast]
            exact ⟨fun _ => ⟨by omega, by unfold InI; omega, ih (o + 1) _ (by omega) (by omega) (up _ _ g1) (spu _ _ _ g2 (by omega) (by omega))⟩, fun _ => ⟨by omega, fun _ => ⟨_, rfl, H _ _ (up _ _ g1)⟩⟩⟩
          refine w_338_32 (Ex.mono S (n + 6)) ⟨fun _ => fin m' hF' hS', fun q2 => f_339 (opsF _ hF') (hF'.tm169 hT) hd hr ⟨x1, by omega⟩ (by omega) hS' (fun u _ => ?_)⟩
          have s2 : SpOK (upm m' 169 o x) o := fun a ha => spu m' o x hS' (by omega) (by omega) a (by omega)
          exact ⟨fun _ => fin _ (up _ _ hF') s2, fun _ => ⟨by unfold InI; omega, ih2 (x + 1) _ (by omega) (by omega) (by omega) (up _ _ hF') s2⟩⟩
      have hF2 := up m (-1) hF
      have s3 : SpOK (upm m 169 o (-1)) (o + 1) := spu m o (-1) hS (by omega) (by omega)
      have h21 : (o : Int) < upm m 169 o (-1) 143 1 := by rw [upm_ne (by omega)]; omega
      exact f_298 (opsF _ hF2) (hF2.tm169 hT) hd h21 (fun _ => ⟨fun _ => inner _ 0 _ (by omega) (by omega) (Nat.lt_succ_self _) hF2 (fun a ha => s3 a (by omega)), fun _ => ⟨by unfold InI; omega, ih (o + 1) _ (by omega) (by omega) hF2 s3⟩⟩)
  exact CW.of (k := 2) mt_338 rfl rfl (w_338_0 (Ex.mono S (n + 6)) (key 9 0 mem (by omega) (by omega) Fr1.rf (fun a ha => by omega)))
theorem f_337 (h : RefOK mem) (H : Fin mem K) : CWI (Ex S (n + 8)) 337 [.inr 143, .inl d] mem K := by
  refine CW.of (k := 1) mt_337 rfl rfl (w_337_0 (Ex.mono S (n + 7)) (f_253 (fun d1 d2 _ => ⟨fun _ => f_268r h ⟨d1, d2⟩ (fun m' h1 h2 hk _ _ h5 _ => ⟨fun _ => ?_, fun z => absurd (by decide) z⟩) (fun m' h1 h2 _ => ⟨fun z => absurd rfl z, fun _ _ => H.thr h1 h2 0 (by omega)⟩), fun z => absurd (by decide) z⟩) (fun _ => ⟨fun z => absurd rfl z, fun _ _ => H.thr h FrQ.rf 0 (by omega)⟩)))
  have key : ∀ (N : Nat) (r : Int) (m : MM), 1 ≤ r → (41 - r).toNat < N → RefOK m → FrQ mem m → TmOK m d → Wx (Ex S (n + 7)) S M_337 (fun r m => ∃ y, r = some y ∧ K y m) 39 [some (.inr 143), some (.inl d), some (.inl r)] [] m := by
    intro N
    induction N with
    | zero => intros; omega
    | succ N ih =>
      intro r m hr hN hm hq hT
      refine w_337_39 (Ex.mono S (n + 7)) ⟨fun _ _ => H.at hm hq _, fun q => f_338 hm.ops hT ⟨d1, d2⟩ ⟨hr, by omega⟩ (fun y m2 k2 _ v3 _ _ => ?_)⟩
      obtain ⟨g1, g2⟩ := k2.rest169 hm
      exact ⟨fun _ => ⟨by unfold InI; omega, ih (r + 1) m2 (by omega) (by omega) g1 (hq.tr g2) (k2.tm169 hT)⟩, fun _ _ => H.at g1 (hq.tr g2) _⟩
  exact key 41 1 _ (by omega) (by omega) (h1.th' (by omega)) (h2.tr FrQ.th) h5.th
theorem f_342 {a r : Int} (h : RefOK mem) (H : Fin mem K) : CWI (Ex S (n + 8)) 342 [.inr 143, .inl a, .inl d, .inl r] mem K := by
  have h8 := h.ops.1
  refine CW.of (k := 0) mt_342 rfl rfl (w_342_0 (Ex.mono S (n + 7)) (f_235 h8 (fun a1 a2 _ => ⟨fun _ => f_253 (fun d1 d2 _ => ⟨fun z => absurd z (by decide), fun _ => f_227 (fun r1 r2 _ => ⟨fun _ => f_268r h ⟨d1, d2⟩ (fun m' h1 h2 hk _ _ h5 _ => ⟨fun _ => ?_, fun z => absurd (by decide) z⟩) (fun m' h1 h2 _ => ⟨fun z => absurd rfl z, fun _ _ => H.thr h1 h2 0 (by omega)⟩), fun z => absurd (by decide) z⟩) (fun _ _ => ⟨fun z => absurd rfl z, fun _ _ => H.thr h FrQ.rf 0 (by omega)⟩)⟩) (fun _ => ⟨fun _ _ => H.thr h FrQ.rf 0 (by omega), fun z => absurd rfl z⟩), fun z => absurd (by decide) z⟩) (fun _ => ⟨fun z => absurd rfl z, fun _ _ => H.thr h FrQ.rf 0 (by omega)⟩)))
  have hm := h1.th' (z := 0) (by omega)
  refine f_338 hm.ops h5.th ⟨d1, d2⟩ ⟨r1, r2⟩ (fun y m2 k2 _ => ?_)
  obtain ⟨g1, g2⟩ := k2.rest169 hm
  exact ⟨fun _ _ => H.at g1 ((h2.tr FrQ.th).tr g2) _, fun _ => ⟨by omega, fun v _ _ _ => H.at g1 ((h2.tr FrQ.th).tr g2) _⟩⟩
/-- laysBare -/
def FrB (m m' : MM) : Prop := ∀ A i, ¬ A = 171 → ¬ A = 172 → m' A i = m A i
theorem f_360 {K : MM → Prop} (hO : OpsOK mem) (hW : ∀ a b : Nat, (a : Int) < mem 143 1 → (b : Int) < mem 143 1 → -5000 ≤ mem 158 (8 * a + b) ∧ mem 158 (8 * a + b) ≤ 5000) (H : ∀ m', FrB mem m' → K m') : CWV (Ex S (n + 2)) 360 [.inr 143, .inl d] mem K := by
  have h8 := hO.1
  have opsF : ∀ m, FrB mem m → OpsOK m := fun m h => by
    refine ⟨by rw [h 143 1 (by omega) (by omega)]; exact hO.1, fun u hu => ?_, fun i hi => by rw [h 151 i (by omega) (by omega)]; exact hO.2.2 i hi⟩
    have := hO.2.1 u hu
    unfold OpOK at this ⊢
    rw [h 144 u (by omega) (by omega), h 145 u (by omega) (by omega), h 146 u (by omega) (by omega), h 147 u (by omega) (by omega), h 148 u (by omega) (by omega)]
    exact this
  have upB : ∀ (m : MM) (A i : Nat) (x : Int), A = 171 ∨ A = 172 → FrB mem m → FrB mem (upm m A i x) := fun m A i x hA h B j e1 e2 => by rw [upm_ne (by omega)]; exact h B j e1 e2
  have i8 : ∀ a b : Nat, (8 * (a : Int) + (b : Int)).toNat = 8 * a + b := fun a b => by omega
  -- the greatest times
  have l89 : ∀ (N : Nat) (e : Int) (o : Nat) (m : MM), 0 ≤ e → e ≤ 6000 → (o : Int) ≤ mem 143 1 → (mem 143 1 - o).toNat < N → FrB mem m → Wx (Ex S (n + 1)) S M_360 (fun r m => r = none ∧ K m) 89 [some (.inr 143), some (.inl d), some (.inl e), some (.inl (o : Int)), none] [] m := by
    intro N
    induction N with
    | zero => intros; omega
    | succ N ih =>
      intro e o m he1 he2 ho hN hF
      have e1' : m 143 1 = mem 143 1 := hF _ _ (by omega) (by omega)
      refine w_360_89 (Ex.mono S (n + 1)) (fun v1 e1 _ => ⟨fun _ => ⟨rfl, H m hF⟩, fun q => f_246 (opsF m hF) ⟨by omega, by omega⟩ (fun _ => ?_)⟩)
      rw [Int.toNat_natCast]
      have hl := (opsF m hF).lat (o := o) (by omega)
      have inner : ∀ (N' : Nat) (b : Nat) (m' : MM), (b : Int) ≤ mem 143 1 → (mem 143 1 - b).toNat < N' → FrB mem m' → Wx (Ex S (n + 1)) S M_360 (fun r m => r = none ∧ K m) 113 [some (.inr 143), some (.inl d), some (.inl e), some (.inl (o : Int)), some (.inl (b : Int))] [] m' := by
        intro N'
        induction N' with
        | zero => intros; omega
        | succ N' ih2 =>
          intro b m' hb hN' hF'
          have e2' : m' 143 1 = mem 143 1 := hF' _ _ (by omega) (by omega)
          refine w_360_113 (Ex.mono S (n + 1)) (fun v1 e1 _ => ⟨fun _ => ⟨by unfold InI; omega, ih e (o + 1) m' he1 he2 (by omega) (by omega) hF'⟩, fun q2 => ⟨by unfold InI; omega, by unfold InI; omega, by omega, fun v2 e2 _ => ⟨fun _ => ⟨by unfold InI; omega, ih2 (b + 1) m' (by omega) (by omega) hF'⟩, fun _ => ⟨by omega, fun v3 _ _ => f_246 (opsF m' hF') ⟨by omega, by omega⟩ (fun _ => ?_)⟩⟩⟩⟩)
          rw [Int.toNat_natCast]
          have hlb := (opsF m' hF').lat (o := b) (by omega)
          refine ⟨by unfold InI; omega, by unfold InI; omega, by unfold InI; omega, by omega, fun v6 e6 _ => ?_⟩
          rw [i8, hF' _ _ (by omega) (by omega)] at e6
          have hw := hW o b (by omega) (by omega)
          exact ⟨by unfold InI; omega, f_258 (fun _ _ => ⟨by omega, by unfold InI; omega, ih2 (b + 1) _ (by omega) (by omega) (upB _ _ _ _ (Or.inr rfl) hF')⟩)⟩
      exact ⟨by unfold InI; omega, by omega, inner 9 0 _ (by omega) (by omega) (upB _ _ _ _ (Or.inr rfl) hF)⟩
  -- the least times
  have l4 : ∀ (N : Nat) (e : Int) (o : Nat) (m : MM), 0 ≤ e → e ≤ 5006 → (o : Int) ≤ mem 143 1 → (mem 143 1 - o).toNat < N → FrB mem m → Wx (Ex S (n + 1)) S M_360 (fun r m => r = none ∧ K m) 4 [some (.inr 143), some (.inl d), some (.inl e), some (.inl (o : Int)), none] [] m := by
    intro N
    induction N with
    | zero => intros; omega
    | succ N ih =>
      intro e o m he1 he2 ho hN hF
      have e1' : m 143 1 = mem 143 1 := hF _ _ (by omega) (by omega)
      refine w_360_4 (Ex.mono S (n + 1)) (fun v1 e1 _ => ⟨fun _ => l89 9 e 0 m he1 (by omega) (by omega) (by omega) hF, fun q => ⟨by omega, ?_⟩⟩)
      rw [Int.toNat_natCast]
      have inner : ∀ (N' : Nat) (a : Nat) (m' : MM), (a : Int) ≤ mem 143 1 → (mem 143 1 - a).toNat < N' → FrB mem m' → 0 ≤ m' 171 o → m' 171 o ≤ 5000 → Wx (Ex S (n + 1)) S M_360 (fun r m => r = none ∧ K m) 22 [some (.inr 143), some (.inl d), some (.inl e), some (.inl (o : Int)), some (.inl (a : Int))] [] m' := by
        intro N'
        induction N' with
        | zero => intros; omega
        | succ N' ih2 =>
          intro a m' ha hN' hF' s1 s2
          have e2' : m' 143 1 = mem 143 1 := hF' _ _ (by omega) (by omega)
          refine w_360_22 (Ex.mono S (n + 1)) (fun v1 e1 _ => ⟨fun q2 => ⟨by omega, fun v2 e2 _ => f_246 (opsF m' hF') ⟨by omega, by omega⟩ (fun _ => ?_)⟩, fun q2 => ⟨by omega, fun v7 e7 _ => ⟨by unfold InI; omega, by unfold InI; omega, by omega, fun v8 e8 _ => f_257 (fun _ _ => ⟨by omega, by unfold InI; omega, ?_⟩)⟩⟩⟩)
          · rw [Int.toNat_natCast] at e2 ⊢
            have hl := (opsF m' hF').lat (o := o) (by omega)
            exact ⟨by unfold InI; omega, f_257 (fun _ _ => ⟨by unfold InI; omega, ih _ (o + 1) m' (by omega) (by omega) (by omega) (by omega) hF'⟩)⟩
          · rw [Int.toNat_natCast] at e7 ⊢
            rw [i8, hF' _ _ (by omega) (by omega)] at e8
            have hw := hW a o (by omega) (by omega)
            exact ih2 (a + 1) _ (by omega) (by omega) (upB _ _ _ _ (Or.inl rfl) hF') (by rw [upm_eq]; omega) (by rw [upm_eq]; omega)
      exact inner 9 0 _ (by omega) (by omega) (upB _ _ _ _ (Or.inl rfl) hF) (by rw [upm_eq]; omega) (by rw [upm_eq]; omega)
  exact CW.of (k := 3) mt_360 rfl rfl (w_360_0 (Ex.mono S (n + 1)) (l4 9 0 0 mem (by omega) (by omega) (by omega) (by omega) (fun _ _ _ _ => rfl)))
theorem FrB.rest {m m' : MM} (e : FrB m m') (h : RefOK m) : RefOK m' ∧ FrQ m m' :=
  ⟨Kp.rest (fun A i q => e A i (by omega) (by omega)) h (fun o ho => by rw [e _ _ (by omega) (by omega)]; exact h.sl o ho) (fun j hj => by rw [e _ _ (by omega) (by omega), e _ _ (by omega) (by omega), e _ _ (by omega) (by omega), e _ _ (by omega) (by omega)]; exact h.r48 j hj) (by rw [e _ _ (by omega) (by omega)]; exact h.nd), fun A i q => e A i (by omega) (by omega)⟩
theorem f_359 {a x : Int} (h : RefOK mem) (H : Fin mem K) : CWI (Ex S (n + 5)) 359 [.inr 143, .inl a, .inl d, .inl x] mem K := by
  have h8 := h.ops.1
  refine CW.of (k := 0) mt_359 rfl rfl (w_359_0 (Ex.mono S (n + 4)) (f_235 h8 (fun a1 a2 _ => ⟨fun _ => f_253 (fun d1 d2 _ => ⟨fun _ => f_254r h (fun m' h1 h2 _ => ⟨fun z => absurd z (by decide), fun _ _ => H.thr h1 h2 0 (by omega)⟩) (fun m' h1 h2 hk hN _ => ⟨fun _ => ?_, fun z => absurd rfl z⟩), fun z => absurd (by decide) z⟩) (fun _ => ⟨fun z => absurd rfl z, fun _ _ => H.thr h FrQ.rf 0 (by omega)⟩), fun z => absurd (by decide) z⟩) (fun _ => ⟨fun z => absurd rfl z, fun _ _ => H.thr h FrQ.rf 0 (by omega)⟩)))
  refine f_256 hN.th ⟨by omega, by omega⟩ (fun m2 k2 hW => ?_)
  obtain ⟨g1, g2⟩ := k2.rest158 (h1.th' (z := 0) (by omega))
  refine f_360 g1.ops (fun u w hu hw => hW.1 u w (by omega) (by omega)) (fun m3 k3 => ?_)
  obtain ⟨q1, q2⟩ := k3.rest g1
  exact ⟨fun _ => ⟨by omega, fun v _ _ _ => H.at q1 (((h2.tr FrQ.th).tr g2).tr q2) _⟩, fun _ => ⟨by omega, fun v _ _ _ => H.at q1 (((h2.tr FrQ.th).tr g2).tr q2) _⟩⟩
end TURN
