section
/-! runs of the reference: cycle by cycle, and plain -/
def FrU (m m' : MM) : Prop := ∀ A i, ¬ (165 ≤ A ∧ A ≤ 168) → m' A i = m A i
theorem FrU.rf {m : MM} : FrU m m := fun _ _ _ => rfl
theorem FrU.tr {a b c : MM} (h1 : FrU a b) (h2 : FrU b c) : FrU a c := fun A i e => (h2 A i e).trans (h1 A i e)
theorem FrU.up {m : MM} {A i : Nat} {x : Int} (h : 165 ≤ A ∧ A ≤ 168) : FrU m (upm m A i x) := fun B j e => upm_ne (by omega)
theorem FrU.ops {m m' : MM} (k : FrU m m') (h : OpsOK m) : OpsOK m' := by
  refine ⟨by rw [k 143 1 (by omega)]; exact h.1, fun o ho => ?_, fun i hi => by rw [k 151 i (by omega)]; exact h.2.2 i hi⟩
  have := h.2.1 o ho
  unfold OpOK at this ⊢
  rw [k 144 o (by omega), k 145 o (by omega), k 146 o (by omega), k 147 o (by omega), k 148 o (by omega)]
  exact this
theorem FrU.snd {m m' : MM} (k : FrU m m') (h : SoundM m) : SoundM m' := by
  have e : ∀ A i, (143 < A ∧ A < 154) ∨ (A = 143 ∧ i = 1) → m' A i = m A i := fun A i q => k A i (by omega)
  intro o ho q h1 h2
  rw [e 143 1 (by omega)] at ho
  have e1 : srcN m' o = srcN m o := by unfold srcN; rw [e 144 o (by omega)]
  have e2 : srcA m' o q = srcA m o q := by unfold srcA; rw [e 145 o (by omega), e 147 o (by omega)]
  have e3 : srcB m' o q = srcB m o q := by unfold srcB; rw [e 146 o (by omega), e 148 o (by omega)]
  have := h o ho q h1 (by omega)
  unfold SrcS at this ⊢
  rw [e2, e3, e 143 1 (by omega), e 144 _ (by omega)]
  exact this
theorem FrU.tm {m m' : MM} {d : Int} (k : FrU m m') (h : TmOK m d) : TmOK m' d := fun o ho => by
  rw [k 143 1 (by omega)] at ho
  rw [k 161 o (by omega)]; exact h o ho
theorem FrU.rest {m m' : MM} (e : FrU m m') (h : RefOK m) (hp : ∀ o, o < 8 → 0 ≤ m' 168 o ∧ m' 168 o ≤ 45) : RefOK m' := by
  refine ⟨e.ops h.ops, fun k hk => ?_, fun k hk => ?_, fun k hk => ?_, fun k hk => ?_, fun k hk => ?_, fun k hk => ?_, ?_, fun k hk => ?_, ?_, ?_, hp⟩
  · rw [e _ _ (by omega)]; exact h.un k hk
  · rw [e _ _ (by omega)]; exact h.bz k hk
  · rw [e _ _ (by omega)]; exact h.cn k hk
  · rw [e _ _ (by omega)]; exact h.fi k hk
  · rw [e _ _ (by omega), e _ _ (by omega)]; exact h.ab k hk
  · rw [e _ _ (by omega)]; exact h.sl k hk
  · rw [e _ _ (by omega)]; exact h.lo
  · rw [e _ _ (by omega), e _ _ (by omega), e _ _ (by omega), e _ _ (by omega)]; exact h.r48 k hk
  · rw [e _ _ (by omega)]; exact h.nd
  · rw [e _ _ (by omega)]; exact h.th
theorem FrU.q {m m' : MM} (e : FrU m m') : FrQ m m' := fun A i q => e A i (by omega)
def PrOK (m : MM) (k : Int) : Prop := ∀ o : Nat, (o : Int) < k → ¬ m 144 o = 5 → 1 ≤ m 168 o ∧ m 168 o ≤ 45
def FrV (m m' : MM) : Prop := ∀ A i, ¬ (165 ≤ A ∧ A ≤ 167) → m' A i = m A i
theorem FrV.rf {m : MM} : FrV m m := fun _ _ _ => rfl
theorem FrV.tr {a b c : MM} (h1 : FrV a b) (h2 : FrV b c) : FrV a c := fun A i e => (h2 A i e).trans (h1 A i e)
theorem FrV.up {m : MM} {A i : Nat} {x : Int} (h : 165 ≤ A ∧ A ≤ 167) : FrV m (upm m A i x) := fun B j e => upm_ne (by omega)
theorem FrV.u {m m' : MM} (e : FrV m m') : FrU m m' := fun A i q => e A i (by omega)
theorem FrV.pr {m m' : MM} {k : Int} (e : FrV m m') (h : PrOK m k) : PrOK m' k := fun o ho q => by
  rw [e 144 o (by omega)] at q
  rw [e 168 o (by omega)]; exact h o ho q
theorem OpsOK.row {m : MM} (h : OpsOK m) {o : Nat} (ho : o < 8) (q : m 144 o = 4 ∨ m 144 o = 5) : (0 ≤ rowF m o ∧ rowF m o ≤ 1) ∧ 0 ≤ plcF m o ∧ plcF m o ≤ 7 := by
  obtain ⟨-, -, -, h4, h5⟩ := h.2.1 o ho
  unfold rowF plcF
  by_cases e : m 144 o = 4
  · rw [if_pos e, if_pos e]; have := h4 e; omega
  · rw [if_neg e, if_neg e]; have := h5 (by omega); omega
def turnF (c b d t : Int) : Int := if c - b < 0 then -1 else if ¬ (c - b).tmod d = 0 then -1 else if t ≤ (c - b).tdiv d then -1 else (c - b).tdiv d
theorem turnF_rng {c b d t : Int} (hd : 0 < d) (h : ¬ turnF c b d t = -1) : 0 ≤ turnF c b d t ∧ turnF c b d t < t := by
  unfold turnF at h ⊢
  split at h
  · omega
  · rename_i h1
    split at h
    · omega
    · rename_i h2
      split at h
      · omega
      · rename_i h3
        rw [if_neg h1, if_neg h2, if_neg h3]
        have := (tdiv_r (show 0 ≤ c - b by omega) hd).1
        omega
section RUNS
variable {S : Nat × (Nat → Int32)} {n : Nat} {mem : MM} {K : Int → MM → Prop} {d : Int}
theorem f_309 {x : Int} (H1 : 0 ≤ x → x ≤ 40 → K 1 mem) (H0 : K 0 mem) : CWI (Ex S (n + 2)) 309 [.inl x] mem K :=
  CW.of (k := 0) mt_309 rfl rfl (w_309_0 (Ex.mono S (n + 1)) (f_227 (fun a b _ => ⟨Or.inr rfl, _, rfl, H1 a b⟩) (fun _ _ => ⟨Or.inl rfl, _, rfl, H0⟩)))
theorem f_316 {a b : Int} (H1 : 0 ≤ a → a ≤ 1 → 0 ≤ b → b ≤ 63 → K 1 mem) (H0 : K 0 mem) : CWI (Ex S (n + 2)) 316 [.inl a, .inl b] mem K := by
  have h0 : ∃ y, some (0 : Int) = some y ∧ K y mem := ⟨_, rfl, H0⟩
  exact CW.of (k := 0) mt_316 rfl rfl (w_316_0 (Ex.mono S (n + 1)) (f_227 (fun a1 a2 _ => ⟨fun z => absurd z (by decide), fun _ => f_227 (fun b1 b2 _ => ⟨fun z => absurd z (by decide), fun _ => ⟨_, rfl, H1 a1 a2 b1 b2⟩⟩) (fun _ _ => ⟨fun _ => h0, fun z => absurd rfl z⟩)⟩) (fun _ _ => ⟨fun _ => h0, fun z => absurd rfl z⟩)))
theorem f_311 {x : Int} (h : RefOK mem) (H0 : ∀ m', 1 ≤ d → d ≤ 12 → 0 ≤ x → x ≤ 40 → RefOK m' → FrQ mem m' → Kp mem m' → SoundM m' → TmOK m' d → K 0 m') (H1 : ∀ r m', 1 ≤ r → r ≤ 2 → RefOK m' → FrQ mem m' → K r m') : CWI (Ex S (n + 6)) 311 [.inr 143, .inl d, .inl x] mem K := by
  refine CW.of (k := 0) mt_311 rfl rfl (w_311_0 (Ex.mono S (n + 5)) (f_253 (fun d1 d2 _ => ⟨fun z => absurd z (by decide), fun _ => f_309 (fun x1 x2 _ => ⟨fun _ => f_268r h ⟨d1, d2⟩ (fun m' h1 h2 hk h3 h4 h5 _ => ⟨fun _ _ => ⟨_, rfl, H0 m' d1 d2 x1 x2 h1 h2 hk h3 h5⟩, fun z => absurd (by decide) z⟩) (fun m' h1 h2 _ => ⟨fun z => absurd rfl z, fun _ _ => ⟨_, rfl, H1 _ _ (by omega) (by omega) h1 h2⟩⟩), fun z => absurd (by decide) z⟩) (fun _ => ⟨fun z => absurd rfl z, fun _ _ => ⟨_, rfl, H1 _ _ (by omega) (by omega) h FrQ.rf⟩⟩)⟩) (fun _ => ⟨fun _ _ => ⟨_, rfl, H1 _ _ (by omega) (by omega) h FrQ.rf⟩, fun z => absurd rfl z⟩)))
theorem f_313 {x : Int} (hO : OpsOK mem) (hd : 1 ≤ d ∧ d ≤ 12) (hx : 0 ≤ x ∧ x ≤ 40) (hT : TmOK mem d) (H : ∀ r, 0 ≤ r → r ≤ 700 → K r mem) : CWI (Ex S (n + 3)) 313 [.inr 143, .inl d, .inl x] mem K := by
  refine CW.of (k := 0) mt_313 rfl rfl (w_313_0 (Ex.mono S (n + 2)) ⟨fun q => ?_, fun q _ => ⟨_, rfl, H 0 (by omega) (by omega)⟩⟩)
  have p : 0 ≤ d * (x - 1) ∧ d * (x - 1) ≤ 468 := by
    have a1 : 0 ≤ d * (x - 1) := Int.mul_nonneg (by omega) (by omega)
    have a2 : d * (x - 1) ≤ 12 * (x - 1) := Int.mul_le_mul_of_nonneg_right hd.2 (by omega)
    omega
  exact ⟨by unfold InI; omega, by unfold InI; omega, f_300 hO hd hT (fun r r1 r2 _ _ => ⟨by unfold InI; omega, fun _ => ⟨_, rfl, H _ (by omega) (by omega)⟩⟩)⟩
theorem f_318 {K : MM → Prop} (H : ∀ m', Fr1 165 mem m' → K m') : CWV (Ex S (n + 1)) 318 [.inr 143] mem K := by
  have key : ∀ (N : Nat) (k : Int) (m : MM), 0 ≤ k → (64 - k).toNat < N → Fr1 165 mem m → Wx (Ex S n) S M_318 (fun r m => r = none ∧ K m) 2 [some (.inr 143), some (.inl k)] [] m := by
    intro N
    induction N with
    | zero => intros; omega
    | succ N ih =>
      intro k m hk hN hF
      refine w_318_2 (Ex.mono S n) ⟨fun _ => ⟨rfl, H m hF⟩, fun q => ⟨by unfold InI; omega, by unfold InI; omega, by omega, by unfold InI; omega, by unfold InI; omega, by unfold InI; omega, by omega, by unfold InI; omega, ih (k + 1) _ (by omega) (by omega) (fun A i e => ?_)⟩⟩
      rw [upm_ne (fun z => e z.1), upm_ne (fun z => e z.1)]; exact hF A i e
  exact CW.of (k := 1) mt_318 rfl rfl (w_318_0 (Ex.mono S n) (key 65 0 mem (by omega) (by omega) Fr1.rf))
theorem f_321 {o t p : Int} (ho : 0 ≤ o ∧ o < 8) (hp : 1 ≤ p ∧ p ≤ 45) (H : ∀ r, 0 ≤ r → r < 640 → K r mem) : CWI (Ex S (n + 2)) 321 [.inr 143, .inl o, .inl t, .inl p] mem K :=
  CW.of (k := 0) mt_321 rfl rfl (w_321_0 (Ex.mono S (n + 1)) ⟨by unfold InI; omega, f_272 ⟨by omega, by omega⟩ (fun r r1 r2 _ => ⟨by unfold InI; omega, fun _ => ⟨_, rfl, H _ (by omega) (by omega)⟩⟩)⟩)
theorem f_324 {k a b : Int} (H : ∀ r, K r mem) : CWI (Ex S (n + 2)) 324 [.inl k, .inl a, .inl b] mem K :=
  CW.of (k := 0) mt_324 rfl rfl (w_324_0 (Ex.mono S (n + 1)) ⟨fun _ => ⟨fun _ => ⟨fun _ => f_258 (fun _ _ _ => ⟨_, rfl, H _⟩), fun _ z _ _ _ => ⟨_, rfl, H _⟩⟩, fun _ z _ _ _ => ⟨_, rfl, H _⟩⟩, fun _ z _ _ _ => ⟨_, rfl, H _⟩⟩)
theorem f_323 (hO : OpsOK mem) (hS : SoundM mem) (hP : PrOK mem (mem 143 1)) {o : Nat} {k t : Int} (ho : (o : Int) < mem 143 1) (hk : 0 ≤ k ∧ k < srcN mem o) (ht : 0 ≤ t ∧ t ≤ 40) (H : ∀ r, K r mem) : CWI (Ex S (n + 3)) 323 [.inr 143, .inl (o : Int), .inl k, .inl t] mem K := by
  have h8 := hO.1
  have ho8 : 0 ≤ (o : Int) ∧ (o : Int) < 8 := by omega
  have hs := hO.src (o := o) (by omega) hk.1 hk.2
  have hss := hS o ho k hk.1 hk.2
  refine CW.of (k := 1) mt_323 rfl rfl (w_323_0 (Ex.mono S (n + 2)) (f_242 ho8 (fun _ => ?_)))
  rw [Int.toNat_natCast]
  refine ⟨fun q1 => ⟨fun q2 => f_243 ho8 (fun _ => ?_), fun q2 => f_243 ho8 (fun _ _ => ⟨_, rfl, H _⟩)⟩, fun q1 _ => ⟨_, rfl, H _⟩⟩
  rw [Int.toNat_natCast]
  unfold srcOK at hs
  unfold SrcS at hss
  have hp := hP (srcA mem o k).toNat (by omega) (by omega)
  exact ⟨by unfold InI; omega, by omega, fun v5 e5 _ => f_321 ⟨by omega, by omega⟩ ⟨by omega, by omega⟩ (fun r r1 r2 _ => ⟨⟨r1, r2⟩, fun v8 _ _ _ => ⟨_, rfl, H _⟩⟩)⟩
theorem f_322 (hO : OpsOK mem) (hS : SoundM mem) (hP : PrOK mem (mem 143 1)) {o : Nat} {t : Int} (ho : (o : Int) < mem 143 1) (ht : 0 ≤ t ∧ t ≤ 39) (H : ∀ r, K r mem) : CWI (Ex S (n + 4)) 322 [.inr 143, .inl (o : Int), .inl t] mem K := by
  have h8 := hO.1
  have ho8 : 0 ≤ (o : Int) ∧ (o : Int) < 8 := by omega
  refine CW.of (k := 0) mt_322 rfl rfl (w_322_0 (Ex.mono S (n + 3)) ⟨ho8, fun v1 e1 _ => ⟨fun q1 => ⟨ho8, fun v2 e2 _ => ⟨fun q2 => ⟨ho8, fun v3 e3 _ => ?_⟩, fun q2 => ?_⟩⟩, fun q1 => ?_⟩⟩)
  · rw [Int.toNat_natCast] at e1 e2
    have hn : srcN mem o = 2 := by unfold srcN; rw [if_neg (by omega), if_neg (by omega)]
    exact f_323 hO hS hP ho ⟨by omega, by omega⟩ ⟨by omega, by omega⟩ (fun r _ => f_323 hO hS hP ho ⟨by omega, by omega⟩ ⟨by omega, by omega⟩ (fun r2 _ => f_324 (fun r3 _ _ => ⟨_, rfl, H _⟩)))
  · rw [Int.toNat_natCast] at e1 e2
    have hn : srcN mem o = 1 := by unfold srcN; rw [if_neg (by omega), if_pos (by omega)]
    exact f_323 hO hS hP ho ⟨by omega, by omega⟩ ⟨by omega, by omega⟩ (fun r _ _ => ⟨_, rfl, H _⟩)
  · rw [Int.toNat_natCast] at e1
    have hr := hO.row (o := o) (by omega) (Or.inl (by omega))
    refine f_250 ho8 (fun _ => ⟨?_, ?_, f_251 ho8 (fun _ => ⟨?_, ?_, fun v _ _ _ => ⟨_, rfl, H _⟩⟩)⟩) <;> (simp only [Int.toNat_natCast]; try unfold InI) <;> omega
theorem f_320 {K : MM → Prop} (hO : OpsOK mem) (hP : PrOK mem (mem 143 1)) {o : Nat} {t : Int} (ho : (o : Int) < mem 143 1) (ht : 0 ≤ t ∧ t ≤ 39) (H : ∀ m', FrV mem m' → K m') : CWV (Ex S (n + 3)) 320 [.inr 143, .inl (o : Int), .inl t] mem K := by
  have h8 := hO.1
  have ho8 : 0 ≤ (o : Int) ∧ (o : Int) < 8 := by omega
  refine CW.of (k := 1) mt_320 rfl rfl (w_320_0 (Ex.mono S (n + 2)) ⟨by unfold InI; omega, by unfold InI; omega, by omega, fun v1 e1 _ => ⟨ho8, fun v2 e2 _ => ⟨fun q => ⟨ho8, fun v3 e3 _ => ?_⟩, fun q => ?_⟩⟩⟩)
  · rw [Int.toNat_natCast] at e2 e3
    have hp := hP o ho (by omega)
    exact f_321 ho8 ⟨by omega, by omega⟩ (fun r r1 r2 _ => ⟨⟨r1, r2⟩, rfl, H _ (FrV.up (by omega))⟩)
  · rw [Int.toNat_natCast] at e2
    have hr := hO.row (o := o) (by omega) (Or.inr (by omega))
    refine f_250 ho8 (fun _ => ⟨?_, ?_, f_251 ho8 (fun _ => ⟨?_, ?_, rfl, H _ (FrV.up (by omega))⟩)⟩) <;> (simp only [Int.toNat_natCast]; try unfold InI) <;> omega
theorem f_319d {c b t : Int} (hd : 0 < d) (h : InI (c - b)) (H : K (turnF c b d t) mem) : CWI (Ex S (n + 1)) 319 [.inl c, .inl b, .inl d, .inl t] mem K := by
  refine CW.of (k := 1) mt_319 rfl rfl (w_319_0 (Ex.mono S n) ⟨h, fun q _ => ⟨_, rfl, ?_⟩, fun q => ⟨hd, fun q2 _ => ⟨_, rfl, ?_⟩, fun q2 => ⟨hd, fun q3 _ => ⟨_, rfl, ?_⟩, fun q3 => ⟨hd, fun _ => ⟨_, rfl, ?_⟩⟩⟩⟩⟩)
  · unfold turnF at H; rw [if_pos q] at H; exact H
  · unfold turnF at H; rw [if_neg q, if_pos q2] at H; exact H
  · unfold turnF at H; rw [if_neg q, if_neg q2, if_pos q3] at H; exact H
  · unfold turnF at H; rw [if_neg q, if_neg q2, if_neg q3] at H; exact H
theorem rn_75 {m0 : MM} {x e : Int} (hO : OpsOK m0) (hS : SoundM m0) (hT : TmOK m0 d) (hP : PrOK m0 (m0 143 1)) (hd : 1 ≤ d ∧ d ≤ 12) (hx : 0 ≤ x ∧ x ≤ 40) (he : e ≤ 100000) {Kk : WK} (H : ∀ m', FrV m0 m' → Kk none m') : ∀ (N : Nat) (c : Int) (mem : MM), 0 ≤ c → (e + 1 - c).toNat < N → FrV m0 mem → Wx (Ex S (n + 4)) S M_317 Kk 75 [some (.inr 143), some (.inl d), some (.inl x), some (.inl e), some (.inl c), none] [] mem := by
  have h8 := hO.1
  intro N
  induction N with
  | zero => intros; omega
  | succ N ih =>
    intro c mem hc hN hF
    refine w_317_75 (Ex.mono S (n + 4)) ⟨fun _ => H mem hF, fun q => ?_⟩
    have lp2 : ∀ (N' : Nat) (o : Nat) (m : MM), (o : Int) ≤ m0 143 1 → (m0 143 1 - o).toNat < N' → FrV m0 m → Wx (Ex S (n + 4)) S M_317 Kk 138 [some (.inr 143), some (.inl d), some (.inl x), some (.inl e), some (.inl c), some (.inl (o : Int))] [] m := by
      intro N'
      induction N' with
      | zero => intros; omega
      | succ N' ih2 =>
        intro o m ho hN' hF
        have hO' := hF.u.ops hO
        have hT' := hF.u.tm hT
        have hS' := hF.u.snd hS
        have e1' : m 143 1 = m0 143 1 := hF _ _ (by omega)
        have hP' : PrOK m (m 143 1) := by rw [e1']; exact hF.pr hP
        refine w_317_138 (Ex.mono S (n + 4)) (fun v1 e1 _ => ⟨fun z => ⟨by unfold InI; omega, ih (c + 1) m (by omega) (by omega) hF⟩, fun z => ⟨by omega, fun v2 e2 _ => ?_⟩⟩)
        rw [Int.toNat_natCast] at e2
        have ht := hT' o (by omega)
        refine f_319d (by omega) (by unfold InI; omega) (fun _ => ⟨fun _ => ⟨by unfold InI; omega, ih2 (o + 1) m (by omega) (by omega) hF⟩, fun z2 => ⟨by unfold InI; omega, by omega, fun v5 e5 _ => ?_⟩⟩)
        have e5' : v5 = v2 := by rw [e5, Int.toNat_natCast, e2]
        subst e5'
        have hr := turnF_rng (by omega) z2
        refine f_319d (by omega) (by unfold InI; omega) (fun _ => ⟨by unfold InI; omega, by omega, fun v8 e8 _ => ?_⟩)
        have e8' : v8 = v5 := by rw [e8, Int.toNat_natCast, e2]
        subst e8'
        refine f_319d (by omega) (by unfold InI; omega) (fun _ => f_322 hO' hS' hP' (by omega) ⟨hr.1, by omega⟩ (fun r _ => ⟨by omega, by unfold InI; omega, ih2 (o + 1) _ (by omega) (by omega) (hF.tr (FrV.up (by omega)))⟩))
    have lp1 : ∀ (N' : Nat) (o : Nat) (m : MM), (o : Int) ≤ m0 143 1 → (m0 143 1 - o).toNat < N' → FrV m0 m → Wx (Ex S (n + 4)) S M_317 Kk 84 [some (.inr 143), some (.inl d), some (.inl x), some (.inl e), some (.inl c), some (.inl (o : Int))] [] m := by
      intro N'
      induction N' with
      | zero => intros; omega
      | succ N' ih2 =>
        intro o m ho hN' hF
        have hO' := hF.u.ops hO
        have hT' := hF.u.tm hT
        have e1' : m 143 1 = m0 143 1 := hF _ _ (by omega)
        have hP' : PrOK m (m 143 1) := by rw [e1']; exact hF.pr hP
        refine w_317_84 (Ex.mono S (n + 4)) (fun v1 e1 _ => ⟨fun z => lp2 9 0 m (by omega) (by omega) hF, fun z => ?_⟩)
        have ht := hT' o (by omega)
        have hl := hO'.lat (o := o) (by omega)
        have ht2 : -1000000 ≤ m 161 (Int.toNat (o : Int)) ∧ m 161 (Int.toNat (o : Int)) ≤ 1000000 := by rw [Int.toNat_natCast]; omega
        refine f_299 hO' ⟨by omega, by omega⟩ ht2 (fun _ => ?_)
        rw [Int.toNat_natCast]
        refine f_319d (by omega) (by unfold InI; omega) (fun _ => ⟨fun _ => ⟨by unfold InI; omega, ih2 (o + 1) m (by omega) (by omega) hF⟩, fun z2 => ?_⟩)
        have hr := turnF_rng (by omega) z2
        refine f_299 hO' ⟨by omega, by omega⟩ ht2 (fun _ => ?_)
        rw [Int.toNat_natCast]
        refine f_319d (by omega) (by unfold InI; omega) (fun _ => f_320 hO' hP' (by omega) ⟨hr.1, by omega⟩ (fun m' k => ⟨by unfold InI; omega, ih2 (o + 1) _ (by omega) (by omega) (hF.tr k)⟩))
    exact lp1 9 0 mem (by omega) (by omega) hF
theorem f_317 {K : MM → Prop} {x e : Int} (h : RefOK mem) (hS : SoundM mem) (hT : TmOK mem d) (hd : 1 ≤ d ∧ d ≤ 12) (hx : 0 ≤ x ∧ x ≤ 40) (he : e ≤ 100000) (H : ∀ m', RefOK m' → FrQ mem m' → K m') : CWV (Ex S (n + 7)) 317 [.inr 143, .inl d, .inl x, .inl e] mem K := by
  refine CW.of (k := 2) mt_317 rfl rfl (w_317_0 (Ex.mono S (n + 6)) (f_318 (fun m1 k1 => ?_)))
  have hO := h.ops
  have h8 := hO.1
  have k1u : FrU mem m1 := fun A i q => k1 A i (by omega)
  have key : ∀ (N : Nat) (o : Nat) (m : MM), (o : Int) ≤ mem 143 1 → (mem 143 1 - o).toNat < N → FrU mem m → (∀ u, u < 8 → 0 ≤ m 168 u ∧ m 168 u ≤ 45) → PrOK m (o : Int) → Wx (Ex S (n + 6)) S M_317 (fun r m => r = none ∧ K m) 7 [some (.inr 143), some (.inl d), some (.inl x), some (.inl e), some (.inl (o : Int)), none] [] m := by
    intro N
    induction N with
    | zero => intros; omega
    | succ N ih =>
      intro o m ho hN hF hp hP
      have e1' : m 143 1 = mem 143 1 := hF _ _ (by omega)
      refine w_317_7 (Ex.mono S (n + 6)) (fun v1 e1 _ => ⟨fun z => ?_, fun z => f_295 (hF.ops hO) (hF.tm hT) hd (by omega) (fun r r1 r2 r3 _ => ⟨by omega, ?_⟩)⟩)
      · refine rn_75 (n := n + 2) (m0 := m) (hF.ops hO) (hF.snd hS) (hF.tm hT) (fun u hu => hP u (by omega)) hd hx he (fun m' k => ⟨rfl, H m' ((hF.tr k.u).rest h (fun u hu => ?_)) (hF.tr k.u).q⟩) _ 0 m (by omega) (Nat.lt_succ_self _) FrV.rf
        rw [k 168 u (by omega)]; exact hp u hu
      · rw [Int.toNat_natCast]
        have fill : ∀ (N' : Nat) (k : Int) (m' : MM), 0 ≤ k → (80 - k).toNat < N' → FrU mem m' → (∀ u, u < 8 → 0 ≤ m' 168 u ∧ m' 168 u ≤ 45) → PrOK m' ((o : Int) + 1) → Wx (Ex S (n + 6)) S M_317 (fun r m => r = none ∧ K m) 33 [some (.inr 143), some (.inl d), some (.inl x), some (.inl e), some (.inl (o : Int)), some (.inl k)] [] m' := by
          intro N'
          induction N' with
          | zero => intros; omega
          | succ N' ih2 =>
            intro k m' hk hN' hF' hp' hP'
            refine w_317_33 (Ex.mono S (n + 6)) ⟨fun _ => ⟨by unfold InI; omega, ih (o + 1) m' (by omega) (by omega) hF' hp' hP'⟩, fun q => ⟨by unfold InI; omega, by unfold InI; omega, by omega, fun v _ _ => ⟨by omega, by unfold InI; omega, ih2 (k + 1) _ (by omega) (by omega) (hF'.tr (FrU.up (by omega))) (fun u hu => by rw [upm_ne (by omega)]; exact hp' u hu) (fun u hu q2 => ?_)⟩⟩⟩
            rw [upm_ne (by omega)] at q2 ⊢
            exact hP' u hu q2
        have q : ∀ u, upm m 168 o r 168 u = if u = o then r else m 168 u := fun u => by
          by_cases e : u = o
          · subst e; rw [upm_eq, if_pos rfl]
          · rw [upm_ne (fun z => e z.2), if_neg e]
        refine fill 81 0 _ (by omega) (by omega) (hF.tr (FrU.up (by omega))) (fun u hu => ?_) (fun u hu q2 => ?_)
        · rw [q]
          split
          · omega
          · exact hp u hu
        · rw [upm_ne (by omega)] at q2
          rw [q]
          split
          · rename_i e; subst e; have := r3 q2; omega
          · exact hP u (by omega) q2
  exact key 9 0 m1 (by omega) (by omega) k1u (fun u hu => by rw [k1 168 u (by omega)]; exact h.pa u hu) (fun u hu => by omega)
theorem f_315 {a b x : Int} (h : RefOK mem) (H : Fin mem K) : CWI (Ex S (n + 8)) 315 [.inr 143, .inl a, .inl b, .inl d, .inl x] mem K := by
  refine CW.of (k := 0) mt_315 rfl rfl (w_315_0 (Ex.mono S (n + 7)) (f_316 (fun a1 a2 b1 b2 _ => ⟨fun _ => f_311 h (fun m' d1 d2 x1 x2 h1 h2 hk h3 h5 _ => ⟨fun _ => ?_, fun z => absurd (by decide) z⟩) (fun r m' r1 r2 h1 h2 _ => ⟨fun z => by omega, fun _ _ => H.thr h1 h2 0 (by omega)⟩), fun z => absurd (by decide) z⟩) (fun _ => ⟨fun z => absurd rfl z, fun _ _ => H.thr h FrQ.rf 0 (by omega)⟩)))
  have hm := h1.th' (z := 0) (by omega)
  have hq := h2.tr (FrQ.th (z := 0))
  refine f_313 hm.ops ⟨d1, d2⟩ ⟨x1, x2⟩ h5.th (fun r r1 r2 _ => f_317 hm h3.th h5.th ⟨d1, d2⟩ ⟨x1, x2⟩ (by omega) (fun m8 k1 k2 => ⟨by unfold InI; omega, by unfold InI; omega, by omega, fun v _ _ _ => H.at k1 (hq.tr k2) _⟩))
theorem f_325 {a x : Int} (h : RefOK mem) (H : Fin mem K) : CWI (Ex S (n + 8)) 325 [.inr 143, .inl a, .inl d, .inl x] mem K := by
  have h8 := h.ops.1
  have h' := h.th' (z := 0) (by omega)
  refine CW.of (k := 1) mt_325 rfl rfl (w_325_0 (Ex.mono S (n + 7)) (f_235 h8 (fun a1 a2 _ => ⟨fun _ => ⟨by omega, fun v3 e3 _ => ⟨fun _ => f_311 h' (fun m' d1 d2 x1 x2 h1 h2 hk h3 h5 _ => ⟨fun _ => ?_, fun z => absurd (by decide) z⟩) (fun r m' r1 r2 h1 h2 _ => ⟨fun z => by omega, fun _ => ⟨by unfold InI; omega, fun v13 e13 _ => ⟨fun z => ?_, fun _ _ => H.thr h1 (FrQ.th.tr h2) 0 (by omega)⟩⟩⟩), fun _ _ => H.thr h FrQ.rf 0 (by omega)⟩⟩, fun z => absurd (by decide) z⟩) (fun _ => ⟨fun z => absurd rfl z, fun _ _ => H.thr h FrQ.rf 0 (by omega)⟩)))
  · have hm := h1.th' (z := 0) (by omega)
    have hq := (FrQ.th.tr h2).tr (FrQ.th (z := 0))
    refine f_313 hm.ops ⟨d1, d2⟩ ⟨x1, x2⟩ h5.th (fun r r1 r2 _ => f_317 hm h3.th h5.th ⟨d1, d2⟩ ⟨x1, x2⟩ (by omega) (fun m8 k1 k2 => ⟨fun _ => ⟨by unfold InI; omega, by unfold InI; omega, by unfold InI; omega, by omega, fun v _ _ _ => H.at k1 (hq.tr k2) _⟩, fun _ => ⟨by omega, fun v _ _ _ => H.at k1 (hq.tr k2) _⟩⟩))
  · rw [upm_eq] at e13; omega
theorem f_326 {a k c x : Int} (h : RefOK mem) (H : Fin mem K) : CWI (Ex S (n + 8)) 326 [.inr 143, .inl a, .inl k, .inl c, .inl d, .inl x] mem K := by
  have h8 := h.ops.1
  have h' := h.th' (z := 0) (by omega)
  refine CW.of (k := 2) mt_326 rfl rfl (w_326_0 (Ex.mono S (n + 7)) (f_235 h8 (fun a1 a2 _ => ⟨fun _ => ⟨by omega, fun v3 e3 _ => ⟨fun _ => f_311 h' (fun m' d1 d2 x1 x2 h1 h2 hk h3 h5 _ => ⟨fun z => absurd rfl z, fun _ => ?_⟩) (fun r m' r1 r2 h1 h2 _ => ⟨fun _ => ?_, fun z => by omega⟩), fun _ _ => H.thr h FrQ.rf 0 (by omega)⟩⟩, fun z => absurd (by decide) z⟩) (fun _ => ⟨fun z => absurd rfl z, fun _ _ => H.thr h FrQ.rf 0 (by omega)⟩)))
  · have hq := FrQ.th.tr h2
    have e1 : m' 143 1 = mem 143 1 := by rw [hk 143 1 (by omega), upm_ne (by omega)]
    obtain ⟨o, rfl⟩ : ∃ o : Nat, a = (o : Int) := ⟨a.toNat, by omega⟩
    have t : ∀ z : Int, 0 ≤ z ∧ z ≤ 4 → ∃ y, some (0 : Int) = some y ∧ K y (upm m' 143 0 z) := fun z hz => H.thr h1 hq 0 hz
    have no : ¬ (0 : Int) = 2 := by omega
    refine f_295 h1.ops h5 ⟨d1, d2⟩ (by omega) (fun r r1 r2 _ _ => ⟨by unfold InI; omega, f_227 (fun k1 k2 _ => ⟨fun z => absurd z (by decide), fun _ => f_313 h1.ops ⟨d1, d2⟩ ⟨x1, x2⟩ h5 (fun e e1 e2 _ => f_227 (fun c1 c2 _ => ⟨fun z => absurd z (by decide), fun _ => ⟨fun _ => ?_, fun z => absurd no z⟩⟩) (fun _ _ => ⟨fun _ => ⟨fun _ _ => t _ (by omega), fun z => absurd no z⟩, fun z => absurd rfl z⟩))⟩) (fun _ _ => ⟨fun _ => ⟨fun _ _ => t _ (by omega), fun z => absurd no z⟩, fun z => absurd rfl z⟩)⟩)
    have hm := h1.th' (z := 0) (by omega)
    exact f_317 hm h3.th h5.th ⟨d1, d2⟩ ⟨x1, x2⟩ (by omega) (fun m8 g1 g2 => ⟨by unfold InI; omega, by unfold InI; omega, by omega, fun v _ _ _ => H.at g1 ((hq.tr (FrQ.th (z := 0))).tr g2) _⟩)
  · have t : ∀ z : Int, 0 ≤ z ∧ z ≤ 4 → ∃ y, some (0 : Int) = some y ∧ K y (upm m' 143 0 z) := fun z hz => H.thr h1 (FrQ.th.tr h2) 0 hz
    exact ⟨fun _ _ => t _ (by omega), fun _ => ⟨fun _ _ => t _ (by omega), fun _ => ⟨fun _ _ => t _ (by omega), fun _ _ => t _ (by omega)⟩⟩⟩
end RUNS
end
section
/-! plain and late of the reference -/
section LATE
variable {S : Nat × (Nat → Int32)} {n : Nat} {mem : MM} {K : Int → MM → Prop} {d : Int}
theorem f_330 (hO : OpsOK mem) {o : Nat} {k t : Int} (ho : (o : Int) < mem 143 1) (hk : 0 ≤ k ∧ k < srcN mem o) (ht : 0 ≤ t ∧ t ≤ 39) (H : ∀ r, K r mem) : CWI (Ex S (n + 2)) 330 [.inr 143, .inl (o : Int), .inl k, .inl t] mem K := by
  have h8 := hO.1
  have ho8 : 0 ≤ (o : Int) ∧ (o : Int) < 8 := by omega
  have hs := hO.src (o := o) (by omega) hk.1 hk.2
  refine CW.of (k := 2) mt_330 rfl rfl (w_330_0 (Ex.mono S (n + 1)) (f_242 ho8 (fun _ => ?_)))
  rw [Int.toNat_natCast]
  refine ⟨fun q1 => ⟨fun q2 => f_243 ho8 (fun _ => ?_), fun q2 => f_243 ho8 (fun _ _ => ⟨_, rfl, H _⟩)⟩, fun q1 _ => ⟨_, rfl, H _⟩⟩
  rw [Int.toNat_natCast]
  unfold srcOK at hs
  exact ⟨by unfold InI; omega, fun _ => ⟨by unfold InI; omega, by unfold InI; omega, by omega, fun v _ _ _ => ⟨_, rfl, H _⟩⟩, fun _ => ⟨by omega, fun v _ _ _ => ⟨_, rfl, H _⟩⟩⟩
theorem f_329 (hO : OpsOK mem) {o : Nat} {t : Int} (ho : (o : Int) < mem 143 1) (ht : 0 ≤ t ∧ t ≤ 39) (H : ∀ r, K r mem) : CWI (Ex S (n + 3)) 329 [.inr 143, .inl (o : Int), .inl t] mem K := by
  have h8 := hO.1
  have ho8 : 0 ≤ (o : Int) ∧ (o : Int) < 8 := by omega
  refine CW.of (k := 0) mt_329 rfl rfl (w_329_0 (Ex.mono S (n + 2)) ⟨ho8, fun v1 e1 _ => ⟨fun q1 => ⟨ho8, fun v2 e2 _ => ⟨fun q2 => ⟨ho8, fun v3 e3 _ => ?_⟩, fun q2 => ?_⟩⟩, fun q1 => ?_⟩⟩)
  · rw [Int.toNat_natCast] at e1 e2
    have hn : srcN mem o = 2 := by unfold srcN; rw [if_neg (by omega), if_neg (by omega)]
    exact f_330 hO ho ⟨by omega, by omega⟩ ht (fun r _ => f_330 hO ho ⟨by omega, by omega⟩ ht (fun r2 _ => f_324 (fun r3 _ _ => ⟨_, rfl, H _⟩)))
  · rw [Int.toNat_natCast] at e1 e2
    have hn : srcN mem o = 1 := by unfold srcN; rw [if_neg (by omega), if_pos (by omega)]
    exact f_330 hO ho ⟨by omega, by omega⟩ ht (fun r _ _ => ⟨_, rfl, H _⟩)
  · rw [Int.toNat_natCast] at e1
    have hr := hO.row (o := o) (by omega) (Or.inl (by omega))
    refine f_250 ho8 (fun _ => ⟨?_, ?_, f_251 ho8 (fun _ => ⟨?_, ?_, fun v _ _ _ => ⟨_, rfl, H _⟩⟩)⟩) <;> (simp only [Int.toNat_natCast]; try unfold InI) <;> omega
theorem f_328 {K : MM → Prop} {x : Int} (h : RefOK mem) (hx : 0 ≤ x ∧ x ≤ 40) (H : ∀ m', RefOK m' → FrQ mem m' → K m') : CWV (Ex S (n + 4)) 328 [.inr 143, .inl x] mem K := by
  have hO := h.ops
  have h8 := hO.1
  refine CW.of (k := 3) mt_328 rfl rfl (w_328_0 (Ex.mono S (n + 3)) (f_318 (fun m1 k1 => ?_)))
  have key : ∀ (N : Nat) (t : Int) (m : MM), 0 ≤ t → (x - t).toNat < N → FrV mem m → Wx (Ex S (n + 3)) S M_328 (fun r m => r = none ∧ K m) 6 [some (.inr 143), some (.inl x), some (.inl t), none, none] [] m := by
    intro N
    induction N with
    | zero => intros; omega
    | succ N ih =>
      intro t m ht hN hF
      refine w_328_6 (Ex.mono S (n + 3)) ⟨fun _ => ⟨rfl, H m (hF.u.rest h (fun u hu => by rw [hF 168 u (by omega)]; exact h.pa u hu)) hF.u.q⟩, fun q => ?_⟩
      have lp : ∀ (N' : Nat) (o : Nat) (m : MM), (o : Int) ≤ mem 143 1 → (mem 143 1 - o).toNat < N' → FrV mem m → Wx (Ex S (n + 3)) S M_328 (fun r m => r = none ∧ K m) 13 [some (.inr 143), some (.inl x), some (.inl t), some (.inl (o : Int)), none] [] m := by
        intro N'
        induction N' with
        | zero => intros; omega
        | succ N' ih2 =>
          intro o m ho hN' hF
          have hO' := hF.u.ops hO
          have e1' : m 143 1 = mem 143 1 := hF _ _ (by omega)
          refine w_328_13 (Ex.mono S (n + 3)) (fun v1 e1 _ => ⟨fun z => ⟨by unfold InI; omega, ih (t + 1) m (by omega) (by omega) hF⟩, fun z => f_329 hO' (by omega) ⟨ht, by omega⟩ (fun r _ => ?_)⟩)
          have ho8 : 0 ≤ (o : Int) ∧ (o : Int) < 8 := by omega
          have hF2 : ∀ i z, FrV mem (upm m 167 i z) := fun i z => hF.tr (FrV.up (by omega))
          refine ⟨by unfold InI; omega, by unfold InI; omega, by omega, ho8, fun v4 e4 _ => ⟨fun _ => ⟨by unfold InI; omega, ih2 (o + 1) _ (by omega) (by omega) (hF2 _ _)⟩, fun q4 => ?_⟩⟩
          rw [Int.toNat_natCast, upm_ne (by omega)] at e4
          have hr := ((hF2 ((41 * (o : Int)) + t).toNat r).u.ops hO).row (o := o) (by omega) (Or.inr (by rw [upm_ne (by omega)]; omega))
          refine f_250 ho8 (fun _ => ⟨?_, ?_, f_251 ho8 (fun _ => ⟨?_, ?_, by unfold InI; omega, ih2 (o + 1) _ (by omega) (by omega) ((hF2 _ _).tr (FrV.up (by omega)))⟩)⟩) <;> (simp only [Int.toNat_natCast]; try unfold InI) <;> omega
      exact lp 9 0 m (by omega) (by omega) hF
  exact key _ 0 m1 (by omega) (Nat.lt_succ_self _) (fun A i q => k1 A i (by omega))
theorem f_327 {a b x : Int} (h : RefOK mem) (H : Fin mem K) : CWI (Ex S (n + 5)) 327 [.inr 143, .inl a, .inl b, .inl x] mem K := by
  have h' := h.th' (z := 0) (by omega)
  refine CW.of (k := 0) mt_327 rfl rfl (w_327_0 (Ex.mono S (n + 4)) (f_316 (fun a1 a2 b1 b2 _ => ⟨fun z => absurd z (by decide), fun _ => f_309 (fun x1 x2 _ => ⟨fun _ => f_240 h.ops (fun hS _ => ⟨fun _ => ?_, fun z => absurd (by decide) z⟩) (fun _ _ => ⟨fun z => absurd rfl z, fun _ _ => H.thr h FrQ.rf 0 (by omega)⟩), fun z => absurd (by decide) z⟩) (fun _ => ⟨fun z => absurd rfl z, fun _ _ => H.thr h FrQ.rf 0 (by omega)⟩)⟩) (fun _ => ⟨fun _ _ => H.thr h FrQ.rf 0 (by omega), fun z => absurd rfl z⟩)))
  exact f_328 h' ⟨x1, x2⟩ (fun m8 k1 k2 => ⟨by unfold InI; omega, by unfold InI; omega, by omega, fun v _ _ _ => H.at k1 (FrQ.th.tr k2) _⟩)
theorem f_365 (hO : OpsOK mem) {o : Nat} {k t : Int} (ho : (o : Int) < mem 143 1) (hk : 0 ≤ k ∧ k < srcN mem o) (ht : 0 ≤ t ∧ t ≤ 39) (H : ∀ r, K r mem) : CWI (Ex S (n + 2)) 365 [.inr 143, .inl (o : Int), .inl k, .inl t] mem K := by
  have h8 := hO.1
  have ho8 : 0 ≤ (o : Int) ∧ (o : Int) < 8 := by omega
  have hs := hO.src (o := o) (by omega) hk.1 hk.2
  refine CW.of (k := 1) mt_365 rfl rfl (w_365_0 (Ex.mono S (n + 1)) (f_242 ho8 (fun _ => ?_)))
  rw [Int.toNat_natCast]
  refine ⟨fun _ _ => ⟨_, rfl, H _⟩, fun q => f_243 ho8 (fun _ => ?_)⟩
  rw [Int.toNat_natCast]
  unfold srcOK at hs
  refine ⟨fun q2 => ⟨by unfold InI; omega, by unfold InI; omega, f_243 ho8 (fun _ => ?_)⟩, fun _ _ => ⟨_, rfl, H _⟩⟩
  rw [Int.toNat_natCast]
  exact ⟨by unfold InI; omega, by omega, fun v _ _ _ => ⟨_, rfl, H _⟩⟩
theorem lt_50 {m0 : MM} {x a e : Int} (hO : OpsOK m0) (hT : TmOK m0 d) (hd : 1 ≤ d ∧ d ≤ 12) (hx : 0 ≤ x ∧ x ≤ 40) (ha : 1 ≤ a) {Kk : WK} (H : ∀ r m', FrV m0 m' → Kk (some r) m') : ∀ (N : Nat) (w c : Int) (mem : MM), 0 ≤ c → (701 - c).toNat < N → FrV m0 mem → Wx (Ex S (n + 3)) S M_364 Kk 50 [some (.inr 143), some (.inl d), some (.inl x), some (.inl a), some (.inl e), some (.inl w), some (.inl c), none, none, none, none] [] mem := by
  have h8 := hO.1
  intro N
  induction N with
  | zero => intros; omega
  | succ N ih =>
    intro w c mem hc hN hF
    refine w_364_50 (Ex.mono S (n + 3)) (f_313 (hF.u.ops hO) hd hx (hF.u.tm hT) (fun r r1 r2 _ => ⟨fun _ _ => H _ mem hF, fun q z _ _ => ?_⟩))
    have lp2 : ∀ (N' : Nat) (o : Nat) (w z : Int) (m : MM), (o : Int) ≤ m0 143 1 → (m0 143 1 - o).toNat < N' → FrV m0 m → Wx (Ex S (n + 3)) S M_364 Kk 163 [some (.inr 143), some (.inl d), some (.inl x), some (.inl a), some (.inl e), some (.inl w), some (.inl c), some (.inl z), some (.inl (o : Int)), none, none] [] m := by
      intro N'
      induction N' with
      | zero => intros; omega
      | succ N' ih2 =>
        intro o w z m ho hN' hF
        have hO' := hF.u.ops hO
        have hT' := hF.u.tm hT
        have e1' : m 143 1 = m0 143 1 := hF _ _ (by omega)
        refine w_364_163 (Ex.mono S (n + 3)) (fun v1 e1 _ => ⟨fun _ => ⟨by unfold InI; omega, ih w (c + 1) m (by omega) (by omega) hF⟩, fun q1 => ⟨by omega, fun v2 e2 _ => ?_⟩⟩)
        rw [Int.toNat_natCast] at e2
        have ht := hT' o (by omega)
        have ho8 : 0 ≤ (o : Int) ∧ (o : Int) < 8 := by omega
        refine f_319d (by omega) (by unfold InI; omega) (fun _ => ⟨fun q2 => ⟨ho8, fun v5 e5 _ => ?_⟩, fun _ => ⟨by unfold InI; omega, ih2 (o + 1) w z m (by omega) (by omega) hF⟩⟩)
        have hr := turnF_rng (by omega) q2
        have fin : ∀ i y, InI ((o : Int) + 1) ∧ Wx (Ex S (n + 3)) S M_364 Kk 163 [some (.inr 143), some (.inl d), some (.inl x), some (.inl a), some (.inl e), some (.inl w), some (.inl c), some (.inl z), some (.inl ((o : Int) + 1)), none, none] [] (upm m 167 i y) := fun i y => ⟨by unfold InI; omega, ih2 (o + 1) w z _ (by omega) (by omega) (hF.tr (FrV.up (by omega)))⟩
        refine ⟨fun _ => ⟨by unfold InI; omega, by unfold InI; omega, f_246 hO' ho8 (fun _ y1 _ _ y2 _ _ => ⟨by omega, fin _ _⟩)⟩, fun q5 => f_251 ho8 (fun _ => ?_)⟩
        rw [Int.toNat_natCast] at e5 ⊢
        have hrow := hO'.row (o := o) (by omega) (Or.inl (by omega))
        exact ⟨by unfold InI; omega, by omega, fun _ => ⟨by unfold InI; omega, by unfold InI; omega, f_246 hO' ho8 (fun _ y1 _ _ y2 _ _ => ⟨by omega, fin _ _⟩)⟩, fun _ => ⟨by unfold InI; omega, by unfold InI; omega, f_246 hO' ho8 (fun _ y1 _ _ y2 _ _ => ⟨by omega, fin _ _⟩)⟩⟩
    have lp1 : ∀ (N' : Nat) (o : Nat) (z : Int) (m : MM), (o : Int) ≤ m0 143 1 → (m0 143 1 - o).toNat < N' → FrV m0 m → Wx (Ex S (n + 3)) S M_364 Kk 71 [some (.inr 143), some (.inl d), some (.inl x), some (.inl a), some (.inl e), some (.inl w), some (.inl c), some (.inl z), some (.inl (o : Int)), none, none] [] m := by
      intro N'
      induction N' with
      | zero => intros; omega
      | succ N' ih2 =>
        intro o z m ho hN' hF
        have hO' := hF.u.ops hO
        have hT' := hF.u.tm hT
        have e1' : m 143 1 = m0 143 1 := hF _ _ (by omega)
        refine w_364_71 (Ex.mono S (n + 3)) (fun v1 e1 _ => ⟨fun _ y _ _ => lp2 9 0 _ _ m (by omega) (by omega) hF, fun q1 => ?_⟩)
        have ho8 : 0 ≤ (o : Int) ∧ (o : Int) < 8 := by omega
        have ht := hT' o (by omega)
        have lp3 : ∀ (N3 : Nat) (k z : Int), 0 ≤ k → (3 - k).toNat < N3 → Wx (Ex S (n + 3)) S M_364 Kk 83 [some (.inr 143), some (.inl d), some (.inl x), some (.inl a), some (.inl e), some (.inl w), some (.inl c), some (.inl z), some (.inl (o : Int)), some (.inl k), none] [] m := by
          intro N3
          induction N3 with
          | zero => intros; omega
          | succ N3 ih3 =>
            intro k z hk hN3
            have hsn := srcN_le m o
            refine w_364_83 (Ex.mono S (n + 3)) (f_241 ho8 (fun _ => ⟨fun _ => ⟨by unfold InI; omega, ih2 (o + 1) z m (by omega) (by omega) hF⟩, fun q3 => ⟨ho8, fun v3 e3 _ => ?_⟩⟩))
            rw [Int.toNat_natCast] at q3 e3
            refine f_319d (by omega) (by unfold InI; omega) (fun _ => ⟨fun _ => ⟨by unfold InI; omega, ih2 (o + 1) z m (by omega) (by omega) hF⟩, fun q4 => ⟨ho8, fun v6 e6 _ => ?_⟩⟩)
            have e6' : v6 = v3 := by rw [e6, Int.toNat_natCast, e3]
            subst e6'
            have hr := turnF_rng (by omega) q4
            exact f_319d (by omega) (by unfold InI; omega) (fun _ => f_365 hO' (by omega) ⟨hk, by omega⟩ ⟨hr.1, by omega⟩ (fun r _ => f_257 (fun _ _ => ⟨by unfold InI; omega, ih3 (k + 1) _ (by omega) (by omega)⟩)))
        exact lp3 4 0 z (by omega) (by omega)
    exact lp1 9 0 z mem (by omega) (by omega) hF
theorem f_364 {x a e : Int} (h : RefOK mem) (H : Fin mem K) : CWI (Ex S (n + 7)) 364 [.inr 143, .inl d, .inl x, .inl a, .inl e] mem K := by
  refine CW.of (k := 6) mt_364 rfl rfl (w_364_0 (Ex.mono S (n + 6)) (f_227 (fun a1 a2 _ => ⟨fun z => absurd z (by decide), fun _ => f_227 (fun e1 e2 _ => ⟨fun _ => f_311 h (fun m' d1 d2 x1 x2 h1 h2 hk h3 h5 _ => ⟨fun _ => ?_, fun z => absurd (by decide) z⟩) (fun r m' r1 r2 h1 h2 _ => ⟨fun z => by omega, fun _ _ => H.thr h1 h2 0 (by omega)⟩), fun z => absurd (by decide) z⟩) (fun _ _ => ⟨fun z => absurd rfl z, fun _ _ => H.thr h FrQ.rf 0 (by omega)⟩)⟩) (fun _ _ => ⟨fun _ _ => H.thr h FrQ.rf 0 (by omega), fun z => absurd rfl z⟩)))
  have hm := h1.th' (z := 0) (by omega)
  have hq := h2.tr (FrQ.th (z := 0))
  exact lt_50 (n := n + 3) hm.ops h5.th ⟨d1, d2⟩ ⟨x1, x2⟩ a1 (fun r m8 k => H.at (k.u.rest hm (fun u hu => by rw [k 168 u (by omega)]; exact hm.pa u hu)) (hq.tr k.u.q) r) _ 0 0 _ (by omega) (Nat.lt_succ_self _) FrV.rf
end LATE
end
