/-! the quick way of the reference: an op comes, all come -/
theorem FrK.qt1 {m : MM} {c c' t : Int} {o : Nat} (H : QT m c) (hc : c ≤ c') (ht : 0 ≤ t ∧ t ≤ c') : QT (upm (upm m 163 o t) 164 o t) c' := fun u hu => by
  have hu' := H u (by rw [upm_ne (by omega), upm_ne (by omega)] at hu; exact hu)
  rw [upm_ne (A := 164) (B := 163) (by omega)]
  constructor
  · by_cases e : u = o
    · subst e; rw [upm_eq]; omega
    · rw [upm_ne (fun z => e z.2)]; omega
  · by_cases e : u = o
    · subst e; rw [upm_eq]; omega
    · rw [upm_ne (fun z => e z.2), upm_ne (by omega)]; omega
section QUICK2
variable {S : Nat × (Nat → Int32)} {n : Nat} {mem : MM} {d c : Int}
/-- what was thrown out, and on to the end -/
theorem cq_254 {m0 : MM} {o : Nat} {x3 x4 g : Int} (h : RefOK m0) (hd : 1 ≤ d ∧ d ≤ 12) (hc : 0 ≤ c ∧ c ≤ 100000) {Kk : WK} (H : ∀ m', FrK m0 m' → QT m' c → Kk none m') : ∀ (N : Nat) (p : Nat) (m : MM), (p : Int) ≤ m0 143 1 → (m0 143 1 - p).toNat < N → FrK m0 m → QT m c → Wx (Ex S (n + 3)) S M_285 Kk 254 [some (.inr 143), some (.inl (o : Int)), some (.inl d), some (.inl x3), some (.inl x4), some (.inl g), some (.inl (p : Int)), none] [] m := by
  have h8 := h.ops.1
  intro N
  induction N with
  | zero => intros; omega
  | succ N ih =>
    intro p m hp hN hF hQ
    have e1' : m 143 1 = m0 143 1 := hF _ _ (by omega) (by omega) (by omega)
    have hm := hF.rest h
    exact w_285_254 (Ex.mono S (n + 3)) (fun v1 e1 _ => ⟨fun _ => H m hF hQ, fun q b2 _ _ b3 _ _ => ⟨fun _ => ⟨by unfold InI; omega, ih (p + 1) m (by omega) (by omega) hF hQ⟩, fun _ => f_290 hm.ops hm.un hd hc hQ (by omega) (fun m' k1 k2 => ⟨by unfold InI; omega, ih (p + 1) m' (by omega) (by omega) (hF.tr k1) k2⟩)⟩⟩)
theorem cq_155 {m0 : MM} {o : Nat} {x3 x4 : Int} (h : RefOK m0) (hN : NdsOK m0) (hd : 1 ≤ d ∧ d ≤ 12) (hc : 0 ≤ c ∧ c ≤ 100000) (ho : (o : Int) < m0 143 1) {Kk : WK} (H : ∀ m', FrK m0 m' → QT m' c → Kk none m') : ∀ (N : Nat) (k : Nat) (g : Int) (m : MM), (k : Int) ≤ m0 143 12 → (m0 143 12 - k).toNat < N → FrK m0 m → QT m c → Wx (Ex S (n + 3)) S M_285 Kk 155 [some (.inr 143), some (.inl (o : Int)), some (.inl d), some (.inl x3), some (.inl x4), some (.inl g), some (.inl (k : Int)), none] [] m := by
  have h8 := hN.1
  have h48 := hN.2.1
  intro N
  induction N with
  | zero => intros; omega
  | succ N ih =>
    intro k g m hk hNN hF hQ
    have e1' : m 143 1 = m0 143 1 := hF _ _ (by omega) (by omega) (by omega)
    have e12 : m 143 12 = m0 143 12 := hF _ _ (by omega) (by omega) (by omega)
    have hN' := hF.nds hN
    have nx : ∀ g, ¬ m 143 12 ≤ (k : Int) → InI ((k : Int) + 1) ∧ Wx (Ex S (n + 3)) S M_285 Kk 155 [some (.inr 143), some (.inl (o : Int)), some (.inl d), some (.inl x3), some (.inl x4), some (.inl g), some (.inl ((k : Int) + 1)), none] [] m := fun g z => ⟨by unfold InI; omega, ih (k + 1) g m (by omega) (by omega) hF hQ⟩
    refine w_285_155 (Ex.mono S (n + 3)) (fun v1 e1 _ => ⟨fun _ => cq_254 h hd hc H 9 0 m (by omega) (by omega) hF hQ, fun q => ?_⟩)
    subst e1
    have hk48 : 0 ≤ (k : Int) ∧ (k : Int) < 48 := by omega
    obtain ⟨p1, p2, p3, p4, -⟩ := hN'.2.2 k (by omega)
    have kept : CWI (Ex S (n + 3)) 291 [.inr 143, .inl (k : Int), .inl d] m fun r6 m5 => ∀ g2 : Int, InI r6 → m5 = m := f_291 hN' hd hc.2 hQ (by omega) (fun r g2 _ => rfl)
    rw [Int.toNat_natCast]
    refine ⟨hk48, fun v2 e2 _ => ⟨fun q2 => ⟨hk48, fun v3 e3 _ => ⟨fun q3 => ⟨fun _ => nx _ q, fun z => absurd rfl z⟩, fun q3 => ⟨hk48, fun v9 e9 _ => ⟨fun _ => nx _ q, fun _ => ⟨by omega, fun v10 _ _ => ⟨fun _ => nx _ q, fun _ => f_291 hN' hd hc.2 hQ (by omega) (fun r _ => ⟨fun _ => nx _ q, fun _ b7 _ _ b8 _ _ => nx _ q⟩)⟩⟩⟩⟩⟩⟩, fun q2 => ⟨hk48, fun v15 e15 _ => ⟨fun _ => nx _ q, fun _ => ⟨by omega, fun v16 _ _ => ⟨fun _ => nx _ q, fun _ => f_291 hN' hd hc.2 hQ (by omega) (fun r _ => ⟨fun _ => nx _ q, fun _ b7 _ _ b8 _ _ => nx _ q⟩)⟩⟩⟩⟩⟩⟩
theorem cq_99 {m0 : MM} {o : Nat} {x3 x4 : Int} (h : RefOK m0) (hN : NdsOK m0) (hd : 1 ≤ d ∧ d ≤ 12) (hc : 0 ≤ c ∧ c ≤ 100000) (ho : (o : Int) < m0 143 1) {Kk : WK} (H : ∀ m', FrK m0 m' → QT m' c → Kk none m') : ∀ (N : Nat) (p : Nat) (m : MM), (p : Int) ≤ m0 143 1 → (m0 143 1 - p).toNat < N → FrK m0 m → QT m c → Wx (Ex S (n + 3)) S M_285 Kk 99 [some (.inr 143), some (.inl (o : Int)), some (.inl d), some (.inl x3), some (.inl x4), some (.inl (p : Int)), none, none] [] m := by
  have h8 := h.ops.1
  have h48 := hN.2.1
  intro N
  induction N with
  | zero => intros; omega
  | succ N ih =>
    intro p m hp hNN hF hQ
    have e1' : m 143 1 = m0 143 1 := hF _ _ (by omega) (by omega) (by omega)
    have hm := hF.rest h
    have nx : ∀ m', FrK m0 m' → QT m' c → ¬ m 143 1 ≤ (p : Int) → InI ((p : Int) + 1) ∧ Wx (Ex S (n + 3)) S M_285 Kk 99 [some (.inr 143), some (.inl (o : Int)), some (.inl d), some (.inl x3), some (.inl x4), some (.inl ((p : Int) + 1)), none, none] [] m' := fun m' z1 z2 z3 => ⟨by unfold InI; omega, ih (p + 1) m' (by omega) (by omega) z1 z2⟩
    refine w_285_99 (Ex.mono S (n + 3)) (fun v1 e1 _ => ⟨fun _ => cq_155 h hN hd hc ho H 49 0 0 m (by omega) (by omega) hF hQ, fun q => ?_⟩)
    subst e1
    exact ⟨fun _ => nx m hF hQ q, fun _ => ⟨by omega, fun v2 _ _ => ⟨fun _ => nx m hF hQ q, fun _ => f_288 hm.ops hm.un hd hc.2 hQ (by omega) (by omega) (fun r _ => ⟨fun _ => nx m hF hQ q, fun _ => f_290 hm.ops hm.un hd hc hQ (by omega) (fun m' k1 k2 => nx m' (hF.tr k1) k2 q)⟩)⟩⟩⟩
theorem f_285 {K : MM → Prop} (h : RefOK mem) (hN : NdsOK mem) (hd : 1 ≤ d ∧ d ≤ 12) (hc : 0 ≤ c ∧ c ≤ 10000) (hQ : QT mem c) {o : Nat} (ho : (o : Int) < mem 143 1) (H : ∀ m', FrK mem m' → QT m' (c + 18) → K m') : CWV (Ex S (n + 4)) 285 [.inr 143, .inl (o : Int), .inl d] mem K := by
  have h8 := h.ops.1
  have ho8 : 0 ≤ (o : Int) ∧ (o : Int) < 8 := by omega
  refine CW.of (k := 5) mt_285 rfl rfl (w_285_0 (Ex.mono S (n + 3)) (f_286 hN hd ⟨hc.1, by omega⟩ hQ (fun r r1 r2 _ => ?_)))
  have at71 : ∀ (t : Int) (m : MM), 0 ≤ t → t ≤ c + 18 → Fr1 159 mem m → Wx (Ex S (n + 3)) S M_285 (fun r m => r = none ∧ K m) 71 [some (.inr 143), some (.inl (o : Int)), some (.inl d), some (.inl r), some (.inl t), none, none, none] [] m := by
    intro t m t1 t2 k1
    have hF : FrK mem (upm (upm m 163 o t) 164 o t) := (k1.k59.tr (FrK.up (Or.inl rfl))).tr (FrK.up (Or.inr rfl))
    have hm := hF.rest h
    refine w_285_71 (Ex.mono S (n + 3)) ⟨ho8, ho8, ?_⟩
    rw [Int.toNat_natCast]
    exact f_271 hm.ops hm.un ho8 ⟨by omega, by omega⟩ hd (fun m' k2 => cq_99 h hN hd (c := c + 18) ⟨by omega, by omega⟩ ho (fun m' a b => ⟨rfl, H m' a b⟩) 9 0 m' (by omega) (by omega) (hF.tr k2.k59) (k2.qt (FrK.qt1 (k1.qt hQ) (by omega) ⟨t1, t2⟩)))
  have at35 : ∀ (t : Int) (m : MM), r ≤ t → t ≤ r + d → Fr1 159 mem m → Wx (Ex S (n + 3)) S M_285 (fun r m => r = none ∧ K m) 35 [some (.inr 143), some (.inl (o : Int)), some (.inl d), some (.inl r), some (.inl t), none, none, none] [] m := by
    intro t m t1 t2 k1
    have hl := (k1.qt hQ o (by rw [k1 143 1 (by omega)]; exact ho)).2
    refine w_285_35 (Ex.mono S (n + 3)) ⟨by unfold InI; omega, fun _ => at71 t m (by omega) (by omega) k1, fun _ => ⟨ho8, fun v1 _ _ => ⟨fun _ => ⟨ho8, fun v2 e2 _ => ?_⟩, fun _ => at71 r m r1 (by omega) k1⟩⟩⟩
    rw [Int.toNat_natCast] at e2
    exact ⟨by unfold InI; omega, f_257 (fun _ _ => at71 _ m (by omega) (by omega) k1)⟩
  have key : ∀ (N : Nat) (t : Int) (m : MM), r ≤ t → t ≤ r + d → (r + d - t).toNat < N → Fr1 159 mem m → Wx (Ex S (n + 3)) S M_285 (fun r m => r = none ∧ K m) 10 [some (.inr 143), some (.inl (o : Int)), some (.inl d), some (.inl r), some (.inl t), none, none, none] [] m := by
    intro N
    induction N with
    | zero => intros; omega
    | succ N ih =>
      intro t m t1 t2 hNN k1
      have hm := k1.k59.rest h
      exact w_285_10 (Ex.mono S (n + 3)) ⟨by unfold InI; omega, fun _ => at35 t m t1 t2 k1, fun q => f_287 hm.ops hm.un hd ho8 ⟨by omega, by omega⟩ (fun r2 m' k2 _ => ⟨fun _ => at35 t m' t1 t2 (k1.tr k2), fun _ => ⟨by unfold InI; omega, ih (t + 1) m' (by omega) (by omega) (by omega) (k1.tr k2)⟩⟩)⟩
  exact key _ r mem (by omega) (by omega) (Nat.lt_succ_self _) Fr1.rf
theorem FrM.rest {m m' : MM} (e : ∀ A i, ¬ A = 159 → ¬ A = 163 → ¬ A = 164 → ¬ (A = 143 ∧ i = 25) → m' A i = m A i) (h : RefOK m) : RefOK m' ∧ FrQ m m' :=
  ⟨Kp.rest (fun A i q => e A i (by omega) (by omega) (by omega) (by omega)) h (fun o ho => by rw [e _ _ (by omega) (by omega) (by omega) (by omega)]; exact h.sl o ho) (fun j hj => by rw [e _ _ (by omega) (by omega) (by omega) (by omega), e _ _ (by omega) (by omega) (by omega) (by omega), e _ _ (by omega) (by omega) (by omega) (by omega), e _ _ (by omega) (by omega) (by omega) (by omega)]; exact h.r48 j hj) (by rw [e _ _ (by omega) (by omega) (by omega) (by omega)]; exact h.nd), fun A i q => e A i (by omega) (by omega) (by omega) (by omega)⟩
def FrM (m m' : MM) : Prop := ∀ A i, ¬ A = 159 → ¬ A = 163 → ¬ A = 164 → ¬ (A = 143 ∧ i = 25) → m' A i = m A i
theorem FrK.m {m m' : MM} (e : FrK m m') : FrM m m' := fun A i e1 e2 e3 _ => e A i e1 e2 e3
theorem FrM.tr {a b c : MM} (h1 : FrM a b) (h2 : FrM b c) : FrM a c := fun A i e1 e2 e3 e4 => (h2 A i e1 e2 e3 e4).trans (h1 A i e1 e2 e3 e4)
theorem FrM.mv {m : MM} {x : Int} : FrM m (upm m 143 25 x) := fun B j _ _ _ e => upm_ne e
theorem FrM.nds {m m' : MM} (h : FrM m m') (H : NdsOK m) : NdsOK m' := by
  have e : ∀ A i, (A = 143 ∧ (i = 1 ∨ i = 12)) ∨ (153 < A ∧ A < 158) → m' A i = m A i := fun A i q => h A i (by omega) (by omega) (by omega) (by omega)
  refine ⟨by rw [e 143 1 (by omega)]; exact H.1, by rw [e 143 12 (by omega)]; exact H.2.1, fun j hj => ?_⟩
  rw [e 143 12 (by omega)] at hj
  rw [e 143 1 (by omega), e 154 j (by omega), e 155 j (by omega), e 156 j (by omega), e 157 j (by omega)]
  exact H.2.2 j hj
theorem f_282 {K : Int → MM → Prop} (h : RefOK mem) (hN : NdsOK mem) (hd : 1 ≤ d ∧ d ≤ 12) (H : ∀ r m', r = 0 ∨ r = 1 → FrM mem m' → K r m') : CWI (Ex S (n + 5)) 282 [.inr 143, .inl d] mem K := by
  have h8 := h.ops.1
  have l71 : ∀ (N : Nat) (o : Int) (m : MM), (o = -1 ∨ (0 ≤ o ∧ o < mem 143 1)) → (48 - m 143 25).toNat < N → 0 ≤ m 143 25 → m 143 25 ≤ 48 → FrM mem m → QT m (18 * m 143 25) → Wx (Ex S (n + 4)) S M_282 (fun r m => ∃ y, r = some y ∧ K y m) 71 [some (.inr 143), some (.inl d), some (.inl o)] [] m := by
    intro N
    induction N with
    | zero => intros; omega
    | succ N ih =>
      intro o m ho hNN c0 c1 hF hQ
      have e1' : m 143 1 = mem 143 1 := hF _ _ (by omega) (by omega) (by omega) (by omega)
      have f0 : ∃ y, some (0 : Int) = some y ∧ K y m := ⟨_, rfl, H _ _ (Or.inl rfl) hF⟩
      have f1 : ∃ y, some (1 : Int) = some y ∧ K y m := ⟨_, rfl, H _ _ (Or.inr rfl) hF⟩
      refine w_282_71 (Ex.mono S (n + 4)) ⟨fun _ => ⟨fun _ => f0, fun _ => f1⟩, fun q v1 e1 _ v2 e2 _ => ⟨by unfold InI; omega, fun _ => ⟨fun _ => f0, fun _ => f1⟩, fun q2 => ?_⟩⟩
      obtain ⟨p, rfl⟩ : ∃ p : Nat, o = (p : Int) := ⟨o.toNat, by omega⟩
      refine f_285 (FrM.rest hF h).1 (hF.nds hN) hd (c := 18 * m 143 25) ⟨by omega, by omega⟩ hQ (by omega) (fun m3 k1 k2 v4 e4 _ => ?_)
      have e4' : v4 = v1 := by rw [e4, e1]; exact k1 _ _ (by omega) (by omega) (by omega)
      have e13 : m3 143 1 = mem 143 1 := by rw [k1 _ _ (by omega) (by omega) (by omega)]; exact e1'
      have e25 : upm m3 143 25 (v4 + 1) 143 25 = v4 + 1 := upm_eq
      have e21 : upm m3 143 25 (v4 + 1) 143 1 = mem 143 1 := by rw [upm_ne (by omega)]; exact e13
      refine ⟨by unfold InI; omega, f_284 (by rw [e21]; exact h8) (fun r hr _ => ih r _ (by rw [e21] at hr; exact hr) (by rw [e25]; omega) (by rw [e25]; omega) (by rw [e25]; omega) ((hF.tr k1.m).tr FrM.mv) (fun u hu => ?_))⟩
      rw [e21] at hu
      have := k2 u (by rw [e13]; exact hu)
      rw [e25, upm_ne (A := 143) (B := 163) (by omega), upm_ne (A := 143) (B := 164) (by omega)]
      omega
  have l38 : ∀ (N : Nat) (o : Nat) (m : MM), (o : Int) ≤ mem 143 1 → (mem 143 1 - o).toNat < N → m 143 25 = 0 → FrM mem m → (∀ u : Nat, u < o → m 163 u = -1 ∧ m 164 u = -1) → Wx (Ex S (n + 4)) S M_282 (fun r m => ∃ y, r = some y ∧ K y m) 38 [some (.inr 143), some (.inl d), some (.inl (o : Int))] [] m := by
    intro N
    induction N with
    | zero => intros; omega
    | succ N ih =>
      intro o m ho hNN c0 hF hA
      have e1' : m 143 1 = mem 143 1 := hF _ _ (by omega) (by omega) (by omega) (by omega)
      refine w_282_38 (Ex.mono S (n + 4)) (fun v1 e1 _ => ⟨fun q => f_284 (by rw [e1']; exact h8) (fun r hr _ => l71 _ r m (by rw [e1'] at hr; exact hr) (Nat.lt_succ_self _) (by omega) (by omega) hF (fun u hu => ?_)), fun q => ⟨by omega, by omega, by unfold InI; omega, ?_⟩⟩)
      · have := hA u (by omega); omega
      · rw [Int.toNat_natCast]
        refine ih (o + 1) _ (by omega) (by omega) (by rw [upm_ne (by omega), upm_ne (by omega)]; exact c0) (hF.tr (FrK.m ((FrK.up (Or.inl rfl)).tr (FrK.up (Or.inr rfl))))) (fun u hu => ?_)
        rw [upm_ne (A := 164) (B := 163) (by omega)]
        by_cases e : u = o
        · subst e; rw [upm_eq, upm_eq]; exact ⟨rfl, rfl⟩
        · rw [upm_ne (fun z => e z.2), upm_ne (fun z => e z.2), upm_ne (by omega)]; exact hA u (by omega)
  have l2 : ∀ (N : Nat) (o : Nat) (m : MM), (o : Int) ≤ mem 143 1 → (mem 143 1 - o).toNat < N → Fr1 159 mem m → Wx (Ex S (n + 4)) S M_282 (fun r m => ∃ y, r = some y ∧ K y m) 2 [some (.inr 143), some (.inl d), some (.inl (o : Int))] [] m := by
    intro N
    induction N with
    | zero => intros; omega
    | succ N ih =>
      intro o m ho hNN hF
      have e1' : m 143 1 = mem 143 1 := hF _ _ (by omega)
      have hm := hF.k59.rest h
      exact w_282_2 (Ex.mono S (n + 4)) (fun v1 e1 _ => ⟨fun q => f_270 (fun m2 k2 => l38 9 0 _ (by omega) (by omega) upm_eq ((hF.tr k2).k59.m.tr FrM.mv) (fun u hu => by omega)), fun q => f_283 hm.ops hm.un (hF.k59.nds hN) hd ⟨by omega, by omega⟩ (fun r m' k _ => ⟨fun _ => ⟨by unfold InI; omega, ih (o + 1) m' (by omega) (by omega) (hF.tr k)⟩, fun _ => ⟨_, rfl, H _ _ (Or.inl rfl) (hF.tr k).k59.m⟩⟩)⟩)
  exact CW.of (k := 1) mt_282 rfl rfl (w_282_0 (Ex.mono S (n + 4)) (l2 9 0 mem (by omega) (by omega) Fr1.rf))
theorem f_281 {K : Int → MM → Prop} (h : RefOK mem) (hN : NdsOK mem) (hd : 1 ≤ d ∧ d ≤ 12) (H : ∀ r m', r = 0 ∨ r = 1 → RefOK m' → FrQ mem m' → K r m') : CWI (Ex S (n + 6)) 281 [.inr 143, .inl d] mem K := by
  refine CW.of (k := 0) mt_281 rfl rfl (w_281_0 (Ex.mono S (n + 5)) (f_256 hN ⟨by omega, by omega⟩ (fun m1 k1 _ => ?_)))
  obtain ⟨g1, g2⟩ := k1.rest158 h
  refine f_282 g1 (hN.fr k1) hd (fun r m' hr k _ => ⟨hr, _, rfl, ?_⟩)
  obtain ⟨q1, q2⟩ := FrM.rest k g1
  exact H r m' hr q1 (g2.tr q2)
theorem f_280 {K : Int → MM → Prop} {a : Int} (h : RefOK mem) (H : Fin mem K) : CWI (Ex S (n + 7)) 280 [.inr 143, .inl a, .inl d] mem K := by
  have h8 := h.ops.1
  exact CW.of (k := 0) mt_280 rfl rfl (w_280_0 (Ex.mono S (n + 6)) (f_235 h8 (fun a1 a2 _ => ⟨fun _ => f_253 (fun d1 d2 _ => ⟨fun _ => f_254r h (fun m' h1 h2 _ => ⟨fun z => absurd z (by decide), fun _ _ => H.thr h1 h2 0 (by omega)⟩) (fun m' h1 h2 hk hN _ => ⟨fun _ => f_281 (h1.th' (by omega)) hN.th ⟨d1, d2⟩ (fun r m2 _ g1 g2 _ => ⟨fun _ _ => H.at g1 ((h2.tr FrQ.th).tr g2) _, fun _ => ⟨by omega, fun v _ _ _ => H.at g1 ((h2.tr FrQ.th).tr g2) _⟩⟩), fun z => absurd rfl z⟩), fun z => absurd (by decide) z⟩) (fun _ => ⟨fun z => absurd rfl z, fun _ _ => H.thr h FrQ.rf 0 (by omega)⟩), fun z => absurd (by decide) z⟩) (fun _ => ⟨fun z => absurd rfl z, fun _ _ => H.thr h FrQ.rf 0 (by omega)⟩)))
theorem f_292 {K : Int → MM → Prop} (h : RefOK mem) (H : Fin mem K) : CWI (Ex S (n + 7)) 292 [.inr 143, .inl d] mem K := by
  exact CW.of (k := 0) mt_292 rfl rfl (w_292_0 (Ex.mono S (n + 6)) (f_253 (fun d1 d2 _ => ⟨fun _ => f_254r h (fun m' h1 h2 _ => ⟨fun z => absurd z (by decide), fun _ _ => H.thr h1 h2 0 (by omega)⟩) (fun m' h1 h2 hk hN _ => ⟨fun _ => f_281 (h1.th' (by omega)) hN.th ⟨d1, d2⟩ (fun r m2 _ g1 g2 _ => ⟨fun _ _ => H.at g1 ((h2.tr FrQ.th).tr g2) _, fun _ v _ _ _ => H.at g1 ((h2.tr FrQ.th).tr g2) _⟩), fun z => absurd rfl z⟩), fun z => absurd (by decide) z⟩) (fun _ => ⟨fun z => absurd rfl z, fun _ _ => H.thr h FrQ.rf 0 (by omega)⟩)))
theorem f_293 {K : Int → MM → Prop} (h : RefOK mem) (H : Fin mem K) : CWI (Ex S (n + 7)) 293 [.inr 143] mem K := by
  have key : ∀ (N : Nat) (c : Int) (m : MM), 1 ≤ c → (13 - c).toNat < N → RefOK m → FrQ mem m → Wx (Ex S (n + 6)) S M_293 (fun r m => ∃ y, r = some y ∧ K y m) 27 [some (.inr 143), some (.inl c)] [] m := by
    intro N
    induction N with
    | zero => intros; omega
    | succ N ih =>
      intro c m hc hN hm hq
      exact w_293_27 (Ex.mono S (n + 6)) ⟨fun _ _ => H.at hm hq _, fun q => f_254r hm (fun m' h1 h2 _ => ⟨fun _ => ⟨by unfold InI; omega, ih (c + 1) m' (by omega) (by omega) h1 (hq.tr h2)⟩, fun z => absurd (by decide) z⟩) (fun m' h1 h2 _ hN' _ => ⟨fun z => absurd rfl z, fun _ => f_281 h1 hN' ⟨hc, by omega⟩ (fun r m2 _ g1 g2 _ => ⟨fun _ => ⟨by unfold InI; omega, ih (c + 1) m2 (by omega) (by omega) g1 ((hq.tr h2).tr g2)⟩, fun _ _ => H.at g1 ((hq.tr h2).tr g2) _⟩)⟩)⟩
  exact CW.of (k := 1) mt_293 rfl rfl (w_293_0 (Ex.mono S (n + 6)) (f_240 h.ops (fun _ _ => ⟨fun z => absurd z (by decide), fun _ => key 13 1 _ (by omega) (by omega) (h.th' (by omega)) FrQ.th⟩) (fun _ _ => ⟨fun _ _ => H.thr h FrQ.rf 0 (by omega), fun z => absurd rfl z⟩)))
end QUICK2
