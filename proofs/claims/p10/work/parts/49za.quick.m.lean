section
/-! the quick way of the reference -/
def FrK (m m' : MM) : Prop := ∀ A i, ¬ A = 159 → ¬ A = 163 → ¬ A = 164 → m' A i = m A i
theorem FrK.rf {m : MM} : FrK m m := fun _ _ _ _ _ => rfl
theorem FrK.tr {a b c : MM} (h1 : FrK a b) (h2 : FrK b c) : FrK a c := fun A i e1 e2 e3 => (h2 A i e1 e2 e3).trans (h1 A i e1 e2 e3)
theorem Fr1.k59 {a b : MM} (h : Fr1 159 a b) : FrK a b := fun A i e _ _ => h A i e
theorem FrK.up {m : MM} {A i : Nat} {x : Int} (h : A = 163 ∨ A = 164) : FrK m (upm m A i x) := fun B j _ e2 e3 => upm_ne (by omega)
theorem FrK.rest {m m' : MM} (e : FrK m m') (h : RefOK m) : RefOK m' :=
  Kp.rest (fun A i q => e A i (by omega) (by omega) (by omega)) h (fun o ho => by rw [e _ _ (by omega) (by omega) (by omega)]; exact h.sl o ho) (fun j hj => by rw [e _ _ (by omega) (by omega) (by omega), e _ _ (by omega) (by omega) (by omega), e _ _ (by omega) (by omega) (by omega), e _ _ (by omega) (by omega) (by omega)]; exact h.r48 j hj) (by rw [e _ _ (by omega) (by omega) (by omega)]; exact h.nd)
theorem FrK.q {m m' : MM} (e : FrK m m') : FrQ m m' := fun A i q => e A i (by omega) (by omega) (by omega)
theorem FrK.nds {m m' : MM} (h : FrK m m') (H : NdsOK m) : NdsOK m' := by
  have e : ∀ A i, (A = 143 ∧ (i = 1 ∨ i = 12)) ∨ (153 < A ∧ A < 158) → m' A i = m A i := fun A i q => h A i (by omega) (by omega) (by omega)
  refine ⟨by rw [e 143 1 (by omega)]; exact H.1, by rw [e 143 12 (by omega)]; exact H.2.1, fun j hj => ?_⟩
  rw [e 143 12 (by omega)] at hj
  rw [e 143 1 (by omega), e 154 j (by omega), e 155 j (by omega), e 156 j (by omega), e 157 j (by omega)]
  exact H.2.2 j hj
def QT (m : MM) (c : Int) : Prop := ∀ o : Nat, (o : Int) < m 143 1 → (-1 ≤ m 163 o ∧ m 163 o ≤ c) ∧ -1 ≤ m 164 o ∧ m 164 o ≤ c
theorem Fr1.qt {m m' : MM} {c : Int} (h : Fr1 159 m m') (H : QT m c) : QT m' c := fun o ho => by
  rw [h 143 1 (by omega)] at ho
  rw [h 163 o (by omega), h 164 o (by omega)]; exact H o ho
section QUICK
variable {S : Nat × (Nat → Int32)} {n : Nat} {mem : MM} {K : Int → MM → Prop} {d c : Int}
theorem f_283 (hO : OpsOK mem) (hU : UnOK mem) (hN : NdsOK mem) (hd : 1 ≤ d ∧ d ≤ 12) {o : Int} (ho : 0 ≤ o ∧ o < 8) (H : ∀ r m', Fr1 159 mem m' → K r m') : CWI (Ex S (n + 3)) 283 [.inr 143, .inl o, .inl d] mem K := by
  have h48 := hN.2.1
  have key : ∀ (N : Nat) (k : Nat), (k : Int) ≤ mem 143 12 → (mem 143 12 - k).toNat < N → Wx (Ex S (n + 2)) S M_283 (fun r m => ∃ y, r = some y ∧ K y m) 2 [some (.inr 143), some (.inl o), some (.inl d), some (.inl (k : Int))] [] mem := by
    intro N
    induction N with
    | zero => intros; omega
    | succ N ih =>
      intro k hk hNN
      refine w_283_2 (Ex.mono S (n + 2)) (fun v1 e1 _ => ⟨fun q => ?_, fun q => ?_⟩)
      · refine f_270 (fun m2 k2 => f_271 ?_ ?_ ho ⟨by omega, by omega⟩ hd (fun m3 k3 => f_264 ?_ ?_ ho (fun u u1 u2 _ => f_273 ⟨u1, u2⟩ hd (fun r _ _ => ⟨fun _ => ⟨_, rfl, H _ _ (k2.tr k3)⟩, fun _ => ⟨_, rfl, H _ _ (k2.tr k3)⟩⟩))))
        · exact (k2.f59).ops hO
        · exact (k2.f59).un hU
        · exact ((k2.tr k3).f59).ops hO
        · exact ((k2.tr k3).f59).un hU
      · have hk48 : 0 ≤ (k : Int) ∧ (k : Int) < 48 := by omega
        obtain ⟨p1, p2, p3, p4, p5, p6, p7, p8, p9⟩ := hN.2.2 k (by omega)
        have nx : InI ((k : Int) + 1) ∧ Wx (Ex S (n + 2)) S M_283 (fun r m => ∃ y, r = some y ∧ K y m) 2 [some (.inr 143), some (.inl o), some (.inl d), some (.inl ((k : Int) + 1))] [] mem := ⟨by unfold InI; omega, ih (k + 1) (by omega) (by omega)⟩
        rw [Int.toNat_natCast]
        refine ⟨hk48, fun v8 e8 _ => ⟨fun _ => nx, fun _ => ⟨hk48, fun v9 e9 _ => ⟨fun _ => nx, fun _ => ⟨hk48, fun v10 e10 _ => ⟨hk48, fun v11 e11 _ => ?_⟩⟩⟩⟩⟩⟩
        have := d7 (x := v11) hd (by omega)
        exact ⟨by unfold InI; omega, fun _ => nx, fun _ => ⟨_, rfl, H _ _ Fr1.rf⟩⟩
  exact CW.of (k := 1) mt_283 rfl rfl (w_283_0 (Ex.mono S (n + 2)) (key 49 0 (by omega) (by omega)))
theorem f_284 (h8 : 0 ≤ mem 143 1 ∧ mem 143 1 ≤ 8) (H : ∀ r, r = -1 ∨ (0 ≤ r ∧ r < mem 143 1) → K r mem) : CWI (Ex S (n + 3)) 284 [.inr 143] mem K := by
  have key : ∀ (N : Nat) (b o : Int), 0 ≤ o → (b = -1 ∨ (0 ≤ b ∧ b < mem 143 1)) → (8 - o).toNat < N → Wx (Ex S (n + 2)) S M_284 (fun r m => ∃ y, r = some y ∧ K y m) 4 [some (.inr 143), some (.inl b), some (.inl o)] [] mem := by
    intro N
    induction N with
    | zero => intros; omega
    | succ N ih =>
      intro b o ho hb hN
      exact w_284_4 (Ex.mono S (n + 2)) (fun v1 e1 _ => ⟨fun _ _ => ⟨_, rfl, H _ hb⟩, fun q => ⟨by omega, fun v2 _ _ => ⟨fun _ => ⟨by unfold InI; omega, ih b (o + 1) (by omega) hb (by omega)⟩, fun _ => ⟨fun _ => ⟨by unfold InI; omega, ih o (o + 1) (by omega) (by omega) (by omega)⟩, fun q2 => f_261 h8 ⟨ho, by omega⟩ (fun r _ => f_261 h8 ⟨by omega, by omega⟩ (fun r2 _ => ⟨fun _ => ⟨by unfold InI; omega, ih b (o + 1) (by omega) hb (by omega)⟩, fun _ => ⟨by unfold InI; omega, ih o (o + 1) (by omega) (by omega) (by omega)⟩⟩))⟩⟩⟩⟩)
  exact CW.of (k := 2) mt_284 rfl rfl (w_284_0 (Ex.mono S (n + 2)) (key 9 (-1) 0 (by omega) (by omega) (by omega)))
theorem f_286 (hN : NdsOK mem) (hd : 1 ≤ d ∧ d ≤ 12) (hc : 0 ≤ c ∧ c ≤ 100000) (hQ : QT mem c) {o : Int} (H : ∀ r, 0 ≤ r → r ≤ c + 6 → K r mem) : CWI (Ex S (n + 2)) 286 [.inr 143, .inl o, .inl d] mem K := by
  have h8 := hN.1
  have h48 := hN.2.1
  have key : ∀ (N : Nat) (x : Int) (k : Nat), 0 ≤ x → x ≤ c + 6 → (k : Int) ≤ mem 143 12 → (mem 143 12 - k).toNat < N → Wx (Ex S (n + 1)) S M_286 (fun r m => ∃ y, r = some y ∧ K y m) 5 [some (.inr 143), some (.inl o), some (.inl d), some (.inl x), some (.inl (k : Int))] [] mem := by
    intro N
    induction N with
    | zero => intros; omega
    | succ N ih =>
      intro x k hx hx2 hk hNN
      refine w_286_5 (Ex.mono S (n + 1)) (fun v1 e1 _ => ⟨fun q _ => ⟨_, rfl, H _ hx hx2⟩, fun q => ?_⟩)
      have hk48 : 0 ≤ (k : Int) ∧ (k : Int) < 48 := by omega
      obtain ⟨p1, p2, p3, p4, p5, p6, p7, p8, p9⟩ := hN.2.2 k (by omega)
      have nx : ∀ x, 0 ≤ x → x ≤ c + 6 → InI ((k : Int) + 1) ∧ Wx (Ex S (n + 1)) S M_286 (fun r m => ∃ y, r = some y ∧ K y m) 5 [some (.inr 143), some (.inl o), some (.inl d), some (.inl x), some (.inl ((k : Int) + 1))] [] mem := fun x z1 z2 => ⟨by unfold InI; omega, ih x (k + 1) z1 z2 (by omega) (by omega)⟩
      rw [Int.toNat_natCast]
      refine ⟨hk48, fun v2 e2 _ => ⟨fun _ => nx _ hx hx2, fun _ => ⟨hk48, fun v3 e3 _ => ⟨fun _ => nx _ hx hx2, fun _ => ⟨hk48, fun v4 e4 _ => ⟨by omega, fun v5 e5 _ => ⟨fun _ => nx _ hx hx2, fun _ => ⟨hk48, fun v6 e6 _ => ⟨by omega, fun v7 e7 _ => ⟨hk48, fun v8 e8 _ => ?_⟩⟩⟩⟩⟩⟩⟩⟩⟩⟩
      have hq := hQ v6.toNat (by omega)
      refine ⟨by unfold InI; omega, hk48, fun v9 e9 _ => ?_⟩
      have := d7 (x := v9) hd (by omega)
      exact ⟨by unfold InI; omega, by unfold InI; omega, f_257 (fun _ _ => nx _ (by omega) (by omega))⟩
  exact CW.of (k := 2) mt_286 rfl rfl (w_286_0 (Ex.mono S (n + 1)) (key 49 0 0 (by omega) (by omega) (by omega) (by omega)))
theorem f_287 (hO : OpsOK mem) (hU : UnOK mem) (hd : 1 ≤ d ∧ d ≤ 12) {o t : Int} (ho : 0 ≤ o ∧ o < 8) (ht : -1000000 ≤ t ∧ t ≤ 1000000) (H : ∀ r m', Fr1 159 mem m' → K r m') : CWI (Ex S (n + 3)) 287 [.inr 143, .inl o, .inl t, .inl d] mem K := by
  refine CW.of (k := 1) mt_287 rfl rfl (w_287_0 (Ex.mono S (n + 2)) (f_271 hO hU ho ht hd (fun m1 k1 => ?_)))
  have hO1 := (k1.f59).ops hO
  have hU1 := (k1.f59).un hU
  exact f_264 hO1 hU1 ho (fun u u1 u2 _ => f_273 ⟨u1, u2⟩ hd (fun r _ _ => ⟨fun _ => f_271 hO1 hU1 ho ht hd (fun m2 k2 => ⟨_, rfl, H _ _ (k1.tr k2)⟩), fun _ => f_271 hO1 hU1 ho ht hd (fun m2 k2 => ⟨_, rfl, H _ _ (k1.tr k2)⟩)⟩))
theorem f_289 (hO : OpsOK mem) (hd : 1 ≤ d ∧ d ≤ 12) (hc : c ≤ 100000) (hQ : QT mem c) {o : Nat} {s : Int} (ho : (o : Int) < mem 143 1) (H : ∀ r, K r mem) : CWI (Ex S (n + 2)) 289 [.inr 143, .inl (o : Int), .inl s, .inl d] mem K := by
  have h8 := hO.1
  have hq := hQ o ho
  have ho8 : 0 ≤ (o : Int) ∧ (o : Int) < 8 := by omega
  have key : ∀ (N : Nat) (b : Int), 0 ≤ b → (4 - b).toNat < N → Wx (Ex S (n + 1)) S M_289 (fun r m => ∃ y, r = some y ∧ K y m) 3 [some (.inr 143), some (.inl (o : Int)), some (.inl s), some (.inl d), some (.inl b)] [] mem := by
    intro N
    induction N with
    | zero => intros; omega
    | succ N ih =>
      intro b hb hN
      refine w_289_3 (Ex.mono S (n + 1)) ⟨fun _ => ⟨_, rfl, H _⟩, fun q => f_265 hO ho8 (fun u _ b3 _ _ b4 _ _ => ⟨fun _ => ⟨by unfold InI; omega, ih (b + 1) (by omega) (by omega)⟩, fun _ => ⟨ho8, fun v5 e5 _ => ?_⟩⟩)⟩
      rw [Int.toNat_natCast] at e5
      exact ⟨by unfold InI; omega, f_272 ⟨by omega, by omega⟩ (fun r _ _ _ => ⟨fun _ => ⟨by unfold InI; omega, ih (b + 1) (by omega) (by omega)⟩, fun _ => ⟨_, rfl, H _⟩⟩)⟩
  exact CW.of (k := 1) mt_289 rfl rfl (w_289_0 (Ex.mono S (n + 1)) (key 5 0 (by omega) (by omega)))
theorem f_288 (hO : OpsOK mem) (hU : UnOK mem) (hd : 1 ≤ d ∧ d ≤ 12) (hc : c ≤ 100000) (hQ : QT mem c) {o p : Nat} (ho : (o : Int) < mem 143 1) (hp : (p : Int) < mem 143 1) (H : ∀ r, K r mem) : CWI (Ex S (n + 3)) 288 [.inr 143, .inl (o : Int), .inl (p : Int), .inl d] mem K := by
  have h8 := hO.1
  have ho8 : 0 ≤ (o : Int) ∧ (o : Int) < 8 := by omega
  have hp8 : 0 ≤ (p : Int) ∧ (p : Int) < 8 := by omega
  have key : ∀ (N : Nat) (s : Int), 0 ≤ s → (12 - s).toNat < N → Wx (Ex S (n + 2)) S M_288 (fun r m => ∃ y, r = some y ∧ K y m) 18 [some (.inr 143), some (.inl (o : Int)), some (.inl (p : Int)), some (.inl d), some (.inl s)] [] mem := by
    intro N
    induction N with
    | zero => intros; omega
    | succ N ih =>
      intro s hs hN
      have nx : ¬ d ≤ s → InI (s + 1) ∧ Wx (Ex S (n + 2)) S M_288 (fun r m => ∃ y, r = some y ∧ K y m) 18 [some (.inr 143), some (.inl (o : Int)), some (.inl (p : Int)), some (.inl d), some (.inl (s + 1))] [] mem := fun z => ⟨by unfold InI; omega, ih (s + 1) (by omega) (by omega)⟩
      exact w_288_18 (Ex.mono S (n + 2)) ⟨fun _ => ⟨_, rfl, H _⟩, fun q => f_264 hO hU ho8 (fun u u1 u2 _ => ⟨by unfold InI; omega, by unfold InI; omega, by omega, fun v3 _ _ => f_264 hO hU ho8 (fun w w1 w2 _ => ⟨by omega, fun v6 _ _ => ⟨fun _ => nx q, fun _ => f_289 hO hd hc hQ ho (fun r _ => ⟨fun _ => nx q, fun _ => f_289 hO hd hc hQ hp (fun r2 _ => ⟨fun _ => nx q, fun _ => ⟨_, rfl, H _⟩⟩)⟩)⟩⟩)⟩)⟩
  exact CW.of (k := 1) mt_288 rfl rfl (w_288_0 (Ex.mono S (n + 2)) (f_264 hO hU ho8 (fun u _ _ _ => f_264 hO hU hp8 (fun w _ _ _ => ⟨fun _ => key 13 0 (by omega) (by omega), fun _ => ⟨_, rfl, H _⟩⟩))))
theorem f_290 {K : MM → Prop} (hO : OpsOK mem) (hU : UnOK mem) (hd : 1 ≤ d ∧ d ≤ 12) (hc : 0 ≤ c ∧ c ≤ 100000) (hQ : QT mem c) {o : Nat} (ho : (o : Int) < mem 143 1) (H : ∀ m', FrK mem m' → QT m' c → K m') : CWV (Ex S (n + 3)) 290 [.inr 143, .inl (o : Int), .inl d] mem K := by
  have h8 := hO.1
  have hq := hQ o ho
  have ho8 : 0 ≤ (o : Int) ∧ (o : Int) < 8 := by omega
  refine CW.of (k := 0) mt_290 rfl rfl (w_290_0 (Ex.mono S (n + 2)) ⟨ho8, fun v1 e1 _ => ?_⟩)
  rw [Int.toNat_natCast] at e1 ⊢
  refine f_271 hO hU ho8 ⟨by omega, by omega⟩ hd (fun m2 k2 => ⟨ho8, rfl, H _ (k2.k59.tr (FrK.up (by omega))) (fun u hu => ?_)⟩)
  have hu' := k2.qt hQ u (by rw [upm_ne (by omega)] at hu; exact hu)
  rw [upm_ne (A := 163) (B := 164) (by omega)]
  refine ⟨?_, hu'.2⟩
  by_cases e : u = o
  · subst e; rw [upm_eq]; omega
  · rw [upm_ne (fun z => e z.2)]; exact hu'.1
theorem f_291 (hN : NdsOK mem) (hd : 1 ≤ d ∧ d ≤ 12) (hc : c ≤ 100000) (hQ : QT mem c) {k : Nat} (hk : (k : Int) < mem 143 12) (H : ∀ r, K r mem) : CWI (Ex S (n + 1)) 291 [.inr 143, .inl (k : Int), .inl d] mem K := by
  have h8 := hN.1
  have h48 := hN.2.1
  have hk48 : 0 ≤ (k : Int) ∧ (k : Int) < 48 := by omega
  obtain ⟨p1, p2, p3, p4, p5, p6, p7, p8, p9⟩ := hN.2.2 k (by omega)
  have q1 := hQ (mem 154 k).toNat (by omega)
  refine CW.of (k := 0) mt_291 rfl rfl (w_291_0 (Ex.mono S n) ⟨hk48, fun v1 e1 _ => ⟨?_, fun v2 e2 _ => ⟨hk48, fun v3 e3 _ => ⟨?_, fun v4 e4 _ => ⟨hk48, fun v5 e5 _ => ?_⟩⟩⟩⟩⟩) <;> rw [Int.toNat_natCast] at *
  · omega
  · omega
  · have e4 : v4 = mem 163 (mem 154 k).toNat := by rw [e4, e3]
    refine ⟨by unfold InI; omega, hk48, fun v6 e6 _ => ?_⟩
    have := d7 (x := v6) hd (by omega)
    exact ⟨by unfold InI; omega, by unfold InI; omega, fun _ => ⟨_, rfl, H _⟩, fun _ => ⟨_, rfl, H _⟩⟩
end QUICK
end
section
/-! the quick way of the reference: an op comes, all come -/
theorem FrK.qt1 {m : MM} {c c' t : Int} {o : Nat} (H : QT m c) (hc : c ≤ c') (ht : 0 ≤ t ∧ t ≤ c') : QT (upm (upm m 163 o t) 164 o t) c' := fun u hu => by
  have hu' := H u (by rw [upm_ne (by omega), upm_ne (by omega)] at hu; exact hu)
  rw [upm_ne (A := 164) (B := 163) (by omega)]
  constructor
  · by_cases e : u = o
    · subst e; rw [upm_eq]; omega
    · rw [upm_ne (fun z => e z.2)]; omega
  · by_cases e : u = o
    · subst e; rw [upm_eq]; omega
    · rw [upm_ne (fun z => e z.2), upm_ne (by omega)]; omega
section QUICK2
variable {S : Nat × (Nat → Int32)} {n : Nat} {mem : MM} {d c : Int}
theorem cq_254 {m0 : MM} {o : Nat} {x3 x4 g : Int} (h : RefOK m0) (hd : 1 ≤ d ∧ d ≤ 12) (hc : 0 ≤ c ∧ c ≤ 100000) {Kk : WK} (H : ∀ m', FrK m0 m' → QT m' c → Kk none m') : ∀ (N : Nat) (p : Nat) (m : MM), (p : Int) ≤ m0 143 1 → (m0 143 1 - p).toNat < N → FrK m0 m → QT m c → Wx (Ex S (n + 3)) S M_285 Kk 254 [some (.inr 143), some (.inl (o : Int)), some (.inl d), some (.inl x3), some (.inl x4), some (.inl g), some (.inl (p : Int)), none] [] m := by
  have h8 := h.ops.1
  intro N
  induction N with
  | zero => intros; omega
  | succ N ih =>
    intro p m hp hN hF hQ
    have e1' : m 143 1 = m0 143 1 := hF _ _ (by omega) (by omega) (by omega)
    have hm := hF.rest h
    exact w_285_254 (Ex.mono S (n + 3)) (fun v1 e1 _ => ⟨fun _ => H m hF hQ, fun q b2 _ _ b3 _ _ => ⟨fun _ => ⟨by unfold InI; omega, ih (p + 1) m (by omega) (by omega) hF hQ⟩, fun _ => f_290 hm.ops hm.un hd hc hQ (by omega) (fun m' k1 k2 => ⟨by unfold InI; omega, ih (p + 1) m' (by omega) (by omega) (hF.tr k1) k2⟩)⟩⟩)
theorem cq_155 {m0 : MM} {o : Nat} {x3 x4 : Int} (h : RefOK m0) (hN : NdsOK m0) (hd : 1 ≤ d ∧ d ≤ 12) (hc : 0 ≤ c ∧ c ≤ 100000) (ho : (o : Int) < m0 143 1) {Kk : WK} (H : ∀ m', FrK m0 m' → QT m' c → Kk none m') : ∀ (N : Nat) (k : Nat) (g : Int) (m : MM), (k : Int) ≤ m0 143 12 → (m0 143 12 - k).toNat < N → FrK m0 m → QT m c → Wx (Ex S (n + 3)) S M_285 Kk 155 [some (.inr 143), some (.inl (o : Int)), some (.inl d), some (.inl x3), some (.inl x4), some (.inl g), some (.inl (k : Int)), none] [] m := by
  have h8 := hN.1
  have h48 := hN.2.1
  intro N
  induction N with
  | zero => intros; omega
  | succ N ih =>
    intro k g m hk hNN hF hQ
    have e1' : m 143 1 = m0 143 1 := hF _ _ (by omega) (by omega) (by omega)
    have e12 : m 143 12 = m0 143 12 := hF _ _ (by omega) (by omega) (by omega)
    have hN' := hF.nds hN
    have nx : ∀ g, ¬ m 143 12 ≤ (k : Int) → InI ((k : Int) + 1) ∧ Wx (Ex S (n + 3)) S M_285 Kk 155 [some (.inr 143), some (.inl (o : Int)), some (.inl d), some (.inl x3), some (.inl x4), some (.inl g), some (.inl ((k : Int) + 1)), none] [] m := fun g z => ⟨by unfold InI; omega, ih (k + 1) g m (by omega) (by omega) hF hQ⟩
    refine w_285_155 (Ex.mono S (n + 3)) (fun v1 e1 _ => ⟨fun _ => cq_254 h hd hc H 9 0 m (by omega) (by omega) hF hQ, fun q => ?_⟩)
    subst e1
    have hk48 : 0 ≤ (k : Int) ∧ (k : Int) < 48 := by omega
    obtain ⟨p1, p2, p3, p4, -⟩ := hN'.2.2 k (by omega)
    have kept : CWI (Ex S (n + 3)) 291 [.inr 143, .inl (k : Int), .inl d] m fun r6 m5 => ∀ g2 : Int, InI r6 → m5 = m := f_291 hN' hd hc.2 hQ (by omega) (fun r g2 _ => rfl)
    rw [Int.toNat_natCast]
    refine ⟨hk48, fun v2 e2 _ => ⟨fun q2 => ⟨hk48, fun v3 e3 _ => ⟨fun q3 => ⟨fun _ => nx _ q, fun z => absurd rfl z⟩, fun q3 => ⟨hk48, fun v9 e9 _ => ⟨fun _ => nx _ q, fun _ => ⟨by omega, fun v10 _ _ => ⟨fun _ => nx _ q, fun _ => f_291 hN' hd hc.2 hQ (by omega) (fun r _ => ⟨fun _ => nx _ q, fun _ b7 _ _ b8 _ _ => nx _ q⟩)⟩⟩⟩⟩⟩⟩, fun q2 => ⟨hk48, fun v15 e15 _ => ⟨fun _ => nx _ q, fun _ => ⟨by omega, fun v16 _ _ => ⟨fun _ => nx _ q, fun _ => f_291 hN' hd hc.2 hQ (by omega) (fun r _ => ⟨fun _ => nx _ q, fun _ b7 _ _ b8 _ _ => nx _ q⟩)⟩⟩⟩⟩⟩⟩
theorem cq_99 {m0 : MM} {o : Nat} {x3 x4 : Int} (h : RefOK m0) (hN : NdsOK m0) (hd : 1 ≤ d ∧ d ≤ 12) (hc : 0 ≤ c ∧ c ≤ 100000) (ho : (o : Int) < m0 143 1) {Kk : WK} (H : ∀ m', FrK m0 m' → QT m' c → Kk none m') : ∀ (N : Nat) (p : Nat) (m : MM), (p : Int) ≤ m0 143 1 → (m0 143 1 - p).toNat < N → FrK m0 m → QT m c → Wx (Ex S (n + 3)) S M_285 Kk 99 [some (.inr 143), some (.inl (o : Int)), some (.inl d), some (.inl x3), some (.inl x4), some (.inl (p : Int)), none, none] [] m := by
  have h8 := h.ops.1
  have h48 := hN.2.1
  intro N
  induction N with
  | zero => intros; omega
  | succ N ih =>
    intro p m hp hNN hF hQ
    have e1' : m 143 1 = m0 143 1 := hF _ _ (by omega) (by omega) (by omega)
    have hm := hF.rest h
    have nx : ∀ m', FrK m0 m' → QT m' c → ¬ m 143 1 ≤ (p : Int) → InI ((p : Int) + 1) ∧ Wx (Ex S (n + 3)) S M_285 Kk 99 [some (.inr 143), some (.inl (o : Int)), some (.inl d), some (.inl x3), some (.inl x4), some (.inl ((p : Int) + 1)), none, none] [] m' := fun m' z1 z2 z3 => ⟨by unfold InI; omega, ih (p + 1) m' (by omega) (by omega) z1 z2⟩
    refine w_285_99 (Ex.mono S (n + 3)) (fun v1 e1 _ => ⟨fun _ => cq_155 h hN hd hc ho H 49 0 0 m (by omega) (by omega) hF hQ, fun q => ?_⟩)
    subst e1
    exact ⟨fun _ => nx m hF hQ q, fun _ => ⟨by omega, fun v2 _ _ => ⟨fun _ => nx m hF hQ q, fun _ => f_288 hm.ops hm.un hd hc.2 hQ (by omega) (by omega) (fun r _ => ⟨fun _ => nx m hF hQ q, fun _ => f_290 hm.ops hm.un hd hc hQ (by omega) (fun m' k1 k2 => nx m' (hF.tr k1) k2 q)⟩)⟩⟩⟩
theorem f_285 {K : MM → Prop} (h : RefOK mem) (hN : NdsOK mem) (hd : 1 ≤ d ∧ d ≤ 12) (hc : 0 ≤ c ∧ c ≤ 10000) (hQ : QT mem c) {o : Nat} (ho : (o : Int) < mem 143 1) (H : ∀ m', FrK mem m' → QT m' (c + 18) → K m') : CWV (Ex S (n + 4)) 285 [.inr 143, .inl (o : Int), .inl d] mem K := by
  have h8 := h.ops.1
  have ho8 : 0 ≤ (o : Int) ∧ (o : Int) < 8 := by omega
  refine CW.of (k := 5) mt_285 rfl rfl (w_285_0 (Ex.mono S (n + 3)) (f_286 hN hd ⟨hc.1, by omega⟩ hQ (fun r r1 r2 _ => ?_)))
  have at71 : ∀ (t : Int) (m : MM), 0 ≤ t → t ≤ c + 18 → Fr1 159 mem m → Wx (Ex S (n + 3)) S M_285 (fun r m => r = none ∧ K m) 71 [some (.inr 143), some (.inl (o : Int)), some (.inl d), some (.inl r), some (.inl t), none, none, none] [] m := by
    intro t m t1 t2 k1
    have hF : FrK mem (upm (upm m 163 o t) 164 o t) := (k1.k59.tr (FrK.up (Or.inl rfl))).tr (FrK.up (Or.inr rfl))
    have hm := hF.rest h
    refine w_285_71 (Ex.mono S (n + 3)) ⟨ho8, ho8, ?_⟩
    rw [Int.toNat_natCast]
    exact f_271 hm.ops hm.un ho8 ⟨by omega, by omega⟩ hd (fun m' k2 => cq_99 h hN hd (c := c + 18) ⟨by omega, by omega⟩ ho (fun m' a b => ⟨rfl, H m' a b⟩) 9 0 m' (by omega) (by omega) (hF.tr k2.k59) (k2.qt (FrK.qt1 (k1.qt hQ) (by omega) ⟨t1, t2⟩)))
  have at35 : ∀ (t : Int) (m : MM), r ≤ t → t ≤ r + d → Fr1 159 mem m → Wx (Ex S (n + 3)) S M_285 (fun r m => r = none ∧ K m) 35 [some (.inr 143), some (.inl (o : Int)), some (.inl d), some (.inl r), some (.inl t), none, none, none] [] m := by
    intro t m t1 t2 k1
    have hl := (k1.qt hQ o (by rw [k1 143 1 (by omega)]; exact ho)).2
    refine w_285_35 (Ex.mono S (n + 3)) ⟨by unfold InI; omega, fun _ => at71 t m (by omega) (by omega) k1, fun _ => ⟨ho8, fun v1 _ _ => ⟨fun _ => ⟨ho8, fun v2 e2 _ => ?_⟩, fun _ => at71 r m r1 (by omega) k1⟩⟩⟩
    rw [Int.toNat_natCast] at e2
    exact ⟨by unfold InI; omega, f_257 (fun _ _ => at71 _ m (by omega) (by omega) k1)⟩
  have key : ∀ (N : Nat) (t : Int) (m : MM), r ≤ t → t ≤ r + d → (r + d - t).toNat < N → Fr1 159 mem m → Wx (Ex S (n + 3)) S M_285 (fun r m => r = none ∧ K m) 10 [some (.inr 143), some (.inl (o : Int)), some (.inl d), some (.inl r), some (.inl t), none, none, none] [] m := by
    intro N
    induction N with
    | zero => intros; omega
    | succ N ih =>
      intro t m t1 t2 hNN k1
      have hm := k1.k59.rest h
      exact w_285_10 (Ex.mono S (n + 3)) ⟨by unfold InI; omega, fun _ => at35 t m t1 t2 k1, fun q => f_287 hm.ops hm.un hd ho8 ⟨by omega, by omega⟩ (fun r2 m' k2 _ => ⟨fun _ => at35 t m' t1 t2 (k1.tr k2), fun _ => ⟨by unfold InI; omega, ih (t + 1) m' (by omega) (by omega) (by omega) (k1.tr k2)⟩⟩)⟩
  exact key _ r mem (by omega) (by omega) (Nat.lt_succ_self _) Fr1.rf
theorem FrM.rest {m m' : MM} (e : ∀ A i, ¬ A = 159 → ¬ A = 163 → ¬ A = 164 → ¬ (A = 143 ∧ i = 25) → m' A i = m A i) (h : RefOK m) : RefOK m' ∧ FrQ m m' :=
  ⟨Kp.rest (fun A i q => e A i (by omega) (by omega) (by omega) (by omega)) h (fun o ho => by rw [e _ _ (by omega) (by omega) (by omega) (by omega)]; exact h.sl o ho) (fun j hj => by rw [e _ _ (by omega) (by omega) (by omega) (by omega), e _ _ (by omega) (by omega) (by omega) (by omega), e _ _ (by omega) (by omega) (by omega) (by omega), e _ _ (by omega) (by omega) (by omega) (by omega)]; exact h.r48 j hj) (by rw [e _ _ (by omega) (by omega) (by omega) (by omega)]; exact h.nd), fun A i q => e A i (by omega) (by omega) (by omega) (by omega)⟩
def FrM (m m' : MM) : Prop := ∀ A i, ¬ A = 159 → ¬ A = 163 → ¬ A = 164 → ¬ (A = 143 ∧ i = 25) → m' A i = m A i
theorem FrK.m {m m' : MM} (e : FrK m m') : FrM m m' := fun A i e1 e2 e3 _ => e A i e1 e2 e3
theorem FrM.tr {a b c : MM} (h1 : FrM a b) (h2 : FrM b c) : FrM a c := fun A i e1 e2 e3 e4 => (h2 A i e1 e2 e3 e4).trans (h1 A i e1 e2 e3 e4)
theorem FrM.mv {m : MM} {x : Int} : FrM m (upm m 143 25 x) := fun B j _ _ _ e => upm_ne e
theorem FrM.nds {m m' : MM} (h : FrM m m') (H : NdsOK m) : NdsOK m' := by
  have e : ∀ A i, (A = 143 ∧ (i = 1 ∨ i = 12)) ∨ (153 < A ∧ A < 158) → m' A i = m A i := fun A i q => h A i (by omega) (by omega) (by omega) (by omega)
  refine ⟨by rw [e 143 1 (by omega)]; exact H.1, by rw [e 143 12 (by omega)]; exact H.2.1, fun j hj => ?_⟩
  rw [e 143 12 (by omega)] at hj
  rw [e 143 1 (by omega), e 154 j (by omega), e 155 j (by omega), e 156 j (by omega), e 157 j (by omega)]
  exact H.2.2 j hj
theorem f_282 {K : Int → MM → Prop} (h : RefOK mem) (hN : NdsOK mem) (hd : 1 ≤ d ∧ d ≤ 12) (H : ∀ r m', r = 0 ∨ r = 1 → FrM mem m' → K r m') : CWI (Ex S (n + 5)) 282 [.inr 143, .inl d] mem K := by
  have h8 := h.ops.1
  have l71 : ∀ (N : Nat) (o : Int) (m : MM), (o = -1 ∨ (0 ≤ o ∧ o < mem 143 1)) → (48 - m 143 25).toNat < N → 0 ≤ m 143 25 → m 143 25 ≤ 48 → FrM mem m → QT m (18 * m 143 25) → Wx (Ex S (n + 4)) S M_282 (fun r m => ∃ y, r = some y ∧ K y m) 71 [some (.inr 143), some (.inl d), some (.inl o)] [] m := by
    intro N
    induction N with
    | zero => intros; omega
    | succ N ih =>
      intro o m ho hNN c0 c1 hF hQ
      have e1' : m 143 1 = mem 143 1 := hF _ _ (by omega) (by omega) (by omega) (by omega)
      have f0 : ∃ y, some (0 : Int) = some y ∧ K y m := ⟨_, rfl, H _ _ (Or.inl rfl) hF⟩
      have f1 : ∃ y, some (1 : Int) = some y ∧ K y m := ⟨_, rfl, H _ _ (Or.inr rfl) hF⟩
      refine w_282_71 (Ex.mono S (n + 4)) ⟨fun _ => ⟨fun _ => f0, fun _ => f1⟩, fun q v1 e1 _ v2 e2 _ => ⟨by unfold InI; omega, fun _ => ⟨fun _ => f0, fun _ => f1⟩, fun q2 => ?_⟩⟩
      obtain ⟨p, rfl⟩ : ∃ p : Nat, o = (p : Int) := ⟨o.toNat, by omega⟩
      refine f_285 (FrM.rest hF h).1 (hF.nds hN) hd (c := 18 * m 143 25) ⟨by omega, by omega⟩ hQ (by omega) (fun m3 k1 k2 v4 e4 _ => ?_)
      have e4' : v4 = v1 := by rw [e4, e1]; exact k1 _ _ (by omega) (by omega) (by omega)
      have e13 : m3 143 1 = mem 143 1 := by rw [k1 _ _ (by omega) (by omega) (by omega)]; exact e1'
      have e25 : upm m3 143 25 (v4 + 1) 143 25 = v4 + 1 := upm_eq
      have e21 : upm m3 143 25 (v4 + 1) 143 1 = mem 143 1 := by rw [upm_ne (by omega)]; exact e13
      refine ⟨by unfold InI; omega, f_284 (by rw [e21]; exact h8) (fun r hr _ => ih r _ (by rw [e21] at hr; exact hr) (by rw [e25]; omega) (by rw [e25]; omega) (by rw [e25]; omega) ((hF.tr k1.m).tr FrM.mv) (fun u hu => ?_))⟩
      rw [e21] at hu
      have := k2 u (by rw [e13]; exact hu)
      rw [e25, upm_ne (A := 143) (B := 163) (by omega), upm_ne (A := 143) (B := 164) (by omega)]
      omega
  have l38 : ∀ (N : Nat) (o : Nat) (m : MM), (o : Int) ≤ mem 143 1 → (mem 143 1 - o).toNat < N → m 143 25 = 0 → FrM mem m → (∀ u : Nat, u < o → m 163 u = -1 ∧ m 164 u = -1) → Wx (Ex S (n + 4)) S M_282 (fun r m => ∃ y, r = some y ∧ K y m) 38 [some (.inr 143), some (.inl d), some (.inl (o : Int))] [] m := by
    intro N
    induction N with
    | zero => intros; omega
    | succ N ih =>
      intro o m ho hNN c0 hF hA
      have e1' : m 143 1 = mem 143 1 := hF _ _ (by omega) (by omega) (by omega) (by omega)
      refine w_282_38 (Ex.mono S (n + 4)) (fun v1 e1 _ => ⟨fun q => f_284 (by rw [e1']; exact h8) (fun r hr _ => l71 _ r m (by rw [e1'] at hr; exact hr) (Nat.lt_succ_self _) (by omega) (by omega) hF (fun u hu => ?_)), fun q => ⟨by omega, by omega, by unfold InI; omega, ?_⟩⟩)
      · have := hA u (by omega); omega
      · rw [Int.toNat_natCast]
        refine ih (o + 1) _ (by omega) (by omega) (by rw [upm_ne (by omega), upm_ne (by omega)]; exact c0) (hF.tr (FrK.m ((FrK.up (Or.inl rfl)).tr (FrK.up (Or.inr rfl))))) (fun u hu => ?_)
        rw [upm_ne (A := 164) (B := 163) (by omega)]
        by_cases e : u = o
        · subst e; rw [upm_eq, upm_eq]; exact ⟨rfl, rfl⟩
        · rw [upm_ne (fun z => e z.2), upm_ne (fun z => e z.2), upm_ne (by omega)]; exact hA u (by omega)
  have l2 : ∀ (N : Nat) (o : Nat) (m : MM), (o : Int) ≤ mem 143 1 → (mem 143 1 - o).toNat < N → Fr1 159 mem m → Wx (Ex S (n + 4)) S M_282 (fun r m => ∃ y, r = some y ∧ K y m) 2 [some (.inr 143), some (.inl d), some (.inl (o : Int))] [] m := by
    intro N
    induction N with
    | zero => intros; omega
    | succ N ih =>
      intro o m ho hNN hF
      have e1' : m 143 1 = mem 143 1 := hF _ _ (by omega)
      have hm := hF.k59.rest h
      exact w_282_2 (Ex.mono S (n + 4)) (fun v1 e1 _ => ⟨fun q => f_270 (fun m2 k2 => l38 9 0 _ (by omega) (by omega) upm_eq ((hF.tr k2).k59.m.tr FrM.mv) (fun u hu => by omega)), fun q => f_283 hm.ops hm.un (hF.k59.nds hN) hd ⟨by omega, by omega⟩ (fun r m' k _ => ⟨fun _ => ⟨by unfold InI; omega, ih (o + 1) m' (by omega) (by omega) (hF.tr k)⟩, fun _ => ⟨_, rfl, H _ _ (Or.inl rfl) (hF.tr k).k59.m⟩⟩)⟩)
  exact CW.of (k := 1) mt_282 rfl rfl (w_282_0 (Ex.mono S (n + 4)) (l2 9 0 mem (by omega) (by omega) Fr1.rf))
theorem f_281 {K : Int → MM → Prop} (h : RefOK mem) (hN : NdsOK mem) (hd : 1 ≤ d ∧ d ≤ 12) (H : ∀ r m', r = 0 ∨ r = 1 → RefOK m' → FrQ mem m' → K r m') : CWI (Ex S (n + 6)) 281 [.inr 143, .inl d] mem K := by
  refine CW.of (k := 0) mt_281 rfl rfl (w_281_0 (Ex.mono S (n + 5)) (f_256 hN ⟨by omega, by omega⟩ (fun m1 k1 _ => ?_)))
  obtain ⟨g1, g2⟩ := k1.rest158 h
  refine f_282 g1 (hN.fr k1) hd (fun r m' hr k _ => ⟨hr, _, rfl, ?_⟩)
  obtain ⟨q1, q2⟩ := FrM.rest k g1
  exact H r m' hr q1 (g2.tr q2)
theorem f_280 {K : Int → MM → Prop} {a : Int} (h : RefOK mem) (H : Fin mem K) : CWI (Ex S (n + 7)) 280 [.inr 143, .inl a, .inl d] mem K := by
  have h8 := h.ops.1
  exact CW.of (k := 0) mt_280 rfl rfl (w_280_0 (Ex.mono S (n + 6)) (f_235 h8 (fun a1 a2 _ => ⟨fun _ => f_253 (fun d1 d2 _ => ⟨fun _ => f_254r h (fun m' h1 h2 _ => ⟨fun z => absurd z (by decide), fun _ _ => H.thr h1 h2 0 (by omega)⟩) (fun m' h1 h2 hk hN _ => ⟨fun _ => f_281 (h1.th' (by omega)) hN.th ⟨d1, d2⟩ (fun r m2 _ g1 g2 _ => ⟨fun _ _ => H.at g1 ((h2.tr FrQ.th).tr g2) _, fun _ => ⟨by omega, fun v _ _ _ => H.at g1 ((h2.tr FrQ.th).tr g2) _⟩⟩), fun z => absurd rfl z⟩), fun z => absurd (by decide) z⟩) (fun _ => ⟨fun z => absurd rfl z, fun _ _ => H.thr h FrQ.rf 0 (by omega)⟩), fun z => absurd (by decide) z⟩) (fun _ => ⟨fun z => absurd rfl z, fun _ _ => H.thr h FrQ.rf 0 (by omega)⟩)))
theorem f_292 {K : Int → MM → Prop} (h : RefOK mem) (H : Fin mem K) : CWI (Ex S (n + 7)) 292 [.inr 143, .inl d] mem K := by
  exact CW.of (k := 0) mt_292 rfl rfl (w_292_0 (Ex.mono S (n + 6)) (f_253 (fun d1 d2 _ => ⟨fun _ => f_254r h (fun m' h1 h2 _ => ⟨fun z => absurd z (by decide), fun _ _ => H.thr h1 h2 0 (by omega)⟩) (fun m' h1 h2 hk hN _ => ⟨fun _ => f_281 (h1.th' (by omega)) hN.th ⟨d1, d2⟩ (fun r m2 _ g1 g2 _ => ⟨fun _ _ => H.at g1 ((h2.tr FrQ.th).tr g2) _, fun _ v _ _ _ => H.at g1 ((h2.tr FrQ.th).tr g2) _⟩), fun z => absurd rfl z⟩), fun z => absurd (by decide) z⟩) (fun _ => ⟨fun z => absurd rfl z, fun _ _ => H.thr h FrQ.rf 0 (by omega)⟩)))
theorem f_293 {K : Int → MM → Prop} (h : RefOK mem) (H : Fin mem K) : CWI (Ex S (n + 7)) 293 [.inr 143] mem K := by
  have key : ∀ (N : Nat) (c : Int) (m : MM), 1 ≤ c → (13 - c).toNat < N → RefOK m → FrQ mem m → Wx (Ex S (n + 6)) S M_293 (fun r m => ∃ y, r = some y ∧ K y m) 27 [some (.inr 143), some (.inl c)] [] m := by
    intro N
    induction N with
    | zero => intros; omega
    | succ N ih =>
      intro c m hc hN hm hq
      exact w_293_27 (Ex.mono S (n + 6)) ⟨fun _ _ => H.at hm hq _, fun q => f_254r hm (fun m' h1 h2 _ => ⟨fun _ => ⟨by unfold InI; omega, ih (c + 1) m' (by omega) (by omega) h1 (hq.tr h2)⟩, fun z => absurd (by decide) z⟩) (fun m' h1 h2 _ hN' _ => ⟨fun z => absurd rfl z, fun _ => f_281 h1 hN' ⟨hc, by omega⟩ (fun r m2 _ g1 g2 _ => ⟨fun _ => ⟨by unfold InI; omega, ih (c + 1) m2 (by omega) (by omega) g1 ((hq.tr h2).tr g2)⟩, fun _ _ => H.at g1 ((hq.tr h2).tr g2) _⟩)⟩)⟩
  exact CW.of (k := 1) mt_293 rfl rfl (w_293_0 (Ex.mono S (n + 6)) (f_240 h.ops (fun _ _ => ⟨fun z => absurd z (by decide), fun _ => key 13 1 _ (by omega) (by omega) (h.th' (by omega)) FrQ.th⟩) (fun _ _ => ⟨fun _ _ => H.thr h FrQ.rf 0 (by omega), fun z => absurd rfl z⟩)))
end QUICK2
end
section
/-! turning, rotary, bare of the reference -/
def SpOK (m : MM) (k : Nat) : Prop := ∀ a, a < k → -1 ≤ m 169 a ∧ m 169 a ≤ 40
theorem Fr1.rest169 {m m' : MM} (e : Fr1 169 m m') (h : RefOK m) : RefOK m' ∧ FrQ m m' :=
  ⟨Kp.rest (fun A i q => e A i (by omega)) h (fun o ho => by rw [e _ _ (by omega)]; exact h.sl o ho) (fun j hj => by rw [e _ _ (by omega), e _ _ (by omega), e _ _ (by omega), e _ _ (by omega)]; exact h.r48 j hj) (by rw [e _ _ (by omega)]; exact h.nd), fun A i q => e A i (by omega)⟩
theorem Fr1.tm169 {m m' : MM} {d : Int} (e : Fr1 169 m m') (h : TmOK m d) : TmOK m' d := fun o ho => by
  rw [e 143 1 (by omega)] at ho
  rw [e 161 o (by omega)]; exact h o ho
section TURN
variable {S : Nat × (Nat → Int32)} {n : Nat} {mem : MM} {K : Int → MM → Prop} {d : Int}
theorem f_341 (hO : OpsOK mem) (hT : TmOK mem d) (hd : 1 ≤ d ∧ d ≤ 12) {a b : Nat} {t : Int} (ha : (a : Int) < mem 143 1) (hb : (b : Int) < mem 143 1) (ht : -1000 ≤ t ∧ t ≤ 1000) (H : ∀ r, K r mem) : CWI (Ex S (n + 4)) 341 [.inr 143, .inl (a : Int), .inl (b : Int), .inl t, .inl d] mem K := by
  have h8 := hO.1
  have ta := hT a ha
  have tb := hT b hb
  have la := hO.lat (o := a) (by omega)
  have lb := hO.lat (o := b) (by omega)
  have fa := lifeF_rng hO hT hd ha
  have fb := lifeF_rng hO hT hd hb
  have p : -12000 ≤ d * t ∧ d * t ≤ 12000 := by
    have a1 : d * (-1000) ≤ d * t := Int.mul_le_mul_of_nonneg_left ht.1 (by omega)
    have a2 : d * t ≤ d * 1000 := Int.mul_le_mul_of_nonneg_left ht.2 (by omega)
    omega
  refine CW.of (k := 2) mt_341 rfl rfl (w_341_0 (Ex.mono S (n + 3)) (f_299 hO ⟨by omega, ha⟩ (by rw [Int.toNat_natCast]; omega) (fun _ => f_299 hO ⟨by omega, hb⟩ (by rw [Int.toNat_natCast]; omega) (fun _ => ?_))))
  rw [Int.toNat_natCast, Int.toNat_natCast]
  exact ⟨by unfold InI; omega, by unfold InI; omega, f_298 hO hT hd ha (fun _ => ⟨by unfold InI; omega, by unfold InI; omega, fun _ => ⟨_, rfl, H _⟩, fun _ => f_298 hO hT hd hb (fun _ => ⟨by unfold InI; omega, by unfold InI; omega, fun _ => ⟨_, rfl, H _⟩, fun _ => ⟨_, rfl, H _⟩⟩)⟩)⟩
theorem f_340 (hO : OpsOK mem) (hT : TmOK mem d) (hd : 1 ≤ d ∧ d ≤ 12) {a b : Nat} {r : Int} (hr : 1 ≤ r ∧ r ≤ 40) (ha : (a : Int) < mem 143 1) (hb : (b : Int) < mem 143 1) (sa : -1 ≤ mem 169 a ∧ mem 169 a ≤ 40) (sb : -1 ≤ mem 169 b ∧ mem 169 b ≤ 40) (H : ∀ r, K r mem) : CWI (Ex S (n + 5)) 340 [.inr 143, .inl (a : Int), .inl (b : Int), .inl d, .inl r] mem K := by
  have h8 := hO.1
  have key : ∀ (N : Nat) (y t : Int), -1000 ≤ t → t ≤ 441 → (441 - t).toNat < N → Wx (Ex S (n + 4)) S M_340 (fun r m => ∃ y, r = some y ∧ K y m) 37 [some (.inr 143), some (.inl (a : Int)), some (.inl (b : Int)), some (.inl d), some (.inl r), some (.inl y), some (.inl t)] [] mem := by
    intro N
    induction N with
    | zero => intros; omega
    | succ N ih =>
      intro y t t1 t2 hN
      have nx : ¬ 400 < t → InI (t + r) ∧ Wx (Ex S (n + 4)) S M_340 (fun r m => ∃ y, r = some y ∧ K y m) 37 [some (.inr 143), some (.inl (a : Int)), some (.inl (b : Int)), some (.inl d), some (.inl r), some (.inl y), some (.inl (t + r))] [] mem := fun z => ⟨by unfold InI; omega, ih y (t + r) (by omega) (by omega) (by omega)⟩
      exact w_340_37 (Ex.mono S (n + 4)) ⟨fun _ => ⟨_, rfl, H _⟩, fun q => ⟨fun _ => f_341 hO hT hd ha hb ⟨by omega, by omega⟩ (fun r _ => ⟨fun _ => nx q, fun _ => ⟨_, rfl, H _⟩⟩), fun _ => ⟨fun _ => nx q, fun _ => f_341 hO hT hd ha hb ⟨by omega, by omega⟩ (fun r _ => ⟨fun _ => nx q, fun _ => ⟨_, rfl, H _⟩⟩)⟩⟩⟩
  refine CW.of (k := 2) mt_340 rfl rfl (w_340_0 (Ex.mono S (n + 4)) ⟨by omega, fun v1 e1 _ => ⟨by omega, fun v2 e2 _ => ?_⟩⟩)
  rw [Int.toNat_natCast] at e1 e2
  have e := Int.mul_tdiv_add_tmod 400 r
  have e2' := tmod_r (x := 400) (y := r) (by omega) (by omega)
  rw [Int.mul_comm] at e
  exact ⟨by unfold InI; omega, f_272 ⟨by omega, by omega⟩ (fun u u1 u2 _ => ⟨by omega, by unfold InI; omega, by unfold InI; omega, by unfold InI; omega, key _ u _ (by omega) (by omega) (Nat.lt_succ_self _)⟩)⟩
theorem f_339 (hO : OpsOK mem) (hT : TmOK mem d) (hd : 1 ≤ d ∧ d ≤ 12) {o : Nat} {x r : Int} (hr : 1 ≤ r ∧ r ≤ 40) (hx : 0 ≤ x ∧ x ≤ 40) (ho : (o : Int) < mem 143 1) (hs : SpOK mem o) (H : ∀ r, K r (upm mem 169 o x)) : CWI (Ex S (n + 6)) 339 [.inr 143, .inl (o : Int), .inl x, .inl d, .inl r] mem K := by
  have h8 := hO.1
  have hO' : OpsOK (upm mem 169 o x) := hO
  have hT' : TmOK (upm mem 169 o x) d := hT
  have hso : -1 ≤ upm mem 169 o x 169 o ∧ upm mem 169 o x 169 o ≤ 40 := by rw [upm_eq]; omega
  have key : ∀ (N : Nat) (a : Nat), a ≤ o → o - a < N → Wx (Ex S (n + 5)) S M_339 (fun r m => ∃ y, r = some y ∧ K y m) 24 [some (.inr 143), some (.inl (o : Int)), some (.inl x), some (.inl d), some (.inl r), some (.inl (a : Int))] [] (upm mem 169 o x) := by
    intro N
    induction N with
    | zero => intros; omega
    | succ N ih =>
      intro a ha hN
      refine w_339_24 (Ex.mono S (n + 5)) ⟨fun _ => ⟨_, rfl, H _⟩, fun q => ?_⟩
      have hsa : -1 ≤ upm mem 169 o x 169 a ∧ upm mem 169 o x 169 a ≤ 40 := by rw [upm_ne (by omega)]; exact hs a (by omega)
      have ha1 : (a : Int) < upm mem 169 o x 143 1 := by rw [upm_ne (by omega)]; omega
      exact f_298 hO' hT' hd ha1 (fun _ => ⟨fun _ => ⟨by unfold InI; omega, ih (a + 1) (by omega) (by omega)⟩, fun _ => f_340 hO' hT' hd hr ha1 ho hsa hso (fun r _ => ⟨fun _ => ⟨by unfold InI; omega, ih (a + 1) (by omega) (by omega)⟩, fun _ => ⟨_, rfl, H _⟩⟩)⟩)
  refine CW.of (k := 1) mt_339 rfl rfl (w_339_0 (Ex.mono S (n + 5)) ⟨by omega, ?_⟩)
  rw [Int.toNat_natCast]
  exact f_340 hO' hT' hd hr ho ho hso hso (fun r _ => ⟨fun _ => key _ 0 (by omega) (Nat.lt_succ_self _), fun _ => ⟨_, rfl, H _⟩⟩)
theorem f_338 (hO : OpsOK mem) (hT : TmOK mem d) (hd : 1 ≤ d ∧ d ≤ 12) {r : Int} (hr : 1 ≤ r ∧ r ≤ 40) (H : ∀ y m', Fr1 169 mem m' → K y m') : CWI (Ex S (n + 7)) 338 [.inr 143, .inl d, .inl r] mem K := by
  have h8 := hO.1
  have spu : ∀ (m : MM) (o : Nat) (x : Int), SpOK m o → -1 ≤ x → x ≤ 40 → SpOK (upm m 169 o x) (o + 1) := fun m o x h x1 x2 a ha => by
    by_cases e : a = o
    · subst e; rw [upm_eq]; omega
    · rw [upm_ne (fun z => e z.2)]; exact h a (by omega)
  have key : ∀ (N : Nat) (o : Nat) (m : MM), (o : Int) ≤ mem 143 1 → (mem 143 1 - o).toNat < N → Fr1 169 mem m → SpOK m o → Wx (Ex S (n + 6)) S M_338 (fun r m => ∃ y, r = some y ∧ K y m) 2 [some (.inr 143), some (.inl d), some (.inl r), some (.inl (o : Int)), none] [] m := by
    intro N
    induction N with
    | zero => intros; omega
    | succ N ih =>
      intro o m ho hN hF hS
      have e1' : m 143 1 = mem 143 1 := hF _ _ (by omega)
      refine w_338_2 (Ex.mono S (n + 6)) (fun v1 e1 _ => ⟨fun q v2 _ _ _ => ⟨_, rfl, H _ _ hF⟩, fun q => ⟨by omega, ?_⟩⟩)
      rw [Int.toNat_natCast]
      have up : ∀ (m : MM) (x : Int), Fr1 169 mem m → Fr1 169 mem (upm m 169 o x) := fun m x h => h.tr Fr1.up
      have opsF : ∀ m, Fr1 169 mem m → OpsOK m := fun m h => by
        refine ⟨by rw [h 143 1 (by omega)]; exact hO.1, fun u hu => ?_, fun i hi => by rw [h 151 i (by omega)]; exact hO.2.2 i hi⟩
        have := hO.2.1 u hu
        unfold OpOK at this ⊢
        rw [h 144 u (by omega), h 145 u (by omega), h 146 u (by omega), h 147 u (by omega), h 148 u (by omega)]
        exact this
      have inner : ∀ (N' : Nat) (x : Int) (m' : MM), 0 ≤ x → x ≤ r → (r - x).toNat < N' → Fr1 169 mem m' → SpOK m' o → Wx (Ex S (n + 6)) S M_338 (fun r m => ∃ y, r = some y ∧ K y m) 32 [some (.inr 143), some (.inl d), some (.inl r), some (.inl (o : Int)), some (.inl x)] [] m' := by
        intro N'
        induction N' with
        | zero => intros; omega
        | succ N' ih2 =>
          intro x m' x1 x2 hN' hF' hS'
          have e2' : m' 143 1 = mem 143 1 := hF' _ _ (by omega)
          have fin : ∀ m2, Fr1 169 mem m2 → SpOK m2 o → (¬ x = r → ((0 : Int) ≤ (o : Int) ∧ ((o : Int) : Int) < 8) ∧ (InI ((o : Int) + 1)) ∧ (Wx (Ex S (n + 6)) S M_338 (fun r m => ∃ y, r = some y ∧ K y m) 2 [some (.inr 143), some (.inl d), some (.inl r), some (.inl ((o : Int) + 1)), none] [] (upm m2 169 (Int.toNat (o : Int)) x))) ∧ (¬ (¬ x = r) → ((0 : Int) ≤ (o : Int) ∧ ((o : Int) : Int) < 8) ∧ (InI (o : Int) → ∃ y, some (o : Int) = some y ∧ K y (upm m2 169 (Int.toNat (o : Int)) (-1)))) := fun m2 g1 g2 => by
            rw [Int.toNat_natCast]
            exact ⟨fun _ => ⟨by omega, by unfold InI; omega, ih (o + 1) _ (by omega) (by omega) (up _ _ g1) (spu _ _ _ g2 (by omega) (by omega))⟩, fun _ => ⟨by omega, fun _ => ⟨_, rfl, H _ _ (up _ _ g1)⟩⟩⟩
          refine w_338_32 (Ex.mono S (n + 6)) ⟨fun _ => fin m' hF' hS', fun q2 => f_339 (opsF _ hF') (hF'.tm169 hT) hd hr ⟨x1, by omega⟩ (by omega) hS' (fun u _ => ?_)⟩
          have s2 : SpOK (upm m' 169 o x) o := fun a ha => spu m' o x hS' (by omega) (by omega) a (by omega)
          exact ⟨fun _ => fin _ (up _ _ hF') s2, fun _ => ⟨by unfold InI; omega, ih2 (x + 1) _ (by omega) (by omega) (by omega) (up _ _ hF') s2⟩⟩
      have hF2 := up m (-1) hF
      have s3 : SpOK (upm m 169 o (-1)) (o + 1) := spu m o (-1) hS (by omega) (by omega)
      have h21 : (o : Int) < upm m 169 o (-1) 143 1 := by rw [upm_ne (by omega)]; omega
      exact f_298 (opsF _ hF2) (hF2.tm169 hT) hd h21 (fun _ => ⟨fun _ => inner _ 0 _ (by omega) (by omega) (Nat.lt_succ_self _) hF2 (fun a ha => s3 a (by omega)), fun _ => ⟨by unfold InI; omega, ih (o + 1) _ (by omega) (by omega) hF2 s3⟩⟩)
  exact CW.of (k := 2) mt_338 rfl rfl (w_338_0 (Ex.mono S (n + 6)) (key 9 0 mem (by omega) (by omega) Fr1.rf (fun a ha => by omega)))
theorem f_337 (h : RefOK mem) (H : Fin mem K) : CWI (Ex S (n + 8)) 337 [.inr 143, .inl d] mem K := by
  refine CW.of (k := 1) mt_337 rfl rfl (w_337_0 (Ex.mono S (n + 7)) (f_253 (fun d1 d2 _ => ⟨fun _ => f_268r h ⟨d1, d2⟩ (fun m' h1 h2 hk _ _ h5 _ => ⟨fun _ => ?_, fun z => absurd (by decide) z⟩) (fun m' h1 h2 _ => ⟨fun z => absurd rfl z, fun _ _ => H.thr h1 h2 0 (by omega)⟩), fun z => absurd (by decide) z⟩) (fun _ => ⟨fun z => absurd rfl z, fun _ _ => H.thr h FrQ.rf 0 (by omega)⟩)))
  have key : ∀ (N : Nat) (r : Int) (m : MM), 1 ≤ r → (41 - r).toNat < N → RefOK m → FrQ mem m → TmOK m d → Wx (Ex S (n + 7)) S M_337 (fun r m => ∃ y, r = some y ∧ K y m) 39 [some (.inr 143), some (.inl d), some (.inl r)] [] m := by
    intro N
    induction N with
    | zero => intros; omega
    | succ N ih =>
      intro r m hr hN hm hq hT
      refine w_337_39 (Ex.mono S (n + 7)) ⟨fun _ _ => H.at hm hq _, fun q => f_338 hm.ops hT ⟨d1, d2⟩ ⟨hr, by omega⟩ (fun y m2 k2 _ v3 _ _ => ?_)⟩
      obtain ⟨g1, g2⟩ := k2.rest169 hm
      exact ⟨fun _ => ⟨by unfold InI; omega, ih (r + 1) m2 (by omega) (by omega) g1 (hq.tr g2) (k2.tm169 hT)⟩, fun _ _ => H.at g1 (hq.tr g2) _⟩
  exact key 41 1 _ (by omega) (by omega) (h1.th' (by omega)) (h2.tr FrQ.th) h5.th
theorem f_342 {a r : Int} (h : RefOK mem) (H : Fin mem K) : CWI (Ex S (n + 8)) 342 [.inr 143, .inl a, .inl d, .inl r] mem K := by
  have h8 := h.ops.1
  refine CW.of (k := 0) mt_342 rfl rfl (w_342_0 (Ex.mono S (n + 7)) (f_235 h8 (fun a1 a2 _ => ⟨fun _ => f_253 (fun d1 d2 _ => ⟨fun z => absurd z (by decide), fun _ => f_227 (fun r1 r2 _ => ⟨fun _ => f_268r h ⟨d1, d2⟩ (fun m' h1 h2 hk _ _ h5 _ => ⟨fun _ => ?_, fun z => absurd (by decide) z⟩) (fun m' h1 h2 _ => ⟨fun z => absurd rfl z, fun _ _ => H.thr h1 h2 0 (by omega)⟩), fun z => absurd (by decide) z⟩) (fun _ _ => ⟨fun z => absurd rfl z, fun _ _ => H.thr h FrQ.rf 0 (by omega)⟩)⟩) (fun _ => ⟨fun _ _ => H.thr h FrQ.rf 0 (by omega), fun z => absurd rfl z⟩), fun z => absurd (by decide) z⟩) (fun _ => ⟨fun z => absurd rfl z, fun _ _ => H.thr h FrQ.rf 0 (by omega)⟩)))
  have hm := h1.th' (z := 0) (by omega)
  refine f_338 hm.ops h5.th ⟨d1, d2⟩ ⟨r1, r2⟩ (fun y m2 k2 _ => ?_)
  obtain ⟨g1, g2⟩ := k2.rest169 hm
  exact ⟨fun _ _ => H.at g1 ((h2.tr FrQ.th).tr g2) _, fun _ => ⟨by omega, fun v _ _ _ => H.at g1 ((h2.tr FrQ.th).tr g2) _⟩⟩
def FrB (m m' : MM) : Prop := ∀ A i, ¬ A = 171 → ¬ A = 172 → m' A i = m A i
theorem f_360 {K : MM → Prop} (hO : OpsOK mem) (hW : ∀ a b : Nat, (a : Int) < mem 143 1 → (b : Int) < mem 143 1 → -5000 ≤ mem 158 (8 * a + b) ∧ mem 158 (8 * a + b) ≤ 5000) (H : ∀ m', FrB mem m' → K m') : CWV (Ex S (n + 2)) 360 [.inr 143, .inl d] mem K := by
  have h8 := hO.1
  have opsF : ∀ m, FrB mem m → OpsOK m := fun m h => by
    refine ⟨by rw [h 143 1 (by omega) (by omega)]; exact hO.1, fun u hu => ?_, fun i hi => by rw [h 151 i (by omega) (by omega)]; exact hO.2.2 i hi⟩
    have := hO.2.1 u hu
    unfold OpOK at this ⊢
    rw [h 144 u (by omega) (by omega), h 145 u (by omega) (by omega), h 146 u (by omega) (by omega), h 147 u (by omega) (by omega), h 148 u (by omega) (by omega)]
    exact this
  have upB : ∀ (m : MM) (A i : Nat) (x : Int), A = 171 ∨ A = 172 → FrB mem m → FrB mem (upm m A i x) := fun m A i x hA h B j e1 e2 => by rw [upm_ne (by omega)]; exact h B j e1 e2
  have i8 : ∀ a b : Nat, (8 * (a : Int) + (b : Int)).toNat = 8 * a + b := fun a b => by omega
  -- the greatest times
  have l89 : ∀ (N : Nat) (e : Int) (o : Nat) (m : MM), 0 ≤ e → e ≤ 6000 → (o : Int) ≤ mem 143 1 → (mem 143 1 - o).toNat < N → FrB mem m → Wx (Ex S (n + 1)) S M_360 (fun r m => r = none ∧ K m) 89 [some (.inr 143), some (.inl d), some (.inl e), some (.inl (o : Int)), none] [] m := by
    intro N
    induction N with
    | zero => intros; omega
    | succ N ih =>
      intro e o m he1 he2 ho hN hF
      have e1' : m 143 1 = mem 143 1 := hF _ _ (by omega) (by omega)
      refine w_360_89 (Ex.mono S (n + 1)) (fun v1 e1 _ => ⟨fun _ => ⟨rfl, H m hF⟩, fun q => f_246 (opsF m hF) ⟨by omega, by omega⟩ (fun _ => ?_)⟩)
      rw [Int.toNat_natCast]
      have hl := (opsF m hF).lat (o := o) (by omega)
      have inner : ∀ (N' : Nat) (b : Nat) (m' : MM), (b : Int) ≤ mem 143 1 → (mem 143 1 - b).toNat < N' → FrB mem m' → Wx (Ex S (n + 1)) S M_360 (fun r m => r = none ∧ K m) 113 [some (.inr 143), some (.inl d), some (.inl e), some (.inl (o : Int)), some (.inl (b : Int))] [] m' := by
        intro N'
        induction N' with
        | zero => intros; omega
        | succ N' ih2 =>
          intro b m' hb hN' hF'
          have e2' : m' 143 1 = mem 143 1 := hF' _ _ (by omega) (by omega)
          refine w_360_113 (Ex.mono S (n + 1)) (fun v1 e1 _ => ⟨fun _ => ⟨by unfold InI; omega, ih e (o + 1) m' he1 he2 (by omega) (by omega) hF'⟩, fun q2 => ⟨by unfold InI; omega, by unfold InI; omega, by omega, fun v2 e2 _ => ⟨fun _ => ⟨by unfold InI; omega, ih2 (b + 1) m' (by omega) (by omega) hF'⟩, fun _ => ⟨by omega, fun v3 _ _ => f_246 (opsF m' hF') ⟨by omega, by omega⟩ (fun _ => ?_)⟩⟩⟩⟩)
          rw [Int.toNat_natCast]
          have hlb := (opsF m' hF').lat (o := b) (by omega)
          refine ⟨by unfold InI; omega, by unfold InI; omega, by unfold InI; omega, by omega, fun v6 e6 _ => ?_⟩
          rw [i8, hF' _ _ (by omega) (by omega)] at e6
          have hw := hW o b (by omega) (by omega)
          exact ⟨by unfold InI; omega, f_258 (fun _ _ => ⟨by omega, by unfold InI; omega, ih2 (b + 1) _ (by omega) (by omega) (upB _ _ _ _ (Or.inr rfl) hF')⟩)⟩
      exact ⟨by unfold InI; omega, by omega, inner 9 0 _ (by omega) (by omega) (upB _ _ _ _ (Or.inr rfl) hF)⟩
  -- the least times
  have l4 : ∀ (N : Nat) (e : Int) (o : Nat) (m : MM), 0 ≤ e → e ≤ 5006 → (o : Int) ≤ mem 143 1 → (mem 143 1 - o).toNat < N → FrB mem m → Wx (Ex S (n + 1)) S M_360 (fun r m => r = none ∧ K m) 4 [some (.inr 143), some (.inl d), some (.inl e), some (.inl (o : Int)), none] [] m := by
    intro N
    induction N with
    | zero => intros; omega
    | succ N ih =>
      intro e o m he1 he2 ho hN hF
      have e1' : m 143 1 = mem 143 1 := hF _ _ (by omega) (by omega)
      refine w_360_4 (Ex.mono S (n + 1)) (fun v1 e1 _ => ⟨fun _ => l89 9 e 0 m he1 (by omega) (by omega) (by omega) hF, fun q => ⟨by omega, ?_⟩⟩)
      rw [Int.toNat_natCast]
      have inner : ∀ (N' : Nat) (a : Nat) (m' : MM), (a : Int) ≤ mem 143 1 → (mem 143 1 - a).toNat < N' → FrB mem m' → 0 ≤ m' 171 o → m' 171 o ≤ 5000 → Wx (Ex S (n + 1)) S M_360 (fun r m => r = none ∧ K m) 22 [some (.inr 143), some (.inl d), some (.inl e), some (.inl (o : Int)), some (.inl (a : Int))] [] m' := by
        intro N'
        induction N' with
        | zero => intros; omega
        | succ N' ih2 =>
          intro a m' ha hN' hF' s1 s2
          have e2' : m' 143 1 = mem 143 1 := hF' _ _ (by omega) (by omega)
          refine w_360_22 (Ex.mono S (n + 1)) (fun v1 e1 _ => ⟨fun q2 => ⟨by omega, fun v2 e2 _ => f_246 (opsF m' hF') ⟨by omega, by omega⟩ (fun _ => ?_)⟩, fun q2 => ⟨by omega, fun v7 e7 _ => ⟨by unfold InI; omega, by unfold InI; omega, by omega, fun v8 e8 _ => f_257 (fun _ _ => ⟨by omega, by unfold InI; omega, ?_⟩)⟩⟩⟩)
          · rw [Int.toNat_natCast] at e2 ⊢
            have hl := (opsF m' hF').lat (o := o) (by omega)
            exact ⟨by unfold InI; omega, f_257 (fun _ _ => ⟨by unfold InI; omega, ih _ (o + 1) m' (by omega) (by omega) (by omega) (by omega) hF'⟩)⟩
          · rw [Int.toNat_natCast] at e7 ⊢
            rw [i8, hF' _ _ (by omega) (by omega)] at e8
            have hw := hW a o (by omega) (by omega)
            exact ih2 (a + 1) _ (by omega) (by omega) (upB _ _ _ _ (Or.inl rfl) hF') (by rw [upm_eq]; omega) (by rw [upm_eq]; omega)
      exact inner 9 0 _ (by omega) (by omega) (upB _ _ _ _ (Or.inl rfl) hF) (by rw [upm_eq]; omega) (by rw [upm_eq]; omega)
  exact CW.of (k := 3) mt_360 rfl rfl (w_360_0 (Ex.mono S (n + 1)) (l4 9 0 0 mem (by omega) (by omega) (by omega) (by omega) (fun _ _ _ _ => rfl)))
theorem FrB.rest {m m' : MM} (e : FrB m m') (h : RefOK m) : RefOK m' ∧ FrQ m m' :=
  ⟨Kp.rest (fun A i q => e A i (by omega) (by omega)) h (fun o ho => by rw [e _ _ (by omega) (by omega)]; exact h.sl o ho) (fun j hj => by rw [e _ _ (by omega) (by omega), e _ _ (by omega) (by omega), e _ _ (by omega) (by omega), e _ _ (by omega) (by omega)]; exact h.r48 j hj) (by rw [e _ _ (by omega) (by omega)]; exact h.nd), fun A i q => e A i (by omega) (by omega)⟩
theorem f_359 {a x : Int} (h : RefOK mem) (H : Fin mem K) : CWI (Ex S (n + 5)) 359 [.inr 143, .inl a, .inl d, .inl x] mem K := by
  have h8 := h.ops.1
  refine CW.of (k := 0) mt_359 rfl rfl (w_359_0 (Ex.mono S (n + 4)) (f_235 h8 (fun a1 a2 _ => ⟨fun _ => f_253 (fun d1 d2 _ => ⟨fun _ => f_254r h (fun m' h1 h2 _ => ⟨fun z => absurd z (by decide), fun _ _ => H.thr h1 h2 0 (by omega)⟩) (fun m' h1 h2 hk hN _ => ⟨fun _ => ?_, fun z => absurd rfl z⟩), fun z => absurd (by decide) z⟩) (fun _ => ⟨fun z => absurd rfl z, fun _ _ => H.thr h FrQ.rf 0 (by omega)⟩), fun z => absurd (by decide) z⟩) (fun _ => ⟨fun z => absurd rfl z, fun _ _ => H.thr h FrQ.rf 0 (by omega)⟩)))
  refine f_256 hN.th ⟨by omega, by omega⟩ (fun m2 k2 hW => ?_)
  obtain ⟨g1, g2⟩ := k2.rest158 (h1.th' (z := 0) (by omega))
  refine f_360 g1.ops (fun u w hu hw => hW.1 u w (by omega) (by omega)) (fun m3 k3 => ?_)
  obtain ⟨q1, q2⟩ := k3.rest g1
  exact ⟨fun _ => ⟨by omega, fun v _ _ _ => H.at q1 (((h2.tr FrQ.th).tr g2).tr q2) _⟩, fun _ => ⟨by omega, fun v _ _ _ => H.at q1 (((h2.tr FrQ.th).tr g2).tr q2) _⟩⟩
end TURN
end
