section
/-! the quick way of the reference -/
def FrK (m m' : MM) : Prop := ∀ A i, ¬ A = 159 → ¬ A = 163 → ¬ A = 164 → m' A i = m A i
theorem FrK.rf {m : MM} : FrK m m := fun _ _ _ _ _ => rfl
theorem FrK.tr {a b c : MM} (h1 : FrK a b) (h2 : FrK b c) : FrK a c := fun A i e1 e2 e3 => (h2 A i e1 e2 e3).trans (h1 A i e1 e2 e3)
theorem Fr1.k59 {a b : MM} (h : Fr1 159 a b) : FrK a b := fun A i e _ _ => h A i e
theorem FrK.up {m : MM} {A i : Nat} {x : Int} (h : A = 163 ∨ A = 164) : FrK m (upm m A i x) := fun B j _ e2 e3 => upm_ne (by omega)
theorem FrK.rest {m m' : MM} (e : FrK m m') (h : RefOK m) : RefOK m' :=
  Kp.rest (fun A i q => e A i (by omega) (by omega) (by omega)) h (fun o ho => by rw [e _ _ (by omega) (by omega) (by omega)]; exact h.sl o ho) (fun j hj => by rw [e _ _ (by omega) (by omega) (by omega), e _ _ (by omega) (by omega) (by omega), e _ _ (by omega) (by omega) (by omega), e _ _ (by omega) (by omega) (by omega)]; exact h.r48 j hj) (by rw [e _ _ (by omega) (by omega) (by omega)]; exact h.nd)
theorem FrK.q {m m' : MM} (e : FrK m m') : FrQ m m' := fun A i q => e A i (by omega) (by omega) (by omega)
theorem FrK.nds {m m' : MM} (h : FrK m m') (H : NdsOK m) : NdsOK m' := by
  have e : ∀ A i, (A = 143 ∧ (i = 1 ∨ i = 12)) ∨ (153 < A ∧ A < 158) → m' A i = m A i := fun A i q => h A i (by omega) (by omega) (by omega)
  refine ⟨by rw [e 143 1 (by omega)]; exact H.1, by rw [e 143 12 (by omega)]; exact H.2.1, fun j hj => ?_⟩
  rw [e 143 12 (by omega)] at hj
  rw [e 143 1 (by omega), e 154 j (by omega), e 155 j (by omega), e 156 j (by omega), e 157 j (by omega)]
  exact H.2.2 j hj
def QT (m : MM) (c : Int) : Prop := ∀ o : Nat, (o : Int) < m 143 1 → (-1 ≤ m 163 o ∧ m 163 o ≤ c) ∧ -1 ≤ m 164 o ∧ m 164 o ≤ c
theorem Fr1.qt {m m' : MM} {c : Int} (h : Fr1 159 m m') (H : QT m c) : QT m' c := fun o ho => by
  rw [h 143 1 (by omega)] at ho
  rw [h 163 o (by omega), h 164 o (by omega)]; exact H o ho
section QUICK
variable {S : Nat × (Nat → Int32)} {n : Nat} {mem : MM} {K : Int → MM → Prop} {d c : Int}
theorem f_283 (hO : OpsOK mem) (hU : UnOK mem) (hN : NdsOK mem) (hd : 1 ≤ d ∧ d ≤ 12) {o : Int} (ho : 0 ≤ o ∧ o < 8) (H : ∀ r m', Fr1 159 mem m' → K r m') : CWI (Ex S (n + 3)) 283 [.inr 143, .inl o, .inl d] mem K := by
  have h48 := hN.2.1
  have key : ∀ (N : Nat) (k : Nat), (k : Int) ≤ mem 143 12 → (mem 143 12 - k).toNat < N → Wx (Ex S (n + 2)) S M_283 (fun r m => ∃ y, r = some y ∧ K y m) 2 [some (.inr 143), some (.inl o), some (.inl d), some (.inl (k : Int))] [] mem := by
    intro N
    induction N with
    | zero => intros; omega
    | succ N ih =>
      intro k hk hNN
      refine w_283_2 (Ex.mono S (n + 2)) (fun v1 e1 _ => ⟨fun q => ?_, fun q => ?_⟩)
      · refine f_270 (fun m2 k2 => f_271 ?_ ?_ ho ⟨by omega, by omega⟩ hd (fun m3 k3 => f_264 ?_ ?_ ho (fun u u1 u2 _ => f_273 ⟨u1, u2⟩ hd (fun r _ _ => ⟨fun _ => ⟨_, rfl, H _ _ (k2.tr k3)⟩, fun _ => ⟨_, rfl, H _ _ (k2.tr k3)⟩⟩))))
        · exact (k2.f59).ops hO
        · exact (k2.f59).un hU
        · exact ((k2.tr k3).f59).ops hO
        · exact ((k2.tr k3).f59).un hU
      · have hk48 : 0 ≤ (k : Int) ∧ (k : Int) < 48 := by omega
        obtain ⟨p1, p2, p3, p4, p5, p6, p7, p8, p9⟩ := hN.2.2 k (by omega)
        have nx : InI ((k : Int) + 1) ∧ Wx (Ex S (n + 2)) S M_283 (fun r m => ∃ y, r = some y ∧ K y m) 2 [some (.inr 143), some (.inl o), some (.inl d), some (.inl ((k : Int) + 1))] [] mem := ⟨by unfold InI; omega, ih (k + 1) (by omega) (by omega)⟩
        rw [Int.toNat_natCast]
        refine ⟨hk48, fun v8 e8 _ => ⟨fun _ => nx, fun _ => ⟨hk48, fun v9 e9 _ => ⟨fun _ => nx, fun _ => ⟨hk48, fun v10 e10 _ => ⟨hk48, fun v11 e11 _ => ?_⟩⟩⟩⟩⟩⟩
        have := d7 (x := v11) hd (by omega)
        exact ⟨by unfold InI; omega, fun _ => nx, fun _ => ⟨_, rfl, H _ _ Fr1.rf⟩⟩
  exact CW.of (k := 1) mt_283 rfl rfl (w_283_0 (Ex.mono S (n + 2)) (key 49 0 (by omega) (by omega)))
theorem f_284 (h8 : 0 ≤ mem 143 1 ∧ mem 143 1 ≤ 8) (H : ∀ r, r = -1 ∨ (0 ≤ r ∧ r < mem 143 1) → K r mem) : CWI (Ex S (n + 3)) 284 [.inr 143] mem K := by
  have key : ∀ (N : Nat) (b o : Int), 0 ≤ o → (b = -1 ∨ (0 ≤ b ∧ b < mem 143 1)) → (8 - o).toNat < N → Wx (Ex S (n + 2)) S M_284 (fun r m => ∃ y, r = some y ∧ K y m) 4 [some (.inr 143), some (.inl b), some (.inl o)] [] mem := by
    intro N
    induction N with
    | zero => intros; omega
    | succ N ih =>
      intro b o ho hb hN
      exact w_284_4 (Ex.mono S (n + 2)) (fun v1 e1 _ => ⟨fun _ _ => ⟨_, rfl, H _ hb⟩, fun q => ⟨by omega, fun v2 _ _ => ⟨fun _ => ⟨by unfold InI; omega, ih b (o + 1) (by omega) hb (by omega)⟩, fun _ => ⟨fun _ => ⟨by unfold InI; omega, ih o (o + 1) (by omega) (by omega) (by omega)⟩, fun q2 => f_261 h8 ⟨ho, by omega⟩ (fun r _ => f_261 h8 ⟨by omega, by omega⟩ (fun r2 _ => ⟨fun _ => ⟨by unfold InI; omega, ih b (o + 1) (by omega) hb (by omega)⟩, fun _ => ⟨by unfold InI; omega, ih o (o + 1) (by omega) (by omega) (by omega)⟩⟩))⟩⟩⟩⟩)
  exact CW.of (k := 2) mt_284 rfl rfl (w_284_0 (Ex.mono S (n + 2)) (key 9 (-1) 0 (by omega) (by omega) (by omega)))
theorem f_286 (hN : NdsOK mem) (hd : 1 ≤ d ∧ d ≤ 12) (hc : 0 ≤ c ∧ c ≤ 100000) (hQ : QT mem c) {o : Int} (H : ∀ r, 0 ≤ r → r ≤ c + 6 → K r mem) : CWI (Ex S (n + 2)) 286 [.inr 143, .inl o, .inl d] mem K := by
  have h8 := hN.1
  have h48 := hN.2.1
  have key : ∀ (N : Nat) (x : Int) (k : Nat), 0 ≤ x → x ≤ c + 6 → (k : Int) ≤ mem 143 12 → (mem 143 12 - k).toNat < N → Wx (Ex S (n + 1)) S M_286 (fun r m => ∃ y, r = some y ∧ K y m) 5 [some (.inr 143), some (.inl o), some (.inl d), some (.inl x), some (.inl (k : Int))] [] mem := by
    intro N
    induction N with
    | zero => intros; omega
    | succ N ih =>
      intro x k hx hx2 hk hNN
      refine w_286_5 (Ex.mono S (n + 1)) (fun v1 e1 _ => ⟨fun q _ => ⟨_, rfl, H _ hx hx2⟩, fun q => ?_⟩)
      have hk48 : 0 ≤ (k : Int) ∧ (k : Int) < 48 := by omega
      obtain ⟨p1, p2, p3, p4, p5, p6, p7, p8, p9⟩ := hN.2.2 k (by omega)
      have nx : ∀ x, 0 ≤ x → x ≤ c + 6 → InI ((k : Int) + 1) ∧ Wx (Ex S (n + 1)) S M_286 (fun r m => ∃ y, r = some y ∧ K y m) 5 [some (.inr 143), some (.inl o), some (.inl d), some (.inl x), some (.inl ((k : Int) + 1))] [] mem := fun x z1 z2 => ⟨by unfold InI; omega, ih x (k + 1) z1 z2 (by omega) (by omega)⟩
      rw [Int.toNat_natCast]
      refine ⟨hk48, fun v2 e2 _ => ⟨fun _ => nx _ hx hx2, fun _ => ⟨hk48, fun v3 e3 _ => ⟨fun _ => nx _ hx hx2, fun _ => ⟨hk48, fun v4 e4 _ => ⟨by omega, fun v5 e5 _ => ⟨fun _ => nx _ hx hx2, fun _ => ⟨hk48, fun v6 e6 _ => ⟨by omega, fun v7 e7 _ => ⟨hk48, fun v8 e8 _ => ?_⟩⟩⟩⟩⟩⟩⟩⟩⟩⟩
      have hq := hQ v6.toNat (by omega)
      refine ⟨by unfold InI; omega, hk48, fun v9 e9 _ => ?_⟩
      have := d7 (x := v9) hd (by omega)
      exact ⟨by unfold InI; omega, by unfold InI; omega, f_257 (fun _ _ => nx _ (by omega) (by omega))⟩
  exact CW.of (k := 2) mt_286 rfl rfl (w_286_0 (Ex.mono S (n + 1)) (key 49 0 0 (by omega) (by omega) (by omega) (by omega)))
theorem f_287 (hO : OpsOK mem) (hU : UnOK mem) (hd : 1 ≤ d ∧ d ≤ 12) {o t : Int} (ho : 0 ≤ o ∧ o < 8) (ht : -1000000 ≤ t ∧ t ≤ 1000000) (H : ∀ r m', Fr1 159 mem m' → K r m') : CWI (Ex S (n + 3)) 287 [.inr 143, .inl o, .inl t, .inl d] mem K := by
  refine CW.of (k := 1) mt_287 rfl rfl (w_287_0 (Ex.mono S (n + 2)) (f_271 hO hU ho ht hd (fun m1 k1 => ?_)))
  have hO1 := (k1.f59).ops hO
  have hU1 := (k1.f59).un hU
  exact f_264 hO1 hU1 ho (fun u u1 u2 _ => f_273 ⟨u1, u2⟩ hd (fun r _ _ => ⟨fun _ => f_271 hO1 hU1 ho ht hd (fun m2 k2 => ⟨_, rfl, H _ _ (k1.tr k2)⟩), fun _ => f_271 hO1 hU1 ho ht hd (fun m2 k2 => ⟨_, rfl, H _ _ (k1.tr k2)⟩)⟩))
theorem f_289 (hO : OpsOK mem) (hd : 1 ≤ d ∧ d ≤ 12) (hc : c ≤ 100000) (hQ : QT mem c) {o : Nat} {s : Int} (ho : (o : Int) < mem 143 1) (H : ∀ r, K r mem) : CWI (Ex S (n + 2)) 289 [.inr 143, .inl (o : Int), .inl s, .inl d] mem K := by
  have h8 := hO.1
  have hq := hQ o ho
  have ho8 : 0 ≤ (o : Int) ∧ (o : Int) < 8 := by omega
  have key : ∀ (N : Nat) (b : Int), 0 ≤ b → (4 - b).toNat < N → Wx (Ex S (n + 1)) S M_289 (fun r m => ∃ y, r = some y ∧ K y m) 3 [some (.inr 143), some (.inl (o : Int)), some (.inl s), some (.inl d), some (.inl b)] [] mem := by
    intro N
    induction N with
    | zero => intros; omega
    | succ N ih =>
      intro b hb hN
      refine w_289_3 (Ex.mono S (n + 1)) ⟨fun _ => ⟨_, rfl, H _⟩, fun q => f_265 hO ho8 (fun u _ b3 _ _ b4 _ _ => ⟨fun _ => ⟨by unfold InI; omega, ih (b + 1) (by omega) (by omega)⟩, fun _ => ⟨ho8, fun v5 e5 _ => ?_⟩⟩)⟩
      rw [Int.toNat_natCast] at e5
      exact ⟨by unfold InI; omega, f_272 ⟨by omega, by omega⟩ (fun r _ _ _ => ⟨fun _ => ⟨by unfold InI; omega, ih (b + 1) (by omega) (by omega)⟩, fun _ => ⟨_, rfl, H _⟩⟩)⟩
  exact CW.of (k := 1) mt_289 rfl rfl (w_289_0 (Ex.mono S (n + 1)) (key 5 0 (by omega) (by omega)))
theorem f_288 (hO : OpsOK mem) (hU : UnOK mem) (hd : 1 ≤ d ∧ d ≤ 12) (hc : c ≤ 100000) (hQ : QT mem c) {o p : Nat} (ho : (o : Int) < mem 143 1) (hp : (p : Int) < mem 143 1) (H : ∀ r, K r mem) : CWI (Ex S (n + 3)) 288 [.inr 143, .inl (o : Int), .inl (p : Int), .inl d] mem K := by
  have h8 := hO.1
  have ho8 : 0 ≤ (o : Int) ∧ (o : Int) < 8 := by omega
  have hp8 : 0 ≤ (p : Int) ∧ (p : Int) < 8 := by omega
  have key : ∀ (N : Nat) (s : Int), 0 ≤ s → (12 - s).toNat < N → Wx (Ex S (n + 2)) S M_288 (fun r m => ∃ y, r = some y ∧ K y m) 18 [some (.inr 143), some (.inl (o : Int)), some (.inl (p : Int)), some (.inl d), some (.inl s)] [] mem := by
    intro N
    induction N with
    | zero => intros; omega
    | succ N ih =>
      intro s hs hN
      have nx : ¬ d ≤ s → InI (s + 1) ∧ Wx (Ex S (n + 2)) S M_288 (fun r m => ∃ y, r = some y ∧ K y m) 18 [some (.inr 143), some (.inl (o : Int)), some (.inl (p : Int)), some (.inl d), some (.inl (s + 1))] [] mem := fun z => ⟨by unfold InI; omega, ih (s + 1) (by omega) (by omega)⟩
      exact w_288_18 (Ex.mono S (n + 2)) ⟨fun _ => ⟨_, rfl, H _⟩, fun q => f_264 hO hU ho8 (fun u u1 u2 _ => ⟨by unfold InI; omega, by unfold InI; omega, by omega, fun v3 _ _ => f_264 hO hU ho8 (fun w w1 w2 _ => ⟨by omega, fun v6 _ _ => ⟨fun _ => nx q, fun _ => f_289 hO hd hc hQ ho (fun r _ => ⟨fun _ => nx q, fun _ => f_289 hO hd hc hQ hp (fun r2 _ => ⟨fun _ => nx q, fun _ => ⟨_, rfl, H _⟩⟩)⟩)⟩⟩)⟩)⟩
  exact CW.of (k := 1) mt_288 rfl rfl (w_288_0 (Ex.mono S (n + 2)) (f_264 hO hU ho8 (fun u _ _ _ => f_264 hO hU hp8 (fun w _ _ _ => ⟨fun _ => key 13 0 (by omega) (by omega), fun _ => ⟨_, rfl, H _⟩⟩))))
theorem f_290 {K : MM → Prop} (hO : OpsOK mem) (hU : UnOK mem) (hd : 1 ≤ d ∧ d ≤ 12) (hc : 0 ≤ c ∧ c ≤ 100000) (hQ : QT mem c) {o : Nat} (ho : (o : Int) < mem 143 1) (H : ∀ m', FrK mem m' → QT m' c → K m') : CWV (Ex S (n + 3)) 290 [.inr 143, .inl (o : Int), .inl d] mem K := by
  have h8 := hO.1
  have hq := hQ o ho
  have ho8 : 0 ≤ (o : Int) ∧ (o : Int) < 8 := by omega
  refine CW.of (k := 0) mt_290 rfl rfl (w_290_0 (Ex.mono S (n + 2)) ⟨ho8, fun v1 e1 _ => ?_⟩)
  rw [Int.toNat_natCast] at e1 ⊢
  refine f_271 hO hU ho8 ⟨by omega, by omega⟩ hd (fun m2 k2 => ⟨ho8, rfl, H _ (k2.k59.tr (FrK.up (by omega))) (fun u hu => ?_)⟩)
  have hu' := k2.qt hQ u (by rw [upm_ne (by omega)] at hu; exact hu)
  rw [upm_ne (A := 163) (B := 164) (by omega)]
  refine ⟨?_, hu'.2⟩
  by_cases e : u = o
  · subst e; rw [upm_eq]; omega
  · rw [upm_ne (fun z => e z.2)]; exact hu'.1
theorem f_291 (hN : NdsOK mem) (hd : 1 ≤ d ∧ d ≤ 12) (hc : c ≤ 100000) (hQ : QT mem c) {k : Nat} (hk : (k : Int) < mem 143 12) (H : ∀ r, K r mem) : CWI (Ex S (n + 1)) 291 [.inr 143, .inl (k : Int), .inl d] mem K := by
  have h8 := hN.1
  have h48 := hN.2.1
  have hk48 : 0 ≤ (k : Int) ∧ (k : Int) < 48 := by omega
  obtain ⟨p1, p2, p3, p4, p5, p6, p7, p8, p9⟩ := hN.2.2 k (by omega)
  have q1 := hQ (mem 154 k).toNat (by omega)
  refine CW.of (k := 0) mt_291 rfl rfl (w_291_0 (Ex.mono S n) ⟨hk48, fun v1 e1 _ => ⟨?_, fun v2 e2 _ => ⟨hk48, fun v3 e3 _ => ⟨?_, fun v4 e4 _ => ⟨hk48, fun v5 e5 _ => ?_⟩⟩⟩⟩⟩) <;> rw [Int.toNat_natCast] at *
  · omega
  · omega
  · have e4 : v4 = mem 163 (mem 154 k).toNat := by rw [e4, e3]
    refine ⟨by unfold InI; omega, hk48, fun v6 e6 _ => ?_⟩
    have := d7 (x := v6) hd (by omega)
    exact ⟨by unfold InI; omega, by unfold InI; omega, fun _ => ⟨_, rfl, H _⟩, fun _ => ⟨_, rfl, H _⟩⟩
end QUICK
end
section
/-! the quick way of the reference: an op comes, all come -/
theorem FrK.qt1 {m : MM} {c c' t : Int} {o : Nat} (H : QT m c) (hc : c ≤ c') (ht : 0 ≤ t ∧ t ≤ c') : QT (upm (upm m 163 o t) 164 o t) c' := fun u hu => by
  have hu' := H u (by rw [upm_ne (by omega), upm_ne (by omega)] at hu; exact hu)
  rw [upm_ne (A := 164) (B := 163) (by omega)]
  constructor
  · by_cases e : u = o
    · subst e; rw [upm_eq]; omega
    · rw [upm_ne (fun z => e z.2)]; omega
  · by_cases e : u = o
    · subst e; rw [upm_eq]; omega
    · rw [upm_ne (fun z => e z.2), upm_ne (by omega)]; omega
section QUICK2
variable {S : Nat × (Nat → Int32)} {n : Nat} {mem : MM} {d c : Int}
theorem cq_254 {m0 : MM} {o : Nat} {x3 x4 g : Int} (h : RefOK m0) (hd : 1 ≤ d ∧ d ≤ 12) (hc : 0 ≤ c ∧ c ≤ 100000) {Kk : WK} (H : ∀ m', FrK m0 m' → QT m' c → Kk none m') : ∀ (N : Nat) (p : Nat) (m : MM), (p : Int) ≤ m0 143 1 → (m0 143 1 - p).toNat < N → FrK m0 m → QT m c → Wx (Ex S (n + 3)) S M_285 Kk 254 [some (.inr 143), some (.inl (o : Int)), some (.inl d), some (.inl x3), some (.inl x4), some (.inl g), some (.inl (p : Int)), none] [] m := by
  have h8 := h.ops.1
  intro N
  induction N with
  | zero => intros; omega
  | succ N ih =>
    intro p m hp hN hF hQ
    have e1' : m 143 1 = m0 143 1 := hF _ _ (by omega) (by omega) (by omega)
    have hm := hF.rest h
    exact w_285_254 (Ex.mono S (n + 3)) (fun v1 e1 _ => ⟨fun _ => H m hF hQ, fun q b2 _ _ b3 _ _ => ⟨fun _ => ⟨by unfold InI; omega, ih (p + 1) m (by omega) (by omega) hF hQ⟩, fun _ => f_290 hm.ops hm.un hd hc hQ (by omega) (fun m' k1 k2 => ⟨by unfold InI; omega, ih (p + 1) m' (by omega) (by omega) (hF.tr k1) k2⟩)⟩⟩)
theorem cq_155 {m0 : MM} {o : Nat} {x3 x4 : Int} (h : RefOK m0) (hN : NdsOK m0) (hd : 1 ≤ d ∧ d ≤ 12) (hc : 0 ≤ c ∧ c ≤ 100000) (ho : (o : Int) < m0 143 1) {Kk : WK} (H : ∀ m', FrK m0 m' → QT m' c → Kk none m') : ∀ (N : Nat) (k : Nat) (g : Int) (m : MM), (k : Int) ≤ m0 143 12 → (m0 143 12 - k).toNat < N → FrK m0 m → QT m c → Wx (Ex S (n + 3)) S M_285 Kk 155 [some (.inr 143), some (.inl (o : Int)), some (.inl d), some (.inl x3), some (.inl x4), some (.inl g), some (.inl (k : Int)), none] [] m := by
  have h8 := hN.1
  have h48 := hN.2.1
  intro N
  induction N with
  | zero => intros; omega
  | succ N ih =>
    intro k g m hk hNN hF hQ
    have e1' : m 143 1 = m0 143 1 := hF _ _ (by omega) (by omega) (by omega)
    have e12 : m 143 12 = m0 143 12 := hF _ _ (by omega) (by omega) (by omega)
    have hN' := hF.nds hN
    have nx : ∀ g, ¬ m 143 12 ≤ (k : Int) → InI ((k : Int) + 1) ∧ Wx (Ex S (n + 3)) S M_285 Kk 155 [some (.inr 143), some (.inl (o : Int)), some (.inl d), some (.inl x3), some (.inl x4), some (.inl g), some (.inl ((k : Int) + 1)), none] [] m := fun g z => ⟨by unfold InI; omega, ih (k + 1) g m (by omega) (by omega) hF hQ⟩
    refine w_285_155 (Ex.mono S (n + 3)) (fun v1 e1 _ => ⟨fun _ => cq_254 h hd hc H 9 0 m (by omega) (by omega) hF hQ, fun q => ?_⟩)
    subst e1
    have hk48 : 0 ≤ (k : Int) ∧ (k : Int) < 48 := by omega
    obtain ⟨p1, p2, p3, p4, -⟩ := hN'.2.2 k (by omega)
    have kept : CWI (Ex S (n + 3)) 291 [.inr 143, .inl (k : Int), .inl d] m fun r6 m5 => ∀ g2 : Int, InI r6 → m5 = m := f_291 hN' hd hc.2 hQ (by omega) (fun r g2 _ => rfl)
    rw [Int.toNat_natCast]
    refine ⟨hk48, fun v2 e2 _ => ⟨fun q2 => ⟨hk48, fun v3 e3 _ => ⟨fun q3 => ⟨fun _ => nx _ q, fun z => absurd rfl z⟩, fun q3 => ⟨hk48, fun v9 e9 _ => ⟨fun _ => nx _ q, fun _ => ⟨by omega, fun v10 _ _ => ⟨fun _ => nx _ q, fun _ => f_291 hN' hd hc.2 hQ (by omega) (fun r _ => ⟨fun _ => nx _ q, fun _ b7 _ _ b8 _ _ => nx _ q⟩)⟩⟩⟩⟩⟩⟩, fun q2 => ⟨hk48, fun v15 e15 _ => ⟨fun _ => nx _ q, fun _ => ⟨by omega, fun v16 _ _ => ⟨fun _ => nx _ q, fun _ => f_291 hN' hd hc.2 hQ (by omega) (fun r _ => ⟨fun _ => nx _ q, fun _ b7 _ _ b8 _ _ => nx _ q⟩)⟩⟩⟩⟩⟩⟩
theorem cq_99 {m0 : MM} {o : Nat} {x3 x4 : Int} (h : RefOK m0) (hN : NdsOK m0) (hd : 1 ≤ d ∧ d ≤ 12) (hc : 0 ≤ c ∧ c ≤ 100000) (ho : (o : Int) < m0 143 1) {Kk : WK} (H : ∀ m', FrK m0 m' → QT m' c → Kk none m') : ∀ (N : Nat) (p : Nat) (m : MM), (p : Int) ≤ m0 143 1 → (m0 143 1 - p).toNat < N → FrK m0 m → QT m c → Wx (Ex S (n + 3)) S M_285 Kk 99 [some (.inr 143), some (.inl (o : Int)), some (.inl d), some (.inl x3), some (.inl x4), some (.inl (p : Int)), none, none] [] m := by
  have h8 := h.ops.1
  have h48 := hN.2.1
  intro N
  induction N with
  | zero => intros; omega
  | succ N ih =>
    intro p m hp hNN hF hQ
    have e1' : m 143 1 = m0 143 1 := hF _ _ (by omega) (by omega) (by omega)
    have hm := hF.rest h
    have nx : ∀ m', FrK m0 m' → QT m' c → ¬ m 143 1 ≤ (p : Int) → InI ((p : Int) + 1) ∧ Wx (Ex S (n + 3)) S M_285 Kk 99 [some (.inr 143), some (.inl (o : Int)), some (.inl d), some (.inl x3), some (.inl x4), some (.inl ((p : Int) + 1)), none, none] [] m' := fun m' z1 z2 z3 => ⟨by unfold InI; omega, ih (p + 1) m' (by omega) (by omega) z1 z2⟩
    refine w_285_99 (Ex.mono S (n + 3)) (fun v1 e1 _ => ⟨fun _ => cq_155 h hN hd hc ho H 49 0 0 m (by omega) (by omega) hF hQ, fun q => ?_⟩)
    subst e1
    exact ⟨fun _ => nx m hF hQ q, fun _ => ⟨by omega, fun v2 _ _ => ⟨fun _ => nx m hF hQ q, fun _ => f_288 hm.ops hm.un hd hc.2 hQ (by omega) (by omega) (fun r _ => ⟨fun _ => nx m hF hQ q, fun _ => f_290 hm.ops hm.un hd hc hQ (by omega) (fun m' k1 k2 => nx m' (hF.tr k1) k2 q)⟩)⟩⟩⟩
theorem f_285 {K : MM → Prop} (h : RefOK mem) (hN : NdsOK mem) (hd : 1 ≤ d ∧ d ≤ 12) (hc : 0 ≤ c ∧ c ≤ 10000) (hQ : QT mem c) {o : Nat} (ho : (o : Int) < mem 143 1) (H : ∀ m', FrK mem m' → QT m' (c + 18) → K m') : CWV (Ex S (n + 4)) 285 [.inr 143, .inl (o : Int), .inl d] mem K := by
  have h8 := h.ops.1
  have ho8 : 0 ≤ (o : Int) ∧ (o : Int) < 8 := by omega
  refine CW.of (k := 5) mt_285 rfl rfl (w_285_0 (Ex.mono S (n + 3)) (f_286 hN hd ⟨hc.1, by omega⟩ hQ (fun r r1 r2 _ => ?_)))
  have at71 : ∀ (t : Int) (m : MM), 0 ≤ t → t ≤ c + 18 → Fr1 159 mem m → Wx (Ex S (n + 3)) S M_285 (fun r m => r = none ∧ K m) 71 [some (.inr 143), some (.inl (o : Int)), some (.inl d), some (.inl r), some (.inl t), none, none, none] [] m := by
    intro t m t1 t2 k1
    have hF : FrK mem (upm (upm m 163 o t) 164 o t) := (k1.k59.tr (FrK.up (Or.inl rfl))).tr (FrK.up (Or.inr rfl))
    have hm := hF.rest h
    refine w_285_71 (Ex.mono S (n + 3)) ⟨ho8, ho8, ?_⟩
    rw [Int.toNat_natCast]
    exact f_271 hm.ops hm.un ho8 ⟨by omega, by omega⟩ hd (fun m' k2 => cq_99 h hN hd (c := c + 18) ⟨by omega, by omega⟩ ho (fun m' a b => ⟨rfl, H m' a b⟩) 9 0 m' (by omega) (by omega) (hF.tr k2.k59) (k2.qt (FrK.qt1 (k1.qt hQ) (by omega) ⟨t1, t2⟩)))
  have at35 : ∀ (t : Int) (m : MM), r ≤ t → t ≤ r + d → Fr1 159 mem m → Wx (Ex S (n + 3)) S M_285 (fun r m => r = none ∧ K m) 35 [some (.inr 143), some (.inl (o : Int)), some (.inl d), some (.inl r), some (.inl t), none, none, none] [] m := by
    intro t m t1 t2 k1
    have hl := (k1.qt hQ o (by rw [k1 143 1 (by omega)]; exact ho)).2
    refine w_285_35 (Ex.mono S (n + 3)) ⟨by unfold InI; omega, fun _ => at71 t m (by omega) (by omega) k1, fun _ => ⟨ho8, fun v1 _ _ => ⟨fun _ => ⟨ho8, fun v2 e2 _ => ?_⟩, fun _ => at71 r m r1 (by omega) k1⟩⟩⟩
    rw [Int.toNat_natCast] at e2
    exact ⟨by unfold InI; omega, f_257 (fun _ _ => at71 _ m (by omega) (by omega) k1)⟩
  have key : ∀ (N : Nat) (t : Int) (m : MM), r ≤ t → t ≤ r + d → (r + d - t).toNat < N → Fr1 159 mem m → Wx (Ex S (n + 3)) S M_285 (fun r m => r = none ∧ K m) 10 [some (.inr 143), some (.inl (o : Int)), some (.inl d), some (.inl r), some (.inl t), none, none, none] [] m := by
    intro N
    induction N with
    | zero => intros; omega
    | succ N ih =>
      intro t m t1 t2 hNN k1
      have hm := k1.k59.rest h
      exact w_285_10 (Ex.mono S (n + 3)) ⟨by unfold InI; omega, fun _ => at35 t m t1 t2 k1, fun q => f_287 hm.ops hm.un hd ho8 ⟨by omega, by omega⟩ (fun r2 m' k2 _ => ⟨fun _ => at35 t m' t1 t2 (k1.tr k2), fun _ => ⟨by unfold InI; omega, ih (t + 1) m' (by omega) (by omega) (by omega) (k1.tr k2)⟩⟩)⟩
  exact key _ r mem (by omega) (by omega) (Nat.lt_succ_self _) Fr1.rf
theorem FrM.rest {m m' : MM} (e : ∀ A i, ¬ A = 159 → ¬ A = 163 → ¬ A = 164 → ¬ (A = 143 ∧ i = 25) → m' A i = m A i) (h : RefOK m) : RefOK m' ∧ FrQ m m' :=
  ⟨Kp.rest (fun A i q => e A i (by omega) (by omega) (by omega) (by omega)) h (fun o ho => by rw [e _ _ (by omega) (by omega) (by omega) (by omega)]; exact h.sl o ho) (fun j hj => by rw [e _ _ (by omega) (by omega) (by omega) (by omega), e _ _ (by omega) (by omega) (by omega) (by omega), e _ _ (by omega) (by omega) (by omega) (by omega), e _ _ (by omega) (by omega) (by omega) (by omega)]; exact h.r48 j hj) (by rw [e _ _ (by omega) (by omega) (by omega) (by omega)]; exact h.nd), fun A i q => e A i (by omega) (by omega) (by omega) (by omega)⟩
def FrM (m m' : MM) : Prop := ∀ A i, ¬ A = 159 → ¬ A = 163 → ¬ A = 164 → ¬ (A = 143 ∧ i = 25) → m' A i = m A i
theorem FrK.m {m m' : MM} (e : FrK m m') : FrM m m' := fun A i e1 e2 e3 _ => e A i e1 e2 e3
theorem FrM.tr {a b c : MM} (h1 : FrM a b) (h2 : FrM b c) : FrM a c := fun A i e1 e2 e3 e4 => (h2 A i e1 e2 e3 e4).trans (h1 A i e1 e2 e3 e4)
theorem FrM.mv {m : MM} {x : Int} : FrM m (upm m 143 25 x) := fun B j _ _ _ e => upm_ne e
theorem FrM.nds {m m' : MM} (h : FrM m m') (H : NdsOK m) : NdsOK m' := by
  have e : ∀ A i, (A = 143 ∧ (i = 1 ∨ i = 12)) ∨ (153 < A ∧ A < 158) → m' A i = m A i := fun A i q => h A i (by omega) (by omega) (by omega) (by omega)
  refine ⟨by rw [e 143 1 (by omega)]; exact H.1, by rw [e 143 12 (by omega)]; exact H.2.1, fun j hj => ?_⟩
  rw [e 143 12 (by omega)] at hj
  rw [e 143 1 (by omega), e 154 j (by omega), e 155 j (by omega), e 156 j (by omega), e 157 j (by omega)]
  exact H.2.2 j hj
theorem f_282 {K : Int → MM → Prop} (h : RefOK mem) (hN : NdsOK mem) (hd : 1 ≤ d ∧ d ≤ 12) (H : ∀ r m', r = 0 ∨ r = 1 → FrM mem m' → K r m') : CWI (Ex S (n + 5)) 282 [.inr 143, .inl d] mem K := by
  have h8 := h.ops.1
  have l71 : ∀ (N : Nat) (o : Int) (m : MM), (o = -1 ∨ (0 ≤ o ∧ o < mem 143 1)) → (48 - m 143 25).toNat < N → 0 ≤ m 143 25 → m 143 25 ≤ 48 → FrM mem m → QT m (18 * m 143 25) → Wx (Ex S (n + 4)) S M_282 (fun r m => ∃ y, r = some y ∧ K y m) 71 [some (.inr 143), some (.inl d), some (.inl o)] [] m := by
    intro N
    induction N with
    | zero => intros; omega
    | succ N ih =>
      intro o m ho hNN c0 c1 hF hQ
      have e1' : m 143 1 = mem 143 1 := hF _ _ (by omega) (by omega) (by omega) (by omega)
      have f0 : ∃ y, some (0 : Int) = some y ∧ K y m := ⟨_, rfl, H _ _ (Or.inl rfl) hF⟩
      have f1 : ∃ y, some (1 : Int) = some y ∧ K y m := ⟨_, rfl, H _ _ (Or.inr rfl) hF⟩
      refine w_282_71 (Ex.mono S (n + 4)) ⟨fun _ => ⟨fun _ => f0, fun _ => f1⟩, fun q v1 e1 _ v2 e2 _ => ⟨by unfold InI; omega, fun _ => ⟨fun _ => f0, fun _ => f1⟩, fun q2 => ?_⟩⟩
      obtain ⟨p, rfl⟩ : ∃ p : Nat, o = (p : Int) := ⟨o.toNat, by omega⟩
      refine f_285 (FrM.rest hF h).1 (hF.nds hN) hd (c := 18 * m 143 25) ⟨by omega, by omega⟩ hQ (by omega) (fun m3 k1 k2 v4 e4 _ => ?_)
      have e4' : v4 = v1 := by rw [e4, e1]; exact k1 _ _ (by omega) (by omega) (by omega)
      have e13 : m3 143 1 = mem 143 1 := by rw [k1 _ _ (by omega) (by omega) (by omega)]; exact e1'
      have e25 : upm m3 143 25 (v4 + 1) 143 25 = v4 + 1 := upm_eq
      have e21 : upm m3 143 25 (v4 + 1) 143 1 = mem 143 1 := by rw [upm_ne (by omega)]; exact e13
      refine ⟨by unfold InI; omega, f_284 (by rw [e21]; exact h8) (fun r hr _ => ih r _ (by rw [e21] at hr; exact hr) (by rw [e25]; omega) (by rw [e25]; omega) (by rw [e25]; omega) ((hF.tr k1.m).tr FrM.mv) (fun u hu => ?_))⟩
      rw [e21] at hu
      have := k2 u (by rw [e13]; exact hu)
      rw [e25, upm_ne (A := 143) (B := 163) (by omega), upm_ne (A := 143) (B := 164) (by omega)]
      omega
  have l38 : ∀ (N : Nat) (o : Nat) (m : MM), (o : Int) ≤ mem 143 1 → (mem 143 1 - o).toNat < N → m 143 25 = 0 → FrM mem m → (∀ u : Nat, u < o → m 163 u = -1 ∧ m 164 u = -1) → Wx (Ex S (n + 4)) S M_282 (fun r m => ∃ y, r = some y ∧ K y m) 38 [some (.inr 143), some (.inl d), some (.inl (o : Int))] [] m := by
    intro N
    induction N with
    | zero => intros; omega
    | succ N ih =>
      intro o m ho hNN c0 hF hA
      have e1' : m 143 1 = mem 143 1 := hF _ _ (by omega) (by omega) (by omega) (by omega)
      refine w_282_38 (Ex.mono S (n + 4)) (fun v1 e1 _ => ⟨fun q => f_284 (by rw [e1']; exact h8) (fun r hr _ => l71 _ r m (by rw [e1'] at hr; exact hr) (Nat.lt_succ_self _) (by omega) (by omega) hF (fun u hu => ?_)), fun q => ⟨by omega, by omega, by unfold InI; omega, ?_⟩⟩)
      · have := hA u (by omega); omega
      · rw [Int.toNat_natCast]
        refine ih (o + 1) _ (by omega) (by omega) (by rw [upm_ne (by omega), upm_ne (by omega)]; exact c0) (hF.tr (FrK.m ((FrK.up (Or.inl rfl)).tr (FrK.up (Or.inr rfl))))) (fun u hu => ?_)
        rw [upm_ne (A := 164) (B := 163) (by omega)]
        by_cases e : u = o
        · subst e; rw [upm_eq, upm_eq]; exact ⟨rfl, rfl⟩
        · rw [upm_ne (fun z => e z.2), upm_ne (fun z => e z.2), upm_ne (by omega)]; exact hA u (by omega)
  have l2 : ∀ (N : Nat) (o : Nat) (m : MM), (o : Int) ≤ mem 143 1 → (mem 143 1 - o).toNat < N → Fr1 159 mem m → Wx (Ex S (n + 4)) S M_282 (fun r m => ∃ y, r = some y ∧ K y m) 2 [some (.inr 143), some (.inl d), some (.inl (o : Int))] [] m := by
    intro N
    induction N with
    | zero => intros; omega
    | succ N ih =>
      intro o m ho hNN hF
      have e1' : m 143 1 = mem 143 1 := hF _ _ (by omega)
      have hm := hF.k59.rest h
      exact w_282_2 (Ex.mono S (n + 4)) (fun v1 e1 _ => ⟨fun q => f_270 (fun m2 k2 => l38 9 0 _ (by omega) (by omega) upm_eq ((hF.tr k2).k59.m.tr FrM.mv) (fun u hu => by omega)), fun q => f_283 hm.ops hm.un (hF.k59.nds hN) hd ⟨by omega, by omega⟩ (fun r m' k _ => ⟨fun _ => ⟨by unfold InI; omega, ih (o + 1) m' (by omega) (by omega) (hF.tr k)⟩, fun _ => ⟨_, rfl, H _ _ (Or.inl rfl) (hF.tr k).k59.m⟩⟩)⟩)
  exact CW.of (k := 1) mt_282 rfl rfl (w_282_0 (Ex.mono S (n + 4)) (l2 9 0 mem (by omega) (by omega) Fr1.rf))
theorem f_281 {K : Int → MM → Prop} (h : RefOK mem) (hN : NdsOK mem) (hd : 1 ≤ d ∧ d ≤ 12) (H : ∀ r m', r = 0 ∨ r = 1 → RefOK m' → FrQ mem m' → K r m') : CWI (Ex S (n + 6)) 281 [.inr 143, .inl d] mem K := by
  refine CW.of (k := 0) mt_281 rfl rfl (w_281_0 (Ex.mono S (n + 5)) (f_256 hN ⟨by omega, by omega⟩ (fun m1 k1 _ => ?_)))
  obtain ⟨g1, g2⟩ := k1.rest158 h
  refine f_282 g1 (hN.fr k1) hd (fun r m' hr k _ => ⟨hr, _, rfl, ?_⟩)
  obtain ⟨q1, q2⟩ := FrM.rest k g1
  exact H r m' hr q1 (g2.tr q2)
theorem f_280 {K : Int → MM → Prop} {a : Int} (h : RefOK mem) (H : Fin mem K) : CWI (Ex S (n + 7)) 280 [.inr 143, .inl a, .inl d] mem K := by
  have h8 := h.ops.1
  exact CW.of (k := 0) mt_280 rfl rfl (w_280_0 (Ex.mono S (n + 6)) (f_235 h8 (fun a1 a2 _ => ⟨fun _ => f_253 (fun d1 d2 _ => ⟨fun _ => f_254r h (fun m' h1 h2 _ => ⟨fun z => absurd z (by decide), fun _ _ => H.thr h1 h2 0 (by omega)⟩) (fun m' h1 h2 hk hN _ => ⟨fun _ => f_281 (h1.th' (by omega)) hN.th ⟨d1, d2⟩ (fun r m2 _ g1 g2 _ => ⟨fun _ _ => H.at g1 ((h2.tr FrQ.th).tr g2) _, fun _ => ⟨by omega, fun v _ _ _ => H.at g1 ((h2.tr FrQ.th).tr g2) _⟩⟩), fun z => absurd rfl z⟩), fun z => absurd (by decide) z⟩) (fun _ => ⟨fun z => absurd rfl z, fun _ _ => H.thr h FrQ.rf 0 (by omega)⟩), fun z => absurd (by decide) z⟩) (fun _ => ⟨fun z => absurd rfl z, fun _ _ => H.thr h FrQ.rf 0 (by omega)⟩)))
theorem f_292 {K : Int → MM → Prop} (h : RefOK mem) (H : Fin mem K) : CWI (Ex S (n + 7)) 292 [.inr 143, .inl d] mem K := by
  exact CW.of (k := 0) mt_292 rfl rfl (w_292_0 (Ex.mono S (n + 6)) (f_253 (fun d1 d2 _ => ⟨fun _ => f_254r h (fun m' h1 h2 _ => ⟨fun z => absurd z (by decide), fun _ _ => H.thr h1 h2 0 (by omega)⟩) (fun m' h1 h2 hk hN _ => ⟨fun _ => f_281 (h1.th' (by omega)) hN.th ⟨d1, d2⟩ (fun r m2 _ g1 g2 _ => ⟨fun _ _ => H.at g1 ((h2.tr FrQ.th).tr g2) _, fun _ v _ _ _ => H.at g1 ((h2.tr FrQ.th).tr g2) _⟩), fun z => absurd rfl z⟩), fun z => absurd (by decide) z⟩) (fun _ => ⟨fun z => absurd rfl z, fun _ _ => H.thr h FrQ.rf 0 (by omega)⟩)))
theorem f_293 {K : Int → MM → Prop} (h : RefOK mem) (H : Fin mem K) : CWI (Ex S (n + 7)) 293 [.inr 143] mem K := by
  have key : ∀ (N : Nat) (c : Int) (m : MM), 1 ≤ c → (13 - c).toNat < N → RefOK m → FrQ mem m → Wx (Ex S (n + 6)) S M_293 (fun r m => ∃ y, r = some y ∧ K y m) 27 [some (.inr 143), some (.inl c)] [] m := by
    intro N
    induction N with
    | zero => intros; omega
    | succ N ih =>
      intro c m hc hN hm hq
      exact w_293_27 (Ex.mono S (n + 6)) ⟨fun _ _ => H.at hm hq _, fun q => f_254r hm (fun m' h1 h2 _ => ⟨fun _ => ⟨by unfold InI; omega, ih (c + 1) m' (by omega) (by omega) h1 (hq.tr h2)⟩, fun z => absurd (by decide) z⟩) (fun m' h1 h2 _ hN' _ => ⟨fun z => absurd rfl z, fun _ => f_281 h1 hN' ⟨hc, by omega⟩ (fun r m2 _ g1 g2 _ => ⟨fun _ => ⟨by unfold InI; omega, ih (c + 1) m2 (by omega) (by omega) g1 ((hq.tr h2).tr g2)⟩, fun _ _ => H.at g1 ((hq.tr h2).tr g2) _⟩)⟩)⟩
  exact CW.of (k := 1) mt_293 rfl rfl (w_293_0 (Ex.mono S (n + 6)) (f_240 h.ops (fun _ _ => ⟨fun z => absurd z (by decide), fun _ => key 13 1 _ (by omega) (by omega) (h.th' (by omega)) FrQ.th⟩) (fun _ _ => ⟨fun _ _ => H.thr h FrQ.rf 0 (by omega), fun z => absurd rfl z⟩)))
end QUICK2
end
section
/-! turning, rotary, bare of the reference -/
def SpOK (m : MM) (k : Nat) : Prop := ∀ a, a < k → -1 ≤ m 169 a ∧ m 169 a ≤ 40
theorem Fr1.rest169 {m m' : MM} (e : Fr1 169 m m') (h : RefOK m) : RefOK m' ∧ FrQ m m' :=
  ⟨Kp.rest (fun A i q => e A i (by omega)) h (fun o ho => by rw [e _ _ (by omega)]; exact h.sl o ho) (fun j hj => by rw [e _ _ (by omega), e _ _ (by omega), e _ _ (by omega), e _ _ (by omega)]; exact h.r48 j hj) (by rw [e _ _ (by omega)]; exact h.nd), fun A i q => e A i (by omega)⟩
theorem Fr1.tm169 {m m' : MM} {d : Int} (e : Fr1 169 m m') (h : TmOK m d) : TmOK m' d := fun o ho => by
  rw [e 143 1 (by omega)] at ho
  rw [e 161 o (by omega)]; exact h o ho
section TURN
variable {S : Nat × (Nat → Int32)} {n : Nat} {mem : MM} {K : Int → MM → Prop} {d : Int}
theorem f_341 (hO : OpsOK mem) (hT : TmOK mem d) (hd : 1 ≤ d ∧ d ≤ 12) {a b : Nat} {t : Int} (ha : (a : Int) < mem 143 1) (hb : (b : Int) < mem 143 1) (ht : -1000 ≤ t ∧ t ≤ 1000) (H : ∀ r, K r mem) : CWI (Ex S (n + 4)) 341 [.inr 143, .inl (a : Int), .inl (b : Int), .inl t, .inl d] mem K := by
  have h8 := hO.1
  have ta := hT a ha
  have tb := hT b hb
  have la := hO.lat (o := a) (by omega)
  have lb := hO.lat (o := b) (by omega)
  have fa := lifeF_rng hO hT hd ha
  have fb := lifeF_rng hO hT hd hb
  have p : -12000 ≤ d * t ∧ d * t ≤ 12000 := by
    have a1 : d * (-1000) ≤ d * t := Int.mul_le_mul_of_nonneg_left ht.1 (by omega)
    have a2 : d * t ≤ d * 1000 := Int.mul_le_mul_of_nonneg_left ht.2 (by omega)
    omega
  refine CW.of (k := 2) mt_341 rfl rfl (w_341_0 (Ex.mono S (n + 3)) (f_299 hO ⟨by omega, ha⟩ (by rw [Int.toNat_natCast]; omega) (fun _ => f_299 hO ⟨by omega, hb⟩ (by rw [Int.toNat_natCast]; omega) (fun _ => ?_))))
  rw [Int.toNat_natCast, Int.toNat_natCast]
  exact ⟨by unfold InI; omega, by unfold InI; omega, f_298 hO hT hd ha (fun _ => ⟨by unfold InI; omega, by unfold InI; omega, fun _ => ⟨_, rfl, H _⟩, fun _ => f_298 hO hT hd hb (fun _ => ⟨by unfold InI; omega, by unfold InI; omega, fun _ => ⟨_, rfl, H _⟩, fun _ => ⟨_, rfl, H _⟩⟩)⟩)⟩
theorem f_340 (hO : OpsOK mem) (hT : TmOK mem d) (hd : 1 ≤ d ∧ d ≤ 12) {a b : Nat} {r : Int} (hr : 1 ≤ r ∧ r ≤ 40) (ha : (a : Int) < mem 143 1) (hb : (b : Int) < mem 143 1) (sa : -1 ≤ mem 169 a ∧ mem 169 a ≤ 40) (sb : -1 ≤ mem 169 b ∧ mem 169 b ≤ 40) (H : ∀ r, K r mem) : CWI (Ex S (n + 5)) 340 [.inr 143, .inl (a : Int), .inl (b : Int), .inl d, .inl r] mem K := by
  have h8 := hO.1
  have key : ∀ (N : Nat) (y t : Int), -1000 ≤ t → t ≤ 441 → (441 - t).toNat < N → Wx (Ex S (n + 4)) S M_340 (fun r m => ∃ y, r = some y ∧ K y m) 37 [some (.inr 143), some (.inl (a : Int)), some (.inl (b : Int)), some (.inl d), some (.inl r), some (.inl y), some (.inl t)] [] mem := by
    intro N
    induction N with
    | zero => intros; omega
    | succ N ih =>
      intro y t t1 t2 hN
      have nx : ¬ 400 < t → InI (t + r) ∧ Wx (Ex S (n + 4)) S M_340 (fun r m => ∃ y, r = some y ∧ K y m) 37 [some (.inr 143), some (.inl (a : Int)), some (.inl (b : Int)), some (.inl d), some (.inl r), some (.inl y), some (.inl (t + r))] [] mem := fun z => ⟨by unfold InI; omega, ih y (t + r) (by omega) (by omega) (by omega)⟩
      exact w_340_37 (Ex.mono S (n + 4)) ⟨fun _ => ⟨_, rfl, H _⟩, fun q => ⟨fun _ => f_341 hO hT hd ha hb ⟨by omega, by omega⟩ (fun r _ => ⟨fun _ => nx q, fun _ => ⟨_, rfl, H _⟩⟩), fun _ => ⟨fun _ => nx q, fun _ => f_341 hO hT hd ha hb ⟨by omega, by omega⟩ (fun r _ => ⟨fun _ => nx q, fun _ => ⟨_, rfl, H _⟩⟩)⟩⟩⟩
  refine CW.of (k := 2) mt_340 rfl rfl (w_340_0 (Ex.mono S (n + 4)) ⟨by omega, fun v1 e1 _ => ⟨by omega, fun v2 e2 _ => ?_⟩⟩)
  rw [Int.toNat_natCast] at e1 e2
  have e := Int.mul_tdiv_add_tmod 400 r
  have e2' := tmod_r (x := 400) (y := r) (by omega) (by omega)
  rw [Int.mul_comm] at e
  exact ⟨by unfold InI; omega, f_272 ⟨by omega, by omega⟩ (fun u u1 u2 _ => ⟨by omega, by unfold InI; omega, by unfold InI; omega, by unfold InI; omega, key _ u _ (by omega) (by omega) (Nat.lt_succ_self _)⟩)⟩
theorem f_339 (hO : OpsOK mem) (hT : TmOK mem d) (hd : 1 ≤ d ∧ d ≤ 12) {o : Nat} {x r : Int} (hr : 1 ≤ r ∧ r ≤ 40) (hx : 0 ≤ x ∧ x ≤ 40) (ho : (o : Int) < mem 143 1) (hs : SpOK mem o) (H : ∀ r, K r (upm mem 169 o x)) : CWI (Ex S (n + 6)) 339 [.inr 143, .inl (o : Int), .inl x, .inl d, .inl r] mem K := by
  have h8 := hO.1
  have hO' : OpsOK (upm mem 169 o x) := hO
  have hT' : TmOK (upm mem 169 o x) d := hT
  have hso : -1 ≤ upm mem 169 o x 169 o ∧ upm mem 169 o x 169 o ≤ 40 := by rw [upm_eq]; omega
  have key : ∀ (N : Nat) (a : Nat), a ≤ o → o - a < N → Wx (Ex S (n + 5)) S M_339 (fun r m => ∃ y, r = some y ∧ K y m) 24 [some (.inr 143), some (.inl (o : Int)), some (.inl x), some (.inl d), some (.inl r), some (.inl (a : Int))] [] (upm mem 169 o x) := by
    intro N
    induction N with
    | zero => intros; omega
    | succ N ih =>
      intro a ha hN
      refine w_339_24 (Ex.mono S (n + 5)) ⟨fun _ => ⟨_, rfl, H _⟩, fun q => ?_⟩
      have hsa : -1 ≤ upm mem 169 o x 169 a ∧ upm mem 169 o x 169 a ≤ 40 := by rw [upm_ne (by omega)]; exact hs a (by omega)
      have ha1 : (a : Int) < upm mem 169 o x 143 1 := by rw [upm_ne (by omega)]; omega
      exact f_298 hO' hT' hd ha1 (fun _ => ⟨fun _ => ⟨by unfold InI; omega, ih (a + 1) (by omega) (by omega)⟩, fun _ => f_340 hO' hT' hd hr ha1 ho hsa hso (fun r _ => ⟨fun _ => ⟨by unfold InI; omega, ih (a + 1) (by omega) (by omega)⟩, fun _ => ⟨_, rfl, H _⟩⟩)⟩)
  refine CW.of (k := 1) mt_339 rfl rfl (w_339_0 (Ex.mono S (n + 5)) ⟨by omega, ?_⟩)
  rw [Int.toNat_natCast]
  exact f_340 hO' hT' hd hr ho ho hso hso (fun r _ => ⟨fun _ => key _ 0 (by omega) (Nat.lt_succ_self _), fun _ => ⟨_, rfl, H _⟩⟩)
theorem f_338 (hO : OpsOK mem) (hT : TmOK mem d) (hd : 1 ≤ d ∧ d ≤ 12) {r : Int} (hr : 1 ≤ r ∧ r ≤ 40) (H : ∀ y m', Fr1 169 mem m' → K y m') : CWI (Ex S (n + 7)) 338 [.inr 143, .inl d, .inl r] mem K := by
  have h8 := hO.1
  have spu : ∀ (m : MM) (o : Nat) (x : Int), SpOK m o → -1 ≤ x → x ≤ 40 → SpOK (upm m 169 o x) (o + 1) := fun m o x h x1 x2 a ha => by
    by_cases e : a = o
    · subst e; rw [upm_eq]; omega
    · rw [upm_ne (fun z => e z.2)]; exact h a (by omega)
  have key : ∀ (N : Nat) (o : Nat) (m : MM), (o : Int) ≤ mem 143 1 → (mem 143 1 - o).toNat < N → Fr1 169 mem m → SpOK m o → Wx (Ex S (n + 6)) S M_338 (fun r m => ∃ y, r = some y ∧ K y m) 2 [some (.inr 143), some (.inl d), some (.inl r), some (.inl (o : Int)), none] [] m := by
    intro N
    induction N with
    | zero => intros; omega
    | succ N ih =>
      intro o m ho hN hF hS
      have e1' : m 143 1 = mem 143 1 := hF _ _ (by omega)
      refine w_338_2 (Ex.mono S (n + 6)) (fun v1 e1 _ => ⟨fun q v2 _ _ _ => ⟨_, rfl, H _ _ hF⟩, fun q => ⟨by omega, ?_⟩⟩)
      rw [Int.toNat_natCast]
      have up : ∀ (m : MM) (x : Int), Fr1 169 mem m → Fr1 169 mem (upm m 169 o x) := fun m x h => h.tr Fr1.up
      have opsF : ∀ m, Fr1 169 mem m → OpsOK m := fun m h => by
        refine ⟨by rw [h 143 1 (by omega)]; exact hO.1, fun u hu => ?_, fun i hi => by rw [h 151 i (by omega)]; exact hO.2.2 i hi⟩
        have := hO.2.1 u hu
        unfold OpOK at this ⊢
        rw [h 144 u (by omega), h 145 u (by omega), h 146 u (by omega), h 147 u (by omega), h 148 u (by omega)]
        exact this
      have inner : ∀ (N' : Nat) (x : Int) (m' : MM), 0 ≤ x → x ≤ r → (r - x).toNat < N' → Fr1 169 mem m' → SpOK m' o → Wx (Ex S (n + 6)) S M_338 (fun r m => ∃ y, r = some y ∧ K y m) 32 [some (.inr 143), some (.inl d), some (.inl r), some (.inl (o : Int)), some (.inl x)] [] m' := by
        intro N'
        induction N' with
        | zero => intros; omega
        | succ N' ih2 =>
          intro x m' x1 x2 hN' hF' hS'
          have e2' : m' 143 1 = mem 143 1 := hF' _ _ (by omega)
          have fin : ∀ m2, Fr1 169 mem m2 → SpOK m2 o → (¬ x = r → ((0 : Int) ≤ (o : Int) ∧ ((o : Int) : Int) < 8) ∧ (InI ((o : Int) + 1)) ∧ (Wx (Ex S (n + 6)) S M_338 (fun r m => ∃ y, r = some y ∧ K y m) 2 [some (.inr 143), some (.inl d), some (.inl r), some (.inl ((o : Int) + 1)), none] [] (upm m2 169 (Int.toNat (o : Int)) x))) ∧ (¬ (¬ x = r) → ((0 : Int) ≤ (o : Int) ∧ ((o : Int) : Int) < 8) ∧ (InI (o : Int) → ∃ y, some (o : Int) = some y ∧ K y (upm m2 169 (Int.toNat (o : Int)) (-1)))) := fun m2 g1 g2 => by
            rw [Int.toNat_natCast]
            exact ⟨fun _ => ⟨by omega, by unfold InI; omega, ih (o + 1) _ (by omega) (by omega) (up _ _ g1) (spu _ _ _ g2 (by omega) (by omega))⟩, fun _ => ⟨by omega, fun _ => ⟨_, rfl, H _ _ (up _ _ g1)⟩⟩⟩
          refine w_338_32 (Ex.mono S (n + 6)) ⟨fun _ => fin m' hF' hS', fun q2 => f_339 (opsF _ hF') (hF'.tm169 hT) hd hr ⟨x1, by omega⟩ (by omega) hS' (fun u _ => ?_)⟩
          have s2 : SpOK (upm m' 169 o x) o := fun a ha => spu m' o x hS' (by omega) (by omega) a (by omega)
          exact ⟨fun _ => fin _ (up _ _ hF') s2, fun _ => ⟨by unfold InI; omega, ih2 (x + 1) _ (by omega) (by omega) (by omega) (up _ _ hF') s2⟩⟩
      have hF2 := up m (-1) hF
      have s3 : SpOK (upm m 169 o (-1)) (o + 1) := spu m o (-1) hS (by omega) (by omega)
      have h21 : (o : Int) < upm m 169 o (-1) 143 1 := by rw [upm_ne (by omega)]; omega
      exact f_298 (opsF _ hF2) (hF2.tm169 hT) hd h21 (fun _ => ⟨fun _ => inner _ 0 _ (by omega) (by omega) (Nat.lt_succ_self _) hF2 (fun a ha => s3 a (by omega)), fun _ => ⟨by unfold InI; omega, ih (o + 1) _ (by omega) (by omega) hF2 s3⟩⟩)
  exact CW.of (k := 2) mt_338 rfl rfl (w_338_0 (Ex.mono S (n + 6)) (key 9 0 mem (by omega) (by omega) Fr1.rf (fun a ha => by omega)))
theorem f_337 (h : RefOK mem) (H : Fin mem K) : CWI (Ex S (n + 8)) 337 [.inr 143, .inl d] mem K := by
  refine CW.of (k := 1) mt_337 rfl rfl (w_337_0 (Ex.mono S (n + 7)) (f_253 (fun d1 d2 _ => ⟨fun _ => f_268r h ⟨d1, d2⟩ (fun m' h1 h2 hk _ _ h5 _ => ⟨fun _ => ?_, fun z => absurd (by decide) z⟩) (fun m' h1 h2 _ => ⟨fun z => absurd rfl z, fun _ _ => H.thr h1 h2 0 (by omega)⟩), fun z => absurd (by decide) z⟩) (fun _ => ⟨fun z => absurd rfl z, fun _ _ => H.thr h FrQ.rf 0 (by omega)⟩)))
  have key : ∀ (N : Nat) (r : Int) (m : MM), 1 ≤ r → (41 - r).toNat < N → RefOK m → FrQ mem m → TmOK m d → Wx (Ex S (n + 7)) S M_337 (fun r m => ∃ y, r = some y ∧ K y m) 39 [some (.inr 143), some (.inl d), some (.inl r)] [] m := by
    intro N
    induction N with
    | zero => intros; omega
    | succ N ih =>
      intro r m hr hN hm hq hT
      refine w_337_39 (Ex.mono S (n + 7)) ⟨fun _ _ => H.at hm hq _, fun q => f_338 hm.ops hT ⟨d1, d2⟩ ⟨hr, by omega⟩ (fun y m2 k2 _ v3 _ _ => ?_)⟩
      obtain ⟨g1, g2⟩ := k2.rest169 hm
      exact ⟨fun _ => ⟨by unfold InI; omega, ih (r + 1) m2 (by omega) (by omega) g1 (hq.tr g2) (k2.tm169 hT)⟩, fun _ _ => H.at g1 (hq.tr g2) _⟩
  exact key 41 1 _ (by omega) (by omega) (h1.th' (by omega)) (h2.tr FrQ.th) h5.th
theorem f_342 {a r : Int} (h : RefOK mem) (H : Fin mem K) : CWI (Ex S (n + 8)) 342 [.inr 143, .inl a, .inl d, .inl r] mem K := by
  have h8 := h.ops.1
  refine CW.of (k := 0) mt_342 rfl rfl (w_342_0 (Ex.mono S (n + 7)) (f_235 h8 (fun a1 a2 _ => ⟨fun _ => f_253 (fun d1 d2 _ => ⟨fun z => absurd z (by decide), fun _ => f_227 (fun r1 r2 _ => ⟨fun _ => f_268r h ⟨d1, d2⟩ (fun m' h1 h2 hk _ _ h5 _ => ⟨fun _ => ?_, fun z => absurd (by decide) z⟩) (fun m' h1 h2 _ => ⟨fun z => absurd rfl z, fun _ _ => H.thr h1 h2 0 (by omega)⟩), fun z => absurd (by decide) z⟩) (fun _ _ => ⟨fun z => absurd rfl z, fun _ _ => H.thr h FrQ.rf 0 (by omega)⟩)⟩) (fun _ => ⟨fun _ _ => H.thr h FrQ.rf 0 (by omega), fun z => absurd rfl z⟩), fun z => absurd (by decide) z⟩) (fun _ => ⟨fun z => absurd rfl z, fun _ _ => H.thr h FrQ.rf 0 (by omega)⟩)))
  have hm := h1.th' (z := 0) (by omega)
  refine f_338 hm.ops h5.th ⟨d1, d2⟩ ⟨r1, r2⟩ (fun y m2 k2 _ => ?_)
  obtain ⟨g1, g2⟩ := k2.rest169 hm
  exact ⟨fun _ _ => H.at g1 ((h2.tr FrQ.th).tr g2) _, fun _ => ⟨by omega, fun v _ _ _ => H.at g1 ((h2.tr FrQ.th).tr g2) _⟩⟩
def FrB (m m' : MM) : Prop := ∀ A i, ¬ A = 171 → ¬ A = 172 → m' A i = m A i
theorem FrB.rest {m m' : MM} (e : FrB m m') (h : RefOK m) : RefOK m' ∧ FrQ m m' :=
  ⟨Kp.rest (fun A i q => e A i (by omega) (by omega)) h (fun o ho => by rw [e _ _ (by omega) (by omega)]; exact h.sl o ho) (fun j hj => by rw [e _ _ (by omega) (by omega), e _ _ (by omega) (by omega), e _ _ (by omega) (by omega), e _ _ (by omega) (by omega)]; exact h.r48 j hj) (by rw [e _ _ (by omega) (by omega)]; exact h.nd), fun A i q => e A i (by omega) (by omega)⟩
end TURN
end
section
/-! laid by wip/hand/wxg.py: the web of the class: what the paths of methods ask for -/
def WebSh (W : Nat) : Prop := shA W = some (.inr (7, [none, some (W + 1), some (W + 2), some (W + 3), some (W + 4), none, none, none])) ∧ shA (W + 1) = some (.inl 64) ∧ shA (W + 2) = some (.inl 64) ∧ shA (W + 3) = some (.inl 64) ∧ shA (W + 4) = some (.inl 64)
set_option maxRecDepth 100000 in
theorem mt_13 : MT[13]? = some M_13 := rfl
set_option maxRecDepth 100000 in
theorem mt_14 : MT[14]? = some M_14 := rfl
set_option maxRecDepth 100000 in
theorem mt_15 : MT[15]? = some M_15 := rfl
set_option maxRecDepth 100000 in
theorem mt_17 : MT[17]? = some M_17 := rfl
set_option maxRecDepth 100000 in
theorem mt_18 : MT[18]? = some M_18 := rfl
set_option maxRecDepth 100000 in
theorem mt_19 : MT[19]? = some M_19 := rfl
set_option maxRecDepth 100000 in
theorem mt_20 : MT[20]? = some M_20 := rfl
set_option maxRecDepth 100000 in
theorem mt_21 : MT[21]? = some M_21 := rfl
set_option maxRecDepth 100000 in
theorem mt_22 : MT[22]? = some M_22 := rfl
set_option maxRecDepth 100000 in
theorem mt_23 : MT[23]? = some M_23 := rfl
set_option maxRecDepth 100000 in
theorem mt_24 : MT[24]? = some M_24 := rfl
set_option maxRecDepth 100000 in
theorem mt_25 : MT[25]? = some M_25 := rfl
set_option maxRecDepth 100000 in
theorem mt_37 : MT[37]? = some M_37 := rfl
set_option maxRecDepth 100000 in
theorem mt_38 : MT[38]? = some M_38 := rfl
theorem te_13_0 : (pT M_13).find? (fun e => e.1 == 0) = some (0, .aload_n 0, 0, 0) := rfl
theorem te_13_1 : (pT M_13).find? (fun e => e.1 == 1) = some (1, .getfield 9, 0, 1) := rfl
theorem te_13_4 : (pT M_13).find? (fun e => e.1 == 4) = some (4, .iload_n 1, 0, 0) := rfl
theorem te_13_5 : (pT M_13).find? (fun e => e.1 == 5) = some (5, .iaload, 0, 0) := rfl
theorem te_13_6 : (pT M_13).find? (fun e => e.1 == 6) = some (6, .iconst 4, 0, 0) := rfl
theorem te_13_7 : (pT M_13).find? (fun e => e.1 == 7) = some (7, .if_icmp .ne 5, 0, 0) := rfl
theorem te_13_10 : (pT M_13).find? (fun e => e.1 == 10) = some (10, .iconst 0, 0, 0) := rfl
theorem te_13_11 : (pT M_13).find? (fun e => e.1 == 11) = some (11, .ireturn, 0, 0) := rfl
theorem te_13_12 : (pT M_13).find? (fun e => e.1 == 12) = some (12, .aload_n 0, 0, 0) := rfl
theorem te_13_13 : (pT M_13).find? (fun e => e.1 == 13) = some (13, .getfield 9, 0, 1) := rfl
theorem te_13_16 : (pT M_13).find? (fun e => e.1 == 16) = some (16, .iload_n 1, 0, 0) := rfl
theorem te_13_17 : (pT M_13).find? (fun e => e.1 == 17) = some (17, .iaload, 0, 0) := rfl
theorem te_13_18 : (pT M_13).find? (fun e => e.1 == 18) = some (18, .iconst 5, 0, 0) := rfl
theorem te_13_19 : (pT M_13).find? (fun e => e.1 == 19) = some (19, .if_icmp .ne 7, 0, 0) := rfl
theorem te_13_22 : (pT M_13).find? (fun e => e.1 == 22) = some (22, .iconst 1, 0, 0) := rfl
theorem te_13_23 : (pT M_13).find? (fun e => e.1 == 23) = some (23, .goto 4, 0, 0) := rfl
theorem te_13_26 : (pT M_13).find? (fun e => e.1 == 26) = some (26, .iconst 2, 0, 0) := rfl
theorem te_13_27 : (pT M_13).find? (fun e => e.1 == 27) = some (27, .ireturn, 0, 0) := rfl
theorem te_14_0 : (pT M_14).find? (fun e => e.1 == 0) = some (0, .aload_n 0, 0, 0) := rfl
theorem te_14_1 : (pT M_14).find? (fun e => e.1 == 1) = some (1, .getfield 15, 0, 2) := rfl
theorem te_14_4 : (pT M_14).find? (fun e => e.1 == 4) = some (4, .iload_n 1, 0, 0) := rfl
theorem te_14_5 : (pT M_14).find? (fun e => e.1 == 5) = some (5, .iconst 4, 0, 0) := rfl
theorem te_14_6 : (pT M_14).find? (fun e => e.1 == 6) = some (6, .imul, 0, 0) := rfl
theorem te_14_7 : (pT M_14).find? (fun e => e.1 == 7) = some (7, .iload_n 2, 0, 0) := rfl
theorem te_14_8 : (pT M_14).find? (fun e => e.1 == 8) = some (8, .iconst 2, 0, 0) := rfl
theorem te_14_9 : (pT M_14).find? (fun e => e.1 == 9) = some (9, .imul, 0, 0) := rfl
theorem te_14_10 : (pT M_14).find? (fun e => e.1 == 10) = some (10, .iadd, 0, 0) := rfl
theorem te_14_11 : (pT M_14).find? (fun e => e.1 == 11) = some (11, .iaload, 0, 0) := rfl
theorem te_14_12 : (pT M_14).find? (fun e => e.1 == 12) = some (12, .ireturn, 0, 0) := rfl
theorem te_15_0 : (pT M_15).find? (fun e => e.1 == 0) = some (0, .aload_n 0, 0, 0) := rfl
theorem te_15_1 : (pT M_15).find? (fun e => e.1 == 1) = some (1, .getfield 15, 0, 2) := rfl
theorem te_15_4 : (pT M_15).find? (fun e => e.1 == 4) = some (4, .iload_n 1, 0, 0) := rfl
theorem te_15_5 : (pT M_15).find? (fun e => e.1 == 5) = some (5, .iconst 4, 0, 0) := rfl
theorem te_15_6 : (pT M_15).find? (fun e => e.1 == 6) = some (6, .imul, 0, 0) := rfl
theorem te_15_7 : (pT M_15).find? (fun e => e.1 == 7) = some (7, .iload_n 2, 0, 0) := rfl
theorem te_15_8 : (pT M_15).find? (fun e => e.1 == 8) = some (8, .iconst 2, 0, 0) := rfl
theorem te_15_9 : (pT M_15).find? (fun e => e.1 == 9) = some (9, .imul, 0, 0) := rfl
theorem te_15_10 : (pT M_15).find? (fun e => e.1 == 10) = some (10, .iadd, 0, 0) := rfl
theorem te_15_11 : (pT M_15).find? (fun e => e.1 == 11) = some (11, .iconst 1, 0, 0) := rfl
theorem te_15_12 : (pT M_15).find? (fun e => e.1 == 12) = some (12, .iadd, 0, 0) := rfl
theorem te_15_13 : (pT M_15).find? (fun e => e.1 == 13) = some (13, .iaload, 0, 0) := rfl
theorem te_15_14 : (pT M_15).find? (fun e => e.1 == 14) = some (14, .ireturn, 0, 0) := rfl
theorem te_17_0 : (pT M_17).find? (fun e => e.1 == 0) = some (0, .aload_n 0, 0, 0) := rfl
theorem te_17_1 : (pT M_17).find? (fun e => e.1 == 1) = some (1, .iconst 0, 0, 0) := rfl
theorem te_17_2 : (pT M_17).find? (fun e => e.1 == 2) = some (2, .putfield 35, 7, 0) := rfl
theorem te_17_5 : (pT M_17).find? (fun e => e.1 == 5) = some (5, .iconst 0, 0, 0) := rfl
theorem te_17_6 : (pT M_17).find? (fun e => e.1 == 6) = some (6, .istore_n 3, 0, 0) := rfl
theorem te_17_7 : (pT M_17).find? (fun e => e.1 == 7) = some (7, .iload_n 3, 0, 0) := rfl
theorem te_17_8 : (pT M_17).find? (fun e => e.1 == 8) = some (8, .aload_n 1, 0, 0) := rfl
theorem te_17_9 : (pT M_17).find? (fun e => e.1 == 9) = some (9, .getfield 38, 0, 0) := rfl
theorem te_17_12 : (pT M_17).find? (fun e => e.1 == 12) = some (12, .if_icmp .ge 63, 0, 0) := rfl
theorem te_17_15 : (pT M_17).find? (fun e => e.1 == 15) = some (15, .iconst 0, 0, 0) := rfl
theorem te_17_16 : (pT M_17).find? (fun e => e.1 == 16) = some (16, .istore 4, 0, 0) := rfl
theorem te_17_18 : (pT M_17).find? (fun e => e.1 == 18) = some (18, .iload 4, 0, 0) := rfl
theorem te_17_20 : (pT M_17).find? (fun e => e.1 == 20) = some (20, .aload_n 1, 0, 0) := rfl
theorem te_17_21 : (pT M_17).find? (fun e => e.1 == 21) = some (21, .iload_n 3, 0, 0) := rfl
theorem te_17_22 : (pT M_17).find? (fun e => e.1 == 22) = some (22, .invokevirtual 41, 13, 1) := rfl
theorem te_17_25 : (pT M_17).find? (fun e => e.1 == 25) = some (25, .if_icmp .ge 44, 0, 0) := rfl
theorem te_17_28 : (pT M_17).find? (fun e => e.1 == 28) = some (28, .aload_n 1, 0, 0) := rfl
theorem te_17_29 : (pT M_17).find? (fun e => e.1 == 29) = some (29, .iload_n 3, 0, 0) := rfl
theorem te_17_30 : (pT M_17).find? (fun e => e.1 == 30) = some (30, .iload 4, 0, 0) := rfl
theorem te_17_32 : (pT M_17).find? (fun e => e.1 == 32) = some (32, .invokevirtual 45, 14, 1) := rfl
theorem te_17_35 : (pT M_17).find? (fun e => e.1 == 35) = some (35, .istore 5, 0, 0) := rfl
theorem te_17_37 : (pT M_17).find? (fun e => e.1 == 37) = some (37, .iload 5, 0, 0) := rfl
theorem te_17_39 : (pT M_17).find? (fun e => e.1 == 39) = some (39, .ifCond .lt 24, 0, 0) := rfl
theorem te_17_42 : (pT M_17).find? (fun e => e.1 == 42) = some (42, .aload_n 0, 0, 0) := rfl
theorem te_17_43 : (pT M_17).find? (fun e => e.1 == 43) = some (43, .iload 5, 0, 0) := rfl
theorem te_17_45 : (pT M_17).find? (fun e => e.1 == 45) = some (45, .iload_n 3, 0, 0) := rfl
theorem te_17_46 : (pT M_17).find? (fun e => e.1 == 46) = some (46, .aload_n 1, 0, 0) := rfl
theorem te_17_47 : (pT M_17).find? (fun e => e.1 == 47) = some (47, .iload_n 3, 0, 0) := rfl
theorem te_17_48 : (pT M_17).find? (fun e => e.1 == 48) = some (48, .iload 4, 0, 0) := rfl
theorem te_17_50 : (pT M_17).find? (fun e => e.1 == 50) = some (50, .invokevirtual 48, 15, 1) := rfl
theorem te_17_53 : (pT M_17).find? (fun e => e.1 == 53) = some (53, .aload_n 1, 0, 0) := rfl
theorem te_17_54 : (pT M_17).find? (fun e => e.1 == 54) = some (54, .iload 5, 0, 0) := rfl
theorem te_17_56 : (pT M_17).find? (fun e => e.1 == 56) = some (56, .iload_n 2, 0, 0) := rfl
theorem te_17_57 : (pT M_17).find? (fun e => e.1 == 57) = some (57, .invokestatic 51, 18, 2) := rfl
theorem te_17_60 : (pT M_17).find? (fun e => e.1 == 60) = some (60, .invokevirtual 55, 20, 0) := rfl
theorem te_17_63 : (pT M_17).find? (fun e => e.1 == 63) = some (63, .iinc 4 1, 0, 0) := rfl
theorem te_17_66 : (pT M_17).find? (fun e => e.1 == 66) = some (66, .goto (-48), 0, 0) := rfl
theorem te_17_69 : (pT M_17).find? (fun e => e.1 == 69) = some (69, .iinc 3 1, 0, 0) := rfl
theorem te_17_72 : (pT M_17).find? (fun e => e.1 == 72) = some (72, .goto (-65), 0, 0) := rfl
theorem te_17_75 : (pT M_17).find? (fun e => e.1 == 75) = some (75, .iconst 0, 0, 0) := rfl
theorem te_17_76 : (pT M_17).find? (fun e => e.1 == 76) = some (76, .istore_n 3, 0, 0) := rfl
theorem te_17_77 : (pT M_17).find? (fun e => e.1 == 77) = some (77, .iload_n 3, 0, 0) := rfl
theorem te_17_78 : (pT M_17).find? (fun e => e.1 == 78) = some (78, .aload_n 1, 0, 0) := rfl
theorem te_17_79 : (pT M_17).find? (fun e => e.1 == 79) = some (79, .getfield 38, 0, 0) := rfl
theorem te_17_82 : (pT M_17).find? (fun e => e.1 == 82) = some (82, .if_icmp .ge 38, 0, 0) := rfl
theorem te_17_85 : (pT M_17).find? (fun e => e.1 == 85) = some (85, .iload_n 3, 0, 0) := rfl
theorem te_17_86 : (pT M_17).find? (fun e => e.1 == 86) = some (86, .iconst 1, 0, 0) := rfl
theorem te_17_87 : (pT M_17).find? (fun e => e.1 == 87) = some (87, .iadd, 0, 0) := rfl
theorem te_17_88 : (pT M_17).find? (fun e => e.1 == 88) = some (88, .istore 4, 0, 0) := rfl
theorem te_17_90 : (pT M_17).find? (fun e => e.1 == 90) = some (90, .iload 4, 0, 0) := rfl
theorem te_17_92 : (pT M_17).find? (fun e => e.1 == 92) = some (92, .aload_n 1, 0, 0) := rfl
theorem te_17_93 : (pT M_17).find? (fun e => e.1 == 93) = some (93, .getfield 38, 0, 0) := rfl
theorem te_17_96 : (pT M_17).find? (fun e => e.1 == 96) = some (96, .if_icmp .ge 18, 0, 0) := rfl
theorem te_17_99 : (pT M_17).find? (fun e => e.1 == 99) = some (99, .aload_n 0, 0, 0) := rfl
theorem te_17_100 : (pT M_17).find? (fun e => e.1 == 100) = some (100, .aload_n 1, 0, 0) := rfl
theorem te_17_101 : (pT M_17).find? (fun e => e.1 == 101) = some (101, .iload_n 3, 0, 0) := rfl
theorem te_17_102 : (pT M_17).find? (fun e => e.1 == 102) = some (102, .iload 4, 0, 0) := rfl
theorem te_17_104 : (pT M_17).find? (fun e => e.1 == 104) = some (104, .iload_n 2, 0, 0) := rfl
theorem te_17_105 : (pT M_17).find? (fun e => e.1 == 105) = some (105, .invokevirtual 59, 23, 0) := rfl
theorem te_17_108 : (pT M_17).find? (fun e => e.1 == 108) = some (108, .iinc 4 1, 0, 0) := rfl
theorem te_17_111 : (pT M_17).find? (fun e => e.1 == 111) = some (111, .goto (-21), 0, 0) := rfl
theorem te_17_114 : (pT M_17).find? (fun e => e.1 == 114) = some (114, .iinc 3 1, 0, 0) := rfl
theorem te_17_117 : (pT M_17).find? (fun e => e.1 == 117) = some (117, .goto (-40), 0, 0) := rfl
theorem te_17_120 : (pT M_17).find? (fun e => e.1 == 120) = some (120, .return_, 0, 0) := rfl
theorem te_18_0 : (pT M_18).find? (fun e => e.1 == 0) = some (0, .aload_n 0, 0, 0) := rfl
theorem te_18_1 : (pT M_18).find? (fun e => e.1 == 1) = some (1, .iload_n 1, 0, 0) := rfl
theorem te_18_2 : (pT M_18).find? (fun e => e.1 == 2) = some (2, .invokevirtual 63, 19, 1) := rfl
theorem te_18_5 : (pT M_18).find? (fun e => e.1 == 5) = some (5, .istore_n 3, 0, 0) := rfl
theorem te_18_6 : (pT M_18).find? (fun e => e.1 == 6) = some (6, .aload_n 0, 0, 0) := rfl
theorem te_18_7 : (pT M_18).find? (fun e => e.1 == 7) = some (7, .getfield 66, 0, 1) := rfl
theorem te_18_10 : (pT M_18).find? (fun e => e.1 == 10) = some (10, .iload_n 1, 0, 0) := rfl
theorem te_18_11 : (pT M_18).find? (fun e => e.1 == 11) = some (11, .iaload, 0, 0) := rfl
theorem te_18_12 : (pT M_18).find? (fun e => e.1 == 12) = some (12, .iload_n 2, 0, 0) := rfl
theorem te_18_13 : (pT M_18).find? (fun e => e.1 == 13) = some (13, .if_icmp .ne 9, 0, 0) := rfl
theorem te_18_16 : (pT M_18).find? (fun e => e.1 == 16) = some (16, .iload_n 3, 0, 0) := rfl
theorem te_18_17 : (pT M_18).find? (fun e => e.1 == 17) = some (17, .iconst 1, 0, 0) := rfl
theorem te_18_18 : (pT M_18).find? (fun e => e.1 == 18) = some (18, .isub, 0, 0) := rfl
theorem te_18_19 : (pT M_18).find? (fun e => e.1 == 19) = some (19, .goto 4, 0, 0) := rfl
theorem te_18_22 : (pT M_18).find? (fun e => e.1 == 22) = some (22, .iload_n 3, 0, 0) := rfl
theorem te_18_23 : (pT M_18).find? (fun e => e.1 == 23) = some (23, .ireturn, 0, 0) := rfl
theorem te_19_0 : (pT M_19).find? (fun e => e.1 == 0) = some (0, .aload_n 0, 0, 0) := rfl
theorem te_19_1 : (pT M_19).find? (fun e => e.1 == 1) = some (1, .getfield 24, 0, 5) := rfl
theorem te_19_4 : (pT M_19).find? (fun e => e.1 == 4) = some (4, .aload_n 0, 0, 0) := rfl
theorem te_19_5 : (pT M_19).find? (fun e => e.1 == 5) = some (5, .getfield 9, 0, 1) := rfl
theorem te_19_8 : (pT M_19).find? (fun e => e.1 == 8) = some (8, .iload_n 1, 0, 0) := rfl
theorem te_19_9 : (pT M_19).find? (fun e => e.1 == 9) = some (9, .iaload, 0, 0) := rfl
theorem te_19_10 : (pT M_19).find? (fun e => e.1 == 10) = some (10, .iaload, 0, 0) := rfl
theorem te_19_11 : (pT M_19).find? (fun e => e.1 == 11) = some (11, .ireturn, 0, 0) := rfl
theorem te_20_0 : (pT M_20).find? (fun e => e.1 == 0) = some (0, .iconst 0, 0, 0) := rfl
theorem te_20_1 : (pT M_20).find? (fun e => e.1 == 1) = some (1, .istore 5, 0, 0) := rfl
theorem te_20_3 : (pT M_20).find? (fun e => e.1 == 3) = some (3, .iconst (-1), 0, 0) := rfl
theorem te_20_4 : (pT M_20).find? (fun e => e.1 == 4) = some (4, .istore 6, 0, 0) := rfl
theorem te_20_6 : (pT M_20).find? (fun e => e.1 == 6) = some (6, .iload 5, 0, 0) := rfl
theorem te_20_8 : (pT M_20).find? (fun e => e.1 == 8) = some (8, .aload_n 0, 0, 0) := rfl
theorem te_20_9 : (pT M_20).find? (fun e => e.1 == 9) = some (9, .getfield 35, 7, 0) := rfl
theorem te_20_12 : (pT M_20).find? (fun e => e.1 == 12) = some (12, .if_icmp .ge 30, 0, 0) := rfl
theorem te_20_15 : (pT M_20).find? (fun e => e.1 == 15) = some (15, .aload_n 0, 0, 0) := rfl
theorem te_20_16 : (pT M_20).find? (fun e => e.1 == 16) = some (16, .iload 5, 0, 0) := rfl
theorem te_20_18 : (pT M_20).find? (fun e => e.1 == 18) = some (18, .iload_n 1, 0, 0) := rfl
theorem te_20_19 : (pT M_20).find? (fun e => e.1 == 19) = some (19, .iload_n 2, 0, 0) := rfl
theorem te_20_20 : (pT M_20).find? (fun e => e.1 == 20) = some (20, .iload_n 3, 0, 0) := rfl
theorem te_20_21 : (pT M_20).find? (fun e => e.1 == 21) = some (21, .iload 4, 0, 0) := rfl
theorem te_20_23 : (pT M_20).find? (fun e => e.1 == 23) = some (23, .invokevirtual 75, 21, 0) := rfl
theorem te_20_26 : (pT M_20).find? (fun e => e.1 == 26) = some (26, .istore 6, 0, 0) := rfl
theorem te_20_28 : (pT M_20).find? (fun e => e.1 == 28) = some (28, .iload 6, 0, 0) := rfl
theorem te_20_30 : (pT M_20).find? (fun e => e.1 == 30) = some (30, .ifCond .lt 6, 0, 0) := rfl
theorem te_20_33 : (pT M_20).find? (fun e => e.1 == 33) = some (33, .goto 9, 0, 0) := rfl
theorem te_20_36 : (pT M_20).find? (fun e => e.1 == 36) = some (36, .iinc 5 1, 0, 0) := rfl
theorem te_20_39 : (pT M_20).find? (fun e => e.1 == 39) = some (39, .goto (-33), 0, 0) := rfl
theorem te_20_42 : (pT M_20).find? (fun e => e.1 == 42) = some (42, .iload 5, 0, 0) := rfl
theorem te_20_44 : (pT M_20).find? (fun e => e.1 == 44) = some (44, .aload_n 0, 0, 0) := rfl
theorem te_20_45 : (pT M_20).find? (fun e => e.1 == 45) = some (45, .getfield 35, 7, 0) := rfl
theorem te_20_48 : (pT M_20).find? (fun e => e.1 == 48) = some (48, .if_icmp .ge 8, 0, 0) := rfl
theorem te_20_51 : (pT M_20).find? (fun e => e.1 == 51) = some (51, .iload 6, 0, 0) := rfl
theorem te_20_53 : (pT M_20).find? (fun e => e.1 == 53) = some (53, .ifCond .eq 12, 0, 0) := rfl
theorem te_20_56 : (pT M_20).find? (fun e => e.1 == 56) = some (56, .aload_n 0, 0, 0) := rfl
theorem te_20_57 : (pT M_20).find? (fun e => e.1 == 57) = some (57, .getfield 35, 7, 0) := rfl
theorem te_20_60 : (pT M_20).find? (fun e => e.1 == 60) = some (60, .bipush 64, 0, 0) := rfl
theorem te_20_62 : (pT M_20).find? (fun e => e.1 == 62) = some (62, .if_icmp .lt 4, 0, 0) := rfl
theorem te_20_65 : (pT M_20).find? (fun e => e.1 == 65) = some (65, .return_, 0, 0) := rfl
theorem te_20_66 : (pT M_20).find? (fun e => e.1 == 66) = some (66, .aload_n 0, 0, 0) := rfl
theorem te_20_67 : (pT M_20).find? (fun e => e.1 == 67) = some (67, .getfield 35, 7, 0) := rfl
theorem te_20_70 : (pT M_20).find? (fun e => e.1 == 70) = some (70, .istore 7, 0, 0) := rfl
theorem te_20_72 : (pT M_20).find? (fun e => e.1 == 72) = some (72, .iload 7, 0, 0) := rfl
theorem te_20_74 : (pT M_20).find? (fun e => e.1 == 74) = some (74, .iload 5, 0, 0) := rfl
theorem te_20_76 : (pT M_20).find? (fun e => e.1 == 76) = some (76, .if_icmp .le 51, 0, 0) := rfl
theorem te_20_79 : (pT M_20).find? (fun e => e.1 == 79) = some (79, .aload_n 0, 0, 0) := rfl
theorem te_20_80 : (pT M_20).find? (fun e => e.1 == 80) = some (80, .iload 7, 0, 0) := rfl
theorem te_20_82 : (pT M_20).find? (fun e => e.1 == 82) = some (82, .aload_n 0, 0, 0) := rfl
theorem te_20_83 : (pT M_20).find? (fun e => e.1 == 83) = some (83, .getfield 11, 7, 1) := rfl
theorem te_20_86 : (pT M_20).find? (fun e => e.1 == 86) = some (86, .iload 7, 0, 0) := rfl
theorem te_20_88 : (pT M_20).find? (fun e => e.1 == 88) = some (88, .iconst 1, 0, 0) := rfl
theorem te_20_89 : (pT M_20).find? (fun e => e.1 == 89) = some (89, .isub, 0, 0) := rfl
theorem te_20_90 : (pT M_20).find? (fun e => e.1 == 90) = some (90, .iaload, 0, 0) := rfl
theorem te_20_91 : (pT M_20).find? (fun e => e.1 == 91) = some (91, .aload_n 0, 0, 0) := rfl
theorem te_20_92 : (pT M_20).find? (fun e => e.1 == 92) = some (92, .getfield 15, 7, 2) := rfl
theorem te_20_95 : (pT M_20).find? (fun e => e.1 == 95) = some (95, .iload 7, 0, 0) := rfl
theorem te_20_97 : (pT M_20).find? (fun e => e.1 == 97) = some (97, .iconst 1, 0, 0) := rfl
theorem te_20_98 : (pT M_20).find? (fun e => e.1 == 98) = some (98, .isub, 0, 0) := rfl
theorem te_20_99 : (pT M_20).find? (fun e => e.1 == 99) = some (99, .iaload, 0, 0) := rfl
theorem te_20_100 : (pT M_20).find? (fun e => e.1 == 100) = some (100, .aload_n 0, 0, 0) := rfl
theorem te_20_101 : (pT M_20).find? (fun e => e.1 == 101) = some (101, .getfield 18, 7, 3) := rfl
theorem te_20_104 : (pT M_20).find? (fun e => e.1 == 104) = some (104, .iload 7, 0, 0) := rfl
theorem te_20_106 : (pT M_20).find? (fun e => e.1 == 106) = some (106, .iconst 1, 0, 0) := rfl
theorem te_20_107 : (pT M_20).find? (fun e => e.1 == 107) = some (107, .isub, 0, 0) := rfl
theorem te_20_108 : (pT M_20).find? (fun e => e.1 == 108) = some (108, .iaload, 0, 0) := rfl
theorem te_20_109 : (pT M_20).find? (fun e => e.1 == 109) = some (109, .aload_n 0, 0, 0) := rfl
theorem te_20_110 : (pT M_20).find? (fun e => e.1 == 110) = some (110, .getfield 21, 7, 4) := rfl
theorem te_20_113 : (pT M_20).find? (fun e => e.1 == 113) = some (113, .iload 7, 0, 0) := rfl
theorem te_20_115 : (pT M_20).find? (fun e => e.1 == 115) = some (115, .iconst 1, 0, 0) := rfl
theorem te_20_116 : (pT M_20).find? (fun e => e.1 == 116) = some (116, .isub, 0, 0) := rfl
theorem te_20_117 : (pT M_20).find? (fun e => e.1 == 117) = some (117, .iaload, 0, 0) := rfl
theorem te_20_118 : (pT M_20).find? (fun e => e.1 == 118) = some (118, .invokevirtual 79, 22, 0) := rfl
theorem te_20_121 : (pT M_20).find? (fun e => e.1 == 121) = some (121, .iinc 7 (-1), 0, 0) := rfl
theorem te_20_124 : (pT M_20).find? (fun e => e.1 == 124) = some (124, .goto (-52), 0, 0) := rfl
theorem te_20_127 : (pT M_20).find? (fun e => e.1 == 127) = some (127, .aload_n 0, 0, 0) := rfl
theorem te_20_128 : (pT M_20).find? (fun e => e.1 == 128) = some (128, .iload 5, 0, 0) := rfl
theorem te_20_130 : (pT M_20).find? (fun e => e.1 == 130) = some (130, .iload_n 1, 0, 0) := rfl
theorem te_20_131 : (pT M_20).find? (fun e => e.1 == 131) = some (131, .iload_n 2, 0, 0) := rfl
theorem te_20_132 : (pT M_20).find? (fun e => e.1 == 132) = some (132, .iload_n 3, 0, 0) := rfl
theorem te_20_133 : (pT M_20).find? (fun e => e.1 == 133) = some (133, .iload 4, 0, 0) := rfl
theorem te_20_135 : (pT M_20).find? (fun e => e.1 == 135) = some (135, .invokevirtual 79, 22, 0) := rfl
theorem te_20_138 : (pT M_20).find? (fun e => e.1 == 138) = some (138, .aload_n 0, 0, 0) := rfl
theorem te_20_139 : (pT M_20).find? (fun e => e.1 == 139) = some (139, .dup, 0, 0) := rfl
theorem te_20_140 : (pT M_20).find? (fun e => e.1 == 140) = some (140, .getfield 35, 7, 0) := rfl
theorem te_20_143 : (pT M_20).find? (fun e => e.1 == 143) = some (143, .iconst 1, 0, 0) := rfl
theorem te_20_144 : (pT M_20).find? (fun e => e.1 == 144) = some (144, .iadd, 0, 0) := rfl
theorem te_20_145 : (pT M_20).find? (fun e => e.1 == 145) = some (145, .putfield 35, 7, 0) := rfl
theorem te_20_148 : (pT M_20).find? (fun e => e.1 == 148) = some (148, .return_, 0, 0) := rfl
theorem te_21_0 : (pT M_21).find? (fun e => e.1 == 0) = some (0, .aload_n 0, 0, 0) := rfl
theorem te_21_1 : (pT M_21).find? (fun e => e.1 == 1) = some (1, .getfield 11, 7, 1) := rfl
theorem te_21_4 : (pT M_21).find? (fun e => e.1 == 4) = some (4, .iload_n 1, 0, 0) := rfl
theorem te_21_5 : (pT M_21).find? (fun e => e.1 == 5) = some (5, .iaload, 0, 0) := rfl
theorem te_21_6 : (pT M_21).find? (fun e => e.1 == 6) = some (6, .iload_n 2, 0, 0) := rfl
theorem te_21_7 : (pT M_21).find? (fun e => e.1 == 7) = some (7, .if_icmp .eq 12, 0, 0) := rfl
theorem te_21_10 : (pT M_21).find? (fun e => e.1 == 10) = some (10, .aload_n 0, 0, 0) := rfl
theorem te_21_11 : (pT M_21).find? (fun e => e.1 == 11) = some (11, .getfield 11, 7, 1) := rfl
theorem te_21_14 : (pT M_21).find? (fun e => e.1 == 14) = some (14, .iload_n 1, 0, 0) := rfl
theorem te_21_15 : (pT M_21).find? (fun e => e.1 == 15) = some (15, .iaload, 0, 0) := rfl
theorem te_21_16 : (pT M_21).find? (fun e => e.1 == 16) = some (16, .iload_n 2, 0, 0) := rfl
theorem te_21_17 : (pT M_21).find? (fun e => e.1 == 17) = some (17, .isub, 0, 0) := rfl
theorem te_21_18 : (pT M_21).find? (fun e => e.1 == 18) = some (18, .ireturn, 0, 0) := rfl
theorem te_21_19 : (pT M_21).find? (fun e => e.1 == 19) = some (19, .aload_n 0, 0, 0) := rfl
theorem te_21_20 : (pT M_21).find? (fun e => e.1 == 20) = some (20, .getfield 15, 7, 2) := rfl
theorem te_21_23 : (pT M_21).find? (fun e => e.1 == 23) = some (23, .iload_n 1, 0, 0) := rfl
theorem te_21_24 : (pT M_21).find? (fun e => e.1 == 24) = some (24, .iaload, 0, 0) := rfl
theorem te_21_25 : (pT M_21).find? (fun e => e.1 == 25) = some (25, .iload_n 3, 0, 0) := rfl
theorem te_21_26 : (pT M_21).find? (fun e => e.1 == 26) = some (26, .if_icmp .eq 12, 0, 0) := rfl
theorem te_21_29 : (pT M_21).find? (fun e => e.1 == 29) = some (29, .aload_n 0, 0, 0) := rfl
theorem te_21_30 : (pT M_21).find? (fun e => e.1 == 30) = some (30, .getfield 15, 7, 2) := rfl
theorem te_21_33 : (pT M_21).find? (fun e => e.1 == 33) = some (33, .iload_n 1, 0, 0) := rfl
theorem te_21_34 : (pT M_21).find? (fun e => e.1 == 34) = some (34, .iaload, 0, 0) := rfl
theorem te_21_35 : (pT M_21).find? (fun e => e.1 == 35) = some (35, .iload_n 3, 0, 0) := rfl
theorem te_21_36 : (pT M_21).find? (fun e => e.1 == 36) = some (36, .isub, 0, 0) := rfl
theorem te_21_37 : (pT M_21).find? (fun e => e.1 == 37) = some (37, .ireturn, 0, 0) := rfl
theorem te_21_38 : (pT M_21).find? (fun e => e.1 == 38) = some (38, .aload_n 0, 0, 0) := rfl
theorem te_21_39 : (pT M_21).find? (fun e => e.1 == 39) = some (39, .getfield 18, 7, 3) := rfl
theorem te_21_42 : (pT M_21).find? (fun e => e.1 == 42) = some (42, .iload_n 1, 0, 0) := rfl
theorem te_21_43 : (pT M_21).find? (fun e => e.1 == 43) = some (43, .iaload, 0, 0) := rfl
theorem te_21_44 : (pT M_21).find? (fun e => e.1 == 44) = some (44, .iload 4, 0, 0) := rfl
theorem te_21_46 : (pT M_21).find? (fun e => e.1 == 46) = some (46, .if_icmp .eq 13, 0, 0) := rfl
theorem te_21_49 : (pT M_21).find? (fun e => e.1 == 49) = some (49, .aload_n 0, 0, 0) := rfl
theorem te_21_50 : (pT M_21).find? (fun e => e.1 == 50) = some (50, .getfield 18, 7, 3) := rfl
theorem te_21_53 : (pT M_21).find? (fun e => e.1 == 53) = some (53, .iload_n 1, 0, 0) := rfl
theorem te_21_54 : (pT M_21).find? (fun e => e.1 == 54) = some (54, .iaload, 0, 0) := rfl
theorem te_21_55 : (pT M_21).find? (fun e => e.1 == 55) = some (55, .iload 4, 0, 0) := rfl
theorem te_21_57 : (pT M_21).find? (fun e => e.1 == 57) = some (57, .isub, 0, 0) := rfl
theorem te_21_58 : (pT M_21).find? (fun e => e.1 == 58) = some (58, .ireturn, 0, 0) := rfl
theorem te_21_59 : (pT M_21).find? (fun e => e.1 == 59) = some (59, .aload_n 0, 0, 0) := rfl
theorem te_21_60 : (pT M_21).find? (fun e => e.1 == 60) = some (60, .getfield 21, 7, 4) := rfl
theorem te_21_63 : (pT M_21).find? (fun e => e.1 == 63) = some (63, .iload_n 1, 0, 0) := rfl
theorem te_21_64 : (pT M_21).find? (fun e => e.1 == 64) = some (64, .iaload, 0, 0) := rfl
theorem te_21_65 : (pT M_21).find? (fun e => e.1 == 65) = some (65, .iload 5, 0, 0) := rfl
theorem te_21_67 : (pT M_21).find? (fun e => e.1 == 67) = some (67, .isub, 0, 0) := rfl
theorem te_21_68 : (pT M_21).find? (fun e => e.1 == 68) = some (68, .ireturn, 0, 0) := rfl
theorem te_22_0 : (pT M_22).find? (fun e => e.1 == 0) = some (0, .aload_n 0, 0, 0) := rfl
theorem te_22_1 : (pT M_22).find? (fun e => e.1 == 1) = some (1, .getfield 11, 7, 1) := rfl
theorem te_22_4 : (pT M_22).find? (fun e => e.1 == 4) = some (4, .iload_n 1, 0, 0) := rfl
theorem te_22_5 : (pT M_22).find? (fun e => e.1 == 5) = some (5, .iload_n 2, 0, 0) := rfl
theorem te_22_6 : (pT M_22).find? (fun e => e.1 == 6) = some (6, .iastore, 0, 0) := rfl
theorem te_22_7 : (pT M_22).find? (fun e => e.1 == 7) = some (7, .aload_n 0, 0, 0) := rfl
theorem te_22_8 : (pT M_22).find? (fun e => e.1 == 8) = some (8, .getfield 15, 7, 2) := rfl
theorem te_22_11 : (pT M_22).find? (fun e => e.1 == 11) = some (11, .iload_n 1, 0, 0) := rfl
theorem te_22_12 : (pT M_22).find? (fun e => e.1 == 12) = some (12, .iload_n 3, 0, 0) := rfl
theorem te_22_13 : (pT M_22).find? (fun e => e.1 == 13) = some (13, .iastore, 0, 0) := rfl
theorem te_22_14 : (pT M_22).find? (fun e => e.1 == 14) = some (14, .aload_n 0, 0, 0) := rfl
theorem te_22_15 : (pT M_22).find? (fun e => e.1 == 15) = some (15, .getfield 18, 7, 3) := rfl
theorem te_22_18 : (pT M_22).find? (fun e => e.1 == 18) = some (18, .iload_n 1, 0, 0) := rfl
theorem te_22_19 : (pT M_22).find? (fun e => e.1 == 19) = some (19, .iload 4, 0, 0) := rfl
theorem te_22_21 : (pT M_22).find? (fun e => e.1 == 21) = some (21, .iastore, 0, 0) := rfl
theorem te_22_22 : (pT M_22).find? (fun e => e.1 == 22) = some (22, .aload_n 0, 0, 0) := rfl
theorem te_22_23 : (pT M_22).find? (fun e => e.1 == 23) = some (23, .getfield 21, 7, 4) := rfl
theorem te_22_26 : (pT M_22).find? (fun e => e.1 == 26) = some (26, .iload_n 1, 0, 0) := rfl
theorem te_22_27 : (pT M_22).find? (fun e => e.1 == 27) = some (27, .iload 5, 0, 0) := rfl
theorem te_22_29 : (pT M_22).find? (fun e => e.1 == 29) = some (29, .iastore, 0, 0) := rfl
theorem te_22_30 : (pT M_22).find? (fun e => e.1 == 30) = some (30, .return_, 0, 0) := rfl
theorem te_23_0 : (pT M_23).find? (fun e => e.1 == 0) = some (0, .aload_n 1, 0, 0) := rfl
theorem te_23_1 : (pT M_23).find? (fun e => e.1 == 1) = some (1, .getfield 66, 0, 1) := rfl
theorem te_23_4 : (pT M_23).find? (fun e => e.1 == 4) = some (4, .iload_n 2, 0, 0) := rfl
theorem te_23_5 : (pT M_23).find? (fun e => e.1 == 5) = some (5, .iaload, 0, 0) := rfl
theorem te_23_6 : (pT M_23).find? (fun e => e.1 == 6) = some (6, .iconst 4, 0, 0) := rfl
theorem te_23_7 : (pT M_23).find? (fun e => e.1 == 7) = some (7, .if_icmp .lt 13, 0, 0) := rfl
theorem te_23_10 : (pT M_23).find? (fun e => e.1 == 10) = some (10, .aload_n 1, 0, 0) := rfl
theorem te_23_11 : (pT M_23).find? (fun e => e.1 == 11) = some (11, .getfield 66, 0, 1) := rfl
theorem te_23_14 : (pT M_23).find? (fun e => e.1 == 14) = some (14, .iload_n 3, 0, 0) := rfl
theorem te_23_15 : (pT M_23).find? (fun e => e.1 == 15) = some (15, .iaload, 0, 0) := rfl
theorem te_23_16 : (pT M_23).find? (fun e => e.1 == 16) = some (16, .iconst 4, 0, 0) := rfl
theorem te_23_17 : (pT M_23).find? (fun e => e.1 == 17) = some (17, .if_icmp .ge 4, 0, 0) := rfl
theorem te_23_20 : (pT M_23).find? (fun e => e.1 == 20) = some (20, .return_, 0, 0) := rfl
theorem te_23_21 : (pT M_23).find? (fun e => e.1 == 21) = some (21, .aload_n 1, 0, 0) := rfl
theorem te_23_22 : (pT M_23).find? (fun e => e.1 == 22) = some (22, .iload_n 2, 0, 0) := rfl
theorem te_23_23 : (pT M_23).find? (fun e => e.1 == 23) = some (23, .invokevirtual 69, 24, 1) := rfl
theorem te_23_26 : (pT M_23).find? (fun e => e.1 == 26) = some (26, .aload_n 1, 0, 0) := rfl
theorem te_23_27 : (pT M_23).find? (fun e => e.1 == 27) = some (27, .iload_n 3, 0, 0) := rfl
theorem te_23_28 : (pT M_23).find? (fun e => e.1 == 28) = some (28, .invokevirtual 69, 24, 1) := rfl
theorem te_23_31 : (pT M_23).find? (fun e => e.1 == 31) = some (31, .if_icmp .eq 4, 0, 0) := rfl
theorem te_23_34 : (pT M_23).find? (fun e => e.1 == 34) = some (34, .return_, 0, 0) := rfl
theorem te_23_35 : (pT M_23).find? (fun e => e.1 == 35) = some (35, .aload_n 1, 0, 0) := rfl
theorem te_23_36 : (pT M_23).find? (fun e => e.1 == 36) = some (36, .iload_n 2, 0, 0) := rfl
theorem te_23_37 : (pT M_23).find? (fun e => e.1 == 37) = some (37, .invokevirtual 72, 25, 1) := rfl
theorem te_23_40 : (pT M_23).find? (fun e => e.1 == 40) = some (40, .aload_n 1, 0, 0) := rfl
theorem te_23_41 : (pT M_23).find? (fun e => e.1 == 41) = some (41, .iload_n 3, 0, 0) := rfl
theorem te_23_42 : (pT M_23).find? (fun e => e.1 == 42) = some (42, .invokevirtual 72, 25, 1) := rfl
theorem te_23_45 : (pT M_23).find? (fun e => e.1 == 45) = some (45, .if_icmp .lt 7, 0, 0) := rfl
theorem te_23_48 : (pT M_23).find? (fun e => e.1 == 48) = some (48, .iconst 1, 0, 0) := rfl
theorem te_23_49 : (pT M_23).find? (fun e => e.1 == 49) = some (49, .goto 4, 0, 0) := rfl
theorem te_23_52 : (pT M_23).find? (fun e => e.1 == 52) = some (52, .iconst 0, 0, 0) := rfl
theorem te_23_53 : (pT M_23).find? (fun e => e.1 == 53) = some (53, .istore 5, 0, 0) := rfl
theorem te_23_55 : (pT M_23).find? (fun e => e.1 == 55) = some (55, .iload 5, 0, 0) := rfl
theorem te_23_57 : (pT M_23).find? (fun e => e.1 == 57) = some (57, .ifCond .eq 7, 0, 0) := rfl
theorem te_23_60 : (pT M_23).find? (fun e => e.1 == 60) = some (60, .iload_n 2, 0, 0) := rfl
theorem te_23_61 : (pT M_23).find? (fun e => e.1 == 61) = some (61, .goto 4, 0, 0) := rfl
theorem te_23_64 : (pT M_23).find? (fun e => e.1 == 64) = some (64, .iload_n 3, 0, 0) := rfl
theorem te_23_65 : (pT M_23).find? (fun e => e.1 == 65) = some (65, .istore 6, 0, 0) := rfl
theorem te_23_67 : (pT M_23).find? (fun e => e.1 == 67) = some (67, .iload 5, 0, 0) := rfl
theorem te_23_69 : (pT M_23).find? (fun e => e.1 == 69) = some (69, .ifCond .eq 7, 0, 0) := rfl
theorem te_23_72 : (pT M_23).find? (fun e => e.1 == 72) = some (72, .iload_n 3, 0, 0) := rfl
theorem te_23_73 : (pT M_23).find? (fun e => e.1 == 73) = some (73, .goto 4, 0, 0) := rfl
theorem te_23_76 : (pT M_23).find? (fun e => e.1 == 76) = some (76, .iload_n 2, 0, 0) := rfl
theorem te_23_77 : (pT M_23).find? (fun e => e.1 == 77) = some (77, .istore 7, 0, 0) := rfl
theorem te_23_79 : (pT M_23).find? (fun e => e.1 == 79) = some (79, .aload_n 1, 0, 0) := rfl
theorem te_23_80 : (pT M_23).find? (fun e => e.1 == 80) = some (80, .iload 6, 0, 0) := rfl
theorem te_23_82 : (pT M_23).find? (fun e => e.1 == 82) = some (82, .invokevirtual 72, 25, 1) := rfl
theorem te_23_85 : (pT M_23).find? (fun e => e.1 == 85) = some (85, .aload_n 1, 0, 0) := rfl
theorem te_23_86 : (pT M_23).find? (fun e => e.1 == 86) = some (86, .iload 7, 0, 0) := rfl
theorem te_23_88 : (pT M_23).find? (fun e => e.1 == 88) = some (88, .invokevirtual 72, 25, 1) := rfl
theorem te_23_91 : (pT M_23).find? (fun e => e.1 == 91) = some (91, .isub, 0, 0) := rfl
theorem te_23_92 : (pT M_23).find? (fun e => e.1 == 92) = some (92, .istore 8, 0, 0) := rfl
theorem te_23_94 : (pT M_23).find? (fun e => e.1 == 94) = some (94, .aload_n 1, 0, 0) := rfl
theorem te_23_95 : (pT M_23).find? (fun e => e.1 == 95) = some (95, .getfield 66, 0, 1) := rfl
theorem te_23_98 : (pT M_23).find? (fun e => e.1 == 98) = some (98, .iload 6, 0, 0) := rfl
theorem te_23_100 : (pT M_23).find? (fun e => e.1 == 100) = some (100, .iaload, 0, 0) := rfl
theorem te_23_101 : (pT M_23).find? (fun e => e.1 == 101) = some (101, .iconst 5, 0, 0) := rfl
theorem te_23_102 : (pT M_23).find? (fun e => e.1 == 102) = some (102, .if_icmp .ne 7, 0, 0) := rfl
theorem te_23_105 : (pT M_23).find? (fun e => e.1 == 105) = some (105, .iconst 1, 0, 0) := rfl
theorem te_23_106 : (pT M_23).find? (fun e => e.1 == 106) = some (106, .goto 4, 0, 0) := rfl
theorem te_23_109 : (pT M_23).find? (fun e => e.1 == 109) = some (109, .iconst 0, 0, 0) := rfl
theorem te_23_110 : (pT M_23).find? (fun e => e.1 == 110) = some (110, .istore 9, 0, 0) := rfl
theorem te_23_112 : (pT M_23).find? (fun e => e.1 == 112) = some (112, .aload_n 1, 0, 0) := rfl
theorem te_23_113 : (pT M_23).find? (fun e => e.1 == 113) = some (113, .getfield 66, 0, 1) := rfl
theorem te_23_116 : (pT M_23).find? (fun e => e.1 == 116) = some (116, .iload 7, 0, 0) := rfl
theorem te_23_118 : (pT M_23).find? (fun e => e.1 == 118) = some (118, .iaload, 0, 0) := rfl
theorem te_23_119 : (pT M_23).find? (fun e => e.1 == 119) = some (119, .iconst 5, 0, 0) := rfl
theorem te_23_120 : (pT M_23).find? (fun e => e.1 == 120) = some (120, .if_icmp .ne 7, 0, 0) := rfl
theorem te_23_123 : (pT M_23).find? (fun e => e.1 == 123) = some (123, .iconst 1, 0, 0) := rfl
theorem te_23_124 : (pT M_23).find? (fun e => e.1 == 124) = some (124, .goto 4, 0, 0) := rfl
theorem te_23_127 : (pT M_23).find? (fun e => e.1 == 127) = some (127, .iconst 0, 0, 0) := rfl
theorem te_23_128 : (pT M_23).find? (fun e => e.1 == 128) = some (128, .istore 10, 0, 0) := rfl
theorem te_23_130 : (pT M_23).find? (fun e => e.1 == 130) = some (130, .iload 9, 0, 0) := rfl
theorem te_23_132 : (pT M_23).find? (fun e => e.1 == 132) = some (132, .ifCond .eq 22, 0, 0) := rfl
theorem te_23_135 : (pT M_23).find? (fun e => e.1 == 135) = some (135, .iload 10, 0, 0) := rfl
theorem te_23_137 : (pT M_23).find? (fun e => e.1 == 137) = some (137, .ifCond .eq 17, 0, 0) := rfl
theorem te_23_140 : (pT M_23).find? (fun e => e.1 == 140) = some (140, .aload_n 0, 0, 0) := rfl
theorem te_23_141 : (pT M_23).find? (fun e => e.1 == 141) = some (141, .iload 6, 0, 0) := rfl
theorem te_23_143 : (pT M_23).find? (fun e => e.1 == 143) = some (143, .iload 7, 0, 0) := rfl
theorem te_23_145 : (pT M_23).find? (fun e => e.1 == 145) = some (145, .iload 8, 0, 0) := rfl
theorem te_23_147 : (pT M_23).find? (fun e => e.1 == 147) = some (147, .iconst 1, 0, 0) := rfl
theorem te_23_148 : (pT M_23).find? (fun e => e.1 == 148) = some (148, .invokevirtual 55, 20, 0) := rfl
theorem te_23_151 : (pT M_23).find? (fun e => e.1 == 151) = some (151, .goto 54, 0, 0) := rfl
theorem te_23_154 : (pT M_23).find? (fun e => e.1 == 154) = some (154, .iload 9, 0, 0) := rfl
theorem te_23_156 : (pT M_23).find? (fun e => e.1 == 156) = some (156, .ifCond .eq 24, 0, 0) := rfl
theorem te_23_159 : (pT M_23).find? (fun e => e.1 == 159) = some (159, .aload_n 0, 0, 0) := rfl
theorem te_23_160 : (pT M_23).find? (fun e => e.1 == 160) = some (160, .iload 6, 0, 0) := rfl
theorem te_23_162 : (pT M_23).find? (fun e => e.1 == 162) = some (162, .iload 7, 0, 0) := rfl
theorem te_23_164 : (pT M_23).find? (fun e => e.1 == 164) = some (164, .iload 8, 0, 0) := rfl
theorem te_23_166 : (pT M_23).find? (fun e => e.1 == 166) = some (166, .aload_n 1, 0, 0) := rfl
theorem te_23_167 : (pT M_23).find? (fun e => e.1 == 167) = some (167, .iload 6, 0, 0) := rfl
theorem te_23_169 : (pT M_23).find? (fun e => e.1 == 169) = some (169, .iload 4, 0, 0) := rfl
theorem te_23_171 : (pT M_23).find? (fun e => e.1 == 171) = some (171, .invokestatic 51, 18, 2) := rfl
theorem te_23_174 : (pT M_23).find? (fun e => e.1 == 174) = some (174, .invokevirtual 55, 20, 0) := rfl
theorem te_23_177 : (pT M_23).find? (fun e => e.1 == 177) = some (177, .goto 28, 0, 0) := rfl
theorem te_23_180 : (pT M_23).find? (fun e => e.1 == 180) = some (180, .iload 10, 0, 0) := rfl
theorem te_23_182 : (pT M_23).find? (fun e => e.1 == 182) = some (182, .ifCond .eq 23, 0, 0) := rfl
theorem te_23_185 : (pT M_23).find? (fun e => e.1 == 185) = some (185, .aload_n 0, 0, 0) := rfl
theorem te_23_186 : (pT M_23).find? (fun e => e.1 == 186) = some (186, .iload 6, 0, 0) := rfl
theorem te_23_188 : (pT M_23).find? (fun e => e.1 == 188) = some (188, .iload 7, 0, 0) := rfl
theorem te_23_190 : (pT M_23).find? (fun e => e.1 == 190) = some (190, .iload 8, 0, 0) := rfl
theorem te_23_192 : (pT M_23).find? (fun e => e.1 == 192) = some (192, .iconst 1, 0, 0) := rfl
theorem te_23_193 : (pT M_23).find? (fun e => e.1 == 193) = some (193, .aload_n 1, 0, 0) := rfl
theorem te_23_194 : (pT M_23).find? (fun e => e.1 == 194) = some (194, .iload 7, 0, 0) := rfl
theorem te_23_196 : (pT M_23).find? (fun e => e.1 == 196) = some (196, .iload 4, 0, 0) := rfl
theorem te_23_198 : (pT M_23).find? (fun e => e.1 == 198) = some (198, .invokestatic 51, 18, 2) := rfl
theorem te_23_201 : (pT M_23).find? (fun e => e.1 == 201) = some (201, .isub, 0, 0) := rfl
theorem te_23_202 : (pT M_23).find? (fun e => e.1 == 202) = some (202, .invokevirtual 55, 20, 0) := rfl
theorem te_23_205 : (pT M_23).find? (fun e => e.1 == 205) = some (205, .return_, 0, 0) := rfl
theorem te_24_0 : (pT M_24).find? (fun e => e.1 == 0) = some (0, .aload_n 0, 0, 0) := rfl
theorem te_24_1 : (pT M_24).find? (fun e => e.1 == 1) = some (1, .getfield 9, 0, 1) := rfl
theorem te_24_4 : (pT M_24).find? (fun e => e.1 == 4) = some (4, .iload_n 1, 0, 0) := rfl
theorem te_24_5 : (pT M_24).find? (fun e => e.1 == 5) = some (5, .iaload, 0, 0) := rfl
theorem te_24_6 : (pT M_24).find? (fun e => e.1 == 6) = some (6, .iconst 5, 0, 0) := rfl
theorem te_24_7 : (pT M_24).find? (fun e => e.1 == 7) = some (7, .if_icmp .ne 16, 0, 0) := rfl
theorem te_24_10 : (pT M_24).find? (fun e => e.1 == 10) = some (10, .aload_n 0, 0, 0) := rfl
theorem te_24_11 : (pT M_24).find? (fun e => e.1 == 11) = some (11, .getfield 15, 0, 2) := rfl
theorem te_24_14 : (pT M_24).find? (fun e => e.1 == 14) = some (14, .iload_n 1, 0, 0) := rfl
theorem te_24_15 : (pT M_24).find? (fun e => e.1 == 15) = some (15, .iconst 4, 0, 0) := rfl
theorem te_24_16 : (pT M_24).find? (fun e => e.1 == 16) = some (16, .imul, 0, 0) := rfl
theorem te_24_17 : (pT M_24).find? (fun e => e.1 == 17) = some (17, .iconst 2, 0, 0) := rfl
theorem te_24_18 : (pT M_24).find? (fun e => e.1 == 18) = some (18, .iadd, 0, 0) := rfl
theorem te_24_19 : (pT M_24).find? (fun e => e.1 == 19) = some (19, .iaload, 0, 0) := rfl
theorem te_24_20 : (pT M_24).find? (fun e => e.1 == 20) = some (20, .goto 11, 0, 0) := rfl
theorem te_24_23 : (pT M_24).find? (fun e => e.1 == 23) = some (23, .aload_n 0, 0, 0) := rfl
theorem te_24_24 : (pT M_24).find? (fun e => e.1 == 24) = some (24, .getfield 15, 0, 2) := rfl
theorem te_24_27 : (pT M_24).find? (fun e => e.1 == 27) = some (27, .iload_n 1, 0, 0) := rfl
theorem te_24_28 : (pT M_24).find? (fun e => e.1 == 28) = some (28, .iconst 4, 0, 0) := rfl
theorem te_24_29 : (pT M_24).find? (fun e => e.1 == 29) = some (29, .imul, 0, 0) := rfl
theorem te_24_30 : (pT M_24).find? (fun e => e.1 == 30) = some (30, .iaload, 0, 0) := rfl
theorem te_24_31 : (pT M_24).find? (fun e => e.1 == 31) = some (31, .ireturn, 0, 0) := rfl
theorem te_25_0 : (pT M_25).find? (fun e => e.1 == 0) = some (0, .aload_n 0, 0, 0) := rfl
theorem te_25_1 : (pT M_25).find? (fun e => e.1 == 1) = some (1, .getfield 9, 0, 1) := rfl
theorem te_25_4 : (pT M_25).find? (fun e => e.1 == 4) = some (4, .iload_n 1, 0, 0) := rfl
theorem te_25_5 : (pT M_25).find? (fun e => e.1 == 5) = some (5, .iaload, 0, 0) := rfl
theorem te_25_6 : (pT M_25).find? (fun e => e.1 == 6) = some (6, .iconst 5, 0, 0) := rfl
theorem te_25_7 : (pT M_25).find? (fun e => e.1 == 7) = some (7, .if_icmp .ne 16, 0, 0) := rfl
theorem te_25_10 : (pT M_25).find? (fun e => e.1 == 10) = some (10, .aload_n 0, 0, 0) := rfl
theorem te_25_11 : (pT M_25).find? (fun e => e.1 == 11) = some (11, .getfield 15, 0, 2) := rfl
theorem te_25_14 : (pT M_25).find? (fun e => e.1 == 14) = some (14, .iload_n 1, 0, 0) := rfl
theorem te_25_15 : (pT M_25).find? (fun e => e.1 == 15) = some (15, .iconst 4, 0, 0) := rfl
theorem te_25_16 : (pT M_25).find? (fun e => e.1 == 16) = some (16, .imul, 0, 0) := rfl
theorem te_25_17 : (pT M_25).find? (fun e => e.1 == 17) = some (17, .iconst 3, 0, 0) := rfl
theorem te_25_18 : (pT M_25).find? (fun e => e.1 == 18) = some (18, .iadd, 0, 0) := rfl
theorem te_25_19 : (pT M_25).find? (fun e => e.1 == 19) = some (19, .iaload, 0, 0) := rfl
theorem te_25_20 : (pT M_25).find? (fun e => e.1 == 20) = some (20, .goto 13, 0, 0) := rfl
theorem te_25_23 : (pT M_25).find? (fun e => e.1 == 23) = some (23, .aload_n 0, 0, 0) := rfl
theorem te_25_24 : (pT M_25).find? (fun e => e.1 == 24) = some (24, .getfield 15, 0, 2) := rfl
theorem te_25_27 : (pT M_25).find? (fun e => e.1 == 27) = some (27, .iload_n 1, 0, 0) := rfl
theorem te_25_28 : (pT M_25).find? (fun e => e.1 == 28) = some (28, .iconst 4, 0, 0) := rfl
theorem te_25_29 : (pT M_25).find? (fun e => e.1 == 29) = some (29, .imul, 0, 0) := rfl
theorem te_25_30 : (pT M_25).find? (fun e => e.1 == 30) = some (30, .iconst 1, 0, 0) := rfl
theorem te_25_31 : (pT M_25).find? (fun e => e.1 == 31) = some (31, .iadd, 0, 0) := rfl
theorem te_25_32 : (pT M_25).find? (fun e => e.1 == 32) = some (32, .iaload, 0, 0) := rfl
theorem te_25_33 : (pT M_25).find? (fun e => e.1 == 33) = some (33, .ireturn, 0, 0) := rfl
theorem te_37_0 : (pT M_37).find? (fun e => e.1 == 0) = some (0, .aload_n 0, 0, 0) := rfl
theorem te_37_1 : (pT M_37).find? (fun e => e.1 == 1) = some (1, .getfield 21, 0, 4) := rfl
theorem te_37_4 : (pT M_37).find? (fun e => e.1 == 4) = some (4, .aload_n 0, 0, 0) := rfl
theorem te_37_5 : (pT M_37).find? (fun e => e.1 == 5) = some (5, .getfield 9, 0, 1) := rfl
theorem te_37_8 : (pT M_37).find? (fun e => e.1 == 8) = some (8, .iload_n 1, 0, 0) := rfl
theorem te_37_9 : (pT M_37).find? (fun e => e.1 == 9) = some (9, .iaload, 0, 0) := rfl
theorem te_37_10 : (pT M_37).find? (fun e => e.1 == 10) = some (10, .iaload, 0, 0) := rfl
theorem te_37_11 : (pT M_37).find? (fun e => e.1 == 11) = some (11, .ireturn, 0, 0) := rfl
theorem te_38_0 : (pT M_38).find? (fun e => e.1 == 0) = some (0, .aload_n 0, 0, 0) := rfl
theorem te_38_1 : (pT M_38).find? (fun e => e.1 == 1) = some (1, .getfield 27, 0, 6) := rfl
theorem te_38_4 : (pT M_38).find? (fun e => e.1 == 4) = some (4, .aload_n 0, 0, 0) := rfl
theorem te_38_5 : (pT M_38).find? (fun e => e.1 == 5) = some (5, .getfield 9, 0, 1) := rfl
theorem te_38_8 : (pT M_38).find? (fun e => e.1 == 8) = some (8, .iload_n 1, 0, 0) := rfl
theorem te_38_9 : (pT M_38).find? (fun e => e.1 == 9) = some (9, .iaload, 0, 0) := rfl
theorem te_38_10 : (pT M_38).find? (fun e => e.1 == 10) = some (10, .iaload, 0, 0) := rfl
theorem te_38_11 : (pT M_38).find? (fun e => e.1 == 11) = some (11, .ireturn, 0, 0) := rfl
theorem w_13_0 {C : CXW} (hC : Cmono C) {S : Nat × (Nat → Int32)} {K : WK} {mem : MM} {x1 : Int} (H : ((0 : Int) ≤ x1 ∧ (x1 : Int) < 8) ∧ ∀ v1 : Int, v1 = mem 2 (Int.toNat x1) → InI v1 → ((¬ v1 = 4 → ((0 : Int) ≤ x1 ∧ (x1 : Int) < 8) ∧ ∀ v2 : Int, v2 = mem 2 (Int.toNat x1) → InI v2 → ((¬ v2 = 5 → (InI 2 → K (some 2) mem)) ∧ (¬ (¬ v2 = 5) → (InI 1 → K (some 1) mem)))) ∧ (¬ (¬ v1 = 4) → (InI 0 → K (some 0) mem)))) : Wx C S M_13 K 0 [some (.inr 1), some (.inl x1)] [] mem := by
  refine Wx.aload_n hC te_13_0 rfl ?_
  refine Wx.getR hC te_13_1 rfl rfl rfl ?_
  refine Wx.iload_n hC te_13_4 rfl ?_
  refine Wx.iald hC te_13_5 rfl H.1 (fun v1 e1 e2 => ?_)
  replace H := H.2 v1 e1 e2
  refine Wx.iconst hC te_13_6 rfl ?_
  refine Wx.icmp hC (t := 12) te_13_7 (by decide) (fun q => ?_) (fun q => ?_)
  · replace H := H.1 q
    refine Wx.aload_n hC te_13_12 rfl ?_
    refine Wx.getR hC te_13_13 rfl rfl rfl ?_
    refine Wx.iload_n hC te_13_16 rfl ?_
    refine Wx.iald hC te_13_17 rfl H.1 (fun v2 e1 e2 => ?_)
    replace H := H.2 v2 e1 e2
    refine Wx.iconst hC te_13_18 rfl ?_
    refine Wx.icmp hC (t := 26) te_13_19 (by decide) (fun q => ?_) (fun q => ?_)
    · replace H := H.1 q
      refine Wx.iconst hC te_13_26 rfl ?_
      exact Wx.ireturn hC te_13_27 rfl H
    · replace H := H.2 q
      refine Wx.iconst hC te_13_22 rfl ?_
      refine Wx.goto hC (t := 27) te_13_23 (by decide) ?_
      exact Wx.ireturn hC te_13_27 rfl H
  · replace H := H.2 q
    refine Wx.iconst hC te_13_10 rfl ?_
    exact Wx.ireturn hC te_13_11 rfl H
theorem w_14_0 {C : CXW} (hC : Cmono C) {S : Nat × (Nat → Int32)} {K : WK} {mem : MM} {x1 x2 : Int} (H : (InI (x1 * 4)) ∧ (InI (x2 * 2)) ∧ (InI ((x1 * 4) + (x2 * 2))) ∧ ((0 : Int) ≤ ((x1 * 4) + (x2 * 2)) ∧ (((x1 * 4) + (x2 * 2)) : Int) < 32) ∧ ∀ v1 : Int, v1 = mem 3 (Int.toNat ((x1 * 4) + (x2 * 2))) → InI v1 → (InI v1 → K (some v1) mem)) : Wx C S M_14 K 0 [some (.inr 1), some (.inl x1), some (.inl x2)] [] mem := by
  refine Wx.aload_n hC te_14_0 rfl ?_
  refine Wx.getR hC te_14_1 rfl rfl rfl ?_
  refine Wx.iload_n hC te_14_4 rfl ?_
  refine Wx.iconst hC te_14_5 rfl ?_
  refine Wx.imul hC te_14_6 H.1 ?_
  replace H := H.2
  refine Wx.iload_n hC te_14_7 rfl ?_
  refine Wx.iconst hC te_14_8 rfl ?_
  refine Wx.imul hC te_14_9 H.1 ?_
  replace H := H.2
  refine Wx.iadd hC te_14_10 H.1 ?_
  replace H := H.2
  refine Wx.iald hC te_14_11 rfl H.1 (fun v1 e1 e2 => ?_)
  replace H := H.2 v1 e1 e2
  exact Wx.ireturn hC te_14_12 rfl H
theorem w_15_0 {C : CXW} (hC : Cmono C) {S : Nat × (Nat → Int32)} {K : WK} {mem : MM} {x1 x2 : Int} (H : (InI (x1 * 4)) ∧ (InI (x2 * 2)) ∧ (InI ((x1 * 4) + (x2 * 2))) ∧ (InI (((x1 * 4) + (x2 * 2)) + 1)) ∧ ((0 : Int) ≤ (((x1 * 4) + (x2 * 2)) + 1) ∧ ((((x1 * 4) + (x2 * 2)) + 1) : Int) < 32) ∧ ∀ v1 : Int, v1 = mem 3 (Int.toNat (((x1 * 4) + (x2 * 2)) + 1)) → InI v1 → (InI v1 → K (some v1) mem)) : Wx C S M_15 K 0 [some (.inr 1), some (.inl x1), some (.inl x2)] [] mem := by
  refine Wx.aload_n hC te_15_0 rfl ?_
  refine Wx.getR hC te_15_1 rfl rfl rfl ?_
  refine Wx.iload_n hC te_15_4 rfl ?_
  refine Wx.iconst hC te_15_5 rfl ?_
  refine Wx.imul hC te_15_6 H.1 ?_
  replace H := H.2
  refine Wx.iload_n hC te_15_7 rfl ?_
  refine Wx.iconst hC te_15_8 rfl ?_
  refine Wx.imul hC te_15_9 H.1 ?_
  replace H := H.2
  refine Wx.iadd hC te_15_10 H.1 ?_
  replace H := H.2
  refine Wx.iconst hC te_15_11 rfl ?_
  refine Wx.iadd hC te_15_12 H.1 ?_
  replace H := H.2
  refine Wx.iald hC te_15_13 rfl H.1 (fun v1 e1 e2 => ?_)
  replace H := H.2 v1 e1 e2
  exact Wx.ireturn hC te_15_14 rfl H
theorem w_19_0 {C : CXW} (hC : Cmono C) {S : Nat × (Nat → Int32)} {K : WK} {mem : MM} {x1 : Int} (H : ((0 : Int) ≤ x1 ∧ (x1 : Int) < 8) ∧ ∀ v1 : Int, v1 = mem 2 (Int.toNat x1) → InI v1 → ((0 : Int) ≤ v1 ∧ (v1 : Int) < 6) ∧ ∀ v2 : Int, v2 = mem 6 (Int.toNat v1) → InI v2 → (InI v2 → K (some v2) mem)) : Wx C S M_19 K 0 [some (.inr 1), some (.inl x1)] [] mem := by
  refine Wx.aload_n hC te_19_0 rfl ?_
  refine Wx.getR hC te_19_1 rfl rfl rfl ?_
  refine Wx.aload_n hC te_19_4 rfl ?_
  refine Wx.getR hC te_19_5 rfl rfl rfl ?_
  refine Wx.iload_n hC te_19_8 rfl ?_
  refine Wx.iald hC te_19_9 rfl H.1 (fun v1 e1 e2 => ?_)
  replace H := H.2 v1 e1 e2
  refine Wx.iald hC te_19_10 rfl H.1 (fun v2 e1 e2 => ?_)
  replace H := H.2 v2 e1 e2
  exact Wx.ireturn hC te_19_11 rfl H
theorem w_24_0 {C : CXW} (hC : Cmono C) {S : Nat × (Nat → Int32)} {K : WK} {mem : MM} {x1 : Int} (H : ((0 : Int) ≤ x1 ∧ (x1 : Int) < 8) ∧ ∀ v1 : Int, v1 = mem 2 (Int.toNat x1) → InI v1 → ((¬ v1 = 5 → (InI (x1 * 4)) ∧ ((0 : Int) ≤ (x1 * 4) ∧ ((x1 * 4) : Int) < 32) ∧ ∀ v2 : Int, v2 = mem 3 (Int.toNat (x1 * 4)) → InI v2 → (InI v2 → K (some v2) mem)) ∧ (¬ (¬ v1 = 5) → (InI (x1 * 4)) ∧ (InI ((x1 * 4) + 2)) ∧ ((0 : Int) ≤ ((x1 * 4) + 2) ∧ (((x1 * 4) + 2) : Int) < 32) ∧ ∀ v3 : Int, v3 = mem 3 (Int.toNat ((x1 * 4) + 2)) → InI v3 → (InI v3 → K (some v3) mem)))) : Wx C S M_24 K 0 [some (.inr 1), some (.inl x1)] [] mem := by
  refine Wx.aload_n hC te_24_0 rfl ?_
  refine Wx.getR hC te_24_1 rfl rfl rfl ?_
  refine Wx.iload_n hC te_24_4 rfl ?_
  refine Wx.iald hC te_24_5 rfl H.1 (fun v1 e1 e2 => ?_)
  replace H := H.2 v1 e1 e2
  refine Wx.iconst hC te_24_6 rfl ?_
  refine Wx.icmp hC (t := 23) te_24_7 (by decide) (fun q => ?_) (fun q => ?_)
  · replace H := H.1 q
    refine Wx.aload_n hC te_24_23 rfl ?_
    refine Wx.getR hC te_24_24 rfl rfl rfl ?_
    refine Wx.iload_n hC te_24_27 rfl ?_
    refine Wx.iconst hC te_24_28 rfl ?_
    refine Wx.imul hC te_24_29 H.1 ?_
    replace H := H.2
    refine Wx.iald hC te_24_30 rfl H.1 (fun v2 e1 e2 => ?_)
    replace H := H.2 v2 e1 e2
    exact Wx.ireturn hC te_24_31 rfl H
  · replace H := H.2 q
    refine Wx.aload_n hC te_24_10 rfl ?_
    refine Wx.getR hC te_24_11 rfl rfl rfl ?_
    refine Wx.iload_n hC te_24_14 rfl ?_
    refine Wx.iconst hC te_24_15 rfl ?_
    refine Wx.imul hC te_24_16 H.1 ?_
    replace H := H.2
    refine Wx.iconst hC te_24_17 rfl ?_
    refine Wx.iadd hC te_24_18 H.1 ?_
    replace H := H.2
    refine Wx.iald hC te_24_19 rfl H.1 (fun v3 e1 e2 => ?_)
    replace H := H.2 v3 e1 e2
    refine Wx.goto hC (t := 31) te_24_20 (by decide) ?_
    exact Wx.ireturn hC te_24_31 rfl H
theorem w_25_0 {C : CXW} (hC : Cmono C) {S : Nat × (Nat → Int32)} {K : WK} {mem : MM} {x1 : Int} (H : ((0 : Int) ≤ x1 ∧ (x1 : Int) < 8) ∧ ∀ v1 : Int, v1 = mem 2 (Int.toNat x1) → InI v1 → ((¬ v1 = 5 → (InI (x1 * 4)) ∧ (InI ((x1 * 4) + 1)) ∧ ((0 : Int) ≤ ((x1 * 4) + 1) ∧ (((x1 * 4) + 1) : Int) < 32) ∧ ∀ v2 : Int, v2 = mem 3 (Int.toNat ((x1 * 4) + 1)) → InI v2 → (InI v2 → K (some v2) mem)) ∧ (¬ (¬ v1 = 5) → (InI (x1 * 4)) ∧ (InI ((x1 * 4) + 3)) ∧ ((0 : Int) ≤ ((x1 * 4) + 3) ∧ (((x1 * 4) + 3) : Int) < 32) ∧ ∀ v3 : Int, v3 = mem 3 (Int.toNat ((x1 * 4) + 3)) → InI v3 → (InI v3 → K (some v3) mem)))) : Wx C S M_25 K 0 [some (.inr 1), some (.inl x1)] [] mem := by
  refine Wx.aload_n hC te_25_0 rfl ?_
  refine Wx.getR hC te_25_1 rfl rfl rfl ?_
  refine Wx.iload_n hC te_25_4 rfl ?_
  refine Wx.iald hC te_25_5 rfl H.1 (fun v1 e1 e2 => ?_)
  replace H := H.2 v1 e1 e2
  refine Wx.iconst hC te_25_6 rfl ?_
  refine Wx.icmp hC (t := 23) te_25_7 (by decide) (fun q => ?_) (fun q => ?_)
  · replace H := H.1 q
    refine Wx.aload_n hC te_25_23 rfl ?_
    refine Wx.getR hC te_25_24 rfl rfl rfl ?_
    refine Wx.iload_n hC te_25_27 rfl ?_
    refine Wx.iconst hC te_25_28 rfl ?_
    refine Wx.imul hC te_25_29 H.1 ?_
    replace H := H.2
    refine Wx.iconst hC te_25_30 rfl ?_
    refine Wx.iadd hC te_25_31 H.1 ?_
    replace H := H.2
    refine Wx.iald hC te_25_32 rfl H.1 (fun v2 e1 e2 => ?_)
    replace H := H.2 v2 e1 e2
    exact Wx.ireturn hC te_25_33 rfl H
  · replace H := H.2 q
    refine Wx.aload_n hC te_25_10 rfl ?_
    refine Wx.getR hC te_25_11 rfl rfl rfl ?_
    refine Wx.iload_n hC te_25_14 rfl ?_
    refine Wx.iconst hC te_25_15 rfl ?_
    refine Wx.imul hC te_25_16 H.1 ?_
    replace H := H.2
    refine Wx.iconst hC te_25_17 rfl ?_
    refine Wx.iadd hC te_25_18 H.1 ?_
    replace H := H.2
    refine Wx.iald hC te_25_19 rfl H.1 (fun v3 e1 e2 => ?_)
    replace H := H.2 v3 e1 e2
    refine Wx.goto hC (t := 33) te_25_20 (by decide) ?_
    exact Wx.ireturn hC te_25_33 rfl H
theorem w_37_0 {C : CXW} (hC : Cmono C) {S : Nat × (Nat → Int32)} {K : WK} {mem : MM} {x1 : Int} (H : ((0 : Int) ≤ x1 ∧ (x1 : Int) < 8) ∧ ∀ v1 : Int, v1 = mem 2 (Int.toNat x1) → InI v1 → ((0 : Int) ≤ v1 ∧ (v1 : Int) < 6) ∧ ∀ v2 : Int, v2 = mem 5 (Int.toNat v1) → InI v2 → (InI v2 → K (some v2) mem)) : Wx C S M_37 K 0 [some (.inr 1), some (.inl x1)] [] mem := by
  refine Wx.aload_n hC te_37_0 rfl ?_
  refine Wx.getR hC te_37_1 rfl rfl rfl ?_
  refine Wx.aload_n hC te_37_4 rfl ?_
  refine Wx.getR hC te_37_5 rfl rfl rfl ?_
  refine Wx.iload_n hC te_37_8 rfl ?_
  refine Wx.iald hC te_37_9 rfl H.1 (fun v1 e1 e2 => ?_)
  replace H := H.2 v1 e1 e2
  refine Wx.iald hC te_37_10 rfl H.1 (fun v2 e1 e2 => ?_)
  replace H := H.2 v2 e1 e2
  exact Wx.ireturn hC te_37_11 rfl H
theorem w_38_0 {C : CXW} (hC : Cmono C) {S : Nat × (Nat → Int32)} {K : WK} {mem : MM} {x1 : Int} (H : ((0 : Int) ≤ x1 ∧ (x1 : Int) < 8) ∧ ∀ v1 : Int, v1 = mem 2 (Int.toNat x1) → InI v1 → ((0 : Int) ≤ v1 ∧ (v1 : Int) < 6) ∧ ∀ v2 : Int, v2 = mem 7 (Int.toNat v1) → InI v2 → (InI v2 → K (some v2) mem)) : Wx C S M_38 K 0 [some (.inr 1), some (.inl x1)] [] mem := by
  refine Wx.aload_n hC te_38_0 rfl ?_
  refine Wx.getR hC te_38_1 rfl rfl rfl ?_
  refine Wx.aload_n hC te_38_4 rfl ?_
  refine Wx.getR hC te_38_5 rfl rfl rfl ?_
  refine Wx.iload_n hC te_38_8 rfl ?_
  refine Wx.iald hC te_38_9 rfl H.1 (fun v1 e1 e2 => ?_)
  replace H := H.2 v1 e1 e2
  refine Wx.iald hC te_38_10 rfl H.1 (fun v2 e1 e2 => ?_)
  replace H := H.2 v2 e1 e2
  exact Wx.ireturn hC te_38_11 rfl H
theorem w_18_0 {C : CXW} (hC : Cmono C) {S : Nat × (Nat → Int32)} {K : WK} {mem : MM} {x1 x2 : Int} (H : (CWI C 19 [.inr 1, .inl x1] mem fun r2 m1 => InI r2 → ((0 : Int) ≤ x1 ∧ (x1 : Int) < 8) ∧ ∀ v3 : Int, v3 = m1 2 (Int.toNat x1) → InI v3 → ((¬ v3 = x2 → (InI r2 → K (some r2) m1)) ∧ (¬ (¬ v3 = x2) → (InI (r2 - 1)) ∧ (InI (r2 - 1) → K (some (r2 - 1)) m1))))) : Wx C S M_18 K 0 [some (.inr 1), some (.inl x1), some (.inl x2), none] [] mem := by
  refine Wx.aload_n hC te_18_0 rfl ?_
  refine Wx.iload_n hC te_18_1 rfl ?_
  refine Wx.virtI hC te_18_2 mt_19 (args := [.inr 1, .inl x1]) (rest := []) rfl rfl rfl rfl rfl rfl rfl rfl ?_
  refine CWI.mono hC (fun r2 m1 H hy => ?_) H
  replace H := H hy
  refine Wx.istore_n hC te_18_5 rfl ?_
  refine Wx.aload_n hC te_18_6 rfl ?_
  refine Wx.getR hC te_18_7 rfl rfl rfl ?_
  refine Wx.iload_n hC te_18_10 rfl ?_
  refine Wx.iald hC te_18_11 rfl H.1 (fun v3 e1 e2 => ?_)
  replace H := H.2 v3 e1 e2
  refine Wx.iload_n hC te_18_12 rfl ?_
  refine Wx.icmp hC (t := 22) te_18_13 (by decide) (fun q => ?_) (fun q => ?_)
  · replace H := H.1 q
    refine Wx.iload_n hC te_18_22 rfl ?_
    exact Wx.ireturn hC te_18_23 rfl H
  · replace H := H.2 q
    refine Wx.iload_n hC te_18_16 rfl ?_
    refine Wx.iconst hC te_18_17 rfl ?_
    refine Wx.isub hC te_18_18 H.1 ?_
    replace H := H.2
    refine Wx.goto hC (t := 23) te_18_19 (by decide) ?_
    exact Wx.ireturn hC te_18_23 rfl H
theorem w_21_0 {C : CXW} (hC : Cmono C) {S : Nat × (Nat → Int32)} {K : WK} {mem : MM} {W : Nat} (hW : WebSh W) {x1 x2 x3 x4 x5 : Int} (H : ((0 : Int) ≤ x1 ∧ (x1 : Int) < 64) ∧ ∀ v1 : Int, v1 = mem (W + 1) (Int.toNat x1) → InI v1 → ((v1 = x2 → ((0 : Int) ≤ x1 ∧ (x1 : Int) < 64) ∧ ∀ v2 : Int, v2 = mem (W + 2) (Int.toNat x1) → InI v2 → ((v2 = x3 → ((0 : Int) ≤ x1 ∧ (x1 : Int) < 64) ∧ ∀ v3 : Int, v3 = mem (W + 3) (Int.toNat x1) → InI v3 → ((v3 = x4 → ((0 : Int) ≤ x1 ∧ (x1 : Int) < 64) ∧ ∀ v4 : Int, v4 = mem (W + 4) (Int.toNat x1) → InI v4 → (InI (v4 - x5)) ∧ (InI (v4 - x5) → K (some (v4 - x5)) mem)) ∧ (¬ (v3 = x4) → ((0 : Int) ≤ x1 ∧ (x1 : Int) < 64) ∧ ∀ v5 : Int, v5 = mem (W + 3) (Int.toNat x1) → InI v5 → (InI (v5 - x4)) ∧ (InI (v5 - x4) → K (some (v5 - x4)) mem)))) ∧ (¬ (v2 = x3) → ((0 : Int) ≤ x1 ∧ (x1 : Int) < 64) ∧ ∀ v6 : Int, v6 = mem (W + 2) (Int.toNat x1) → InI v6 → (InI (v6 - x3)) ∧ (InI (v6 - x3) → K (some (v6 - x3)) mem)))) ∧ (¬ (v1 = x2) → ((0 : Int) ≤ x1 ∧ (x1 : Int) < 64) ∧ ∀ v7 : Int, v7 = mem (W + 1) (Int.toNat x1) → InI v7 → (InI (v7 - x2)) ∧ (InI (v7 - x2) → K (some (v7 - x2)) mem)))) : Wx C S M_21 K 0 [some (.inr W), some (.inl x1), some (.inl x2), some (.inl x3), some (.inl x4), some (.inl x5)] [] mem := by
  refine Wx.aload_n hC te_21_0 rfl ?_
  refine Wx.getR hC te_21_1 hW.1 rfl rfl ?_
  refine Wx.iload_n hC te_21_4 rfl ?_
  refine Wx.iald hC te_21_5 hW.2.1 H.1 (fun v1 e1 e2 => ?_)
  replace H := H.2 v1 e1 e2
  refine Wx.iload_n hC te_21_6 rfl ?_
  refine Wx.icmp hC (t := 19) te_21_7 (by decide) (fun q => ?_) (fun q => ?_)
  · replace H := H.1 q
    refine Wx.aload_n hC te_21_19 rfl ?_
    refine Wx.getR hC te_21_20 hW.1 rfl rfl ?_
    refine Wx.iload_n hC te_21_23 rfl ?_
    refine Wx.iald hC te_21_24 hW.2.2.1 H.1 (fun v2 e1 e2 => ?_)
    replace H := H.2 v2 e1 e2
    refine Wx.iload_n hC te_21_25 rfl ?_
    refine Wx.icmp hC (t := 38) te_21_26 (by decide) (fun q => ?_) (fun q => ?_)
    · replace H := H.1 q
      refine Wx.aload_n hC te_21_38 rfl ?_
      refine Wx.getR hC te_21_39 hW.1 rfl rfl ?_
      refine Wx.iload_n hC te_21_42 rfl ?_
      refine Wx.iald hC te_21_43 hW.2.2.2.1 H.1 (fun v3 e1 e2 => ?_)
      replace H := H.2 v3 e1 e2
      refine Wx.iload hC te_21_44 rfl ?_
      refine Wx.icmp hC (t := 59) te_21_46 (by decide) (fun q => ?_) (fun q => ?_)
      · replace H := H.1 q
        refine Wx.aload_n hC te_21_59 rfl ?_
        refine Wx.getR hC te_21_60 hW.1 rfl rfl ?_
        refine Wx.iload_n hC te_21_63 rfl ?_
        refine Wx.iald hC te_21_64 hW.2.2.2.2 H.1 (fun v4 e1 e2 => ?_)
        replace H := H.2 v4 e1 e2
        refine Wx.iload hC te_21_65 rfl ?_
        refine Wx.isub hC te_21_67 H.1 ?_
        replace H := H.2
        exact Wx.ireturn hC te_21_68 rfl H
      · replace H := H.2 q
        refine Wx.aload_n hC te_21_49 rfl ?_
        refine Wx.getR hC te_21_50 hW.1 rfl rfl ?_
        refine Wx.iload_n hC te_21_53 rfl ?_
        refine Wx.iald hC te_21_54 hW.2.2.2.1 H.1 (fun v5 e1 e2 => ?_)
        replace H := H.2 v5 e1 e2
        refine Wx.iload hC te_21_55 rfl ?_
        refine Wx.isub hC te_21_57 H.1 ?_
        replace H := H.2
        exact Wx.ireturn hC te_21_58 rfl H
    · replace H := H.2 q
      refine Wx.aload_n hC te_21_29 rfl ?_
      refine Wx.getR hC te_21_30 hW.1 rfl rfl ?_
      refine Wx.iload_n hC te_21_33 rfl ?_
      refine Wx.iald hC te_21_34 hW.2.2.1 H.1 (fun v6 e1 e2 => ?_)
      replace H := H.2 v6 e1 e2
      refine Wx.iload_n hC te_21_35 rfl ?_
      refine Wx.isub hC te_21_36 H.1 ?_
      replace H := H.2
      exact Wx.ireturn hC te_21_37 rfl H
  · replace H := H.2 q
    refine Wx.aload_n hC te_21_10 rfl ?_
    refine Wx.getR hC te_21_11 hW.1 rfl rfl ?_
    refine Wx.iload_n hC te_21_14 rfl ?_
    refine Wx.iald hC te_21_15 hW.2.1 H.1 (fun v7 e1 e2 => ?_)
    replace H := H.2 v7 e1 e2
    refine Wx.iload_n hC te_21_16 rfl ?_
    refine Wx.isub hC te_21_17 H.1 ?_
    replace H := H.2
    exact Wx.ireturn hC te_21_18 rfl H
theorem w_22_0 {C : CXW} (hC : Cmono C) {S : Nat × (Nat → Int32)} {K : WK} {mem : MM} {W : Nat} (hW : WebSh W) {x1 x2 x3 x4 x5 : Int} (H : ((0 : Int) ≤ x1 ∧ (x1 : Int) < 64) ∧ ((0 : Int) ≤ x1 ∧ (x1 : Int) < 64) ∧ ((0 : Int) ≤ x1 ∧ (x1 : Int) < 64) ∧ ((0 : Int) ≤ x1 ∧ (x1 : Int) < 64) ∧ (K none (upm (upm (upm (upm mem (W + 1) (Int.toNat x1) x2) (W + 2) (Int.toNat x1) x3) (W + 3) (Int.toNat x1) x4) (W + 4) (Int.toNat x1) x5))) : Wx C S M_22 K 0 [some (.inr W), some (.inl x1), some (.inl x2), some (.inl x3), some (.inl x4), some (.inl x5)] [] mem := by
  refine Wx.aload_n hC te_22_0 rfl ?_
  refine Wx.getR hC te_22_1 hW.1 rfl rfl ?_
  refine Wx.iload_n hC te_22_4 rfl ?_
  refine Wx.iload_n hC te_22_5 rfl ?_
  refine Wx.iast hC te_22_6 hW.2.1 H.1 ?_
  replace H := H.2
  refine Wx.aload_n hC te_22_7 rfl ?_
  refine Wx.getR hC te_22_8 hW.1 rfl rfl ?_
  refine Wx.iload_n hC te_22_11 rfl ?_
  refine Wx.iload_n hC te_22_12 rfl ?_
  refine Wx.iast hC te_22_13 hW.2.2.1 H.1 ?_
  replace H := H.2
  refine Wx.aload_n hC te_22_14 rfl ?_
  refine Wx.getR hC te_22_15 hW.1 rfl rfl ?_
  refine Wx.iload_n hC te_22_18 rfl ?_
  refine Wx.iload hC te_22_19 rfl ?_
  refine Wx.iast hC te_22_21 hW.2.2.2.1 H.1 ?_
  replace H := H.2
  refine Wx.aload_n hC te_22_22 rfl ?_
  refine Wx.getR hC te_22_23 hW.1 rfl rfl ?_
  refine Wx.iload_n hC te_22_26 rfl ?_
  refine Wx.iload hC te_22_27 rfl ?_
  refine Wx.iast hC te_22_29 hW.2.2.2.2 H.1 ?_
  replace H := H.2
  exact Wx.vret hC te_22_30 rfl H
theorem w_20_0 {C : CXW} (hC : Cmono C) {S : Nat × (Nat → Int32)} {K : WK} {mem : MM} {W : Nat} (hW : WebSh W) {x1 x2 x3 x4 : Int} (H : (Wx C S M_20 K 6 [some (.inr W), some (.inl x1), some (.inl x2), some (.inl x3), some (.inl x4), some (.inl 0), some (.inl (-1)), none] [] mem)) : Wx C S M_20 K 0 [some (.inr W), some (.inl x1), some (.inl x2), some (.inl x3), some (.inl x4), none, none, none] [] mem := by
  refine Wx.iconst hC te_20_0 rfl ?_
  refine Wx.istore hC te_20_1 rfl ?_
  refine Wx.iconst hC te_20_3 rfl ?_
  refine Wx.istore hC te_20_4 rfl ?_
  exact H
theorem w_20_6 {C : CXW} (hC : Cmono C) {S : Nat × (Nat → Int32)} {K : WK} {mem : MM} {W : Nat} (hW : WebSh W) {x1 x2 x3 x4 x5 x6 : Int} (H : ∀ v1 : Int, v1 = mem W 0 → InI v1 → ((v1 ≤ x5 → ∀ v2 : Int, v2 = mem W 0 → InI v2 → ((v2 ≤ x5 → ∀ v3 : Int, v3 = mem W 0 → InI v3 → ((v3 < 64 → ∀ v4 : Int, v4 = mem W 0 → InI v4 → (Wx C S M_20 K 72 [some (.inr W), some (.inl x1), some (.inl x2), some (.inl x3), some (.inl x4), some (.inl x5), some (.inl x6), some (.inl v4)] [] mem)) ∧ (¬ (v3 < 64) → (K none mem)))) ∧ (¬ (v2 ≤ x5) → ((x6 = 0 → (K none mem)) ∧ (¬ (x6 = 0) → ∀ v5 : Int, v5 = mem W 0 → InI v5 → ((v5 < 64 → ∀ v6 : Int, v6 = mem W 0 → InI v6 → (Wx C S M_20 K 72 [some (.inr W), some (.inl x1), some (.inl x2), some (.inl x3), some (.inl x4), some (.inl x5), some (.inl x6), some (.inl v6)] [] mem)) ∧ (¬ (v5 < 64) → (K none mem)))))))) ∧ (¬ (v1 ≤ x5) → (CWI C 21 [.inr W, .inl x5, .inl x1, .inl x2, .inl x3, .inl x4] mem fun r8 m7 => InI r8 → ((r8 < 0 → (InI (x5 + 1)) ∧ (Wx C S M_20 K 6 [some (.inr W), some (.inl x1), some (.inl x2), some (.inl x3), some (.inl x4), some (.inl (x5 + 1)), some (.inl r8), none] [] m7)) ∧ (¬ (r8 < 0) → ∀ v9 : Int, v9 = m7 W 0 → InI v9 → ((v9 ≤ x5 → ∀ v10 : Int, v10 = m7 W 0 → InI v10 → ((v10 < 64 → ∀ v11 : Int, v11 = m7 W 0 → InI v11 → (Wx C S M_20 K 72 [some (.inr W), some (.inl x1), some (.inl x2), some (.inl x3), some (.inl x4), some (.inl x5), some (.inl r8), some (.inl v11)] [] m7)) ∧ (¬ (v10 < 64) → (K none m7)))) ∧ (¬ (v9 ≤ x5) → ((r8 = 0 → (K none m7)) ∧ (¬ (r8 = 0) → ∀ v12 : Int, v12 = m7 W 0 → InI v12 → ((v12 < 64 → ∀ v13 : Int, v13 = m7 W 0 → InI v13 → (Wx C S M_20 K 72 [some (.inr W), some (.inl x1), some (.inl x2), some (.inl x3), some (.inl x4), some (.inl x5), some (.inl r8), some (.inl v13)] [] m7)) ∧ (¬ (v12 < 64) → (K none m7))))))))))))) : Wx C S M_20 K 6 [some (.inr W), some (.inl x1), some (.inl x2), some (.inl x3), some (.inl x4), some (.inl x5), some (.inl x6), none] [] mem := by
  refine Wx.iload hC te_20_6 rfl ?_
  refine Wx.aload_n hC te_20_8 rfl ?_
  refine Wx.getI hC te_20_9 hW.1 rfl rfl (fun v1 e1 e2 => ?_)
  replace H := H v1 e1 e2
  refine Wx.icmp hC (t := 42) te_20_12 (by decide) (fun q => ?_) (fun q => ?_)
  · replace H := H.1 q
    refine Wx.iload hC te_20_42 rfl ?_
    refine Wx.aload_n hC te_20_44 rfl ?_
    refine Wx.getI hC te_20_45 hW.1 rfl rfl (fun v2 e1 e2 => ?_)
    replace H := H v2 e1 e2
    refine Wx.icmp hC (t := 56) te_20_48 (by decide) (fun q => ?_) (fun q => ?_)
    · replace H := H.1 q
      refine Wx.aload_n hC te_20_56 rfl ?_
      refine Wx.getI hC te_20_57 hW.1 rfl rfl (fun v3 e1 e2 => ?_)
      replace H := H v3 e1 e2
      refine Wx.bipush hC te_20_60 rfl rfl ?_
      refine Wx.icmp hC (t := 66) te_20_62 (by decide) (fun q => ?_) (fun q => ?_)
      · replace H := H.1 q
        refine Wx.aload_n hC te_20_66 rfl ?_
        refine Wx.getI hC te_20_67 hW.1 rfl rfl (fun v4 e1 e2 => ?_)
        replace H := H v4 e1 e2
        refine Wx.istore hC te_20_70 rfl ?_
        exact H
      · replace H := H.2 q
        exact Wx.vret hC te_20_65 rfl H
    · replace H := H.2 q
      refine Wx.iload hC te_20_51 rfl ?_
      refine Wx.ifc hC (t := 65) te_20_53 (by decide) (fun q => ?_) (fun q => ?_)
      · replace H := H.1 q
        exact Wx.vret hC te_20_65 rfl H
      · replace H := H.2 q
        refine Wx.aload_n hC te_20_56 rfl ?_
        refine Wx.getI hC te_20_57 hW.1 rfl rfl (fun v5 e1 e2 => ?_)
        replace H := H v5 e1 e2
        refine Wx.bipush hC te_20_60 rfl rfl ?_
        refine Wx.icmp hC (t := 66) te_20_62 (by decide) (fun q => ?_) (fun q => ?_)
        · replace H := H.1 q
          refine Wx.aload_n hC te_20_66 rfl ?_
          refine Wx.getI hC te_20_67 hW.1 rfl rfl (fun v6 e1 e2 => ?_)
          replace H := H v6 e1 e2
          refine Wx.istore hC te_20_70 rfl ?_
          exact H
        · replace H := H.2 q
          exact Wx.vret hC te_20_65 rfl H
  · replace H := H.2 q
    refine Wx.aload_n hC te_20_15 rfl ?_
    refine Wx.iload hC te_20_16 rfl ?_
    refine Wx.iload_n hC te_20_18 rfl ?_
    refine Wx.iload_n hC te_20_19 rfl ?_
    refine Wx.iload_n hC te_20_20 rfl ?_
    refine Wx.iload hC te_20_21 rfl ?_
    refine Wx.virtI hC te_20_23 mt_21 (args := [.inr W, .inl x5, .inl x1, .inl x2, .inl x3, .inl x4]) (rest := []) rfl rfl rfl rfl rfl rfl hW.1 rfl ?_
    refine CWI.mono hC (fun r8 m7 H hy => ?_) H
    replace H := H hy
    refine Wx.istore hC te_20_26 rfl ?_
    refine Wx.iload hC te_20_28 rfl ?_
    refine Wx.ifc hC (t := 36) te_20_30 (by decide) (fun q => ?_) (fun q => ?_)
    · replace H := H.1 q
      refine Wx.iinc hC te_20_36 rfl rfl H.1 ?_
      replace H := H.2
      refine Wx.goto hC (t := 6) te_20_39 (by decide) ?_
      exact H
    · replace H := H.2 q
      refine Wx.goto hC (t := 42) te_20_33 (by decide) ?_
      refine Wx.iload hC te_20_42 rfl ?_
      refine Wx.aload_n hC te_20_44 rfl ?_
      refine Wx.getI hC te_20_45 hW.1 rfl rfl (fun v9 e1 e2 => ?_)
      replace H := H v9 e1 e2
      refine Wx.icmp hC (t := 56) te_20_48 (by decide) (fun q => ?_) (fun q => ?_)
      · replace H := H.1 q
        refine Wx.aload_n hC te_20_56 rfl ?_
        refine Wx.getI hC te_20_57 hW.1 rfl rfl (fun v10 e1 e2 => ?_)
        replace H := H v10 e1 e2
        refine Wx.bipush hC te_20_60 rfl rfl ?_
        refine Wx.icmp hC (t := 66) te_20_62 (by decide) (fun q => ?_) (fun q => ?_)
        · replace H := H.1 q
          refine Wx.aload_n hC te_20_66 rfl ?_
          refine Wx.getI hC te_20_67 hW.1 rfl rfl (fun v11 e1 e2 => ?_)
          replace H := H v11 e1 e2
          refine Wx.istore hC te_20_70 rfl ?_
          exact H
        · replace H := H.2 q
          exact Wx.vret hC te_20_65 rfl H
      · replace H := H.2 q
        refine Wx.iload hC te_20_51 rfl ?_
        refine Wx.ifc hC (t := 65) te_20_53 (by decide) (fun q => ?_) (fun q => ?_)
        · replace H := H.1 q
          exact Wx.vret hC te_20_65 rfl H
        · replace H := H.2 q
          refine Wx.aload_n hC te_20_56 rfl ?_
          refine Wx.getI hC te_20_57 hW.1 rfl rfl (fun v12 e1 e2 => ?_)
          replace H := H v12 e1 e2
          refine Wx.bipush hC te_20_60 rfl rfl ?_
          refine Wx.icmp hC (t := 66) te_20_62 (by decide) (fun q => ?_) (fun q => ?_)
          · replace H := H.1 q
            refine Wx.aload_n hC te_20_66 rfl ?_
            refine Wx.getI hC te_20_67 hW.1 rfl rfl (fun v13 e1 e2 => ?_)
            replace H := H v13 e1 e2
            refine Wx.istore hC te_20_70 rfl ?_
            exact H
          · replace H := H.2 q
            exact Wx.vret hC te_20_65 rfl H
theorem w_20_72 {C : CXW} (hC : Cmono C) {S : Nat × (Nat → Int32)} {K : WK} {mem : MM} {W : Nat} (hW : WebSh W) {x1 x2 x3 x4 x5 x6 x7 : Int} (H : ((x7 ≤ x5 → (CWV C 22 [.inr W, .inl x5, .inl x1, .inl x2, .inl x3, .inl x4] mem fun m1 => ∀ v2 : Int, v2 = m1 W 0 → InI v2 → (InI (v2 + 1)) ∧ (K none (upm m1 W 0 (v2 + 1))))) ∧ (¬ (x7 ≤ x5) → (InI (x7 - 1)) ∧ ((0 : Int) ≤ (x7 - 1) ∧ ((x7 - 1) : Int) < 64) ∧ ∀ v3 : Int, v3 = mem (W + 1) (Int.toNat (x7 - 1)) → InI v3 → (InI (x7 - 1)) ∧ ((0 : Int) ≤ (x7 - 1) ∧ ((x7 - 1) : Int) < 64) ∧ ∀ v4 : Int, v4 = mem (W + 2) (Int.toNat (x7 - 1)) → InI v4 → (InI (x7 - 1)) ∧ ((0 : Int) ≤ (x7 - 1) ∧ ((x7 - 1) : Int) < 64) ∧ ∀ v5 : Int, v5 = mem (W + 3) (Int.toNat (x7 - 1)) → InI v5 → (InI (x7 - 1)) ∧ ((0 : Int) ≤ (x7 - 1) ∧ ((x7 - 1) : Int) < 64) ∧ ∀ v6 : Int, v6 = mem (W + 4) (Int.toNat (x7 - 1)) → InI v6 → (CWV C 22 [.inr W, .inl x7, .inl v3, .inl v4, .inl v5, .inl v6] mem fun m7 => (InI (x7 + (-1))) ∧ (Wx C S M_20 K 72 [some (.inr W), some (.inl x1), some (.inl x2), some (.inl x3), some (.inl x4), some (.inl x5), some (.inl x6), some (.inl (x7 + (-1)))] [] m7))))) : Wx C S M_20 K 72 [some (.inr W), some (.inl x1), some (.inl x2), some (.inl x3), some (.inl x4), some (.inl x5), some (.inl x6), some (.inl x7)] [] mem := by
  refine Wx.iload hC te_20_72 rfl ?_
  refine Wx.iload hC te_20_74 rfl ?_
  refine Wx.icmp hC (t := 127) te_20_76 (by decide) (fun q => ?_) (fun q => ?_)
  · replace H := H.1 q
    refine Wx.aload_n hC te_20_127 rfl ?_
    refine Wx.iload hC te_20_128 rfl ?_
    refine Wx.iload_n hC te_20_130 rfl ?_
    refine Wx.iload_n hC te_20_131 rfl ?_
    refine Wx.iload_n hC te_20_132 rfl ?_
    refine Wx.iload hC te_20_133 rfl ?_
    refine Wx.virtV hC te_20_135 mt_22 (args := [.inr W, .inl x5, .inl x1, .inl x2, .inl x3, .inl x4]) (rest := []) rfl rfl rfl rfl rfl rfl hW.1 rfl ?_
    refine CWV.mono hC (fun m1 H => ?_) H
    refine Wx.aload_n hC te_20_138 rfl ?_
    refine Wx.dup hC te_20_139 ?_
    refine Wx.getI hC te_20_140 hW.1 rfl rfl (fun v2 e1 e2 => ?_)
    replace H := H v2 e1 e2
    refine Wx.iconst hC te_20_143 rfl ?_
    refine Wx.iadd hC te_20_144 H.1 ?_
    replace H := H.2
    refine Wx.putI hC te_20_145 hW.1 rfl rfl rfl ?_
    exact Wx.vret hC te_20_148 rfl H
  · replace H := H.2 q
    refine Wx.aload_n hC te_20_79 rfl ?_
    refine Wx.iload hC te_20_80 rfl ?_
    refine Wx.aload_n hC te_20_82 rfl ?_
    refine Wx.getR hC te_20_83 hW.1 rfl rfl ?_
    refine Wx.iload hC te_20_86 rfl ?_
    refine Wx.iconst hC te_20_88 rfl ?_
    refine Wx.isub hC te_20_89 H.1 ?_
    replace H := H.2
    refine Wx.iald hC te_20_90 hW.2.1 H.1 (fun v3 e1 e2 => ?_)
    replace H := H.2 v3 e1 e2
    refine Wx.aload_n hC te_20_91 rfl ?_
    refine Wx.getR hC te_20_92 hW.1 rfl rfl ?_
    refine Wx.iload hC te_20_95 rfl ?_
    refine Wx.iconst hC te_20_97 rfl ?_
    refine Wx.isub hC te_20_98 H.1 ?_
    replace H := H.2
    refine Wx.iald hC te_20_99 hW.2.2.1 H.1 (fun v4 e1 e2 => ?_)
    replace H := H.2 v4 e1 e2
    refine Wx.aload_n hC te_20_100 rfl ?_
    refine Wx.getR hC te_20_101 hW.1 rfl rfl ?_
    refine Wx.iload hC te_20_104 rfl ?_
    refine Wx.iconst hC te_20_106 rfl ?_
    refine Wx.isub hC te_20_107 H.1 ?_
    replace H := H.2
    refine Wx.iald hC te_20_108 hW.2.2.2.1 H.1 (fun v5 e1 e2 => ?_)
    replace H := H.2 v5 e1 e2
    refine Wx.aload_n hC te_20_109 rfl ?_
    refine Wx.getR hC te_20_110 hW.1 rfl rfl ?_
    refine Wx.iload hC te_20_113 rfl ?_
    refine Wx.iconst hC te_20_115 rfl ?_
    refine Wx.isub hC te_20_116 H.1 ?_
    replace H := H.2
    refine Wx.iald hC te_20_117 hW.2.2.2.2 H.1 (fun v6 e1 e2 => ?_)
    replace H := H.2 v6 e1 e2
    refine Wx.virtV hC te_20_118 mt_22 (args := [.inr W, .inl x7, .inl v3, .inl v4, .inl v5, .inl v6]) (rest := []) rfl rfl rfl rfl rfl rfl hW.1 rfl ?_
    refine CWV.mono hC (fun m7 H => ?_) H
    refine Wx.iinc hC te_20_121 rfl rfl H.1 ?_
    replace H := H.2
    refine Wx.goto hC (t := 72) te_20_124 (by decide) ?_
    exact H
theorem w_23_0 {C : CXW} (hC : Cmono C) {S : Nat × (Nat → Int32)} {K : WK} {mem : MM} {W : Nat} (hW : WebSh W) {x2 x3 x4 : Int} (H : ((0 : Int) ≤ x2 ∧ (x2 : Int) < 8) ∧ ∀ v1 : Int, v1 = mem 2 (Int.toNat x2) → InI v1 → ((v1 < 4 → (K none mem)) ∧ (¬ (v1 < 4) → ((0 : Int) ≤ x3 ∧ (x3 : Int) < 8) ∧ ∀ v2 : Int, v2 = mem 2 (Int.toNat x3) → InI v2 → ((4 ≤ v2 → (CWI C 24 [.inr 1, .inl x2] mem fun r4 m3 => InI r4 → (CWI C 24 [.inr 1, .inl x3] m3 fun r6 m5 => InI r6 → ((r4 = r6 → (CWI C 25 [.inr 1, .inl x2] m5 fun r8 m7 => InI r8 → (CWI C 25 [.inr 1, .inl x3] m7 fun r10 m9 => InI r10 → ((r8 < r10 → (CWI C 25 [.inr 1, .inl x3] m9 fun r12 m11 => InI r12 → (CWI C 25 [.inr 1, .inl x2] m11 fun r14 m13 => InI r14 → (InI (r12 - r14)) ∧ ((0 : Int) ≤ x3 ∧ (x3 : Int) < 8) ∧ ∀ v15 : Int, v15 = m13 2 (Int.toNat x3) → InI v15 → ((¬ v15 = 5 → ((0 : Int) ≤ x2 ∧ (x2 : Int) < 8) ∧ ∀ v16 : Int, v16 = m13 2 (Int.toNat x2) → InI v16 → ((¬ v16 = 5 → (K none m13)) ∧ (¬ (¬ v16 = 5) → (CWI C 18 [.inr 1, .inl x2, .inl x4] m13 fun r18 m17 => InI r18 → (InI (1 - r18)) ∧ (CWV C 20 [.inr W, .inl x3, .inl x2, .inl (r12 - r14), .inl (1 - r18)] m17 fun m19 => (K none m19)))))) ∧ (¬ (¬ v15 = 5) → ((0 : Int) ≤ x2 ∧ (x2 : Int) < 8) ∧ ∀ v20 : Int, v20 = m13 2 (Int.toNat x2) → InI v20 → ((¬ v20 = 5 → (CWI C 18 [.inr 1, .inl x3, .inl x4] m13 fun r22 m21 => InI r22 → (CWV C 20 [.inr W, .inl x3, .inl x2, .inl (r12 - r14), .inl r22] m21 fun m23 => (K none m23)))) ∧ (¬ (¬ v20 = 5) → (CWV C 20 [.inr W, .inl x3, .inl x2, .inl (r12 - r14), .inl 1] m13 fun m24 => (K none m24))))))))) ∧ (¬ (r8 < r10) → (CWI C 25 [.inr 1, .inl x2] m9 fun r26 m25 => InI r26 → (CWI C 25 [.inr 1, .inl x3] m25 fun r28 m27 => InI r28 → (InI (r26 - r28)) ∧ ((0 : Int) ≤ x2 ∧ (x2 : Int) < 8) ∧ ∀ v29 : Int, v29 = m27 2 (Int.toNat x2) → InI v29 → ((¬ v29 = 5 → ((0 : Int) ≤ x3 ∧ (x3 : Int) < 8) ∧ ∀ v30 : Int, v30 = m27 2 (Int.toNat x3) → InI v30 → ((¬ v30 = 5 → (K none m27)) ∧ (¬ (¬ v30 = 5) → (CWI C 18 [.inr 1, .inl x3, .inl x4] m27 fun r32 m31 => InI r32 → (InI (1 - r32)) ∧ (CWV C 20 [.inr W, .inl x2, .inl x3, .inl (r26 - r28), .inl (1 - r32)] m31 fun m33 => (K none m33)))))) ∧ (¬ (¬ v29 = 5) → ((0 : Int) ≤ x3 ∧ (x3 : Int) < 8) ∧ ∀ v34 : Int, v34 = m27 2 (Int.toNat x3) → InI v34 → ((¬ v34 = 5 → (CWI C 18 [.inr 1, .inl x2, .inl x4] m27 fun r36 m35 => InI r36 → (CWV C 20 [.inr W, .inl x2, .inl x3, .inl (r26 - r28), .inl r36] m35 fun m37 => (K none m37)))) ∧ (¬ (¬ v34 = 5) → (CWV C 20 [.inr W, .inl x2, .inl x3, .inl (r26 - r28), .inl 1] m27 fun m38 => (K none m38))))))))))))) ∧ (¬ (r4 = r6) → (K none m5)))))) ∧ (¬ (4 ≤ v2) → (K none mem)))))) : Wx C S M_23 K 0 [some (.inr W), some (.inr 1), some (.inl x2), some (.inl x3), some (.inl x4), none, none, none, none, none, none] [] mem := by
  refine Wx.aload_n hC te_23_0 rfl ?_
  refine Wx.getR hC te_23_1 rfl rfl rfl ?_
  refine Wx.iload_n hC te_23_4 rfl ?_
  refine Wx.iald hC te_23_5 rfl H.1 (fun v1 e1 e2 => ?_)
  replace H := H.2 v1 e1 e2
  refine Wx.iconst hC te_23_6 rfl ?_
  refine Wx.icmp hC (t := 20) te_23_7 (by decide) (fun q => ?_) (fun q => ?_)
  · replace H := H.1 q
    exact Wx.vret hC te_23_20 rfl H
  · replace H := H.2 q
    refine Wx.aload_n hC te_23_10 rfl ?_
    refine Wx.getR hC te_23_11 rfl rfl rfl ?_
    refine Wx.iload_n hC te_23_14 rfl ?_
    refine Wx.iald hC te_23_15 rfl H.1 (fun v2 e1 e2 => ?_)
    replace H := H.2 v2 e1 e2
    refine Wx.iconst hC te_23_16 rfl ?_
    refine Wx.icmp hC (t := 21) te_23_17 (by decide) (fun q => ?_) (fun q => ?_)
    · replace H := H.1 q
      refine Wx.aload_n hC te_23_21 rfl ?_
      refine Wx.iload_n hC te_23_22 rfl ?_
      refine Wx.virtI hC te_23_23 mt_24 (args := [.inr 1, .inl x2]) (rest := []) rfl rfl rfl rfl rfl rfl rfl rfl ?_
      refine CWI.mono hC (fun r4 m3 H hy => ?_) H
      replace H := H hy
      refine Wx.aload_n hC te_23_26 rfl ?_
      refine Wx.iload_n hC te_23_27 rfl ?_
      refine Wx.virtI hC te_23_28 mt_24 (args := [.inr 1, .inl x3]) (rest := [.inl r4]) rfl rfl rfl rfl rfl rfl rfl rfl ?_
      refine CWI.mono hC (fun r6 m5 H hy => ?_) H
      replace H := H hy
      refine Wx.icmp hC (t := 35) te_23_31 (by decide) (fun q => ?_) (fun q => ?_)
      · replace H := H.1 q
        refine Wx.aload_n hC te_23_35 rfl ?_
        refine Wx.iload_n hC te_23_36 rfl ?_
        refine Wx.virtI hC te_23_37 mt_25 (args := [.inr 1, .inl x2]) (rest := []) rfl rfl rfl rfl rfl rfl rfl rfl ?_
        refine CWI.mono hC (fun r8 m7 H hy => ?_) H
        replace H := H hy
        refine Wx.aload_n hC te_23_40 rfl ?_
        refine Wx.iload_n hC te_23_41 rfl ?_
        refine Wx.virtI hC te_23_42 mt_25 (args := [.inr 1, .inl x3]) (rest := [.inl r8]) rfl rfl rfl rfl rfl rfl rfl rfl ?_
        refine CWI.mono hC (fun r10 m9 H hy => ?_) H
        replace H := H hy
        refine Wx.icmp hC (t := 52) te_23_45 (by decide) (fun q => ?_) (fun q => ?_)
        · replace H := H.1 q
          refine Wx.iconst hC te_23_52 rfl ?_
          refine Wx.istore hC te_23_53 rfl ?_
          refine Wx.iload hC te_23_55 rfl ?_
          refine Wx.ifc hC (t := 64) te_23_57 (by decide) (fun q => ?_) (fun q => absurd (show (0 : Int) = 0 by decide) q)
          refine Wx.iload_n hC te_23_64 rfl ?_
          refine Wx.istore hC te_23_65 rfl ?_
          refine Wx.iload hC te_23_67 rfl ?_
          refine Wx.ifc hC (t := 76) te_23_69 (by decide) (fun q => ?_) (fun q => absurd (show (0 : Int) = 0 by decide) q)
          refine Wx.iload_n hC te_23_76 rfl ?_
          refine Wx.istore hC te_23_77 rfl ?_
          refine Wx.aload_n hC te_23_79 rfl ?_
          refine Wx.iload hC te_23_80 rfl ?_
          refine Wx.virtI hC te_23_82 mt_25 (args := [.inr 1, .inl x3]) (rest := []) rfl rfl rfl rfl rfl rfl rfl rfl ?_
          refine CWI.mono hC (fun r12 m11 H hy => ?_) H
          replace H := H hy
          refine Wx.aload_n hC te_23_85 rfl ?_
          refine Wx.iload hC te_23_86 rfl ?_
          refine Wx.virtI hC te_23_88 mt_25 (args := [.inr 1, .inl x2]) (rest := [.inl r12]) rfl rfl rfl rfl rfl rfl rfl rfl ?_
          refine CWI.mono hC (fun r14 m13 H hy => ?_) H
          replace H := H hy
          refine Wx.isub hC te_23_91 H.1 ?_
          replace H := H.2
          refine Wx.istore hC te_23_92 rfl ?_
          refine Wx.aload_n hC te_23_94 rfl ?_
          refine Wx.getR hC te_23_95 rfl rfl rfl ?_
          refine Wx.iload hC te_23_98 rfl ?_
          refine Wx.iald hC te_23_100 rfl H.1 (fun v15 e1 e2 => ?_)
          replace H := H.2 v15 e1 e2
          refine Wx.iconst hC te_23_101 rfl ?_
          refine Wx.icmp hC (t := 109) te_23_102 (by decide) (fun q => ?_) (fun q => ?_)
          · replace H := H.1 q
            refine Wx.iconst hC te_23_109 rfl ?_
            refine Wx.istore hC te_23_110 rfl ?_
            refine Wx.aload_n hC te_23_112 rfl ?_
            refine Wx.getR hC te_23_113 rfl rfl rfl ?_
            refine Wx.iload hC te_23_116 rfl ?_
            refine Wx.iald hC te_23_118 rfl H.1 (fun v16 e1 e2 => ?_)
            replace H := H.2 v16 e1 e2
            refine Wx.iconst hC te_23_119 rfl ?_
            refine Wx.icmp hC (t := 127) te_23_120 (by decide) (fun q => ?_) (fun q => ?_)
            · replace H := H.1 q
              refine Wx.iconst hC te_23_127 rfl ?_
              refine Wx.istore hC te_23_128 rfl ?_
              refine Wx.iload hC te_23_130 rfl ?_
              refine Wx.ifc hC (t := 154) te_23_132 (by decide) (fun q => ?_) (fun q => absurd (show (0 : Int) = 0 by decide) q)
              refine Wx.iload hC te_23_154 rfl ?_
              refine Wx.ifc hC (t := 180) te_23_156 (by decide) (fun q => ?_) (fun q => absurd (show (0 : Int) = 0 by decide) q)
              refine Wx.iload hC te_23_180 rfl ?_
              refine Wx.ifc hC (t := 205) te_23_182 (by decide) (fun q => ?_) (fun q => absurd (show (0 : Int) = 0 by decide) q)
              exact Wx.vret hC te_23_205 rfl H
            · replace H := H.2 q
              refine Wx.iconst hC te_23_123 rfl ?_
              refine Wx.goto hC (t := 128) te_23_124 (by decide) ?_
              refine Wx.istore hC te_23_128 rfl ?_
              refine Wx.iload hC te_23_130 rfl ?_
              refine Wx.ifc hC (t := 154) te_23_132 (by decide) (fun q => ?_) (fun q => absurd (show (0 : Int) = 0 by decide) q)
              refine Wx.iload hC te_23_154 rfl ?_
              refine Wx.ifc hC (t := 180) te_23_156 (by decide) (fun q => ?_) (fun q => absurd (show (0 : Int) = 0 by decide) q)
              refine Wx.iload hC te_23_180 rfl ?_
              refine Wx.ifc hC (t := 205) te_23_182 (by decide) (fun q => absurd q (show ¬ ((1 : Int) = 0) by decide)) (fun q => ?_)
              refine Wx.aload_n hC te_23_185 rfl ?_
              refine Wx.iload hC te_23_186 rfl ?_
              refine Wx.iload hC te_23_188 rfl ?_
              refine Wx.iload hC te_23_190 rfl ?_
              refine Wx.iconst hC te_23_192 rfl ?_
              refine Wx.aload_n hC te_23_193 rfl ?_
              refine Wx.iload hC te_23_194 rfl ?_
              refine Wx.iload hC te_23_196 rfl ?_
              refine Wx.statI hC te_23_198 (by decide) mt_18 (args := [.inr 1, .inl x2, .inl x4]) (rest := [.inl 1, .inl (r12 - r14), .inl x2, .inl x3, .inr W]) rfl rfl rfl rfl rfl ?_
              refine CWI.mono hC (fun r18 m17 H hy => ?_) H
              replace H := H hy
              refine Wx.isub hC te_23_201 H.1 ?_
              replace H := H.2
              refine Wx.virtV hC te_23_202 mt_20 (args := [.inr W, .inl x3, .inl x2, .inl (r12 - r14), .inl (1 - r18)]) (rest := []) rfl rfl rfl rfl rfl rfl hW.1 rfl ?_
              refine CWV.mono hC (fun m19 H => ?_) H
              exact Wx.vret hC te_23_205 rfl H
          · replace H := H.2 q
            refine Wx.iconst hC te_23_105 rfl ?_
            refine Wx.goto hC (t := 110) te_23_106 (by decide) ?_
            refine Wx.istore hC te_23_110 rfl ?_
            refine Wx.aload_n hC te_23_112 rfl ?_
            refine Wx.getR hC te_23_113 rfl rfl rfl ?_
            refine Wx.iload hC te_23_116 rfl ?_
            refine Wx.iald hC te_23_118 rfl H.1 (fun v20 e1 e2 => ?_)
            replace H := H.2 v20 e1 e2
            refine Wx.iconst hC te_23_119 rfl ?_
            refine Wx.icmp hC (t := 127) te_23_120 (by decide) (fun q => ?_) (fun q => ?_)
            · replace H := H.1 q
              refine Wx.iconst hC te_23_127 rfl ?_
              refine Wx.istore hC te_23_128 rfl ?_
              refine Wx.iload hC te_23_130 rfl ?_
              refine Wx.ifc hC (t := 154) te_23_132 (by decide) (fun q => absurd q (show ¬ ((1 : Int) = 0) by decide)) (fun q => ?_)
              refine Wx.iload hC te_23_135 rfl ?_
              refine Wx.ifc hC (t := 154) te_23_137 (by decide) (fun q => ?_) (fun q => absurd (show (0 : Int) = 0 by decide) q)
              refine Wx.iload hC te_23_154 rfl ?_
              refine Wx.ifc hC (t := 180) te_23_156 (by decide) (fun q => absurd q (show ¬ ((1 : Int) = 0) by decide)) (fun q => ?_)
              refine Wx.aload_n hC te_23_159 rfl ?_
              refine Wx.iload hC te_23_160 rfl ?_
              refine Wx.iload hC te_23_162 rfl ?_
              refine Wx.iload hC te_23_164 rfl ?_
              refine Wx.aload_n hC te_23_166 rfl ?_
              refine Wx.iload hC te_23_167 rfl ?_
              refine Wx.iload hC te_23_169 rfl ?_
              refine Wx.statI hC te_23_171 (by decide) mt_18 (args := [.inr 1, .inl x3, .inl x4]) (rest := [.inl (r12 - r14), .inl x2, .inl x3, .inr W]) rfl rfl rfl rfl rfl ?_
              refine CWI.mono hC (fun r22 m21 H hy => ?_) H
              replace H := H hy
              refine Wx.virtV hC te_23_174 mt_20 (args := [.inr W, .inl x3, .inl x2, .inl (r12 - r14), .inl r22]) (rest := []) rfl rfl rfl rfl rfl rfl hW.1 rfl ?_
              refine CWV.mono hC (fun m23 H => ?_) H
              refine Wx.goto hC (t := 205) te_23_177 (by decide) ?_
              exact Wx.vret hC te_23_205 rfl H
            · replace H := H.2 q
              refine Wx.iconst hC te_23_123 rfl ?_
              refine Wx.goto hC (t := 128) te_23_124 (by decide) ?_
              refine Wx.istore hC te_23_128 rfl ?_
              refine Wx.iload hC te_23_130 rfl ?_
              refine Wx.ifc hC (t := 154) te_23_132 (by decide) (fun q => absurd q (show ¬ ((1 : Int) = 0) by decide)) (fun q => ?_)
              refine Wx.iload hC te_23_135 rfl ?_
              refine Wx.ifc hC (t := 154) te_23_137 (by decide) (fun q => absurd q (show ¬ ((1 : Int) = 0) by decide)) (fun q => ?_)
              refine Wx.aload_n hC te_23_140 rfl ?_
              refine Wx.iload hC te_23_141 rfl ?_
              refine Wx.iload hC te_23_143 rfl ?_
              refine Wx.iload hC te_23_145 rfl ?_
              refine Wx.iconst hC te_23_147 rfl ?_
              refine Wx.virtV hC te_23_148 mt_20 (args := [.inr W, .inl x3, .inl x2, .inl (r12 - r14), .inl 1]) (rest := []) rfl rfl rfl rfl rfl rfl hW.1 rfl ?_
              refine CWV.mono hC (fun m24 H => ?_) H
              refine Wx.goto hC (t := 205) te_23_151 (by decide) ?_
              exact Wx.vret hC te_23_205 rfl H
        · replace H := H.2 q
          refine Wx.iconst hC te_23_48 rfl ?_
          refine Wx.goto hC (t := 53) te_23_49 (by decide) ?_
          refine Wx.istore hC te_23_53 rfl ?_
          refine Wx.iload hC te_23_55 rfl ?_
          refine Wx.ifc hC (t := 64) te_23_57 (by decide) (fun q => absurd q (show ¬ ((1 : Int) = 0) by decide)) (fun q => ?_)
          refine Wx.iload_n hC te_23_60 rfl ?_
          refine Wx.goto hC (t := 65) te_23_61 (by decide) ?_
          refine Wx.istore hC te_23_65 rfl ?_
          refine Wx.iload hC te_23_67 rfl ?_
          refine Wx.ifc hC (t := 76) te_23_69 (by decide) (fun q => absurd q (show ¬ ((1 : Int) = 0) by decide)) (fun q => ?_)
          refine Wx.iload_n hC te_23_72 rfl ?_
          refine Wx.goto hC (t := 77) te_23_73 (by decide) ?_
          refine Wx.istore hC te_23_77 rfl ?_
          refine Wx.aload_n hC te_23_79 rfl ?_
          refine Wx.iload hC te_23_80 rfl ?_
          refine Wx.virtI hC te_23_82 mt_25 (args := [.inr 1, .inl x2]) (rest := []) rfl rfl rfl rfl rfl rfl rfl rfl ?_
          refine CWI.mono hC (fun r26 m25 H hy => ?_) H
          replace H := H hy
          refine Wx.aload_n hC te_23_85 rfl ?_
          refine Wx.iload hC te_23_86 rfl ?_
          refine Wx.virtI hC te_23_88 mt_25 (args := [.inr 1, .inl x3]) (rest := [.inl r26]) rfl rfl rfl rfl rfl rfl rfl rfl ?_
          refine CWI.mono hC (fun r28 m27 H hy => ?_) H
          replace H := H hy
          refine Wx.isub hC te_23_91 H.1 ?_
          replace H := H.2
          refine Wx.istore hC te_23_92 rfl ?_
          refine Wx.aload_n hC te_23_94 rfl ?_
          refine Wx.getR hC te_23_95 rfl rfl rfl ?_
          refine Wx.iload hC te_23_98 rfl ?_
          refine Wx.iald hC te_23_100 rfl H.1 (fun v29 e1 e2 => ?_)
          replace H := H.2 v29 e1 e2
          refine Wx.iconst hC te_23_101 rfl ?_
          refine Wx.icmp hC (t := 109) te_23_102 (by decide) (fun q => ?_) (fun q => ?_)
          · replace H := H.1 q
            refine Wx.iconst hC te_23_109 rfl ?_
            refine Wx.istore hC te_23_110 rfl ?_
            refine Wx.aload_n hC te_23_112 rfl ?_
            refine Wx.getR hC te_23_113 rfl rfl rfl ?_
            refine Wx.iload hC te_23_116 rfl ?_
            refine Wx.iald hC te_23_118 rfl H.1 (fun v30 e1 e2 => ?_)
            replace H := H.2 v30 e1 e2
            refine Wx.iconst hC te_23_119 rfl ?_
            refine Wx.icmp hC (t := 127) te_23_120 (by decide) (fun q => ?_) (fun q => ?_)
            · replace H := H.1 q
              refine Wx.iconst hC te_23_127 rfl ?_
              refine Wx.istore hC te_23_128 rfl ?_
              refine Wx.iload hC te_23_130 rfl ?_
              refine Wx.ifc hC (t := 154) te_23_132 (by decide) (fun q => ?_) (fun q => absurd (show (0 : Int) = 0 by decide) q)
              refine Wx.iload hC te_23_154 rfl ?_
              refine Wx.ifc hC (t := 180) te_23_156 (by decide) (fun q => ?_) (fun q => absurd (show (0 : Int) = 0 by decide) q)
              refine Wx.iload hC te_23_180 rfl ?_
              refine Wx.ifc hC (t := 205) te_23_182 (by decide) (fun q => ?_) (fun q => absurd (show (0 : Int) = 0 by decide) q)
              exact Wx.vret hC te_23_205 rfl H
            · replace H := H.2 q
              refine Wx.iconst hC te_23_123 rfl ?_
              refine Wx.goto hC (t := 128) te_23_124 (by decide) ?_
              refine Wx.istore hC te_23_128 rfl ?_
              refine Wx.iload hC te_23_130 rfl ?_
              refine Wx.ifc hC (t := 154) te_23_132 (by decide) (fun q => ?_) (fun q => absurd (show (0 : Int) = 0 by decide) q)
              refine Wx.iload hC te_23_154 rfl ?_
              refine Wx.ifc hC (t := 180) te_23_156 (by decide) (fun q => ?_) (fun q => absurd (show (0 : Int) = 0 by decide) q)
              refine Wx.iload hC te_23_180 rfl ?_
              refine Wx.ifc hC (t := 205) te_23_182 (by decide) (fun q => absurd q (show ¬ ((1 : Int) = 0) by decide)) (fun q => ?_)
              refine Wx.aload_n hC te_23_185 rfl ?_
              refine Wx.iload hC te_23_186 rfl ?_
              refine Wx.iload hC te_23_188 rfl ?_
              refine Wx.iload hC te_23_190 rfl ?_
              refine Wx.iconst hC te_23_192 rfl ?_
              refine Wx.aload_n hC te_23_193 rfl ?_
              refine Wx.iload hC te_23_194 rfl ?_
              refine Wx.iload hC te_23_196 rfl ?_
              refine Wx.statI hC te_23_198 (by decide) mt_18 (args := [.inr 1, .inl x3, .inl x4]) (rest := [.inl 1, .inl (r26 - r28), .inl x3, .inl x2, .inr W]) rfl rfl rfl rfl rfl ?_
              refine CWI.mono hC (fun r32 m31 H hy => ?_) H
              replace H := H hy
              refine Wx.isub hC te_23_201 H.1 ?_
              replace H := H.2
              refine Wx.virtV hC te_23_202 mt_20 (args := [.inr W, .inl x2, .inl x3, .inl (r26 - r28), .inl (1 - r32)]) (rest := []) rfl rfl rfl rfl rfl rfl hW.1 rfl ?_
              refine CWV.mono hC (fun m33 H => ?_) H
              exact Wx.vret hC te_23_205 rfl H
          · replace H := H.2 q
            refine Wx.iconst hC te_23_105 rfl ?_
            refine Wx.goto hC (t := 110) te_23_106 (by decide) ?_
            refine Wx.istore hC te_23_110 rfl ?_
            refine Wx.aload_n hC te_23_112 rfl ?_
            refine Wx.getR hC te_23_113 rfl rfl rfl ?_
            refine Wx.iload hC te_23_116 rfl ?_
            refine Wx.iald hC te_23_118 rfl H.1 (fun v34 e1 e2 => ?_)
            replace H := H.2 v34 e1 e2
            refine Wx.iconst hC te_23_119 rfl ?_
            refine Wx.icmp hC (t := 127) te_23_120 (by decide) (fun q => ?_) (fun q => ?_)
            · replace H := H.1 q
              refine Wx.iconst hC te_23_127 rfl ?_
              refine Wx.istore hC te_23_128 rfl ?_
              refine Wx.iload hC te_23_130 rfl ?_
              refine Wx.ifc hC (t := 154) te_23_132 (by decide) (fun q => absurd q (show ¬ ((1 : Int) = 0) by decide)) (fun q => ?_)
              refine Wx.iload hC te_23_135 rfl ?_
              refine Wx.ifc hC (t := 154) te_23_137 (by decide) (fun q => ?_) (fun q => absurd (show (0 : Int) = 0 by decide) q)
              refine Wx.iload hC te_23_154 rfl ?_
              refine Wx.ifc hC (t := 180) te_23_156 (by decide) (fun q => absurd q (show ¬ ((1 : Int) = 0) by decide)) (fun q => ?_)
              refine Wx.aload_n hC te_23_159 rfl ?_
              refine Wx.iload hC te_23_160 rfl ?_
              refine Wx.iload hC te_23_162 rfl ?_
              refine Wx.iload hC te_23_164 rfl ?_
              refine Wx.aload_n hC te_23_166 rfl ?_
              refine Wx.iload hC te_23_167 rfl ?_
              refine Wx.iload hC te_23_169 rfl ?_
              refine Wx.statI hC te_23_171 (by decide) mt_18 (args := [.inr 1, .inl x2, .inl x4]) (rest := [.inl (r26 - r28), .inl x3, .inl x2, .inr W]) rfl rfl rfl rfl rfl ?_
              refine CWI.mono hC (fun r36 m35 H hy => ?_) H
              replace H := H hy
              refine Wx.virtV hC te_23_174 mt_20 (args := [.inr W, .inl x2, .inl x3, .inl (r26 - r28), .inl r36]) (rest := []) rfl rfl rfl rfl rfl rfl hW.1 rfl ?_
              refine CWV.mono hC (fun m37 H => ?_) H
              refine Wx.goto hC (t := 205) te_23_177 (by decide) ?_
              exact Wx.vret hC te_23_205 rfl H
            · replace H := H.2 q
              refine Wx.iconst hC te_23_123 rfl ?_
              refine Wx.goto hC (t := 128) te_23_124 (by decide) ?_
              refine Wx.istore hC te_23_128 rfl ?_
              refine Wx.iload hC te_23_130 rfl ?_
              refine Wx.ifc hC (t := 154) te_23_132 (by decide) (fun q => absurd q (show ¬ ((1 : Int) = 0) by decide)) (fun q => ?_)
              refine Wx.iload hC te_23_135 rfl ?_
              refine Wx.ifc hC (t := 154) te_23_137 (by decide) (fun q => absurd q (show ¬ ((1 : Int) = 0) by decide)) (fun q => ?_)
              refine Wx.aload_n hC te_23_140 rfl ?_
              refine Wx.iload hC te_23_141 rfl ?_
              refine Wx.iload hC te_23_143 rfl ?_
              refine Wx.iload hC te_23_145 rfl ?_
              refine Wx.iconst hC te_23_147 rfl ?_
              refine Wx.virtV hC te_23_148 mt_20 (args := [.inr W, .inl x2, .inl x3, .inl (r26 - r28), .inl 1]) (rest := []) rfl rfl rfl rfl rfl rfl hW.1 rfl ?_
              refine CWV.mono hC (fun m38 H => ?_) H
              refine Wx.goto hC (t := 205) te_23_151 (by decide) ?_
              exact Wx.vret hC te_23_205 rfl H
      · replace H := H.2 q
        exact Wx.vret hC te_23_34 rfl H
    · replace H := H.2 q
      exact Wx.vret hC te_23_20 rfl H
theorem w_17_0 {C : CXW} (hC : Cmono C) {S : Nat × (Nat → Int32)} {K : WK} {mem : MM} {W : Nat} (hW : WebSh W) {x2 : Int} (H : (Wx C S M_17 K 7 [some (.inr W), some (.inr 1), some (.inl x2), some (.inl 0), none, none] [] (upm mem W 0 0))) : Wx C S M_17 K 0 [some (.inr W), some (.inr 1), some (.inl x2), none, none, none] [] mem := by
  refine Wx.aload_n hC te_17_0 rfl ?_
  refine Wx.iconst hC te_17_1 rfl ?_
  refine Wx.putI hC te_17_2 hW.1 rfl rfl rfl ?_
  refine Wx.iconst hC te_17_5 rfl ?_
  refine Wx.istore_n hC te_17_6 rfl ?_
  exact H
theorem w_17_7 {C : CXW} (hC : Cmono C) {S : Nat × (Nat → Int32)} {K : WK} {mem : MM} {W : Nat} (hW : WebSh W) {x2 x3 : Int} (H : ∀ v1 : Int, v1 = mem 1 0 → InI v1 → ((v1 ≤ x3 → (Wx C S M_17 K 77 [some (.inr W), some (.inr 1), some (.inl x2), some (.inl 0), none, none] [] mem)) ∧ (¬ (v1 ≤ x3) → (Wx C S M_17 K 18 [some (.inr W), some (.inr 1), some (.inl x2), some (.inl x3), some (.inl 0), none] [] mem)))) : Wx C S M_17 K 7 [some (.inr W), some (.inr 1), some (.inl x2), some (.inl x3), none, none] [] mem := by
  refine Wx.iload_n hC te_17_7 rfl ?_
  refine Wx.aload_n hC te_17_8 rfl ?_
  refine Wx.getI hC te_17_9 rfl rfl rfl (fun v1 e1 e2 => ?_)
  replace H := H v1 e1 e2
  refine Wx.icmp hC (t := 75) te_17_12 (by decide) (fun q => ?_) (fun q => ?_)
  · replace H := H.1 q
    refine Wx.iconst hC te_17_75 rfl ?_
    refine Wx.istore_n hC te_17_76 rfl ?_
    exact H
  · replace H := H.2 q
    refine Wx.iconst hC te_17_15 rfl ?_
    refine Wx.istore hC te_17_16 rfl ?_
    exact H
theorem w_17_18 {C : CXW} (hC : Cmono C) {S : Nat × (Nat → Int32)} {K : WK} {mem : MM} {W : Nat} (hW : WebSh W) {x2 x3 x4 : Int} (H : (CWI C 13 [.inr 1, .inl x3] mem fun r2 m1 => InI r2 → ((r2 ≤ x4 → (InI (x3 + 1)) ∧ (Wx C S M_17 K 7 [some (.inr W), some (.inr 1), some (.inl x2), some (.inl (x3 + 1)), none, none] [] m1)) ∧ (¬ (r2 ≤ x4) → (CWI C 14 [.inr 1, .inl x3, .inl x4] m1 fun r4 m3 => InI r4 → ((r4 < 0 → (InI (x4 + 1)) ∧ (Wx C S M_17 K 18 [some (.inr W), some (.inr 1), some (.inl x2), some (.inl x3), some (.inl (x4 + 1)), none] [] m3)) ∧ (¬ (r4 < 0) → (CWI C 15 [.inr 1, .inl x3, .inl x4] m3 fun r6 m5 => InI r6 → (CWI C 18 [.inr 1, .inl r4, .inl x2] m5 fun r8 m7 => InI r8 → (CWV C 20 [.inr W, .inl r4, .inl x3, .inl r6, .inl r8] m7 fun m9 => (InI (x4 + 1)) ∧ (Wx C S M_17 K 18 [some (.inr W), some (.inr 1), some (.inl x2), some (.inl x3), some (.inl (x4 + 1)), none] [] m9))))))))))) : Wx C S M_17 K 18 [some (.inr W), some (.inr 1), some (.inl x2), some (.inl x3), some (.inl x4), none] [] mem := by
  refine Wx.iload hC te_17_18 rfl ?_
  refine Wx.aload_n hC te_17_20 rfl ?_
  refine Wx.iload_n hC te_17_21 rfl ?_
  refine Wx.virtI hC te_17_22 mt_13 (args := [.inr 1, .inl x3]) (rest := [.inl x4]) rfl rfl rfl rfl rfl rfl rfl rfl ?_
  refine CWI.mono hC (fun r2 m1 H hy => ?_) H
  replace H := H hy
  refine Wx.icmp hC (t := 69) te_17_25 (by decide) (fun q => ?_) (fun q => ?_)
  · replace H := H.1 q
    refine Wx.iinc hC te_17_69 rfl rfl H.1 ?_
    replace H := H.2
    refine Wx.goto hC (t := 7) te_17_72 (by decide) ?_
    exact Wx.weak (by repeat' (first | exact trivial | exact rfl | constructor)) H
  · replace H := H.2 q
    refine Wx.aload_n hC te_17_28 rfl ?_
    refine Wx.iload_n hC te_17_29 rfl ?_
    refine Wx.iload hC te_17_30 rfl ?_
    refine Wx.virtI hC te_17_32 mt_14 (args := [.inr 1, .inl x3, .inl x4]) (rest := []) rfl rfl rfl rfl rfl rfl rfl rfl ?_
    refine CWI.mono hC (fun r4 m3 H hy => ?_) H
    replace H := H hy
    refine Wx.istore hC te_17_35 rfl ?_
    refine Wx.iload hC te_17_37 rfl ?_
    refine Wx.ifc hC (t := 63) te_17_39 (by decide) (fun q => ?_) (fun q => ?_)
    · replace H := H.1 q
      refine Wx.iinc hC te_17_63 rfl rfl H.1 ?_
      replace H := H.2
      refine Wx.goto hC (t := 18) te_17_66 (by decide) ?_
      exact Wx.weak (by repeat' (first | exact trivial | exact rfl | constructor)) H
    · replace H := H.2 q
      refine Wx.aload_n hC te_17_42 rfl ?_
      refine Wx.iload hC te_17_43 rfl ?_
      refine Wx.iload_n hC te_17_45 rfl ?_
      refine Wx.aload_n hC te_17_46 rfl ?_
      refine Wx.iload_n hC te_17_47 rfl ?_
      refine Wx.iload hC te_17_48 rfl ?_
      refine Wx.virtI hC te_17_50 mt_15 (args := [.inr 1, .inl x3, .inl x4]) (rest := [.inl x3, .inl r4, .inr W]) rfl rfl rfl rfl rfl rfl rfl rfl ?_
      refine CWI.mono hC (fun r6 m5 H hy => ?_) H
      replace H := H hy
      refine Wx.aload_n hC te_17_53 rfl ?_
      refine Wx.iload hC te_17_54 rfl ?_
      refine Wx.iload_n hC te_17_56 rfl ?_
      refine Wx.statI hC te_17_57 (by decide) mt_18 (args := [.inr 1, .inl r4, .inl x2]) (rest := [.inl r6, .inl x3, .inl r4, .inr W]) rfl rfl rfl rfl rfl ?_
      refine CWI.mono hC (fun r8 m7 H hy => ?_) H
      replace H := H hy
      refine Wx.virtV hC te_17_60 mt_20 (args := [.inr W, .inl r4, .inl x3, .inl r6, .inl r8]) (rest := []) rfl rfl rfl rfl rfl rfl hW.1 rfl ?_
      refine CWV.mono hC (fun m9 H => ?_) H
      refine Wx.iinc hC te_17_63 rfl rfl H.1 ?_
      replace H := H.2
      refine Wx.goto hC (t := 18) te_17_66 (by decide) ?_
      exact Wx.weak (by repeat' (first | exact trivial | exact rfl | constructor)) H
theorem w_17_77 {C : CXW} (hC : Cmono C) {S : Nat × (Nat → Int32)} {K : WK} {mem : MM} {W : Nat} (hW : WebSh W) {x2 x3 : Int} (H : ∀ v1 : Int, v1 = mem 1 0 → InI v1 → ((v1 ≤ x3 → (K none mem)) ∧ (¬ (v1 ≤ x3) → (InI (x3 + 1)) ∧ (Wx C S M_17 K 90 [some (.inr W), some (.inr 1), some (.inl x2), some (.inl x3), some (.inl (x3 + 1)), none] [] mem)))) : Wx C S M_17 K 77 [some (.inr W), some (.inr 1), some (.inl x2), some (.inl x3), none, none] [] mem := by
  refine Wx.iload_n hC te_17_77 rfl ?_
  refine Wx.aload_n hC te_17_78 rfl ?_
  refine Wx.getI hC te_17_79 rfl rfl rfl (fun v1 e1 e2 => ?_)
  replace H := H v1 e1 e2
  refine Wx.icmp hC (t := 120) te_17_82 (by decide) (fun q => ?_) (fun q => ?_)
  · replace H := H.1 q
    exact Wx.vret hC te_17_120 rfl H
  · replace H := H.2 q
    refine Wx.iload_n hC te_17_85 rfl ?_
    refine Wx.iconst hC te_17_86 rfl ?_
    refine Wx.iadd hC te_17_87 H.1 ?_
    replace H := H.2
    refine Wx.istore hC te_17_88 rfl ?_
    exact H
theorem w_17_90 {C : CXW} (hC : Cmono C) {S : Nat × (Nat → Int32)} {K : WK} {mem : MM} {W : Nat} (hW : WebSh W) {x2 x3 x4 : Int} (H : ∀ v1 : Int, v1 = mem 1 0 → InI v1 → ((v1 ≤ x4 → (InI (x3 + 1)) ∧ (Wx C S M_17 K 77 [some (.inr W), some (.inr 1), some (.inl x2), some (.inl (x3 + 1)), none, none] [] mem)) ∧ (¬ (v1 ≤ x4) → (CWV C 23 [.inr W, .inr 1, .inl x3, .inl x4, .inl x2] mem fun m2 => (InI (x4 + 1)) ∧ (Wx C S M_17 K 90 [some (.inr W), some (.inr 1), some (.inl x2), some (.inl x3), some (.inl (x4 + 1)), none] [] m2))))) : Wx C S M_17 K 90 [some (.inr W), some (.inr 1), some (.inl x2), some (.inl x3), some (.inl x4), none] [] mem := by
  refine Wx.iload hC te_17_90 rfl ?_
  refine Wx.aload_n hC te_17_92 rfl ?_
  refine Wx.getI hC te_17_93 rfl rfl rfl (fun v1 e1 e2 => ?_)
  replace H := H v1 e1 e2
  refine Wx.icmp hC (t := 114) te_17_96 (by decide) (fun q => ?_) (fun q => ?_)
  · replace H := H.1 q
    refine Wx.iinc hC te_17_114 rfl rfl H.1 ?_
    replace H := H.2
    refine Wx.goto hC (t := 77) te_17_117 (by decide) ?_
    exact Wx.weak (by repeat' (first | exact trivial | exact rfl | constructor)) H
  · replace H := H.2 q
    refine Wx.aload_n hC te_17_99 rfl ?_
    refine Wx.aload_n hC te_17_100 rfl ?_
    refine Wx.iload_n hC te_17_101 rfl ?_
    refine Wx.iload hC te_17_102 rfl ?_
    refine Wx.iload_n hC te_17_104 rfl ?_
    refine Wx.virtV hC te_17_105 mt_23 (args := [.inr W, .inr 1, .inl x3, .inl x4, .inl x2]) (rest := []) rfl rfl rfl rfl rfl rfl hW.1 rfl ?_
    refine CWV.mono hC (fun m2 H => ?_) H
    refine Wx.iinc hC te_17_108 rfl rfl H.1 ?_
    replace H := H.2
    refine Wx.goto hC (t := 90) te_17_111 (by decide) ?_
    exact H
end
