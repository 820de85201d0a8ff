/-! the quick way of the reference -/
def FrK (m m' : MM) : Prop := ∀ A i, ¬ A = 159 → ¬ A = 163 → ¬ A = 164 → m' A i = m A i
theorem FrK.rf {m : MM} : FrK m m := fun _ _ _ _ _ => rfl
theorem FrK.tr {a b c : MM} (h1 : FrK a b) (h2 : FrK b c) : FrK a c := fun A i e1 e2 e3 => (h2 A i e1 e2 e3).trans (h1 A i e1 e2 e3)
theorem Fr1.k59 {a b : MM} (h : Fr1 159 a b) : FrK a b := fun A i e _ _ => h A i e
theorem FrK.up {m : MM} {A i : Nat} {x : Int} (h : A = 163 ∨ A = 164) : FrK m (upm m A i x) := fun B j _ e2 e3 => upm_ne (by omega)
theorem FrK.rest {m m' : MM} (e : FrK m m') (h : RefOK m) : RefOK m' :=
  Kp.rest (fun A i q => e A i (by omega) (by omega) (by omega)) h (fun o ho => by rw [e _ _ (by omega) (by omega) (by omega)]; exact h.sl o ho) (fun j hj => by rw [e _ _ (by omega) (by omega) (by omega), e _ _ (by omega) (by omega) (by omega), e _ _ (by omega) (by omega) (by omega), e _ _ (by omega) (by omega) (by omega)]; exact h.r48 j hj) (by rw [e _ _ (by omega) (by omega) (by omega)]; exact h.nd)
theorem FrK.q {m m' : MM} (e : FrK m m') : FrQ m m' := fun A i q => e A i (by omega) (by omega) (by omega)
theorem FrK.nds {m m' : MM} (h : FrK m m') (H : NdsOK m) : NdsOK m' := by
  have e : ∀ A i, (A = 143 ∧ (i = 1 ∨ i = 12)) ∨ (153 < A ∧ A < 158) → m' A i = m A i := fun A i q => h A i (by omega) (by omega) (by omega)
  refine ⟨by rw [e 143 1 (by omega)]; exact H.1, by rw [e 143 12 (by omega)]; exact H.2.1, fun j hj => ?_⟩
  rw [e 143 12 (by omega)] at hj
  rw [e 143 1 (by omega), e 154 j (by omega), e 155 j (by omega), e 156 j (by omega), e 157 j (by omega)]
  exact H.2.2 j hj
/-- times of the quick way so far -/
def QT (m : MM) (c : Int) : Prop := ∀ o : Nat, (o : Int) < m 143 1 → (-1 ≤ m 163 o ∧ m 163 o ≤ c) ∧ -1 ≤ m 164 o ∧ m 164 o ≤ c
theorem Fr1.qt {m m' : MM} {c : Int} (h : Fr1 159 m m') (H : QT m c) : QT m' c := fun o ho => by
  rw [h 143 1 (by omega)] at ho
  rw [h 163 o (by omega), h 164 o (by omega)]; exact H o ho
section QUICK
variable {S : Nat × (Nat → Int32)} {n : Nat} {mem : MM} {K : Int → MM → Prop} {d c : Int}
theorem f_283 (hO : OpsOK mem) (hU : UnOK mem) (hN : NdsOK mem) (hd : 1 ≤ d ∧ d ≤ 12) {o : Int} (ho : 0 ≤ o ∧ o < 8) (H : ∀ r m', Fr1 159 mem m' → K r m') : CWI (Ex S (n + 3)) 283 [.inr 143, .inl o, .inl d] mem K := by
  have h48 := hN.2.1
  have key : ∀ (N : Nat) (k : Nat), (k : Int) ≤ mem 143 12 → (mem 143 12 - k).toNat < N → Wx (Ex S (n + 2)) S M_283 (fun r m => ∃ y, r = some y ∧ K y m) 2 [some (.inr 143), some (.inl o), some (.inl d), some (.inl (k : Int))] [] mem := by
    intro N
    induction N with
    | zero => intros; omega
    | succ N ih =>
      intro k hk hNN
      refine w_283_2 (Ex.mono S (n + 2)) (fun v1 e1 _ => ⟨fun q => ?_, fun q => ?_⟩)
      · refine f_270 (fun m2 k2 => f_271 ?_ ?_ ho ⟨by omega, by omega⟩ hd (fun m3 k3 => f_264 ?_ ?_ ho (fun u u1 u2 _ => f_273 ⟨u1, u2⟩ hd (fun r _ _ => ⟨fun _ => ⟨_, rfl, H _ _ (k2.tr k3)⟩, fun _ => ⟨_, rfl, H _ _ (k2.tr k3)⟩⟩))))
        · exact (k2.f59).ops hO
        · exact (k2.f59).un hU
        · exact ((k2.tr k3).f59).ops hO
        · exact ((k2.tr k3).f59).un hU
      · have hk48 : 0 ≤ (k : Int) ∧ (k : Int) < 48 := by omega
        obtain ⟨p1, p2, p3, p4, p5, p6, p7, p8, p9⟩ := hN.2.2 k (by omega)
        have nx : InI ((k : Int) + 1) ∧ Wx (Ex S (n + 2)) S M_283 (fun r m => ∃ y, r = some y ∧ K y m) 2 [some (.inr 143), some (.inl o), some (.inl d), some (.inl ((k : Int) + 1))] [] mem := ⟨by unfold InI; omega, ih (k + 1) (by omega) (by omega)⟩
        rw [Int.toNat_natCast]
        refine ⟨hk48, fun v8 e8 _ => ⟨fun _ => nx, fun _ => ⟨hk48, fun v9 e9 _ => ⟨fun _ => nx, fun _ => ⟨hk48, fun v10 e10 _ => ⟨hk48, fun v11 e11 _ => ?_⟩⟩⟩⟩⟩⟩
        have := d7 (x := v11) hd (by omega)
        exact ⟨by unfold InI; omega, fun _ => nx, fun _ => ⟨_, rfl, H _ _ Fr1.rf⟩⟩
  exact CW.of (k := 1) mt_283 rfl rfl (w_283_0 (Ex.mono S (n + 2)) (key 49 0 (by omega) (by omega)))
theorem f_284 (h8 : 0 ≤ mem 143 1 ∧ mem 143 1 ≤ 8) (H : ∀ r, r = -1 ∨ (0 ≤ r ∧ r < mem 143 1) → K r mem) : CWI (Ex S (n + 3)) 284 [.inr 143] mem K := by
  have key : ∀ (N : Nat) (b o : Int), 0 ≤ o → (b = -1 ∨ (0 ≤ b ∧ b < mem 143 1)) → (8 - o).toNat < N → Wx (Ex S (n + 2)) S M_284 (fun r m => ∃ y, r = some y ∧ K y m) 4 [some (.inr 143), some (.inl b), some (.inl o)] [] mem := by
    intro N
    induction N with
    | zero => intros; omega
    | succ N ih =>
      intro b o ho hb hN
      exact w_284_4 (Ex.mono S (n + 2)) (fun v1 e1 _ => ⟨fun _ _ => ⟨_, rfl, H _ hb⟩, fun q => ⟨by omega, fun v2 _ _ => ⟨fun _ => ⟨by unfold InI; omega, ih b (o + 1) (by omega) hb (by omega)⟩, fun _ => ⟨fun _ => ⟨by unfold InI; omega, ih o (o + 1) (by omega) (by omega) (by omega)⟩, fun q2 => f_261 h8 ⟨ho, by omega⟩ (fun r _ => f_261 h8 ⟨by omega, by omega⟩ (fun r2 _ => ⟨fun _ => ⟨by unfold InI; omega, ih b (o + 1) (by omega) hb (by omega)⟩, fun _ => ⟨by unfold InI; omega, ih o (o + 1) (by omega) (by omega) (by omega)⟩⟩))⟩⟩⟩⟩)
  exact CW.of (k := 2) mt_284 rfl rfl (w_284_0 (Ex.mono S (n + 2)) (key 9 (-1) 0 (by omega) (by omega) (by omega)))
theorem f_286 (hN : NdsOK mem) (hd : 1 ≤ d ∧ d ≤ 12) (hc : 0 ≤ c ∧ c ≤ 100000) (hQ : QT mem c) {o : Int} (H : ∀ r, 0 ≤ r → r ≤ c + 6 → K r mem) : CWI (Ex S (n + 2)) 286 [.inr 143, .inl o, .inl d] mem K := by
  have h8 := hN.1
  have h48 := hN.2.1
  have key : ∀ (N : Nat) (x : Int) (k : Nat), 0 ≤ x → x ≤ c + 6 → (k : Int) ≤ mem 143 12 → (mem 143 12 - k).toNat < N → Wx (Ex S (n + 1)) S M_286 (fun r m => ∃ y, r = some y ∧ K y m) 5 [some (.inr 143), some (.inl o), some (.inl d), some (.inl x), some (.inl (k : Int))] [] mem := by
    intro N
    induction N with
    | zero => intros; omega
    | succ N ih =>
      intro x k hx hx2 hk hNN
      refine w_286_5 (Ex.mono S (n + 1)) (fun v1 e1 _ => ⟨fun q _ => ⟨_, rfl, H _ hx hx2⟩, fun q => ?_⟩)
      have hk48 : 0 ≤ (k : Int) ∧ (k : Int) < 48 := by omega
      obtain ⟨p1, p2, p3, p4, p5, p6, p7, p8, p9⟩ := hN.2.2 k (by omega)
      have nx : ∀ x, 0 ≤ x → x ≤ c + 6 → InI ((k : Int) + 1) ∧ Wx (Ex S (n + 1)) S M_286 (fun r m => ∃ y, r = some y ∧ K y m) 5 [some (.inr 143), some (.inl o), some (.inl d), some (.inl x), some (.inl ((k : Int) + 1))] [] mem := fun x z1 z2 => ⟨by unfold InI; omega, ih x (k + 1) z1 z2 (by omega) (by omega)⟩
      rw [Int.toNat_natCast]
      refine ⟨hk48, fun v2 e2 _ => ⟨fun _ => nx _ hx hx2, fun _ => ⟨hk48, fun v3 e3 _ => ⟨fun _ => nx _ hx hx2, fun _ => ⟨hk48, fun v4 e4 _ => ⟨by omega, fun v5 e5 _ => ⟨fun _ => nx _ hx hx2, fun _ => ⟨hk48, fun v6 e6 _ => ⟨by omega, fun v7 e7 _ => ⟨hk48, fun v8 e8 _ => ?_⟩⟩⟩⟩⟩⟩⟩⟩⟩⟩
      have hq := hQ v6.toNat (by omega)
      refine ⟨by unfold InI; omega, hk48, fun v9 e9 _ => ?_⟩
      have := d7 (x := v9) hd (by omega)
      exact ⟨by unfold InI; omega, by unfold InI; omega, f_257 (fun _ _ => nx _ (by omega) (by omega))⟩
  exact CW.of (k := 2) mt_286 rfl rfl (w_286_0 (Ex.mono S (n + 1)) (key 49 0 0 (by omega) (by omega) (by omega) (by omega)))
theorem f_287 (hO : OpsOK mem) (hU : UnOK mem) (hd : 1 ≤ d ∧ d ≤ 12) {o t : Int} (ho : 0 ≤ o ∧ o < 8) (ht : -1000000 ≤ t ∧ t ≤ 1000000) (H : ∀ r m', Fr1 159 mem m' → K r m') : CWI (Ex S (n + 3)) 287 [.inr 143, .inl o, .inl t, .inl d] mem K := by
  refine CW.of (k := 1) mt_287 rfl rfl (w_287_0 (Ex.mono S (n + 2)) (f_271 hO hU ho ht hd (fun m1 k1 => ?_)))
  have hO1 := (k1.f59).ops hO
  have hU1 := (k1.f59).un hU
  exact f_264 hO1 hU1 ho (fun u u1 u2 _ => f_273 ⟨u1, u2⟩ hd (fun r _ _ => ⟨fun _ => f_271 hO1 hU1 ho ht hd (fun m2 k2 => ⟨_, rfl, H _ _ (k1.tr k2)⟩), fun _ => f_271 hO1 hU1 ho ht hd (fun m2 k2 => ⟨_, rfl, H _ _ (k1.tr k2)⟩)⟩))
theorem f_289 (hO : OpsOK mem) (hd : 1 ≤ d ∧ d ≤ 12) (hc : c ≤ 100000) (hQ : QT mem c) {o : Nat} {s : Int} (ho : (o : Int) < mem 143 1) (H : ∀ r, K r mem) : CWI (Ex S (n + 2)) 289 [.inr 143, .inl (o : Int), .inl s, .inl d] mem K := by
  have h8 := hO.1
  have hq := hQ o ho
  have ho8 : 0 ≤ (o : Int) ∧ (o : Int) < 8 := by omega
  have key : ∀ (N : Nat) (b : Int), 0 ≤ b → (4 - b).toNat < N → Wx (Ex S (n + 1)) S M_289 (fun r m => ∃ y, r = some y ∧ K y m) 3 [some (.inr 143), some (.inl (o : Int)), some (.inl s), some (.inl d), some (.inl b)] [] mem := by
    intro N
    induction N with
    | zero => intros; omega
    | succ N ih =>
      intro b hb hN
      refine w_289_3 (Ex.mono S (n + 1)) ⟨fun _ => ⟨_, rfl, H _⟩, fun q => f_265 hO ho8 (fun u _ b3 _ _ b4 _ _ => ⟨fun _ => ⟨by unfold InI; omega, ih (b + 1) (by omega) (by omega)⟩, fun _ => ⟨ho8, fun v5 e5 _ => ?_⟩⟩)⟩
      rw [Int.toNat_natCast] at e5
      exact ⟨by unfold InI; omega, f_272 ⟨by omega, by omega⟩ (fun r _ _ _ => ⟨fun _ => ⟨by unfold InI; omega, ih (b + 1) (by omega) (by omega)⟩, fun _ => ⟨_, rfl, H _⟩⟩)⟩
  exact CW.of (k := 1) mt_289 rfl rfl (w_289_0 (Ex.mono S (n + 1)) (key 5 0 (by omega) (by omega)))
theorem f_288 (hO : OpsOK mem) (hU : UnOK mem) (hd : 1 ≤ d ∧ d ≤ 12) (hc : c ≤ 100000) (hQ : QT mem c) {o p : Nat} (ho : (o : Int) < mem 143 1) (hp : (p : Int) < mem 143 1) (H : ∀ r, K r mem) : CWI (Ex S (n + 3)) 288 [.inr 143, .inl (o : Int), .inl (p : Int), .inl d] mem K := by
  have h8 := hO.1
  have ho8 : 0 ≤ (o : Int) ∧ (o : Int) < 8 := by omega
  have hp8 : 0 ≤ (p : Int) ∧ (p : Int) < 8 := by omega
  have key : ∀ (N : Nat) (s : Int), 0 ≤ s → (12 - s).toNat < N → Wx (Ex S (n + 2)) S M_288 (fun r m => ∃ y, r = some y ∧ K y m) 18 [some (.inr 143), some (.inl (o : Int)), some (.inl (p : Int)), some (.inl d), some (.inl s)] [] mem := by
    intro N
    induction N with
    | zero => intros; omega
    | succ N ih =>
      intro s hs hN
      have nx : ¬ d ≤ s → InI (s + 1) ∧ Wx (Ex S (n + 2)) S M_288 (fun r m => ∃ y, r = some y ∧ K y m) 18 [some (.inr 143), some (.inl (o : Int)), some (.inl (p : Int)), some (.inl d), some (.inl (s + 1))] [] mem := fun z => ⟨by unfold InI; omega, ih (s + 1) (by omega) (by omega)⟩
      exact w_288_18 (Ex.mono S (n + 2)) ⟨fun _ => ⟨_, rfl, H _⟩, fun q => f_264 hO hU ho8 (fun u u1 u2 _ => ⟨by unfold InI; omega, by unfold InI; omega, by omega, fun v3 _ _ => f_264 hO hU ho8 (fun w w1 w2 _ => ⟨by omega, fun v6 _ _ => ⟨fun _ => nx q, fun _ => f_289 hO hd hc hQ ho (fun r _ => ⟨fun _ => nx q, fun _ => f_289 hO hd hc hQ hp (fun r2 _ => ⟨fun _ => nx q, fun _ => ⟨_, rfl, H _⟩⟩)⟩)⟩⟩)⟩)⟩
  exact CW.of (k := 1) mt_288 rfl rfl (w_288_0 (Ex.mono S (n + 2)) (f_264 hO hU ho8 (fun u _ _ _ => f_264 hO hU hp8 (fun w _ _ _ => ⟨fun _ => key 13 0 (by omega) (by omega), fun _ => ⟨_, rfl, H _⟩⟩))))
theorem f_290 {K : MM → Prop} (hO : OpsOK mem) (hU : UnOK mem) (hd : 1 ≤ d ∧ d ≤ 12) (hc : 0 ≤ c ∧ c ≤ 100000) (hQ : QT mem c) {o : Nat} (ho : (o : Int) < mem 143 1) (H : ∀ m', FrK mem m' → QT m' c → K m') : CWV (Ex S (n + 3)) 290 [.inr 143, .inl (o : Int), .inl d] mem K := by
  have h8 := hO.1
  have hq := hQ o ho
  have ho8 : 0 ≤ (o : Int) ∧ (o : Int) < 8 := by omega
  refine CW.of (k := 0) mt_290 rfl rfl (w_290_0 (Ex.mono S (n + 2)) ⟨ho8, fun v1 e1 _ => ?_⟩)
  rw [Int.toNat_natCast] at e1 ⊢
  refine f_271 hO hU ho8 ⟨by omega, by omega⟩ hd (fun m2 k2 => ⟨ho8, rfl, H _ (k2.k59.tr (FrK.up (by omega))) (fun u hu => ?_)⟩)
  have hu' := k2.qt hQ u (by rw [upm_ne (by omega)] at hu; exact hu)
  rw [upm_ne (A := 163) (B := 164) (by omega)]
  refine ⟨?_, hu'.2⟩
  by_cases e : u = o
  · subst e; rw [upm_eq]; omega
  · rw [upm_ne (fun z => e z.2)]; exact hu'.1
theorem f_291 (hN : NdsOK mem) (hd : 1 ≤ d ∧ d ≤ 12) (hc : c ≤ 100000) (hQ : QT mem c) {k : Nat} (hk : (k : Int) < mem 143 12) (H : ∀ r, K r mem) : CWI (Ex S (n + 1)) 291 [.inr 143, .inl (k : Int), .inl d] mem K := by
  have h8 := hN.1
  have h48 := hN.2.1
  have hk48 : 0 ≤ (k : Int) ∧ (k : Int) < 48 := by omega
  obtain ⟨p1, p2, p3, p4, p5, p6, p7, p8, p9⟩ := hN.2.2 k (by omega)
  have q1 := hQ (mem 154 k).toNat (by omega)
  refine CW.of (k := 0) mt_291 rfl rfl (w_291_0 (Ex.mono S n) ⟨hk48, fun v1 e1 _ => ⟨?_, fun v2 e2 _ => ⟨hk48, fun v3 e3 _ => ⟨?_, fun v4 e4 _ => ⟨hk48, fun v5 e5 _ => ?_⟩⟩⟩⟩⟩) <;> rw [Int.toNat_natCast] at *
  · omega
  · omega
  · have e4 : v4 = mem 163 (mem 154 k).toNat := by rw [e4, e3]
    refine ⟨by unfold InI; omega, hk48, fun v6 e6 _ => ?_⟩
    have := d7 (x := v6) hd (by omega)
    exact ⟨by unfold InI; omega, by unfold InI; omega, fun _ => ⟨_, rfl, H _⟩, fun _ => ⟨_, rfl, H _⟩⟩
end QUICK
/-! the quick way of the reference: an op comes, all come -/
theorem FrK.qt1 {m : MM} {c c' t : Int} {o : Nat} (H : QT m c) (hc : c ≤ c') (ht : 0 ≤ t ∧ t ≤ c') : QT (upm (upm m 163 o t) 164 o t) c' := fun u hu => by
  have hu' := H u (by rw [upm_ne (by omega), upm_ne (by omega)] at hu; exact hu)
  rw [upm_ne (A := 164) (B := 163) (by omega)]
  constructor
  · by_cases e : u = o
    · subst e; rw [upm_eq]; omega
    · rw [upm_ne (fun z => e z.2)]; omega
  · by_cases e : u = o
    · subst e; rw [upm_eq]; omega
    · rw [upm_ne (fun z => e z.2), upm_ne (by omega)]; omega
section QUICK2
variable {S : Nat × (Nat → Int32)} {n : Nat} {mem : MM} {d c : Int}
/-- what was thrown out, and on to the end -/
theorem cq_254 {m0 : MM} {o : Nat} {x3 x4 g : Int} (h : RefOK m0) (hd : 1 ≤ d ∧ d ≤ 12) (hc : 0 ≤ c ∧ c ≤ 100000) {Kk : WK} (H : ∀ m', FrK m0 m' → QT m' c → Kk none m') : ∀ (N : Nat) (p : Nat) (m : MM), (p : Int) ≤ m0 143 1 → (m0 143 1 - p).toNat < N → FrK m0 m → QT m c → Wx (Ex S (n + 3)) S M_285 Kk 254 [some (.inr 143), some (.inl (o : Int)), some (.inl d), some (.inl x3), some (.inl x4), some (.inl g), some (.inl (p : Int)), none] [] m := by
  have h8 := h.ops.1
  intro N
  induction N with
  | zero => intros; omega
  | succ N ih =>
    intro p m hp hN hF hQ
    have e1' : m 143 1 = m0 143 1 := hF _ _ (by omega) (by omega) (by omega)
    have hm := hF.rest h
    exact w_285_254 (Ex.mono S (n + 3)) (fun v1 e1 _ => ⟨fun _ => H m hF hQ, fun q b2 _ _ b3 _ _ => ⟨fun _ => ⟨by unfold InI; omega, ih (p + 1) m (by omega) (by omega) hF hQ⟩, fun _ => f_290 hm.ops hm.un hd hc hQ (by omega) (fun m' k1 k2 => ⟨by unfold InI; omega, ih (p + 1) m' (by omega) (by omega) (hF.tr k1) k2⟩)⟩⟩)
theorem cq_155 {m0 : MM} {o : Nat} {x3 x4 : Int} (h : RefOK m0) (hN : NdsOK m0) (hd : 1 ≤ d ∧ d ≤ 12) (hc : 0 ≤ c ∧ c ≤ 100000) (ho : (o : Int) < m0 143 1) {Kk : WK} (H : ∀ m', FrK m0 m' → QT m' c → Kk none m') : ∀ (N : Nat) (k : Nat) (g : Int) (m : MM), (k : Int) ≤ m0 143 12 → (m0 143 12 - k).toNat < N → FrK m0 m → QT m c → Wx (Ex S (n + 3)) S M_285 Kk 155 [some (.inr 143), some (.inl (o : Int)), some (.inl d), some (.inl x3), some (.inl x4), some (.inl g), some (.inl (k : Int)), none] [] m := by
  have h8 := hN.1
  have h48 := hN.2.1
  intro N
  induction N with
  | zero => intros; omega
  | succ N ih =>
    intro k g m hk hNN hF hQ
    have e1' : m 143 1 = m0 143 1 := hF _ _ (by omega) (by omega) (by omega)
    have e12 : m 143 12 = m0 143 12 := hF _ _ (by omega) (by omega) (by omega)
    have hN' := hF.nds hN
    have nx : ∀ g, ¬ m 143 12 ≤ (k : Int) → InI ((k : Int) + 1) ∧ Wx (Ex S (n + 3)) S M_285 Kk 155 [some (.inr 143), some (.inl (o : Int)), some (.inl d), some (.inl x3), some (.inl x4), some (.inl g), some (.inl ((k : Int) + 1)), none] [] m := fun g z => ⟨by unfold InI; omega, ih (k + 1) g m (by omega) (by omega) hF hQ⟩
    refine w_285_155 (Ex.mono S (n + 3)) (fun v1 e1 _ => ⟨fun _ => cq_254 h hd hc H 9 0 m (by omega) (by omega) hF hQ, fun q => ?_⟩)
    subst e1
    have hk48 : 0 ≤ (k : Int) ∧ (k : Int) < 48 := by omega
    obtain ⟨p1, p2, p3, p4, -⟩ := hN'.2.2 k (by omega)
    have kept : CWI (Ex S (n + 3)) 291 [.inr 143, .inl (k : Int), .inl d] m fun r6 m5 => ∀ g2 : Int, InI r6 → m5 = m := f_291 hN' hd hc.2 hQ (by omega) (fun r g2 _ => rfl)
    rw [Int.toNat_natCast]
    refine ⟨hk48, fun v2 e2 _ => ⟨fun q2 => ⟨hk48, fun v3 e3 _ => ⟨fun q3 => ⟨fun _ => nx _ q, fun z => absurd rfl z⟩, fun q3 => ⟨hk48, fun v9 e9 _ => ⟨fun _ => nx _ q, fun _ => ⟨by omega, fun v10 _ _ => ⟨fun _ => nx _ q, fun _ => f_291 hN' hd hc.2 hQ (by omega) (fun r _ => ⟨fun _ => nx _ q, fun _ b7 _ _ b8 _ _ => nx _ q⟩)⟩⟩⟩⟩⟩⟩, fun q2 => ⟨hk48, fun v15 e15 _ => ⟨fun _ => nx _ q, fun _ => ⟨by omega, fun v16 _ _ => ⟨fun _ => nx _ q, fun _ => f_291 hN' hd hc.2 hQ (by omega) (fun r _ => ⟨fun _ => nx _ q, fun _ b7 _ _ b8 _ _ => nx _ q⟩)⟩⟩⟩⟩⟩⟩
theorem cq_99 {m0 : MM} {o : Nat} {x3 x4 : Int} (h : RefOK m0) (hN : NdsOK m0) (hd : 1 ≤ d ∧ d ≤ 12) (hc : 0 ≤ c ∧ c ≤ 100000) (ho : (o : Int) < m0 143 1) {Kk : WK} (H : ∀ m', FrK m0 m' → QT m' c → Kk none m') : ∀ (N : Nat) (p : Nat) (m : MM), (p : Int) ≤ m0 143 1 → (m0 143 1 - p).toNat < N → FrK m0 m → QT m c → Wx (Ex S (n + 3)) S M_285 Kk 99 [some (.inr 143), some (.inl (o : Int)), some (.inl d), some (.inl x3), some (.inl x4), some (.inl (p : Int)), none, none] [] m := by
  have h8 := h.ops.1
  have h48 := hN.2.1
  intro N
  induction N with
  | zero => intros; omega
  | succ N ih =>
    intro p m hp hNN hF hQ
    have e1' : m 143 1 = m0 143 1 := hF _ _ (by omega) (by omega) (by omega)
    have hm := hF.rest h
    have nx : ∀ m', FrK m0 m' → QT m' c → ¬ m 143 1 ≤ (p : Int) → InI ((p : Int) + 1) ∧ Wx (Ex S (n + 3)) S M_285 Kk 99 [some (.inr 143), some (.inl (o : Int)), some (.inl d), some (.inl x3), some (.inl x4), some (.inl ((p : Int) + 1)), none, none] [] m' := fun m' z1 z2 z3 => ⟨by unfold InI; omega, ih (p + 1) m' (by omega) (by omega) z1 z2⟩
    refine w_285_99 (Ex.mono S (n + 3)) (fun v1 e1 _ => ⟨fun _ => cq_155 h hN hd hc ho H 49 0 0 m (by omega) (by omega) hF hQ, fun q => ?_⟩)
    subst e1
    exact ⟨fun _ => nx m hF hQ q, fun _ => ⟨by omega, fun v2 _ _ => ⟨fun _ => nx m hF hQ q, fun _ => f_288 hm.ops hm.un hd hc.2 hQ (by omega) (by omega) (fun r _ => ⟨fun _ => nx m hF hQ q, fun _ => f_290 hm.ops hm.un hd hc hQ (by omega) (fun m' k1 k2 => nx m' (hF.tr k1) k2 q)⟩)⟩⟩⟩
theorem f_285 {K : MM → Prop} (h : RefOK mem) (hN : NdsOK mem) (hd : 1 ≤ d ∧ d ≤ 12) (hc : 0 ≤ c ∧ c ≤ 10000) (hQ : QT mem c) {o : Nat} (ho : (o : Int) < mem 143 1) (H : ∀ m', FrK mem m' → QT m' (c + 18) → K m') : CWV (Ex S (n + 4)) 285 [.inr 143, .inl (o : Int), .inl d] mem K := by
  have h8 := h.ops.1
  have ho8 : 0 ≤ (o : Int) ∧ (o : Int) < 8 := by omega
  refine CW.of (k := 5) mt_285 rfl rfl (w_285_0 (Ex.mono S (n + 3)) (f_286 hN hd ⟨hc.1, by omega⟩ hQ (fun r r1 r2 _ => ?_)))
  have at71 : ∀ (t : Int) (m : MM), 0 ≤ t → t ≤ c + 18 → Fr1 159 mem m → Wx (Ex S (n + 3)) S M_285 (fun r m => r = none ∧ K m) 71 [some (.inr 143), some (.inl (o : Int)), some (.inl d), some (.inl r), some (.inl t), none, none, none] [] m := by
    intro t m t1 t2 k1
    have hF : FrK mem (upm (upm m 163 o t) 164 o t) := (k1.k59.tr (FrK.up (Or.inl rfl))).tr (FrK.up (Or.inr rfl))
    have hm := hF.rest h
    refine w_285_71 (Ex.mono S (n + 3)) ⟨ho8, ho8, ?_⟩
    rw [Int.toNat_natCast]
    exact f_271 hm.ops hm.un ho8 ⟨by omega, by omega⟩ hd (fun m' k2 => cq_99 h hN hd (c := c + 18) ⟨by omega, by omega⟩ ho (fun m' a b => ⟨rfl, H m' a b⟩) 9 0 m' (by omega) (by omega) (hF.tr k2.k59) (k2.qt (FrK.qt1 (k1.qt hQ) (by omega) ⟨t1, t2⟩)))
  have at35 : ∀ (t : Int) (m : MM), r ≤ t → t ≤ r + d → Fr1 159 mem m → Wx (Ex S (n + 3)) S M_285 (fun r m => r = none ∧ K m) 35 [some (.inr 143), some (.inl (o : Int)), some (.inl d), some (.inl r), some (.inl t), none, none, none] [] m := by
    intro t m t1 t2 k1
    have hl := (k1.qt hQ o (by rw [k1 143 1 (by omega)]; exact ho)).2
    refine w_285_35 (Ex.mono S (n + 3)) ⟨by unfold InI; omega, fun _ => at71 t m (by omega) (by omega) k1, fun _ => ⟨ho8, fun v1 _ _ => ⟨fun _ => ⟨ho8, fun v2 e2 _ => ?_⟩, fun _ => at71 r m r1 (by omega) k1⟩⟩⟩
    rw [Int.toNat_natCast] at e2
    exact ⟨by unfold InI; omega, f_257 (fun _ _ => at71 _ m (by omega) (by omega) k1)⟩
  have key : ∀ (N : Nat) (t : Int) (m : MM), r ≤ t → t ≤ r + d → (r + d - t).toNat < N → Fr1 159 mem m → Wx (Ex S (n + 3)) S M_285 (fun r m => r = none ∧ K m) 10 [some (.inr 143), some (.inl (o : Int)), some (.inl d), some (.inl r), some (.inl t), none, none, none] [] m := by
    intro N
    induction N with
    | zero => intros; omega
    | succ N ih =>
      intro t m t1 t2 hNN k1
      have hm := k1.k59.rest h
      exact w_285_10 (Ex.mono S (n + 3)) ⟨by unfold InI; omega, fun _ => at35 t m t1 t2 k1, fun q => f_287 hm.ops hm.un hd ho8 ⟨by omega, by omega⟩ (fun r2 m' k2 _ => ⟨fun _ => at35 t m' t1 t2 (k1.tr k2), fun _ => ⟨by unfold InI; omega, ih (t + 1) m' (by omega) (by omega) (by omega) (k1.tr k2)⟩⟩)⟩
  exact key _ r mem (by omega) (by omega) (Nat.lt_succ_self _) Fr1.rf
theorem FrM.rest {m m' : MM} (e : ∀ A i, ¬ A = 159 → ¬ A = 163 → ¬ A = 164 → ¬ (A = 143 ∧ i = 25) → m' A i = m A i) (h : RefOK m) : RefOK m' ∧ FrQ m m' :=
  ⟨Kp.rest (fun A i q => e A i (by omega) (by omega) (by omega) (by omega)) h (fun o ho => by rw [e _ _ (by omega) (by omega) (by omega) (by omega)]; exact h.sl o ho) (fun j hj => by rw [e _ _ (by omega) (by omega) (by omega) (by omega), e _ _ (by omega) (by omega) (by omega) (by omega), e _ _ (by omega) (by omega) (by omega) (by omega), e _ _ (by omega) (by omega) (by omega) (by omega)]; exact h.r48 j hj) (by rw [e _ _ (by omega) (by omega) (by omega) (by omega)]; exact h.nd), fun A i q => e A i (by omega) (by omega) (by omega) (by omega)⟩
def FrM (m m' : MM) : Prop := ∀ A i, ¬ A = 159 → ¬ A = 163 → ¬ A = 164 → ¬ (A = 143 ∧ i = 25) → m' A i = m A i
theorem FrK.m {m m' : MM} (e : FrK m m') : FrM m m' := fun A i e1 e2 e3 _ => e A i e1 e2 e3
theorem FrM.tr {a b c : MM} (h1 : FrM a b) (h2 : FrM b c) : FrM a c := fun A i e1 e2 e3 e4 => (h2 A i e1 e2 e3 e4).trans (h1 A i e1 e2 e3 e4)
theorem FrM.mv {m : MM} {x : Int} : FrM m (upm m 143 25 x) := fun B j _ _ _ e => upm_ne e
theorem FrM.nds {m m' : MM} (h : FrM m m') (H : NdsOK m) : NdsOK m' := by
  have e : ∀ A i, (A = 143 ∧ (i = 1 ∨ i = 12)) ∨ (153 < A ∧ A < 158) → m' A i = m A i := fun A i q => h A i (by omega) (by omega) (by omega) (by omega)
  refine ⟨by rw [e 143 1 (by omega)]; exact H.1, by rw [e 143 12 (by omega)]; exact H.2.1, fun j hj => ?_⟩
  rw [e 143 12 (by omega)] at hj
  rw [e 143 1 (by omega), e 154 j (by omega), e 155 j (by omega), e 156 j (by omega), e 157 j (by omega)]
  exact H.2.2 j hj
theorem f_282 {K : Int → MM → Prop} (h : RefOK mem) (hN : NdsOK mem) (hd : 1 ≤ d ∧ d ≤ 12) (H : ∀ r m', r = 0 ∨ r = 1 → FrM mem m' → K r m') : CWI (Ex S (n + 5)) 282 [.inr 143, .inl d] mem K := by
  have h8 := h.ops.1
  have l71 : ∀ (N : Nat) (o : Int) (m : MM), (o = -1 ∨ (0 ≤ o ∧ o < mem 143 1)) → (48 - m 143 25).toNat < N → 0 ≤ m 143 25 → m 143 25 ≤ 48 → FrM mem m → QT m (18 * m 143 25) → Wx (Ex S (n + 4)) S M_282 (fun r m => ∃ y, r = some y ∧ K y m) 71 [some (.inr 143), some (.inl d), some (.inl o)] [] m := by
    intro N
    induction N with
    | zero => intros; omega
    | succ N ih =>
      intro o m ho hNN c0 c1 hF hQ
      have e1' : m 143 1 = mem 143 1 := hF _ _ (by omega) (by omega) (by omega) (by omega)
      have f0 : ∃ y, some (0 : Int) = some y ∧ K y m := ⟨_, rfl, H _ _ (Or.inl rfl) hF⟩
      have f1 : ∃ y, some (1 : Int) = some y ∧ K y m := ⟨_, rfl, H _ _ (Or.inr rfl) hF⟩
      refine w_282_71 (Ex.mono S (n + 4)) ⟨fun _ => ⟨fun _ => f0, fun _ => f1⟩, fun q v1 e1 _ v2 e2 _ => ⟨by unfold InI; omega, fun _ => ⟨fun _ => f0, fun _ => f1⟩, fun q2 => ?_⟩⟩
      obtain ⟨p, rfl⟩ : ∃ p : Nat, o = (p : Int) := ⟨o.toNat, by omega⟩
      refine f_285 (FrM.rest hF h).1 (hF.nds hN) hd (c := 18 * m 143 25) ⟨by omega, by omega⟩ hQ (by omega) (fun m3 k1 k2 v4 e4 _ => ?_)
      have e4' : v4 = v1 := by rw [e4, e1]; exact k1 _ _ (by omega) (by omega) (by omega)
      have e13 : m3 143 1 = mem 143 1 := by rw [k1 _ _ (by omega) (by omega) (by omega)]; exact e1'
      have e25 : upm m3 143 25 (v4 + 1) 143 25 = v4 + 1 := upm_eq
      have e21 : upm m3 143 25 (v4 + 1) 143 1 = mem 143 1 := by rw [upm_ne (by omega)]; exact e13
      refine ⟨by unfold InI; omega, f_284 (by rw [e21]; exact h8) (fun r hr _ => ih r _ (by rw [e21] at hr; exact hr) (by rw [e25]; omega) (by rw [e25]; omega) (by rw [e25]; omega) ((hF.tr k1.m).tr FrM.mv) (fun u hu => ?_))⟩
      rw [e21] at hu
      have := k2 u (by rw [e13]; exact hu)
      rw [e25, upm_ne (A := 143) (B := 163) (by omega), upm_ne (A := 143) (B := 164) (by omega)]
      omega
  have l38 : ∀ (N : Nat) (o : Nat) (m : MM), (o : Int) ≤ mem 143 1 → (mem 143 1 - o).toNat < N → m 143 25 = 0 → FrM mem m → (∀ u : Nat, u < o → m 163 u = -1 ∧ m 164 u = -1) → Wx (Ex S (n + 4)) S M_282 (fun r m => ∃ y, r = some y ∧ K y m) 38 [some (.inr 143), some (.inl d), some (.inl (o : Int))] [] m := by
    intro N
    induction N with
    | zero => intros; omega
    | succ N ih =>
      intro o m ho hNN c0 hF hA
      have e1' : m 143 1 = mem 143 1 := hF _ _ (by omega) (by omega) (by omega) (by omega)
      refine w_282_38 (Ex.mono S (n + 4)) (fun v1 e1 _ => ⟨fun q => f_284 (by rw [e1']; exact h8) (fun r hr _ => l71 _ r m (by rw [e1'] at hr; exact hr) (Nat.lt_succ_self _) (by omega) (by omega) hF (fun u hu => ?_)), fun q => ⟨by omega, by omega, by unfold InI; omega, ?_⟩⟩)
      · have := hA u (by omega); omega
      · rw [Int.toNat_natCast]
        refine ih (o + 1) _ (by omega) (by omega) (by rw [upm_ne (by omega), upm_ne (by omega)]; exact c0) (hF.tr (FrK.m ((FrK.up (Or.inl rfl)).tr (FrK.up (Or.inr rfl))))) (fun u hu => ?_)
        rw [upm_ne (A := 164) (B := 163) (by omega)]
        by_cases e : u = o
        · subst e; rw [upm_eq, upm_eq]; exact ⟨rfl, rfl⟩
        · rw [upm_ne (fun z => e z.2), upm_ne (fun z => e z.2), upm_ne (by omega)]; exact hA u (by omega)
  have l2 : ∀ (N : Nat) (o : Nat) (m : MM), (o : Int) ≤ mem 143 1 → (mem 143 1 - o).toNat < N → Fr1 159 mem m → Wx (Ex S (n + 4)) S M_282 (fun r m => ∃ y, r = some y ∧ K y m) 2 [some (.inr 143), some (.inl d), some (.inl (o : Int))] [] m := by
    intro N
    induction N with
    | zero => intros; omega
    | succ N ih =>
      intro o m ho hNN hF
      have e1' : m 143 1 = mem 143 1 := hF _ _ (by omega)
      have hm := hF.k59.rest h
      exact w_282_2 (Ex.mono S (n + 4)) (fun v1 e1 _ => ⟨fun q => f_270 (fun m2 k2 => l38 9 0 _ (by omega) (by omega) upm_eq ((hF.tr k2).k59.m.tr FrM.mv) (fun u hu => by omega)), fun q => f_283 hm.ops hm.un (hF.k59.nds hN) hd ⟨by omega, by omega⟩ (fun r m' k _ => ⟨fun _ => ⟨by unfold InI; omega, ih (o + 1) m' (by omega) (by omega) (hF.tr k)⟩, fun _ => ⟨_, rfl, H _ _ (Or.inl rfl) (hF.tr k).k59.m⟩⟩)⟩)
  exact CW.of (k := 1) mt_282 rfl rfl (w_282_0 (Ex.mono S (n + 4)) (l2 9 0 mem (by omega) (by omega) Fr1.rf))
theorem f_281 {K : Int → MM → Prop} (h : RefOK mem) (hN : NdsOK mem) (hd : 1 ≤ d ∧ d ≤ 12) (H : ∀ r m', r = 0 ∨ r = 1 → RefOK m' → FrQ mem m' → K r m') : CWI (Ex S (n + 6)) 281 [.inr 143, .inl d] mem K := by
  refine CW.of (k := 0) mt_281 rfl rfl (w_281_0 (Ex.mono S (n + 5)) (f_256 hN ⟨by omega, by omega⟩ (fun m1 k1 _ => ?_)))
  obtain ⟨g1, g2⟩ := k1.rest158 h
  refine f_282 g1 (hN.fr k1) hd (fun r m' hr k _ => ⟨hr, _, rfl, ?_⟩)
  obtain ⟨q1, q2⟩ := FrM.rest k g1
  exact H r m' hr q1 (g2.tr q2)
theorem f_280 {K : Int → MM → Prop} {a : Int} (h : RefOK mem) (H : Fin mem K) : CWI (Ex S (n + 7)) 280 [.inr 143, .inl a, .inl d] mem K := by
  have h8 := h.ops.1
  exact CW.of (k := 0) mt_280 rfl rfl (w_280_0 (Ex.mono S (n + 6)) (f_235 h8 (fun a1 a2 _ => ⟨fun _ => f_253 (fun d1 d2 _ => ⟨fun _ => f_254r h (fun m' h1 h2 _ => ⟨fun z => absurd z (by decide), fun _ _ => H.thr h1 h2 0 (by omega)⟩) (fun m' h1 h2 hk hN _ => ⟨fun _ => f_281 (h1.th' (by omega)) hN.th ⟨d1, d2⟩ (fun r m2 _ g1 g2 _ => ⟨fun _ _ => H.at g1 ((h2.tr FrQ.th).tr g2) _, fun _ => ⟨by omega, fun v _ _ _ => H.at g1 ((h2.tr FrQ.th).tr g2) _⟩⟩), fun z => absurd rfl z⟩), fun z => absurd (by decide) z⟩) (fun _ => ⟨fun z => absurd rfl z, fun _ _ => H.thr h FrQ.rf 0 (by omega)⟩), fun z => absurd (by decide) z⟩) (fun _ => ⟨fun z => absurd rfl z, fun _ _ => H.thr h FrQ.rf 0 (by omega)⟩)))
theorem f_292 {K : Int → MM → Prop} (h : RefOK mem) (H : Fin mem K) : CWI (Ex S (n + 7)) 292 [.inr 143, .inl d] mem K := by
  exact CW.of (k := 0) mt_292 rfl rfl (w_292_0 (Ex.mono S (n + 6)) (f_253 (fun d1 d2 _ => ⟨fun _ => f_254r h (fun m' h1 h2 _ => ⟨fun z => absurd z (by decide), fun _ _ => H.thr h1 h2 0 (by omega)⟩) (fun m' h1 h2 hk hN _ => ⟨fun _ => f_281 (h1.th' (by omega)) hN.th ⟨d1, d2⟩ (fun r m2 _ g1 g2 _ => ⟨fun _ _ => H.at g1 ((h2.tr FrQ.th).tr g2) _, fun _ v _ _ _ => H.at g1 ((h2.tr FrQ.th).tr g2) _⟩), fun z => absurd rfl z⟩), fun z => absurd (by decide) z⟩) (fun _ => ⟨fun z => absurd rfl z, fun _ _ => H.thr h FrQ.rf 0 (by omega)⟩)))
theorem f_293 {K : Int → MM → Prop} (h : RefOK mem) (H : Fin mem K) : CWI (Ex S (n + 7)) 293 [.inr 143] mem K := by
  have key : ∀ (N : Nat) (c : Int) (m : MM), 1 ≤ c → (13 - c).toNat < N → RefOK m → FrQ mem m → Wx (Ex S (n + 6)) S M_293 (fun r m => ∃ y, r = some y ∧ K y m) 27 [some (.inr 143), some (.inl c)] [] m := by
    intro N
    induction N with
    | zero => intros; omega
    | succ N ih =>
      intro c m hc hN hm hq
      exact w_293_27 (Ex.mono S (n + 6)) ⟨fun _ _ => H.at hm hq _, fun q => f_254r hm (fun m' h1 h2 _ => ⟨fun _ => ⟨by unfold InI; omega, ih (c + 1) m' (by omega) (by omega) h1 (hq.tr h2)⟩, fun z => absurd (by decide) z⟩) (fun m' h1 h2 _ hN' _ => ⟨fun z => absurd rfl z, fun _ => f_281 h1 hN' ⟨hc, by omega⟩ (fun r m2 _ g1 g2 _ => ⟨fun _ => ⟨by unfold InI; omega, ih (c + 1) m2 (by omega) (by omega) g1 ((hq.tr h2).tr g2)⟩, fun _ _ => H.at g1 ((hq.tr h2).tr g2) _⟩)⟩)⟩
  exact CW.of (k := 1) mt_293 rfl rfl (w_293_0 (Ex.mono S (n + 6)) (f_240 h.ops (fun _ _ => ⟨fun z => absurd z (by decide), fun _ => key 13 1 _ (by omega) (by omega) (h.th' (by omega)) FrQ.th⟩) (fun _ _ => ⟨fun _ _ => H.thr h FrQ.rf 0 (by omega), fun z => absurd rfl z⟩)))
end QUICK2
/-! turning, rotary, bare of the reference -/
def SpOK (m : MM) (k : Nat) : Prop := ∀ a, a < k → -1 ≤ m 169 a ∧ m 169 a ≤ 40
theorem Fr1.rest169 {m m' : MM} (e : Fr1 169 m m') (h : RefOK m) : RefOK m' ∧ FrQ m m' :=
  ⟨Kp.rest (fun A i q => e A i (by omega)) h (fun o ho => by rw [e _ _ (by omega)]; exact h.sl o ho) (fun j hj => by rw [e _ _ (by omega), e _ _ (by omega), e _ _ (by omega), e _ _ (by omega)]; exact h.r48 j hj) (by rw [e _ _ (by omega)]; exact h.nd), fun A i q => e A i (by omega)⟩
theorem Fr1.tm169 {m m' : MM} {d : Int} (e : Fr1 169 m m') (h : TmOK m d) : TmOK m' d := fun o ho => by
  rw [e 143 1 (by omega)] at ho
  rw [e 161 o (by omega)]; exact h o ho
section TURN
variable {S : Nat × (Nat → Int32)} {n : Nat} {mem : MM} {K : Int → MM → Prop} {d : Int}
theorem f_341 (hO : OpsOK mem) (hT : TmOK mem d) (hd : 1 ≤ d ∧ d ≤ 12) {a b : Nat} {t : Int} (ha : (a : Int) < mem 143 1) (hb : (b : Int) < mem 143 1) (ht : -1000 ≤ t ∧ t ≤ 1000) (H : ∀ r, K r mem) : CWI (Ex S (n + 4)) 341 [.inr 143, .inl (a : Int), .inl (b : Int), .inl t, .inl d] mem K := by
  have h8 := hO.1
  have ta := hT a ha
  have tb := hT b hb
  have la := hO.lat (o := a) (by omega)
  have lb := hO.lat (o := b) (by omega)
  have fa := lifeF_rng hO hT hd ha
  have fb := lifeF_rng hO hT hd hb
  have p : -12000 ≤ d * t ∧ d * t ≤ 12000 := by
    have a1 : d * (-1000) ≤ d * t := Int.mul_le_mul_of_nonneg_left ht.1 (by omega)
    have a2 : d * t ≤ d * 1000 := Int.mul_le_mul_of_nonneg_left ht.2 (by omega)
    omega
  refine CW.of (k := 2) mt_341 rfl rfl (w_341_0 (Ex.mono S (n + 3)) (f_299 hO ⟨by omega, ha⟩ (by rw [Int.toNat_natCast]; omega) (fun _ => f_299 hO ⟨by omega, hb⟩ (by rw [Int.toNat_natCast]; omega) (fun _ => ?_))))
  rw [Int.toNat_natCast, Int.toNat_natCast]
  exact ⟨by unfold InI; omega, by unfold InI; omega, f_298 hO hT hd ha (fun _ => ⟨by unfold InI; omega, by unfold InI; omega, fun _ => ⟨_, rfl, H _⟩, fun _ => f_298 hO hT hd hb (fun _ => ⟨by unfold InI; omega, by unfold InI; omega, fun _ => ⟨_, rfl, H _⟩, fun _ => ⟨_, rfl, H _⟩⟩)⟩)⟩
theorem f_340 (hO : OpsOK mem) (hT : TmOK mem d) (hd : 1 ≤ d ∧ d ≤ 12) {a b : Nat} {r : Int} (hr : 1 ≤ r ∧ r ≤ 40) (ha : (a : Int) < mem 143 1) (hb : (b : Int) < mem 143 1) (sa : -1 ≤ mem 169 a ∧ mem 169 a ≤ 40) (sb : -1 ≤ mem 169 b ∧ mem 169 b ≤ 40) (H : ∀ r, K r mem) : CWI (Ex S (n + 5)) 340 [.inr 143, .inl (a : Int), .inl (b : Int), .inl d, .inl r] mem K := by
  have h8 := hO.1
  have key : ∀ (N : Nat) (y t : Int), -1000 ≤ t → t ≤ 441 → (441 - t).toNat < N → Wx (Ex S (n + 4)) S M_340 (fun r m => ∃ y, r = some y ∧ K y m) 37 [some (.inr 143), some (.inl (a : Int)), some (.inl (b : Int)), some (.inl d), some (.inl r), some (.inl y), some (.inl t)] [] mem := by
    intro N
    induction N with
    | zero => intros; omega
    | succ N ih =>
      intro y t t1 t2 hN
      have nx : ¬ 400 < t → InI (t + r) ∧ Wx (Ex S (n + 4)) S M_340 (fun r m => ∃ y, r = some y ∧ K y m) 37 [some (.inr 143), some (.inl (a : Int)), some (.inl (b : Int)), some (.inl d), some (.inl r), some (.inl y), some (.inl (t + r))] [] mem := fun z => ⟨by unfold InI; omega, ih y (t + r) (by omega) (by omega) (by omega)⟩
      exact w_340_37 (Ex.mono S (n + 4)) ⟨fun _ => ⟨_, rfl, H _⟩, fun q => ⟨fun _ => f_341 hO hT hd ha hb ⟨by omega, by omega⟩ (fun r _ => ⟨fun _ => nx q, fun _ => ⟨_, rfl, H _⟩⟩), fun _ => ⟨fun _ => nx q, fun _ => f_341 hO hT hd ha hb ⟨by omega, by omega⟩ (fun r _ => ⟨fun _ => nx q, fun _ => ⟨_, rfl, H _⟩⟩)⟩⟩⟩
  refine CW.of (k := 2) mt_340 rfl rfl (w_340_0 (Ex.mono S (n + 4)) ⟨by omega, fun v1 e1 _ => ⟨by omega, fun v2 e2 _ => ?_⟩⟩)
  rw [Int.toNat_natCast] at e1 e2
  have e := Int.mul_tdiv_add_tmod 400 r
  have e2' := tmod_r (x := 400) (y := r) (by omega) (by omega)
  rw [Int.mul_comm] at e
  exact ⟨by unfold InI; omega, f_272 ⟨by omega, by omega⟩ (fun u u1 u2 _ => ⟨by omega, by unfold InI; omega, by unfold InI; omega, by unfold InI; omega, key _ u _ (by omega) (by omega) (Nat.lt_succ_self _)⟩)⟩
theorem f_339 (hO : OpsOK mem) (hT : TmOK mem d) (hd : 1 ≤ d ∧ d ≤ 12) {o : Nat} {x r : Int} (hr : 1 ≤ r ∧ r ≤ 40) (hx : 0 ≤ x ∧ x ≤ 40) (ho : (o : Int) < mem 143 1) (hs : SpOK mem o) (H : ∀ r, K r (upm mem 169 o x)) : CWI (Ex S (n + 6)) 339 [.inr 143, .inl (o : Int), .inl x, .inl d, .inl r] mem K := by
  have h8 := hO.1
  have hO' : OpsOK (upm mem 169 o x) := hO
  have hT' : TmOK (upm mem 169 o x) d := hT
  have hso : -1 ≤ upm mem 169 o x 169 o ∧ upm mem 169 o x 169 o ≤ 40 := by rw [upm_eq]; omega
  have key : ∀ (N : Nat) (a : Nat), a ≤ o → o - a < N → Wx (Ex S (n + 5)) S M_339 (fun r m => ∃ y, r = some y ∧ K y m) 24 [some (.inr 143), some (.inl (o : Int)), some (.inl x), some (.inl d), some (.inl r), some (.inl (a : Int))] [] (upm mem 169 o x) := by
    intro N
    induction N with
    | zero => intros; omega
    | succ N ih =>
      intro a ha hN
      refine w_339_24 (Ex.mono S (n + 5)) ⟨fun _ => ⟨_, rfl, H _⟩, fun q => ?_⟩
      have hsa : -1 ≤ upm mem 169 o x 169 a ∧ upm mem 169 o x 169 a ≤ 40 := by rw [upm_ne (by omega)]; exact hs a (by omega)
      have ha1 : (a : Int) < upm mem 169 o x 143 1 := by rw [upm_ne (by omega)]; omega
      exact f_298 hO' hT' hd ha1 (fun _ => ⟨fun _ => ⟨by unfold InI; omega, ih (a + 1) (by omega) (by omega)⟩, fun _ => f_340 hO' hT' hd hr ha1 ho hsa hso (fun r _ => ⟨fun _ => ⟨by unfold InI; omega, ih (a + 1) (by omega) (by omega)⟩, fun _ => ⟨_, rfl, H _⟩⟩)⟩)
  refine CW.of (k := 1) mt_339 rfl rfl (w_339_0 (Ex.mono S (n + 5)) ⟨by omega, ?_⟩)
  rw [Int.toNat_natCast]
  exact f_340 hO' hT' hd hr ho ho hso hso (fun r _ => ⟨fun _ => key _ 0 (by omega) (Nat.lt_succ_self _), fun _ => ⟨_, rfl, H _⟩⟩)
theorem f_338 (hO : OpsOK mem) (hT : TmOK mem d) (hd : 1 ≤ d ∧ d ≤ 12) {r : Int} (hr : 1 ≤ r ∧ r ≤ 40) (H : ∀ y m', Fr1 169 mem m' → K y m') : CWI (Ex S (n + 7)) 338 [.inr 143, .inl d, .inl r] mem K := by
  have h8 := hO.1
  have spu : ∀ (m : MM) (o : Nat) (x : Int), SpOK m o → -1 ≤ x → x ≤ 40 → SpOK (upm m 169 o x) (o + 1) := fun m o x h x1 x2 a ha => by
    by_cases e : a = o
    · subst e; rw [upm_eq]; omega
    · rw [upm_ne (fun z => e z.2)]; exact h a (by omega)
  have key : ∀ (N : Nat) (o : Nat) (m : MM), (o : Int) ≤ mem 143 1 → (mem 143 1 - o).toNat < N → Fr1 169 mem m → SpOK m o → Wx (Ex S (n + 6)) S M_338 (fun r m => ∃ y, r = some y ∧ K y m) 2 [some (.inr 143), some (.inl d), some (.inl r), some (.inl (o : Int)), none] [] m := by
    intro N
    induction N with
    | zero => intros; omega
    | succ N ih =>
      intro o m ho hN hF hS
      have e1' : m 143 1 = mem 143 1 := hF _ _ (by omega)
      refine w_338_2 (Ex.mono S (n + 6)) (fun v1 e1 _ => ⟨fun q v2 _ _ _ => ⟨_, rfl, H _ _ hF⟩, fun q => ⟨by omega, ?_⟩⟩)
      rw [Int.toNat_natCast]
      have up : ∀ (m : MM) (x : Int), Fr1 169 mem m → Fr1 169 mem (upm m 169 o x) := fun m x h => h.tr Fr1.up
      have opsF : ∀ m, Fr1 169 mem m → OpsOK m := fun m h => by
        refine ⟨by rw [h 143 1 (by omega)]; exact hO.1, fun u hu => ?_, fun i hi => by rw [h 151 i (by omega)]; exact hO.2.2 i hi⟩
        have := hO.2.1 u hu
        unfold OpOK at this ⊢
        rw [h 144 u (by omega), h 145 u (by omega), h 146 u (by omega), h 147 u (by omega), h 148 u (by omega)]
        exact this
      have inner : ∀ (N' : Nat) (x : Int) (m' : MM), 0 ≤ x → x ≤ r → (r - x).toNat < N' → Fr1 169 mem m' → SpOK m' o → Wx (Ex S (n + 6)) S M_338 (fun r m => ∃ y, r = some y ∧ K y m) 32 [some (.inr 143), some (.inl d), some (.inl r), some (.inl (o : Int)), some (.inl x)] [] m' := by
        intro N'
        induction N' with
        | zero => intros; omega
        | succ N' ih2 =>
          intro x m' x1 x2 hN' hF' hS'
          have e2' : m' 143 1 = mem 143 1 := hF' _ _ (by omega)
          have fin : ∀ m2, Fr1 169 mem m2 → SpOK m2 o → (¬ x = r → ((0 : Int) ≤ (o : Int) ∧ ((o : Int) : Int) < 8) ∧ (InI ((o : Int) + 1)) ∧ (Wx (Ex S (n + 6)) S M_338 (fun r m => ∃ y, r = some y ∧ K y m) 2 [some (.inr 143), some (.inl d), some (.inl r), some (.inl ((o : Int) + 1)), none] [] (upm m2 169 (Int.toNat (o : Int)) x))) ∧ (¬ (¬ x = r) → ((0 : Int) ≤ (o : Int) ∧ ((o : Int) : Int) < 8) ∧ (InI (o : Int) → ∃ y, some (o : Int) = some y ∧ K y (upm m2 169 (Int.toNat (o : Int)) (-1)))) := fun m2 g1 g2 => by
            rw [Int.toNat_natCast]
            exact ⟨fun _ => ⟨by omega, by unfold InI; omega, ih (o + 1) _ (by omega) (by omega) (up _ _ g1) (spu _ _ _ g2 (by omega) (by omega))⟩, fun _ => ⟨by omega, fun _ => ⟨_, rfl, H _ _ (up _ _ g1)⟩⟩⟩
          refine w_338_32 (Ex.mono S (n + 6)) ⟨fun _ => fin m' hF' hS', fun q2 => f_339 (opsF _ hF') (hF'.tm169 hT) hd hr ⟨x1, by omega⟩ (by omega) hS' (fun u _ => ?_)⟩
          have s2 : SpOK (upm m' 169 o x) o := fun a ha => spu m' o x hS' (by omega) (by omega) a (by omega)
          exact ⟨fun _ => fin _ (up _ _ hF') s2, fun _ => ⟨by unfold InI; omega, ih2 (x + 1) _ (by omega) (by omega) (by omega) (up _ _ hF') s2⟩⟩
      have hF2 := up m (-1) hF
      have s3 : SpOK (upm m 169 o (-1)) (o + 1) := spu m o (-1) hS (by omega) (by omega)
      have h21 : (o : Int) < upm m 169 o (-1) 143 1 := by rw [upm_ne (by omega)]; omega
      exact f_298 (opsF _ hF2) (hF2.tm169 hT) hd h21 (fun _ => ⟨fun _ => inner _ 0 _ (by omega) (by omega) (Nat.lt_succ_self _) hF2 (fun a ha => s3 a (by omega)), fun _ => ⟨by unfold InI; omega, ih (o + 1) _ (by omega) (by omega) hF2 s3⟩⟩)
  exact CW.of (k := 2) mt_338 rfl rfl (w_338_0 (Ex.mono S (n + 6)) (key 9 0 mem (by omega) (by omega) Fr1.rf (fun a ha => by omega)))
theorem f_337 (h : RefOK mem) (H : Fin mem K) : CWI (Ex S (n + 8)) 337 [.inr 143, .inl d] mem K := by
  refine CW.of (k := 1) mt_337 rfl rfl (w_337_0 (Ex.mono S (n + 7)) (f_253 (fun d1 d2 _ => ⟨fun _ => f_268r h ⟨d1, d2⟩ (fun m' h1 h2 hk _ _ h5 _ => ⟨fun _ => ?_, fun z => absurd (by decide) z⟩) (fun m' h1 h2 _ => ⟨fun z => absurd rfl z, fun _ _ => H.thr h1 h2 0 (by omega)⟩), fun z => absurd (by decide) z⟩) (fun _ => ⟨fun z => absurd rfl z, fun _ _ => H.thr h FrQ.rf 0 (by omega)⟩)))
  have key : ∀ (N : Nat) (r : Int) (m : MM), 1 ≤ r → (41 - r).toNat < N → RefOK m → FrQ mem m → TmOK m d → Wx (Ex S (n + 7)) S M_337 (fun r m => ∃ y, r = some y ∧ K y m) 39 [some (.inr 143), some (.inl d), some (.inl r)] [] m := by
    intro N
    induction N with
    | zero => intros; omega
    | succ N ih =>
      intro r m hr hN hm hq hT
      refine w_337_39 (Ex.mono S (n + 7)) ⟨fun _ _ => H.at hm hq _, fun q => f_338 hm.ops hT ⟨d1, d2⟩ ⟨hr, by omega⟩ (fun y m2 k2 _ v3 _ _ => ?_)⟩
      obtain ⟨g1, g2⟩ := k2.rest169 hm
      exact ⟨fun _ => ⟨by unfold InI; omega, ih (r + 1) m2 (by omega) (by omega) g1 (hq.tr g2) (k2.tm169 hT)⟩, fun _ _ => H.at g1 (hq.tr g2) _⟩
  exact key 41 1 _ (by omega) (by omega) (h1.th' (by omega)) (h2.tr FrQ.th) h5.th
theorem f_342 {a r : Int} (h : RefOK mem) (H : Fin mem K) : CWI (Ex S (n + 8)) 342 [.inr 143, .inl a, .inl d, .inl r] mem K := by
  have h8 := h.ops.1
  refine CW.of (k := 0) mt_342 rfl rfl (w_342_0 (Ex.mono S (n + 7)) (f_235 h8 (fun a1 a2 _ => ⟨fun _ => f_253 (fun d1 d2 _ => ⟨fun z => absurd z (by decide), fun _ => f_227 (fun r1 r2 _ => ⟨fun _ => f_268r h ⟨d1, d2⟩ (fun m' h1 h2 hk _ _ h5 _ => ⟨fun _ => ?_, fun z => absurd (by decide) z⟩) (fun m' h1 h2 _ => ⟨fun z => absurd rfl z, fun _ _ => H.thr h1 h2 0 (by omega)⟩), fun z => absurd (by decide) z⟩) (fun _ _ => ⟨fun z => absurd rfl z, fun _ _ => H.thr h FrQ.rf 0 (by omega)⟩)⟩) (fun _ => ⟨fun _ _ => H.thr h FrQ.rf 0 (by omega), fun z => absurd rfl z⟩), fun z => absurd (by decide) z⟩) (fun _ => ⟨fun z => absurd rfl z, fun _ _ => H.thr h FrQ.rf 0 (by omega)⟩)))
  have hm := h1.th' (z := 0) (by omega)
  refine f_338 hm.ops h5.th ⟨d1, d2⟩ ⟨r1, r2⟩ (fun y m2 k2 _ => ?_)
  obtain ⟨g1, g2⟩ := k2.rest169 hm
  exact ⟨fun _ _ => H.at g1 ((h2.tr FrQ.th).tr g2) _, fun _ => ⟨by omega, fun v _ _ _ => H.at g1 ((h2.tr FrQ.th).tr g2) _⟩⟩
/-- laysBare -/
def FrB (m m' : MM) : Prop := ∀ A i, ¬ A = 171 → ¬ A = 172 → m' A i = m A i
theorem f_360 {K : MM → Prop} (hO : OpsOK mem) (hW : ∀ a b : Nat, (a : Int) < mem 143 1 → (b : Int) < mem 143 1 → -5000 ≤ mem 158 (8 * a + b) ∧ mem 158 (8 * a + b) ≤ 5000) (H : ∀ m', FrB mem m' → K m') : CWV (Ex S (n + 2)) 360 [.inr 143, .inl d] mem K := by
  have h8 := hO.1
  have opsF : ∀ m, FrB mem m → OpsOK m := fun m h => by
    refine ⟨by rw [h 143 1 (by omega) (by omega)]; exact hO.1, fun u hu => ?_, fun i hi => by rw [h 151 i (by omega) (by omega)]; exact hO.2.2 i hi⟩
    have := hO.2.1 u hu
    unfold OpOK at this ⊢
    rw [h 144 u (by omega) (by omega), h 145 u (by omega) (by omega), h 146 u (by omega) (by omega), h 147 u (by omega) (by omega), h 148 u (by omega) (by omega)]
    exact this
  have upB : ∀ (m : MM) (A i : Nat) (x : Int), A = 171 ∨ A = 172 → FrB mem m → FrB mem (upm m A i x) := fun m A i x hA h B j e1 e2 => by rw [upm_ne (by omega)]; exact h B j e1 e2
  have i8 : ∀ a b : Nat, (8 * (a : Int) + (b : Int)).toNat = 8 * a + b := fun a b => by omega
  -- the greatest times
  have l89 : ∀ (N : Nat) (e : Int) (o : Nat) (m : MM), 0 ≤ e → e ≤ 6000 → (o : Int) ≤ mem 143 1 → (mem 143 1 - o).toNat < N → FrB mem m → Wx (Ex S (n + 1)) S M_360 (fun r m => r = none ∧ K m) 89 [some (.inr 143), some (.inl d), some (.inl e), some (.inl (o : Int)), none] [] m := by
    intro N
    induction N with
    | zero => intros; omega
    | succ N ih =>
      intro e o m he1 he2 ho hN hF
      have e1' : m 143 1 = mem 143 1 := hF _ _ (by omega) (by omega)
      refine w_360_89 (Ex.mono S (n + 1)) (fun v1 e1 _ => ⟨fun _ => ⟨rfl, H m hF⟩, fun q => f_246 (opsF m hF) ⟨by omega, by omega⟩ (fun _ => ?_)⟩)
      rw [Int.toNat_natCast]
      have hl := (opsF m hF).lat (o := o) (by omega)
      have inner : ∀ (N' : Nat) (b : Nat) (m' : MM), (b : Int) ≤ mem 143 1 → (mem 143 1 - b).toNat < N' → FrB mem m' → Wx (Ex S (n + 1)) S M_360 (fun r m => r = none ∧ K m) 113 [some (.inr 143), some (.inl d), some (.inl e), some (.inl (o : Int)), some (.inl (b : Int))] [] m' := by
        intro N'
        induction N' with
        | zero => intros; omega
        | succ N' ih2 =>
          intro b m' hb hN' hF'
          have e2' : m' 143 1 = mem 143 1 := hF' _ _ (by omega) (by omega)
          refine w_360_113 (Ex.mono S (n + 1)) (fun v1 e1 _ => ⟨fun _ => ⟨by unfold InI; omega, ih e (o + 1) m' he1 he2 (by omega) (by omega) hF'⟩, fun q2 => ⟨by unfold InI; omega, by unfold InI; omega, by omega, fun v2 e2 _ => ⟨fun _ => ⟨by unfold InI; omega, ih2 (b + 1) m' (by omega) (by omega) hF'⟩, fun _ => ⟨by omega, fun v3 _ _ => f_246 (opsF m' hF') ⟨by omega, by omega⟩ (fun _ => ?_)⟩⟩⟩⟩)
          rw [Int.toNat_natCast]
          have hlb := (opsF m' hF').lat (o := b) (by omega)
          refine ⟨by unfold InI; omega, by unfold InI; omega, by unfold InI; omega, by omega, fun v6 e6 _ => ?_⟩
          rw [i8, hF' _ _ (by omega) (by omega)] at e6
          have hw := hW o b (by omega) (by omega)
          exact ⟨by unfold InI; omega, f_258 (fun _ _ => ⟨by omega, by unfold InI; omega, ih2 (b + 1) _ (by omega) (by omega) (upB _ _ _ _ (Or.inr rfl) hF')⟩)⟩
      exact ⟨by unfold InI; omega, by omega, inner 9 0 _ (by omega) (by omega) (upB _ _ _ _ (Or.inr rfl) hF)⟩
  -- the least times
  have l4 : ∀ (N : Nat) (e : Int) (o : Nat) (m : MM), 0 ≤ e → e ≤ 5006 → (o : Int) ≤ mem 143 1 → (mem 143 1 - o).toNat < N → FrB mem m → Wx (Ex S (n + 1)) S M_360 (fun r m => r = none ∧ K m) 4 [some (.inr 143), some (.inl d), some (.inl e), some (.inl (o : Int)), none] [] m := by
    intro N
    induction N with
    | zero => intros; omega
    | succ N ih =>
      intro e o m he1 he2 ho hN hF
      have e1' : m 143 1 = mem 143 1 := hF _ _ (by omega) (by omega)
      refine w_360_4 (Ex.mono S (n + 1)) (fun v1 e1 _ => ⟨fun _ => l89 9 e 0 m he1 (by omega) (by omega) (by omega) hF, fun q => ⟨by omega, ?_⟩⟩)
      rw [Int.toNat_natCast]
      have inner : ∀ (N' : Nat) (a : Nat) (m' : MM), (a : Int) ≤ mem 143 1 → (mem 143 1 - a).toNat < N' → FrB mem m' → 0 ≤ m' 171 o → m' 171 o ≤ 5000 → Wx (Ex S (n + 1)) S M_360 (fun r m => r = none ∧ K m) 22 [some (.inr 143), some (.inl d), some (.inl e), some (.inl (o : Int)), some (.inl (a : Int))] [] m' := by
        intro N'
        induction N' with
        | zero => intros; omega
        | succ N' ih2 =>
          intro a m' ha hN' hF' s1 s2
          have e2' : m' 143 1 = mem 143 1 := hF' _ _ (by omega) (by omega)
          refine w_360_22 (Ex.mono S (n + 1)) (fun v1 e1 _ => ⟨fun q2 => ⟨by omega, fun v2 e2 _ => f_246 (opsF m' hF') ⟨by omega, by omega⟩ (fun _ => ?_)⟩, fun q2 => ⟨by omega, fun v7 e7 _ => ⟨by unfold InI; omega, by unfold InI; omega, by omega, fun v8 e8 _ => f_257 (fun _ _ => ⟨by omega, by unfold InI; omega, ?_⟩)⟩⟩⟩)
          · rw [Int.toNat_natCast] at e2 ⊢
            have hl := (opsF m' hF').lat (o := o) (by omega)
            exact ⟨by unfold InI; omega, f_257 (fun _ _ => ⟨by unfold InI; omega, ih _ (o + 1) m' (by omega) (by omega) (by omega) (by omega) hF'⟩)⟩
          · rw [Int.toNat_natCast] at e7 ⊢
            rw [i8, hF' _ _ (by omega) (by omega)] at e8
            have hw := hW a o (by omega) (by omega)
            exact ih2 (a + 1) _ (by omega) (by omega) (upB _ _ _ _ (Or.inl rfl) hF') (by rw [upm_eq]; omega) (by rw [upm_eq]; omega)
      exact inner 9 0 _ (by omega) (by omega) (upB _ _ _ _ (Or.inl rfl) hF) (by rw [upm_eq]; omega) (by rw [upm_eq]; omega)
  exact CW.of (k := 3) mt_360 rfl rfl (w_360_0 (Ex.mono S (n + 1)) (l4 9 0 0 mem (by omega) (by omega) (by omega) (by omega) (fun _ _ _ _ => rfl)))
theorem FrB.rest {m m' : MM} (e : FrB m m') (h : RefOK m) : RefOK m' ∧ FrQ m m' :=
  ⟨Kp.rest (fun A i q => e A i (by omega) (by omega)) h (fun o ho => by rw [e _ _ (by omega) (by omega)]; exact h.sl o ho) (fun j hj => by rw [e _ _ (by omega) (by omega), e _ _ (by omega) (by omega), e _ _ (by omega) (by omega), e _ _ (by omega) (by omega)]; exact h.r48 j hj) (by rw [e _ _ (by omega) (by omega)]; exact h.nd), fun A i q => e A i (by omega) (by omega)⟩
theorem f_359 {a x : Int} (h : RefOK mem) (H : Fin mem K) : CWI (Ex S (n + 5)) 359 [.inr 143, .inl a, .inl d, .inl x] mem K := by
  have h8 := h.ops.1
  refine CW.of (k := 0) mt_359 rfl rfl (w_359_0 (Ex.mono S (n + 4)) (f_235 h8 (fun a1 a2 _ => ⟨fun _ => f_253 (fun d1 d2 _ => ⟨fun _ => f_254r h (fun m' h1 h2 _ => ⟨fun z => absurd z (by decide), fun _ _ => H.thr h1 h2 0 (by omega)⟩) (fun m' h1 h2 hk hN _ => ⟨fun _ => ?_, fun z => absurd rfl z⟩), fun z => absurd (by decide) z⟩) (fun _ => ⟨fun z => absurd rfl z, fun _ _ => H.thr h FrQ.rf 0 (by omega)⟩), fun z => absurd (by decide) z⟩) (fun _ => ⟨fun z => absurd rfl z, fun _ _ => H.thr h FrQ.rf 0 (by omega)⟩)))
  refine f_256 hN.th ⟨by omega, by omega⟩ (fun m2 k2 hW => ?_)
  obtain ⟨g1, g2⟩ := k2.rest158 (h1.th' (z := 0) (by omega))
  refine f_360 g1.ops (fun u w hu hw => hW.1 u w (by omega) (by omega)) (fun m3 k3 => ?_)
  obtain ⟨q1, q2⟩ := k3.rest g1
  exact ⟨fun _ => ⟨by omega, fun v _ _ _ => H.at q1 (((h2.tr FrQ.th).tr g2).tr q2) _⟩, fun _ => ⟨by omega, fun v _ _ _ => H.at q1 (((h2.tr FrQ.th).tr g2).tr q2) _⟩⟩
end TURN
/-! laid by wip/hand/wxg.py: the web of the class: what the paths of methods ask for -/
def WebSh (W : Nat) : Prop := shA W = some (.inr (7, [none, some (W + 1), some (W + 2), some (W + 3), some (W + 4), none, none, none])) ∧ shA (W + 1) = some (.inl 64) ∧ shA (W + 2) = some (.inl 64) ∧ shA (W + 3) = some (.inl 64) ∧ shA (W + 4) = some (.inl 64)
set_option maxRecDepth 100000 in
theorem mt_13 : MT[13]? = some M_13 := rfl
set_option maxRecDepth 100000 in
theorem mt_14 : MT[14]? = some M_14 := rfl
set_option maxRecDepth 100000 in
theorem mt_15 : MT[15]? = some M_15 := rfl
set_option maxRecDepth 100000 in
theorem mt_17 : MT[17]? = some M_17 := rfl
set_option maxRecDepth 100000 in
theorem mt_18 : MT[18]? = some M_18 := rfl
set_option maxRecDepth 100000 in
theorem mt_19 : MT[19]? = some M_19 := rfl
set_option maxRecDepth 100000 in
theorem mt_20 : MT[20]? = some M_20 := rfl
set_option maxRecDepth 100000 in
theorem mt_21 : MT[21]? = some M_21 := rfl
set_option maxRecDepth 100000 in
theorem mt_22 : MT[22]? = some M_22 := rfl
set_option maxRecDepth 100000 in
theorem mt_23 : MT[23]? = some M_23 := rfl
set_option maxRecDepth 100000 in
theorem mt_24 : MT[24]? = some M_24 := rfl
set_option maxRecDepth 100000 in
theorem mt_25 : MT[25]? = some M_25 := rfl
set_option maxRecDepth 100000 in
theorem mt_37 : MT[37]? = some M_37 := rfl
set_option maxRecDepth 100000 in
theorem mt_38 : MT[38]? = some M_38 := rfl
theorem te_13_0 : (pT M_13).find? (fun e => e.1 == 0) = some (0, .aload_n 0, 0, 0) := rfl
theorem te_13_1 : (pT M_13).find? (fun e => e.1 == 1) = some (1, .getfield 9, 0, 1) := rfl
theorem te_13_4 : (pT M_13).find? (fun e => e.1 == 4) = some (4, .iload_n 1, 0, 0) := rfl
theorem te_13_5 : (pT M_13).find? (fun e => e.1 == 5) = some (5, .iaload, 0, 0) := rfl
theorem te_13_6 : (pT M_13).find? (fun e => e.1 == 6) = some (6, .iconst 4, 0, 0) := rfl
theorem te_13_7 : (pT M_13).find? (fun e => e.1 == 7) = some (7, .if_icmp .ne 5, 0, 0) := rfl
theorem te_13_10 : (pT M_13).find? (fun e => e.1 == 10) = some (10, .iconst 0, 0, 0) := rfl
theorem te_13_11 : (pT M_13).find? (fun e => e.1 == 11) = some (11, .ireturn, 0, 0) := rfl
theorem te_13_12 : (pT M_13).find? (fun e => e.1 == 12) = some (12, .aload_n 0, 0, 0) := rfl
theorem te_13_13 : (pT M_13).find? (fun e => e.1 == 13) = some (13, .getfield 9, 0, 1) := rfl
theorem te_13_16 : (pT M_13).find? (fun e => e.1 == 16) = some (16, .iload_n 1, 0, 0) := rfl
theorem te_13_17 : (pT M_13).find? (fun e => e.1 == 17) = some (17, .iaload, 0, 0) := rfl
theorem te_13_18 : (pT M_13).find? (fun e => e.1 == 18) = some (18, .iconst 5, 0, 0) := rfl
theorem te_13_19 : (pT M_13).find? (fun e => e.1 == 19) = some (19, .if_icmp .ne 7, 0, 0) := rfl
theorem te_13_22 : (pT M_13).find? (fun e => e.1 == 22) = some (22, .iconst 1, 0, 0) := rfl
theorem te_13_23 : (pT M_13).find? (fun e => e.1 == 23) = some (23, .goto 4, 0, 0) := rfl
theorem te_13_26 : (pT M_13).find? (fun e => e.1 == 26) = some (26, .iconst 2, 0, 0) := rfl
theorem te_13_27 : (pT M_13).find? (fun e => e.1 == 27) = some (27, .ireturn, 0, 0) := rfl
theorem te_14_0 : (pT M_14).find? (fun e => e.1 == 0) = some (0, .aload_n 0, 0, 0) := rfl
theorem te_14_1 : (pT M_14).find? (fun e => e.1 == 1) = some (1, .getfield 15, 0, 2) := rfl
theorem te_14_4 : (pT M_14).find? (fun e => e.1 == 4) = some (4, .iload_n 1, 0, 0) := rfl
theorem te_14_5 : (pT M_14).find? (fun e => e.1 == 5) = some (5, .iconst 4, 0, 0) := rfl
theorem te_14_6 : (pT M_14).find? (fun e => e.1 == 6) = some (6, .imul, 0, 0) := rfl
theorem te_14_7 : (pT M_14).find? (fun e => e.1 == 7) = some (7, .iload_n 2, 0, 0) := rfl
theorem te_14_8 : (pT M_14).find? (fun e => e.1 == 8) = some (8, .iconst 2, 0, 0) := rfl
theorem te_14_9 : (pT M_14).find? (fun e => e.1 == 9) = some (9, .imul, 0, 0) := rfl
theorem te_14_10 : (pT M_14).find? (fun e => e.1 == 10) = some (10, .iadd, 0, 0) := rfl
theorem te_14_11 : (pT M_14).find? (fun e => e.1 == 11) = some (11, .iaload, 0, 0) := rfl
theorem te_14_12 : (pT M_14).find? (fun e => e.1 == 12) = some (12, .ireturn, 0, 0) := rfl
theorem te_15_0 : (pT M_15).find? (fun e => e.1 == 0) = some (0, .aload_n 0, 0, 0) := rfl
theorem te_15_1 : (pT M_15).find? (fun e => e.1 == 1) = some (1, .getfield 15, 0, 2) := rfl
theorem te_15_4 : (pT M_15).find? (fun e => e.1 == 4) = some (4, .iload_n 1, 0, 0) := rfl
theorem te_15_5 : (pT M_15).find? (fun e => e.1 == 5) = some (5, .iconst 4, 0, 0) := rfl
theorem te_15_6 : (pT M_15).find? (fun e => e.1 == 6) = some (6, .imul, 0, 0) := rfl
theorem te_15_7 : (pT M_15).find? (fun e => e.1 == 7) = some (7, .iload_n 2, 0, 0) := rfl
theorem te_15_8 : (pT M_15).find? (fun e => e.1 == 8) = some (8, .iconst 2, 0, 0) := rfl
theorem te_15_9 : (pT M_15).find? (fun e => e.1 == 9) = some (9, .imul, 0, 0) := rfl
theorem te_15_10 : (pT M_15).find? (fun e => e.1 == 10) = some (10, .iadd, 0, 0) := rfl
theorem te_15_11 : (pT M_15).find? (fun e => e.1 == 11) = some (11, .iconst 1, 0, 0) := rfl
theorem te_15_12 : (pT M_15).find? (fun e => e.1 == 12) = some (12, .iadd, 0, 0) := rfl
theorem te_15_13 : (pT M_15).find? (fun e => e.1 == 13) = some (13, .iaload, 0, 0) := rfl
theorem te_15_14 : (pT M_15).find? (fun e => e.1 == 14) = some (14, .ireturn, 0, 0) := rfl
theorem te_17_0 : (pT M_17).find? (fun e => e.1 == 0) = some (0, .aload_n 0, 0, 0) := rfl
theorem te_17_1 : (pT M_17).find? (fun e => e.1 == 1) = some (1, .iconst 0, 0, 0) := rfl
theorem te_17_2 : (pT M_17).find? (fun e => e.1 == 2) = some (2, .putfield 35, 7, 0) := rfl
theorem te_17_5 : (pT M_17).find? (fun e => e.1 == 5) = some (5, .iconst 0, 0, 0) := rfl
theorem te_17_6 : (pT M_17).find? (fun e => e.1 == 6) = some (6, .istore_n 3, 0, 0) := rfl
theorem te_17_7 : (pT M_17).find? (fun e => e.1 == 7) = some (7, .iload_n 3, 0, 0) := rfl
theorem te_17_8 : (pT M_17).find? (fun e => e.1 == 8) = some (8, .aload_n 1, 0, 0) := rfl
theorem te_17_9 : (pT M_17).find? (fun e => e.1 == 9) = some (9, .getfield 38, 0, 0) := rfl
theorem te_17_12 : (pT M_17).find? (fun e => e.1 == 12) = some (12, .if_icmp .ge 63, 0, 0) := rfl
theorem te_17_15 : (pT M_17).find? (fun e => e.1 == 15) = some (15, .iconst 0, 0, 0) := rfl
theorem te_17_16 : (pT M_17).find? (fun e => e.1 == 16) = some (16, .istore 4, 0, 0) := rfl
theorem te_17_18 : (pT M_17).find? (fun e => e.1 == 18) = some (18, .iload 4, 0, 0) := rfl
theorem te_17_20 : (pT M_17).find? (fun e => e.1 == 20) = some (20, .aload_n 1, 0, 0) := rfl
theorem te_17_21 : (pT M_17).find? (fun e => e.1 == 21) = some (21, .iload_n 3, 0, 0) := rfl
theorem te_17_22 : (pT M_17).find? (fun e => e.1 == 22) = some (22, .invokevirtual 41, 13, 1) := rfl
theorem te_17_25 : (pT M_17).find? (fun e => e.1 == 25) = some (25, .if_icmp .ge 44, 0, 0) := rfl
theorem te_17_28 : (pT M_17).find? (fun e => e.1 == 28) = some (28, .aload_n 1, 0, 0) := rfl
theorem te_17_29 : (pT M_17).find? (fun e => e.1 == 29) = some (29, .iload_n 3, 0, 0) := rfl
theorem te_17_30 : (pT M_17).find? (fun e => e.1 == 30) = some (30, .iload 4, 0, 0) := rfl
theorem te_17_32 : (pT M_17).find? (fun e => e.1 == 32) = some (32, .invokevirtual 45, 14, 1) := rfl
theorem te_17_35 : (pT M_17).find? (fun e => e.1 == 35) = some (35, .istore 5, 0, 0) := rfl
theorem te_17_37 : (pT M_17).find? (fun e => e.1 == 37) = some (37, .iload 5, 0, 0) := rfl
theorem te_17_39 : (pT M_17).find? (fun e => e.1 == 39) = some (39, .ifCond .lt 24, 0, 0) := rfl
theorem te_17_42 : (pT M_17).find? (fun e => e.1 == 42) = some (42, .aload_n 0, 0, 0) := rfl
theorem te_17_43 : (pT M_17).find? (fun e => e.1 == 43) = some (43, .iload 5, 0, 0) := rfl
theorem te_17_45 : (pT M_17).find? (fun e => e.1 == 45) = some (45, .iload_n 3, 0, 0) := rfl
theorem te_17_46 : (pT M_17).find? (fun e => e.1 == 46) = some (46, .aload_n 1, 0, 0) := rfl
theorem te_17_47 : (pT M_17).find? (fun e => e.1 == 47) = some (47, .iload_n 3, 0, 0) := rfl
theorem te_17_48 : (pT M_17).find? (fun e => e.1 == 48) = some (48, .iload 4, 0, 0) := rfl
theorem te_17_50 : (pT M_17).find? (fun e => e.1 == 50) = some (50, .invokevirtual 48, 15, 1) := rfl
theorem te_17_53 : (pT M_17).find? (fun e => e.1 == 53) = some (53, .aload_n 1, 0, 0) := rfl
theorem te_17_54 : (pT M_17).find? (fun e => e.1 == 54) = some (54, .iload 5, 0, 0) := rfl
theorem te_17_56 : (pT M_17).find? (fun e => e.1 == 56) = some (56, .iload_n 2, 0, 0) := rfl
theorem te_17_57 : (pT M_17).find? (fun e => e.1 == 57) = some (57, .invokestatic 51, 18, 2) := rfl
theorem te_17_60 : (pT M_17).find? (fun e => e.1 == 60) = some (60, .invokevirtual 55, 20, 0) := rfl
theorem te_17_63 : (pT M_17).find? (fun e => e.1 == 63) = some (63, .iinc 4 1, 0, 0) := rfl
theorem te_17_66 : (pT M_17).find? (fun e => e.1 == 66) = some (66, .goto (-48), 0, 0) := rfl
theorem te_17_69 : (pT M_17).find? (fun e => e.1 == 69) = some (69, .iinc 3 1, 0, 0) := rfl
theorem te_17_72 : (pT M_17).find? (fun e => e.1 == 72) = some (72, .goto (-65), 0, 0) := rfl
theorem te_17_75 : (pT M_17).find? (fun e => e.1 == 75) = some (75, .iconst 0, 0, 0) := rfl
theorem te_17_76 : (pT M_17).find? (fun e => e.1 == 76) = some (76, .istore_n 3, 0, 0) := rfl
theorem te_17_77 : (pT M_17).find? (fun e => e.1 == 77) = some (77, .iload_n 3, 0, 0) := rfl
theorem te_17_78 : (pT M_17).find? (fun e => e.1 == 78) = some (78, .aload_n 1, 0, 0) := rfl
theorem te_17_79 : (pT M_17).find? (fun e => e.1 == 79) = some (79, .getfield 38, 0, 0) := rfl
theorem te_17_82 : (pT M_17).find? (fun e => e.1 == 82) = some (82, .if_icmp .ge 38, 0, 0) := rfl
theorem te_17_85 : (pT M_17).find? (fun e => e.1 == 85) = some (85, .iload_n 3, 0, 0) := rfl
theorem te_17_86 : (pT M_17).find? (fun e => e.1 == 86) = some (86, .iconst 1, 0, 0) := rfl
theorem te_17_87 : (pT M_17).find? (fun e => e.1 == 87) = some (87, .iadd, 0, 0) := rfl
theorem te_17_88 : (pT M_17).find? (fun e => e.1 == 88) = some (88, .istore 4, 0, 0) := rfl
theorem te_17_90 : (pT M_17).find? (fun e => e.1 == 90) = some (90, .iload 4, 0, 0) := rfl
theorem te_17_92 : (pT M_17).find? (fun e => e.1 == 92) = some (92, .aload_n 1, 0, 0) := rfl
theorem te_17_93 : (pT M_17).find? (fun e => e.1 == 93) = some (93, .getfield 38, 0, 0) := rfl
theorem te_17_96 : (pT M_17).find? (fun e => e.1 == 96) = some (96, .if_icmp .ge 18, 0, 0) := rfl
theorem te_17_99 : (pT M_17).find? (fun e => e.1 == 99) = some (99, .aload_n 0, 0, 0) := rfl
theorem te_17_100 : (pT M_17).find? (fun e => e.1 == 100) = some (100, .aload_n 1, 0, 0) := rfl
theorem te_17_101 : (pT M_17).find? (fun e => e.1 == 101) = some (101, .iload_n 3, 0, 0) := rfl
theorem te_17_102 : (pT M_17).find? (fun e => e.1 == 102) = some (102, .iload 4, 0, 0) := rfl
theorem te_17_104 : (pT M_17).find? (fun e => e.1 == 104) = some (104, .iload_n 2, 0, 0) := rfl
theorem te_17_105 : (pT M_17).find? (fun e => e.1 == 105) = some (105, .invokevirtual 59, 23, 0) := rfl
theorem te_17_108 : (pT M_17).find? (fun e => e.1 == 108) = some (108, .iinc 4 1, 0, 0) := rfl
theorem te_17_111 : (pT M_17).find? (fun e => e.1 == 111) = some (111, .goto (-21), 0, 0) := rfl
theorem te_17_114 : (pT M_17).find? (fun e => e.1 == 114) = some (114, .iinc 3 1, 0, 0) := rfl
theorem te_17_117 : (pT M_17).find? (fun e => e.1 == 117) = some (117, .goto (-40), 0, 0) := rfl
theorem te_17_120 : (pT M_17).find? (fun e => e.1 == 120) = some (120, .return_, 0, 0) := rfl
theorem te_18_0 : (pT M_18).find? (fun e => e.1 == 0) = some (0, .aload_n 0, 0, 0) := rfl
theorem te_18_1 : (pT M_18).find? (fun e => e.1 == 1) = some (1, .iload_n 1, 0, 0) := rfl
theorem te_18_2 : (pT M_18).find? (fun e => e.1 == 2) = some (2, .invokevirtual 63, 19, 1) := rfl
theorem te_18_5 : (pT M_18).find? (fun e => e.1 == 5) = some (5, .istore_n 3, 0, 0) := rfl
theorem te_18_6 : (pT M_18).find? (fun e => e.1 == 6) = some (6, .aload_n 0, 0, 0) := rfl
theorem te_18_7 : (pT M_18).find? (fun e => e.1 == 7) = some (7, .getfield 66, 0, 1) := rfl
theorem te_18_10 : (pT M_18).find? (fun e => e.1 == 10) = some (10, .iload_n 1, 0, 0) := rfl
theorem te_18_11 : (pT M_18).find? (fun e => e.1 == 11) = some (11, .iaload, 0, 0) := rfl
theorem te_18_12 : (pT M_18).find? (fun e => e.1 == 12) = some (12, .iload_n 2, 0, 0) := rfl
theorem te_18_13 : (pT M_18).find? (fun e => e.1 == 13) = some (13, .if_icmp .ne 9, 0, 0) := rfl
theorem te_18_16 : (pT M_18).find? (fun e => e.1 == 16) = some (16, .iload_n 3, 0, 0) := rfl
theorem te_18_17 : (pT M_18).find? (fun e => e.1 == 17) = some (17, .iconst 1, 0, 0) := rfl
theorem te_18_18 : (pT M_18).find? (fun e => e.1 == 18) = some (18, .isub, 0, 0) := rfl
theorem te_18_19 : (pT M_18).find? (fun e => e.1 == 19) = some (19, .goto 4, 0, 0) := rfl
theorem te_18_22 : (pT M_18).find? (fun e => e.1 == 22) = some (22, .iload_n 3, 0, 0) := rfl
theorem te_18_23 : (pT M_18).find? (fun e => e.1 == 23) = some (23, .ireturn, 0, 0) := rfl
theorem te_19_0 : (pT M_19).find? (fun e => e.1 == 0) = some (0, .aload_n 0, 0, 0) := rfl
theorem te_19_1 : (pT M_19).find? (fun e => e.1 == 1) = some (1, .getfield 24, 0, 5) := rfl
theorem te_19_4 : (pT M_19).find? (fun e => e.1 == 4) = some (4, .aload_n 0, 0, 0) := rfl
theorem te_19_5 : (pT M_19).find? (fun e => e.1 == 5) = some (5, .getfield 9, 0, 1) := rfl
theorem te_19_8 : (pT M_19).find? (fun e => e.1 == 8) = some (8, .iload_n 1, 0, 0) := rfl
theorem te_19_9 : (pT M_19).find? (fun e => e.1 == 9) = some (9, .iaload, 0, 0) := rfl
theorem te_19_10 : (pT M_19).find? (fun e => e.1 == 10) = some (10, .iaload, 0, 0) := rfl
theorem te_19_11 : (pT M_19).find? (fun e => e.1 == 11) = some (11, .ireturn, 0, 0) := rfl
theorem te_20_0 : (pT M_20).find? (fun e => e.1 == 0) = some (0, .iconst 0, 0, 0) := rfl
theorem te_20_1 : (pT M_20).find? (fun e => e.1 == 1) = some (1, .istore 5, 0, 0) := rfl
theorem te_20_3 : (pT M_20).find? (fun e => e.1 == 3) = some (3, .iconst (-1), 0, 0) := rfl
theorem te_20_4 : (pT M_20).find? (fun e => e.1 == 4) = some (4, .istore 6, 0, 0) := rfl
theorem te_20_6 : (pT M_20).find? (fun e => e.1 == 6) = some (6, .iload 5, 0, 0) := rfl
theorem te_20_8 : (pT M_20).find? (fun e => e.1 == 8) = some (8, .aload_n 0, 0, 0) := rfl
theorem te_20_9 : (pT M_20).find? (fun e => e.1 == 9) = some (9, .getfield 35, 7, 0) := rfl
theorem te_20_12 : (pT M_20).find? (fun e => e.1 == 12) = some (12, .if_icmp .ge 30, 0, 0) := rfl
theorem te_20_15 : (pT M_20).find? (fun e => e.1 == 15) = some (15, .aload_n 0, 0, 0) := rfl
theorem te_20_16 : (pT M_20).find? (fun e => e.1 == 16) = some (16, .iload 5, 0, 0) := rfl
theorem te_20_18 : (pT M_20).find? (fun e => e.1 == 18) = some (18, .iload_n 1, 0, 0) := rfl
theorem te_20_19 : (pT M_20).find? (fun e => e.1 == 19) = some (19, .iload_n 2, 0, 0) := rfl
theorem te_20_20 : (pT M_20).find? (fun e => e.1 == 20) = some (20, .iload_n 3, 0, 0) := rfl
theorem te_20_21 : (pT M_20).find? (fun e => e.1 == 21) = some (21, .iload 4, 0, 0) := rfl
theorem te_20_23 : (pT M_20).find? (fun e => e.1 == 23) = some (23, .invokevirtual 75, 21, 0) := rfl
theorem te_20_26 : (pT M_20).find? (fun e => e.1 == 26) = some (26, .istore 6, 0, 0) := rfl
theorem te_20_28 : (pT M_20).find? (fun e => e.1 == 28) = some (28, .iload 6, 0, 0) := rfl
theorem te_20_30 : (pT M_20).find? (fun e => e.1 == 30) = some (30, .ifCond .lt 6, 0, 0) := rfl
theorem te_20_33 : (pT M_20).find? (fun e => e.1 == 33) = some (33, .goto 9, 0, 0) := rfl
theorem te_20_36 : (pT M_20).find? (fun e => e.1 == 36) = some (36, .iinc 5 1, 0, 0) := rfl
theorem te_20_39 : (pT M_20).find? (fun e => e.1 == 39) = some (39, .goto (-33), 0, 0) := rfl
theorem te_20_42 : (pT M_20).find? (fun e => e.1 == 42) = some (42, .iload 5, 0, 0) := rfl
theorem te_20_44 : (pT M_20).find? (fun e => e.1 == 44) = some (44, .aload_n 0, 0, 0) := rfl
theorem te_20_45 : (pT M_20).find? (fun e => e.1 == 45) = some (45, .getfield 35, 7, 0) := rfl
theorem te_20_48 : (pT M_20).find? (fun e => e.1 == 48) = some (48, .if_icmp .ge 8, 0, 0) := rfl
theorem te_20_51 : (pT M_20).find? (fun e => e.1 == 51) = some (51, .iload 6, 0, 0) := rfl
theorem te_20_53 : (pT M_20).find? (fun e => e.1 == 53) = some (53, .ifCond .eq 12, 0, 0) := rfl
theorem te_20_56 : (pT M_20).find? (fun e => e.1 == 56) = some (56, .aload_n 0, 0, 0) := rfl
theorem te_20_57 : (pT M_20).find? (fun e => e.1 == 57) = some (57, .getfield 35, 7, 0) := rfl
theorem te_20_60 : (pT M_20).find? (fun e => e.1 == 60) = some (60, .bipush 64, 0, 0) := rfl
theorem te_20_62 : (pT M_20).find? (fun e => e.1 == 62) = some (62, .if_icmp .lt 4, 0, 0) := rfl
theorem te_20_65 : (pT M_20).find? (fun e => e.1 == 65) = some (65, .return_, 0, 0) := rfl
theorem te_20_66 : (pT M_20).find? (fun e => e.1 == 66) = some (66, .aload_n 0, 0, 0) := rfl
theorem te_20_67 : (pT M_20).find? (fun e => e.1 == 67) = some (67, .getfield 35, 7, 0) := rfl
theorem te_20_70 : (pT M_20).find? (fun e => e.1 == 70) = some (70, .istore 7, 0, 0) := rfl
theorem te_20_72 : (pT M_20).find? (fun e => e.1 == 72) = some (72, .iload 7, 0, 0) := rfl
theorem te_20_74 : (pT M_20).find? (fun e => e.1 == 74) = some (74, .iload 5, 0, 0) := rfl
theorem te_20_76 : (pT M_20).find? (fun e => e.1 == 76) = some (76, .if_icmp .le 51, 0, 0) := rfl
theorem te_20_79 : (pT M_20).find? (fun e => e.1 == 79) = some (79, .aload_n 0, 0, 0) := rfl
theorem te_20_80 : (pT M_20).find? (fun e => e.1 == 80) = some (80, .iload 7, 0, 0) := rfl
theorem te_20_82 : (pT M_20).find? (fun e => e.1 == 82) = some (82, .aload_n 0, 0, 0) := rfl
theorem te_20_83 : (pT M_20).find? (fun e => e.1 == 83) = some (83, .getfield 11, 7, 1) := rfl
theorem te_20_86 : (pT M_20).find? (fun e => e.1 == 86) = some (86, .iload 7, 0, 0) := rfl
theorem te_20_88 : (pT M_20).find? (fun e => e.1 == 88) = some (88, .iconst 1, 0, 0) := rfl
theorem te_20_89 : (pT M_20).find? (fun e => e.1 == 89) = some (89, .isub, 0, 0) := rfl
theorem te_20_90 : (pT M_20).find? (fun e => e.1 == 90) = some (90, .iaload, 0, 0) := rfl
theorem te_20_91 : (pT M_20).find? (fun e => e.1 == 91) = some (91, .aload_n 0, 0, 0) := rfl
theorem te_20_92 : (pT M_20).find? (fun e => e.1 == 92) = some (92, .getfield 15, 7, 2) := rfl
theorem te_20_95 : (pT M_20).find? (fun e => e.1 == 95) = some (95, .iload 7, 0, 0) := rfl
theorem te_20_97 : (pT M_20).find? (fun e => e.1 == 97) = some (97, .iconst 1, 0, 0) := rfl
theorem te_20_98 : (pT M_20).find? (fun e => e.1 == 98) = some (98, .isub, 0, 0) := rfl
theorem te_20_99 : (pT M_20).find? (fun e => e.1 == 99) = some (99, .iaload, 0, 0) := rfl
theorem te_20_100 : (pT M_20).find? (fun e => e.1 == 100) = some (100, .aload_n 0, 0, 0) := rfl
theorem te_20_101 : (pT M_20).find? (fun e => e.1 == 101) = some (101, .getfield 18, 7, 3) := rfl
theorem te_20_104 : (pT M_20).find? (fun e => e.1 == 104) = some (104, .iload 7, 0, 0) := rfl
theorem te_20_106 : (pT M_20).find? (fun e => e.1 == 106) = some (106, .iconst 1, 0, 0) := rfl
theorem te_20_107 : (pT M_20).find? (fun e => e.1 == 107) = some (107, .isub, 0, 0) := rfl
theorem te_20_108 : (pT M_20).find? (fun e => e.1 == 108) = some (108, .iaload, 0, 0) := rfl
theorem te_20_109 : (pT M_20).find? (fun e => e.1 == 109) = some (109, .aload_n 0, 0, 0) := rfl
theorem te_20_110 : (pT M_20).find? (fun e => e.1 == 110) = some (110, .getfield 21, 7, 4) := rfl
theorem te_20_113 : (pT M_20).find? (fun e => e.1 == 113) = some (113, .iload 7, 0, 0) := rfl
theorem te_20_115 : (pT M_20).find? (fun e => e.1 == 115) = some (115, .iconst 1, 0, 0) := rfl
theorem te_20_116 : (pT M_20).find? (fun e => e.1 == 116) = some (116, .isub, 0, 0) := rfl
theorem te_20_117 : (pT M_20).find? (fun e => e.1 == 117) = some (117, .iaload, 0, 0) := rfl
theorem te_20_118 : (pT M_20).find? (fun e => e.1 == 118) = some (118, .invokevirtual 79, 22, 0) := rfl
theorem te_20_121 : (pT M_20).find? (fun e => e.1 == 121) = some (121, .iinc 7 (-1), 0, 0) := rfl
theorem te_20_124 : (pT M_20).find? (fun e => e.1 == 124) = some (124, .goto (-52), 0, 0) := rfl
theorem te_20_127 : (pT M_20).find? (fun e => e.1 == 127) = some (127, .aload_n 0, 0, 0) := rfl
theorem te_20_128 : (pT M_20).find? (fun e => e.1 == 128) = some (128, .iload 5, 0, 0) := rfl
theorem te_20_130 : (pT M_20).find? (fun e => e.1 == 130) = some (130, .iload_n 1, 0, 0) := rfl
theorem te_20_131 : (pT M_20).find? (fun e => e.1 == 131) = some (131, .iload_n 2, 0, 0) := rfl
theorem te_20_132 : (pT M_20).find? (fun e => e.1 == 132) = some (132, .iload_n 3, 0, 0) := rfl
theorem te_20_133 : (pT M_20).find? (fun e => e.1 == 133) = some (133, .iload 4, 0, 0) := rfl
theorem te_20_135 : (pT M_20).find? (fun e => e.1 == 135) = some (135, .invokevirtual 79, 22, 0) := rfl
theorem te_20_138 : (pT M_20).find? (fun e => e.1 == 138) = some (138, .aload_n 0, 0, 0) := rfl
theorem te_20_139 : (pT M_20).find? (fun e => e.1 == 139) = some (139, .dup, 0, 0) := rfl
theorem te_20_140 : (pT M_20).find? (fun e => e.1 == 140) = some (140, .getfield 35, 7, 0) := rfl
theorem te_20_143 : (pT M_20).find? (fun e => e.1 == 143) = some (143, .iconst 1, 0, 0) := rfl
theorem te_20_144 : (pT M_20).find? (fun e => e.1 == 144) = some (144, .iadd, 0, 0) := rfl
theorem te_20_145 : (pT M_20).find? (fun e => e.1 == 145) = some (145, .putfield 35, 7, 0) := rfl
theorem te_20_148 : (pT M_20).find? (fun e => e.1 == 148) = some (148, .return_, 0, 0) := rfl
theorem te_21_0 : (pT M_21).find? (fun e => e.1 == 0) = some (0, .aload_n 0, 0, 0) := rfl
theorem te_21_1 : (pT M_21).find? (fun e => e.1 == 1) = some (1, .getfield 11, 7, 1) := rfl
theorem te_21_4 : (pT M_21).find? (fun e => e.1 == 4) = some (4, .iload_n 1, 0, 0) := rfl
theorem te_21_5 : (pT M_21).find? (fun e => e.1 == 5) = some (5, .iaload, 0, 0) := rfl
theorem te_21_6 : (pT M_21).find? (fun e => e.1 == 6) = some (6, .iload_n 2, 0, 0) := rfl
theorem te_21_7 : (pT M_21).find? (fun e => e.1 == 7) = some (7, .if_icmp .eq 12, 0, 0) := rfl
theorem te_21_10 : (pT M_21).find? (fun e => e.1 == 10) = some (10, .aload_n 0, 0, 0) := rfl
theorem te_21_11 : (pT M_21).find? (fun e => e.1 == 11) = some (11, .getfield 11, 7, 1) := rfl
theorem te_21_14 : (pT M_21).find? (fun e => e.1 == 14) = some (14, .iload_n 1, 0, 0) := rfl
theorem te_21_15 : (pT M_21).find? (fun e => e.1 == 15) = some (15, .iaload, 0, 0) := rfl
theorem te_21_16 : (pT M_21).find? (fun e => e.1 == 16) = some (16, .iload_n 2, 0, 0) := rfl
theorem te_21_17 : (pT M_21).find? (fun e => e.1 == 17) = some (17, .isub, 0, 0) := rfl
theorem te_21_18 : (pT M_21).find? (fun e => e.1 == 18) = some (18, .ireturn, 0, 0) := rfl
theorem te_21_19 : (pT M_21).find? (fun e => e.1 == 19) = some (19, .aload_n 0, 0, 0) := rfl
theorem te_21_20 : (pT M_21).find? (fun e => e.1 == 20) = some (20, .getfield 15, 7, 2) := rfl
theorem te_21_23 : (pT M_21).find? (fun e => e.1 == 23) = some (23, .iload_n 1, 0, 0) := rfl
theorem te_21_24 : (pT M_21).find? (fun e => e.1 == 24) = some (24, .iaload, 0, 0) := rfl
theorem te_21_25 : (pT M_21).find? (fun e => e.1 == 25) = some (25, .iload_n 3, 0, 0) := rfl
theorem te_21_26 : (pT M_21).find? (fun e => e.1 == 26) = some (26, .if_icmp .eq 12, 0, 0) := rfl
theorem te_21_29 : (pT M_21).find? (fun e => e.1 == 29) = some (29, .aload_n 0, 0, 0) := rfl
theorem te_21_30 : (pT M_21).find? (fun e => e.1 == 30) = some (30, .getfield 15, 7, 2) := rfl
theorem te_21_33 : (pT M_21).find? (fun e => e.1 == 33) = some (33, .iload_n 1, 0, 0) := rfl
theorem te_21_34 : (pT M_21).find? (fun e => e.1 == 34) = some (34, .iaload, 0, 0) := rfl
theorem te_21_35 : (pT M_21).find? (fun e => e.1 == 35) = some (35, .iload_n 3, 0, 0) := rfl
theorem te_21_36 : (pT M_21).find? (fun e => e.1 == 36) = some (36, .isub, 0, 0) := rfl
theorem te_21_37 : (pT M_21).find? (fun e => e.1 == 37) = some (37, .ireturn, 0, 0) := rfl
theorem te_21_38 : (pT M_21).find? (fun e => e.1 == 38) = some (38, .aload_n 0, 0, 0) := rfl
theorem te_21_39 : (pT M_21).find? (fun e => e.1 == 39) = some (39, .getfield 18, 7, 3) := rfl
theorem te_21_42 : (pT M_21).find? (fun e => e.1 == 42) = some (42, .iload_n 1, 0, 0) := rfl
theorem te_21_43 : (pT M_21).find? (fun e => e.1 == 43) = some (43, .iaload, 0, 0) := rfl
theorem te_21_44 : (pT M_21).find? (fun e => e.1 == 44) = some (44, .iload 4, 0, 0) := rfl
theorem te_21_46 : (pT M_21).find? (fun e => e.1 == 46) = some (46, .if_icmp .eq 13, 0, 0) := rfl
theorem te_21_49 : (pT M_21).find? (fun e => e.1 == 49) = some (49, .aload_n 0, 0, 0) := rfl
theorem te_21_50 : (pT M_21).find? (fun e => e.1 == 50) = some (50, .getfield 18, 7, 3) := rfl
theorem te_21_53 : (pT M_21).find? (fun e => e.1 == 53) = some (53, .iload_n 1, 0, 0) := rfl
theorem te_21_54 : (pT M_21).find? (fun e => e.1 == 54) = some (54, .iaload, 0, 0) := rfl
theorem te_21_55 : (pT M_21).find? (fun e => e.1 == 55) = some (55, .iload 4, 0, 0) := rfl
theorem te_21_57 : (pT M_21).find? (fun e => e.1 == 57) = some (57, .isub, 0, 0) := rfl
theorem te_21_58 : (pT M_21).find? (fun e => e.1 == 58) = some (58, .ireturn, 0, 0) := rfl
theorem te_21_59 : (pT M_21).find? (fun e => e.1 == 59) = some (59, .aload_n 0, 0, 0) := rfl
theorem te_21_60 : (pT M_21).find? (fun e => e.1 == 60) = some (60, .getfield 21, 7, 4) := rfl
theorem te_21_63 : (pT M_21).find? (fun e => e.1 == 63) = some (63, .iload_n 1, 0, 0) := rfl
theorem te_21_64 : (pT M_21).find? (fun e => e.1 == 64) = some (64, .iaload, 0, 0) := rfl
theorem te_21_65 : (pT M_21).find? (fun e => e.1 == 65) = some (65, .iload 5, 0, 0) := rfl
theorem te_21_67 : (pT M_21).find? (fun e => e.1 == 67) = some (67, .isub, 0, 0) := rfl
theorem te_21_68 : (pT M_21).find? (fun e => e.1 == 68) = some (68, .ireturn, 0, 0) := rfl
theorem te_22_0 : (pT M_22).find? (fun e => e.1 == 0) = some (0, .aload_n 0, 0, 0) := rfl
theorem te_22_1 : (pT M_22).find? (fun e => e.1 == 1) = some (1, .getfield 11, 7, 1) := rfl
theorem te_22_4 : (pT M_22).find? (fun e => e.1 == 4) = some (4, .iload_n 1, 0, 0) := rfl
theorem te_22_5 : (pT M_22).find? (fun e => e.1 == 5) = some (5, .iload_n 2, 0, 0) := rfl
theorem te_22_6 : (pT M_22).find? (fun e => e.1 == 6) = some (6, .iastore, 0, 0) := rfl
theorem te_22_7 : (pT M_22).find? (fun e => e.1 == 7) = some (7, .aload_n 0, 0, 0) := rfl
theorem te_22_8 : (pT M_22).find? (fun e => e.1 == 8) = some (8, .getfield 15, 7, 2) := rfl
theorem te_22_11 : (pT M_22).find? (fun e => e.1 == 11) = some (11, .iload_n 1, 0, 0) := rfl
theorem te_22_12 : (pT M_22).find? (fun e => e.1 == 12) = some (12, .iload_n 3, 0, 0) := rfl
theorem te_22_13 : (pT M_22).find? (fun e => e.1 == 13) = some (13, .iastore, 0, 0) := rfl
theorem te_22_14 : (pT M_22).find? (fun e => e.1 == 14) = some (14, .aload_n 0, 0, 0) := rfl
theorem te_22_15 : (pT M_22).find? (fun e => e.1 == 15) = some (15, .getfield 18, 7, 3) := rfl
theorem te_22_18 : (pT M_22).find? (fun e => e.1 == 18) = some (18, .iload_n 1, 0, 0) := rfl
theorem te_22_19 : (pT M_22).find? (fun e => e.1 == 19) = some (19, .iload 4, 0, 0) := rfl
theorem te_22_21 : (pT M_22).find? (fun e => e.1 == 21) = some (21, .iastore, 0, 0) := rfl
theorem te_22_22 : (pT M_22).find? (fun e => e.1 == 22) = some (22, .aload_n 0, 0, 0) := rfl
theorem te_22_23 : (pT M_22).find? (fun e => e.1 == 23) = some (23, .getfield 21, 7, 4) := rfl
theorem te_22_26 : (pT M_22).find? (fun e => e.1 == 26) = some (26, .iload_n 1, 0, 0) := rfl
theorem te_22_27 : (pT M_22).find? (fun e => e.1 == 27) = some (27, .iload 5, 0, 0) := rfl
theorem te_22_29 : (pT M_22).find? (fun e => e.1 == 29) = some (29, .iastore, 0, 0) := rfl
theorem te_22_30 : (pT M_22).find? (fun e => e.1 == 30) = some (30, .return_, 0, 0) := rfl
theorem te_23_0 : (pT M_23).find? (fun e => e.1 == 0) = some (0, .aload_n 1, 0, 0) := rfl
theorem te_23_1 : (pT M_23).find? (fun e => e.1 == 1) = some (1, .getfield 66, 0, 1) := rfl
theorem te_23_4 : (pT M_23).find? (fun e => e.1 == 4) = some (4, .iload_n 2, 0, 0) := rfl
theorem te_23_5 : (pT M_23).find? (fun e => e.1 == 5) = some (5, .iaload, 0, 0) := rfl
theorem te_23_6 : (pT M_23).find? (fun e => e.1 == 6) = some (6, .iconst 4, 0, 0) := rfl
theorem te_23_7 : (pT M_23).find? (fun e => e.1 == 7) = some (7, .if_icmp .lt 13, 0, 0) := rfl
theorem te_23_10 : (pT M_23).find? (fun e => e.1 == 10) = some (10, .aload_n 1, 0, 0) := rfl
theorem te_23_11 : (pT M_23).find? (fun e => e.1 == 11) = some (11, .getfield 66, 0, 1) := rfl
theorem te_23_14 : (pT M_23).find? (fun e => e.1 == 14) = some (14, .iload_n 3, 0, 0) := rfl
theorem te_23_15 : (pT M_23).find? (fun e => e.1 == 15) = some (15, .iaload, 0, 0) := rfl
theorem te_23_16 : (pT M_23).find? (fun e => e.1 == 16) = some (16, .iconst 4, 0, 0) := rfl
theorem te_23_17 : (pT M_23).find? (fun e => e.1 == 17) = some (17, .if_icmp .ge 4, 0, 0) := rfl
theorem te_23_20 : (pT M_23).find? (fun e => e.1 == 20) = some (20, .return_, 0, 0) := rfl
theorem te_23_21 : (pT M_23).find? (fun e => e.1 == 21) = some (21, .aload_n 1, 0, 0) := rfl
theorem te_23_22 : (pT M_23).find? (fun e => e.1 == 22) = some (22, .iload_n 2, 0, 0) := rfl
theorem te_23_23 : (pT M_23).find? (fun e => e.1 == 23) = some (23, .invokevirtual 69, 24, 1) := rfl
theorem te_23_26 : (pT M_23).find? (fun e => e.1 == 26) = some (26, .aload_n 1, 0, 0) := rfl
theorem te_23_27 : (pT M_23).find? (fun e => e.1 == 27) = some (27, .iload_n 3, 0, 0) := rfl
theorem te_23_28 : (pT M_23).find? (fun e => e.1 == 28) = some (28, .invokevirtual 69, 24, 1) := rfl
theorem te_23_31 : (pT M_23).find? (fun e => e.1 == 31) = some (31, .if_icmp .eq 4, 0, 0) := rfl
theorem te_23_34 : (pT M_23).find? (fun e => e.1 == 34) = some (34, .return_, 0, 0) := rfl
theorem te_23_35 : (pT M_23).find? (fun e => e.1 == 35) = some (35, .aload_n 1, 0, 0) := rfl
theorem te_23_36 : (pT M_23).find? (fun e => e.1 == 36) = some (36, .iload_n 2, 0, 0) := rfl
theorem te_23_37 : (pT M_23).find? (fun e => e.1 == 37) = some (37, .invokevirtual 72, 25, 1) := rfl
theorem te_23_40 : (pT M_23).find? (fun e => e.1 == 40) = some (40, .aload_n 1, 0, 0) := rfl
theorem te_23_41 : (pT M_23).find? (fun e => e.1 == 41) = some (41, .iload_n 3, 0, 0) := rfl
theorem te_23_42 : (pT M_23).find? (fun e => e.1 == 42) = some (42, .invokevirtual 72, 25, 1) := rfl
theorem te_23_45 : (pT M_23).find? (fun e => e.1 == 45) = some (45, .if_icmp .lt 7, 0, 0) := rfl
theorem te_23_48 : (pT M_23).find? (fun e => e.1 == 48) = some (48, .iconst 1, 0, 0) := rfl
theorem te_23_49 : (pT M_23).find? (fun e => e.1 == 49) = some (49, .goto 4, 0, 0) := rfl
theorem te_23_52 : (pT M_23).find? (fun e => e.1 == 52) = some (52, .iconst 0, 0, 0) := rfl
theorem te_23_53 : (pT M_23).find? (fun e => e.1 == 53) = some (53, .istore 5, 0, 0) := rfl
theorem te_23_55 : (pT M_23).find? (fun e => e.1 == 55) = some (55, .iload 5, 0, 0) := rfl
theorem te_23_57 : (pT M_23).find? (fun e => e.1 == 57) = some (57, .ifCond .eq 7, 0, 0) := rfl
theorem te_23_60 : (pT M_23).find? (fun e => e.1 == 60) = some (60, .iload_n 2, 0, 0) := rfl
theorem te_23_61 : (pT M_23).find? (fun e => e.1 == 61) = some (61, .goto 4, 0, 0) := rfl
theorem te_23_64 : (pT M_23).find? (fun e => e.1 == 64) = some (64, .iload_n 3, 0, 0) := rfl
theorem te_23_65 : (pT M_23).find? (fun e => e.1 == 65) = some (65, .istore 6, 0, 0) := rfl
theorem te_23_67 : (pT M_23).find? (fun e => e.1 == 67) = some (67, .iload 5, 0, 0) := rfl
theorem te_23_69 : (pT M_23).find? (fun e => e.1 == 69) = some (69, .ifCond .eq 7, 0, 0) := rfl
theorem te_23_72 : (pT M_23).find? (fun e => e.1 == 72) = some (72, .iload_n 3, 0, 0) := rfl
theorem te_23_73 : (pT M_23).find? (fun e => e.1 == 73) = some (73, .goto 4, 0, 0) := rfl
theorem te_23_76 : (pT M_23).find? (fun e => e.1 == 76) = some (76, .iload_n 2, 0, 0) := rfl
theorem te_23_77 : (pT M_23).find? (fun e => e.1 == 77) = some (77, .istore 7, 0, 0) := rfl
theorem te_23_79 : (pT M_23).find? (fun e => e.1 == 79) = some (79, .aload_n 1, 0, 0) := rfl
theorem te_23_80 : (pT M_23).find? (fun e => e.1 == 80) = some (80, .iload 6, 0, 0) := rfl
theorem te_23_82 : (pT M_23).find? (fun e => e.1 == 82) = some (82, .invokevirtual 72, 25, 1) := rfl
theorem te_23_85 : (pT M_23).find? (fun e => e.1 == 85) = some (85, .aload_n 1, 0, 0) := rfl
theorem te_23_86 : (pT M_23).find? (fun e => e.1 == 86) = some (86, .iload 7, 0, 0) := rfl
theorem te_23_88 : (pT M_23).find? (fun e => e.1 == 88) = some (88, .invokevirtual 72, 25, 1) := rfl
theorem te_23_91 : (pT M_23).find? (fun e => e.1 == 91) = some (91, .isub, 0, 0) := rfl
theorem te_23_92 : (pT M_23).find? (fun e => e.1 == 92) = some (92, .istore 8, 0, 0) := rfl
theorem te_23_94 : (pT M_23).find? (fun e => e.1 == 94) = some (94, .aload_n 1, 0, 0) := rfl
theorem te_23_95 : (pT M_23).find? (fun e => e.1 == 95) = some (95, .getfield 66, 0, 1) := rfl
theorem te_23_98 : (pT M_23).find? (fun e => e.1 == 98) = some (98, .iload 6, 0, 0) := rfl
theorem te_23_100 : (pT M_23).find? (fun e => e.1 == 100) = some (100, .iaload, 0, 0) := rfl
theorem te_23_101 : (pT M_23).find? (fun e => e.1 == 101) = some (101, .iconst 5, 0, 0) := rfl
theorem te_23_102 : (pT M_23).find? (fun e => e.1 == 102) = some (102, .if_icmp .ne 7, 0, 0) := rfl
theorem te_23_105 : (pT M_23).find? (fun e => e.1 == 105) = some (105, .iconst 1, 0, 0) := rfl
theorem te_23_106 : (pT M_23).find? (fun e => e.1 == 106) = some (106, .goto 4, 0, 0) := rfl
theorem te_23_109 : (pT M_23).find? (fun e => e.1 == 109) = some (109, .iconst 0, 0, 0) := rfl
theorem te_23_110 : (pT M_23).find? (fun e => e.1 == 110) = some (110, .istore 9, 0, 0) := rfl
theorem te_23_112 : (pT M_23).find? (fun e => e.1 == 112) = some (112, .aload_n 1, 0, 0) := rfl
theorem te_23_113 : (pT M_23).find? (fun e => e.1 == 113) = some (113, .getfield 66, 0, 1) := rfl
theorem te_23_116 : (pT M_23).find? (fun e => e.1 == 116) = some (116, .iload 7, 0, 0) := rfl
theorem te_23_118 : (pT M_23).find? (fun e => e.1 == 118) = some (118, .iaload, 0, 0) := rfl
theorem te_23_119 : (pT M_23).find? (fun e => e.1 == 119) = some (119, .iconst 5, 0, 0) := rfl
theorem te_23_120 : (pT M_23).find? (fun e => e.1 == 120) = some (120, .if_icmp .ne 7, 0, 0) := rfl
theorem te_23_123 : (pT M_23).find? (fun e => e.1 == 123) = some (123, .iconst 1, 0, 0) := rfl
theorem te_23_124 : (pT M_23).find? (fun e => e.1 == 124) = some (124, .goto 4, 0, 0) := rfl
theorem te_23_127 : (pT M_23).find? (fun e => e.1 == 127) = some (127, .iconst 0, 0, 0) := rfl
theorem te_23_128 : (pT M_23).find? (fun e => e.1 == 128) = some (128, .istore 10, 0, 0) := rfl
theorem te_23_130 : (pT M_23).find? (fun e => e.1 == 130) = some (130, .iload 9, 0, 0) := rfl
theorem te_23_132 : (pT M_23).find? (fun e => e.1 == 132) = some (132, .ifCond .eq 22, 0, 0) := rfl
theorem te_23_135 : (pT M_23).find? (fun e => e.1 == 135) = some (135, .iload 10, 0, 0) := rfl
theorem te_23_137 : (pT M_23).find? (fun e => e.1 == 137) = some (137, .ifCond .eq 17, 0, 0) := rfl
theorem te_23_140 : (pT M_23).find? (fun e => e.1 == 140) = some (140, .aload_n 0, 0, 0) := rfl
theorem te_23_141 : (pT M_23).find? (fun e => e.1 == 141) = some (141, .iload 6, 0, 0) := rfl
theorem te_23_143 : (pT M_23).find? (fun e => e.1 == 143) = some (143, .iload 7, 0, 0) := rfl
theorem te_23_145 : (pT M_23).find? (fun e => e.1 == 145) = some (145, .iload 8, 0, 0) := rfl
theorem te_23_147 : (pT M_23).find? (fun e => e.1 == 147) = some (147, .iconst 1, 0, 0) := rfl
theorem te_23_148 : (pT M_23).find? (fun e => e.1 == 148) = some (148, .invokevirtual 55, 20, 0) := rfl
theorem te_23_151 : (pT M_23).find? (fun e => e.1 == 151) = some (151, .goto 54, 0, 0) := rfl
theorem te_23_154 : (pT M_23).find? (fun e => e.1 == 154) = some (154, .iload 9, 0, 0) := rfl
theorem te_23_156 : (pT M_23).find? (fun e => e.1 == 156) = some (156, .ifCond .eq 24, 0, 0) := rfl
theorem te_23_159 : (pT M_23).find? (fun e => e.1 == 159) = some (159, .aload_n 0, 0, 0) := rfl
theorem te_23_160 : (pT M_23).find? (fun e => e.1 == 160) = some (160, .iload 6, 0, 0) := rfl
theorem te_23_162 : (pT M_23).find? (fun e => e.1 == 162) = some (162, .iload 7, 0, 0) := rfl
theorem te_23_164 : (pT M_23).find? (fun e => e.1 == 164) = some (164, .iload 8, 0, 0) := rfl
theorem te_23_166 : (pT M_23).find? (fun e => e.1 == 166) = some (166, .aload_n 1, 0, 0) := rfl
theorem te_23_167 : (pT M_23).find? (fun e => e.1 == 167) = some (167, .iload 6, 0, 0) := rfl
theorem te_23_169 : (pT M_23).find? (fun e => e.1 == 169) = some (169, .iload 4, 0, 0) := rfl
theorem te_23_171 : (pT M_23).find? (fun e => e.1 == 171) = some (171, .invokestatic 51, 18, 2) := rfl
theorem te_23_174 : (pT M_23).find? (fun e => e.1 == 174) = some (174, .invokevirtual 55, 20, 0) := rfl
theorem te_23_177 : (pT M_23).find? (fun e => e.1 == 177) = some (177, .goto 28, 0, 0) := rfl
theorem te_23_180 : (pT M_23).find? (fun e => e.1 == 180) = some (180, .iload 10, 0, 0) := rfl
theorem te_23_182 : (pT M_23).find? (fun e => e.1 == 182) = some (182, .ifCond .eq 23, 0, 0) := rfl
theorem te_23_185 : (pT M_23).find? (fun e => e.1 == 185) = some (185, .aload_n 0, 0, 0) := rfl
theorem te_23_186 : (pT M_23).find? (fun e => e.1 == 186) = some (186, .iload 6, 0, 0) := rfl
theorem te_23_188 : (pT M_23).find? (fun e => e.1 == 188) = some (188, .iload 7, 0, 0) := rfl
theorem te_23_190 : (pT M_23).find? (fun e => e.1 == 190) = some (190, .iload 8, 0, 0) := rfl
theorem te_23_192 : (pT M_23).find? (fun e => e.1 == 192) = some (192, .iconst 1, 0, 0) := rfl
theorem te_23_193 : (pT M_23).find? (fun e => e.1 == 193) = some (193, .aload_n 1, 0, 0) := rfl
theorem te_23_194 : (pT M_23).find? (fun e => e.1 == 194) = some (194, .iload 7, 0, 0) := rfl
theorem te_23_196 : (pT M_23).find? (fun e => e.1 == 196) = some (196, .iload 4, 0, 0) := rfl
theorem te_23_198 : (pT M_23).find? (fun e => e.1 == 198) = some (198, .invokestatic 51, 18, 2) := rfl
theorem te_23_201 : (pT M_23).find? (fun e => e.1 == 201) = some (201, .isub, 0, 0) := rfl
theorem te_23_202 : (pT M_23).find? (fun e => e.1 == 202) = some (202, .invokevirtual 55, 20, 0) := rfl
theorem te_23_205 : (pT M_23).find? (fun e => e.1 == 205) = some (205, .return_, 0, 0) := rfl
theorem te_24_0 : (pT M_24).find? (fun e => e.1 == 0) = some (0, .aload_n 0, 0, 0) := rfl
theorem te_24_1 : (pT M_24).find? (fun e => e.1 == 1) = some (1, .getfield 9, 0, 1) := rfl
theorem te_24_4 : (pT M_24).find? (fun e => e.1 == 4) = some (4, .iload_n 1, 0, 0) := rfl
theorem te_24_5 : (pT M_24).find? (fun e => e.1 == 5) = some (5, .iaload, 0, 0) := rfl
theorem te_24_6 : (pT M_24).find? (fun e => e.1 == 6) = some (6, .iconst 5, 0, 0) := rfl
theorem te_24_7 : (pT M_24).find? (fun e => e.1 == 7) = some (7, .if_icmp .ne 16, 0, 0) := rfl
theorem te_24_10 : (pT M_24).find? (fun e => e.1 == 10) = some (10, .aload_n 0, 0, 0) := rfl
theorem te_24_11 : (pT M_24).find? (fun e => e.1 == 11) = some (11, .getfield 15, 0, 2) := rfl
theorem te_24_14 : (pT M_24).find? (fun e => e.1 == 14) = some (14, .iload_n 1, 0, 0) := rfl
theorem te_24_15 : (pT M_24).find? (fun e => e.1 == 15) = some (15, .iconst 4, 0, 0) := rfl
theorem te_24_16 : (pT M_24).find? (fun e => e.1 == 16) = some (16, .imul, 0, 0) := rfl
theorem te_24_17 : (pT M_24).find? (fun e => e.1 == 17) = some (17, .iconst 2, 0, 0) := rfl
theorem te_24_18 : (pT M_24).find? (fun e => e.1 == 18) = some (18, .iadd, 0, 0) := rfl
theorem te_24_19 : (pT M_24).find? (fun e => e.1 == 19) = some (19, .iaload, 0, 0) := rfl
theorem te_24_20 : (pT M_24).find? (fun e => e.1 == 20) = some (20, .goto 11, 0, 0) := rfl
theorem te_24_23 : (pT M_24).find? (fun e => e.1 == 23) = some (23, .aload_n 0, 0, 0) := rfl
theorem te_24_24 : (pT M_24).find? (fun e => e.1 == 24) = some (24, .getfield 15, 0, 2) := rfl
theorem te_24_27 : (pT M_24).find? (fun e => e.1 == 27) = some (27, .iload_n 1, 0, 0) := rfl
theorem te_24_28 : (pT M_24).find? (fun e => e.1 == 28) = some (28, .iconst 4, 0, 0) := rfl
theorem te_24_29 : (pT M_24).find? (fun e => e.1 == 29) = some (29, .imul, 0, 0) := rfl
theorem te_24_30 : (pT M_24).find? (fun e => e.1 == 30) = some (30, .iaload, 0, 0) := rfl
theorem te_24_31 : (pT M_24).find? (fun e => e.1 == 31) = some (31, .ireturn, 0, 0) := rfl
theorem te_25_0 : (pT M_25).find? (fun e => e.1 == 0) = some (0, .aload_n 0, 0, 0) := rfl
theorem te_25_1 : (pT M_25).find? (fun e => e.1 == 1) = some (1, .getfield 9, 0, 1) := rfl
theorem te_25_4 : (pT M_25).find? (fun e => e.1 == 4) = some (4, .iload_n 1, 0, 0) := rfl
theorem te_25_5 : (pT M_25).find? (fun e => e.1 == 5) = some (5, .iaload, 0, 0) := rfl
theorem te_25_6 : (pT M_25).find? (fun e => e.1 == 6) = some (6, .iconst 5, 0, 0) := rfl
theorem te_25_7 : (pT M_25).find? (fun e => e.1 == 7) = some (7, .if_icmp .ne 16, 0, 0) := rfl
theorem te_25_10 : (pT M_25).find? (fun e => e.1 == 10) = some (10, .aload_n 0, 0, 0) := rfl
theorem te_25_11 : (pT M_25).find? (fun e => e.1 == 11) = some (11, .getfield 15, 0, 2) := rfl
theorem te_25_14 : (pT M_25).find? (fun e => e.1 == 14) = some (14, .iload_n 1, 0, 0) := rfl
theorem te_25_15 : (pT M_25).find? (fun e => e.1 == 15) = some (15, .iconst 4, 0, 0) := rfl
theorem te_25_16 : (pT M_25).find? (fun e => e.1 == 16) = some (16, .imul, 0, 0) := rfl
theorem te_25_17 : (pT M_25).find? (fun e => e.1 == 17) = some (17, .iconst 3, 0, 0) := rfl
theorem te_25_18 : (pT M_25).find? (fun e => e.1 == 18) = some (18, .iadd, 0, 0) := rfl
theorem te_25_19 : (pT M_25).find? (fun e => e.1 == 19) = some (19, .iaload, 0, 0) := rfl
theorem te_25_20 : (pT M_25).find? (fun e => e.1 == 20) = some (20, .goto 13, 0, 0) := rfl
theorem te_25_23 : (pT M_25).find? (fun e => e.1 == 23) = some (23, .aload_n 0, 0, 0) := rfl
theorem te_25_24 : (pT M_25).find? (fun e => e.1 == 24) = some (24, .getfield 15, 0, 2) := rfl
theorem te_25_27 : (pT M_25).find? (fun e => e.1 == 27) = some (27, .iload_n 1, 0, 0) := rfl
theorem te_25_28 : (pT M_25).find? (fun e => e.1 == 28) = some (28, .iconst 4, 0, 0) := rfl
theorem te_25_29 : (pT M_25).find? (fun e => e.1 == 29) = some (29, .imul, 0, 0) := rfl
theorem te_25_30 : (pT M_25).find? (fun e => e.1 == 30) = some (30, .iconst 1, 0, 0) := rfl
theorem te_25_31 : (pT M_25).find? (fun e => e.1 == 31) = some (31, .iadd, 0, 0) := rfl
theorem te_25_32 : (pT M_25).find? (fun e => e.1 == 32) = some (32, .iaload, 0, 0) := rfl
theorem te_25_33 : (pT M_25).find? (fun e => e.1 == 33) = some (33, .ireturn, 0, 0) := rfl
theorem te_37_0 : (pT M_37).find? (fun e => e.1 == 0) = some (0, .aload_n 0, 0, 0) := rfl
theorem te_37_1 : (pT M_37).find? (fun e => e.1 == 1) = some (1, .getfield 21, 0, 4) := rfl
theorem te_37_4 : (pT M_37).find? (fun e => e.1 == 4) = some (4, .aload_n 0, 0, 0) := rfl
theorem te_37_5 : (pT M_37).find? (fun e => e.1 == 5) = some (5, .getfield 9, 0, 1) := rfl
theorem te_37_8 : (pT M_37).find? (fun e => e.1 == 8) = some (8, .iload_n 1, 0, 0) := rfl
theorem te_37_9 : (pT M_37).find? (fun e => e.1 == 9) = some (9, .iaload, 0, 0) := rfl
theorem te_37_10 : (pT M_37).find? (fun e => e.1 == 10) = some (10, .iaload, 0, 0) := rfl
theorem te_37_11 : (pT M_37).find? (fun e => e.1 == 11) = some (11, .ireturn, 0, 0) := rfl
theorem te_38_0 : (pT M_38).find? (fun e => e.1 == 0) = some (0, .aload_n 0, 0, 0) := rfl
theorem te_38_1 : (pT M_38).find? (fun e => e.1 == 1) = some (1, .getfield 27, 0, 6) := rfl
theorem te_38_4 : (pT M_38).find? (fun e => e.1 == 4) = some (4, .aload_n 0, 0, 0) := rfl
theorem te_38_5 : (pT M_38).find? (fun e => e.1 == 5) = some (5, .getfield 9, 0, 1) := rfl
theorem te_38_8 : (pT M_38).find? (fun e => e.1 == 8) = some (8, .iload_n 1, 0, 0) := rfl
theorem te_38_9 : (pT M_38).find? (fun e => e.1 == 9) = some (9, .iaload, 0, 0) := rfl
theorem te_38_10 : (pT M_38).find? (fun e => e.1 == 10) = some (10, .iaload, 0, 0) := rfl
theorem te_38_11 : (pT M_38).find? (fun e => e.1 == 11) = some (11, .ireturn, 0, 0) := rfl
theorem w_13_0 {C : CXW} (hC : Cmono C) {S : Nat × (Nat → Int32)} {K : WK} {mem : MM} {x1 : Int} (H : ((0 : Int) ≤ x1 ∧ (x1 : Int) < 8) ∧ ∀ v1 : Int, v1 = mem 2 (Int.toNat x1) → InI v1 → ((¬ v1 = 4 → ((0 : Int) ≤ x1 ∧ (x1 : Int) < 8) ∧ ∀ v2 : Int, v2 = mem 2 (Int.toNat x1) → InI v2 → ((¬ v2 = 5 → (InI 2 → K (some 2) mem)) ∧ (¬ (¬ v2 = 5) → (InI 1 → K (some 1) mem)))) ∧ (¬ (¬ v1 = 4) → (InI 0 → K (some 0) mem)))) : Wx C S M_13 K 0 [some (.inr 1), some (.inl x1)] [] mem := by
  refine Wx.aload_n hC te_13_0 rfl ?_
  refine Wx.getR hC te_13_1 rfl rfl rfl ?_
  refine Wx.iload_n hC te_13_4 rfl ?_
  refine Wx.iald hC te_13_5 rfl H.1 (fun v1 e1 e2 => ?_)
  replace H := H.2 v1 e1 e2
  refine Wx.iconst hC te_13_6 rfl ?_
  refine Wx.icmp hC (t := 12) te_13_7 (by decide) (fun q => ?_) (fun q => ?_)
  · replace H := H.1 q
    refine Wx.aload_n hC te_13_12 rfl ?_
    refine Wx.getR hC te_13_13 rfl rfl rfl ?_
    refine Wx.iload_n hC te_13_16 rfl ?_
    refine Wx.iald hC te_13_17 rfl H.1 (fun v2 e1 e2 => ?_)
    replace H := H.2 v2 e1 e2
    refine Wx.iconst hC te_13_18 rfl ?_
    refine Wx.icmp hC (t := 26) te_13_19 (by decide) (fun q => ?_) (fun q => ?_)
    · replace H := H.1 q
      refine Wx.iconst hC te_13_26 rfl ?_
      exact Wx.ireturn hC te_13_27 rfl H
    · replace H := H.2 q
      refine Wx.iconst hC te_13_22 rfl ?_
      refine Wx.goto hC (t := 27) te_13_23 (by decide) ?_
      exact Wx.ireturn hC te_13_27 rfl H
  · replace H := H.2 q
    refine Wx.iconst hC te_13_10 rfl ?_
    exact Wx.ireturn hC te_13_11 rfl H
theorem w_14_0 {C : CXW} (hC : Cmono C) {S : Nat × (Nat → Int32)} {K : WK} {mem : MM} {x1 x2 : Int} (H : (InI (x1 * 4)) ∧ (InI (x2 * 2)) ∧ (InI ((x1 * 4) + (x2 * 2))) ∧ ((0 : Int) ≤ ((x1 * 4) + (x2 * 2)) ∧ (((x1 * 4) + (x2 * 2)) : Int) < 32) ∧ ∀ v1 : Int, v1 = mem 3 (Int.toNat ((x1 * 4) + (x2 * 2))) → InI v1 → (InI v1 → K (some v1) mem)) : Wx C S M_14 K 0 [some (.inr 1), some (.inl x1), some (.inl x2)] [] mem := by
  refine Wx.aload_n hC te_14_0 rfl ?_
  refine Wx.getR hC te_14_1 rfl rfl rfl ?_
  refine Wx.iload_n hC te_14_4 rfl ?_
  refine Wx.iconst hC te_14_5 rfl ?_
  refine Wx.imul hC te_14_6 H.1 ?_
  replace H := H.2
  refine Wx.iload_n hC te_14_7 rfl ?_
  refine Wx.iconst hC te_14_8 rfl ?_
  refine Wx.imul hC te_14_9 H.1 ?_
  replace H := H.2
  refine Wx.iadd hC te_14_10 H.1 ?_
  replace H := H.2
  refine Wx.iald hC te_14_11 rfl H.1 (fun v1 e1 e2 => ?_)
  replace H := H.2 v1 e1 e2
  exact Wx.ireturn hC te_14_12 rfl H
theorem w_15_0 {C : CXW} (hC : Cmono C) {S : Nat × (Nat → Int32)} {K : WK} {mem : MM} {x1 x2 : Int} (H : (InI (x1 * 4)) ∧ (InI (x2 * 2)) ∧ (InI ((x1 * 4) + (x2 * 2))) ∧ (InI (((x1 * 4) + (x2 * 2)) + 1)) ∧ ((0 : Int) ≤ (((x1 * 4) + (x2 * 2)) + 1) ∧ ((((x1 * 4) + (x2 * 2)) + 1) : Int) < 32) ∧ ∀ v1 : Int, v1 = mem 3 (Int.toNat (((x1 * 4) + (x2 * 2)) + 1)) → InI v1 → (InI v1 → K (some v1) mem)) : Wx C S M_15 K 0 [some (.inr 1), some (.inl x1), some (.inl x2)] [] mem := by
  refine Wx.aload_n hC te_15_0 rfl ?_
  refine Wx.getR hC te_15_1 rfl rfl rfl ?_
  refine Wx.iload_n hC te_15_4 rfl ?_
  refine Wx.iconst hC te_15_5 rfl ?_
  refine Wx.imul hC te_15_6 H.1 ?_
  replace H := H.2
  refine Wx.iload_n hC te_15_7 rfl ?_
  refine Wx.iconst hC te_15_8 rfl ?_
  refine Wx.imul hC te_15_9 H.1 ?_
  replace H := H.2
  refine Wx.iadd hC te_15_10 H.1 ?_
  replace H := H.2
  refine Wx.iconst hC te_15_11 rfl ?_
  refine Wx.iadd hC te_15_12 H.1 ?_
  replace H := H.2
  refine Wx.iald hC te_15_13 rfl H.1 (fun v1 e1 e2 => ?_)
  replace H := H.2 v1 e1 e2
  exact Wx.ireturn hC te_15_14 rfl H
theorem w_19_0 {C : CXW} (hC : Cmono C) {S : Nat × (Nat → Int32)} {K : WK} {mem : MM} {x1 : Int} (H : ((0 : Int) ≤ x1 ∧ (x1 : Int) < 8) ∧ ∀ v1 : Int, v1 = mem 2 (Int.toNat x1) → InI v1 → ((0 : Int) ≤ v1 ∧ (v1 : Int) < 6) ∧ ∀ v2 : Int, v2 = mem 6 (Int.toNat v1) → InI v2 → (InI v2 → K (some v2) mem)) : Wx C S M_19 K 0 [some (.inr 1), some (.inl x1)] [] mem := by
  refine Wx.aload_n hC te_19_0 rfl ?_
  refine Wx.getR hC te_19_1 rfl rfl rfl ?_
  refine Wx.aload_n hC te_19_4 rfl ?_
  refine Wx.getR hC te_19_5 rfl rfl rfl ?_
  refine Wx.iload_n hC te_19_8 rfl ?_
  refine Wx.iald hC te_19_9 rfl H.1 (fun v1 e1 e2 => ?_)
  replace H := H.2 v1 e1 e2
  refine Wx.iald hC te_19_10 rfl H.1 (fun v2 e1 e2 => ?_)
  replace H := H.2 v2 e1 e2
  exact Wx.ireturn hC te_19_11 rfl H
theorem w_24_0 {C : CXW} (hC : Cmono C) {S : Nat × (Nat → Int32)} {K : WK} {mem : MM} {x1 : Int} (H : ((0 : Int) ≤ x1 ∧ (x1 : Int) < 8) ∧ ∀ v1 : Int, v1 = mem 2 (Int.toNat x1) → InI v1 → ((¬ v1 = 5 → (InI (x1 * 4)) ∧ ((0 : Int) ≤ (x1 * 4) ∧ ((x1 * 4) : Int) < 32) ∧ ∀ v2 : Int, v2 = mem 3 (Int.toNat (x1 * 4)) → InI v2 → (InI v2 → K (some v2) mem)) ∧ (¬ (¬ v1 = 5) → (InI (x1 * 4)) ∧ (InI ((x1 * 4) + 2)) ∧ ((0 : Int) ≤ ((x1 * 4) + 2) ∧ (((x1 * 4) + 2) : Int) < 32) ∧ ∀ v3 : Int, v3 = mem 3 (Int.toNat ((x1 * 4) + 2)) → InI v3 → (InI v3 → K (some v3) mem)))) : Wx C S M_24 K 0 [some (.inr 1), some (.inl x1)] [] mem := by
  refine Wx.aload_n hC te_24_0 rfl ?_
  refine Wx.getR hC te_24_1 rfl rfl rfl ?_
  refine Wx.iload_n hC te_24_4 rfl ?_
  refine Wx.iald hC te_24_5 rfl H.1 (fun v1 e1 e2 => ?_)
  replace H := H.2 v1 e1 e2
  refine Wx.iconst hC te_24_6 rfl ?_
  refine Wx.icmp hC (t := 23) te_24_7 (by decide) (fun q => ?_) (fun q => ?_)
  · replace H := H.1 q
    refine Wx.aload_n hC te_24_23 rfl ?_
    refine Wx.getR hC te_24_24 rfl rfl rfl ?_
    refine Wx.iload_n hC te_24_27 rfl ?_
    refine Wx.iconst hC te_24_28 rfl ?_
    refine Wx.imul hC te_24_29 H.1 ?_
    replace H := H.2
    refine Wx.iald hC te_24_30 rfl H.1 (fun v2 e1 e2 => ?_)
    replace H := H.2 v2 e1 e2
    exact Wx.ireturn hC te_24_31 rfl H
  · replace H := H.2 q
    refine Wx.aload_n hC te_24_10 rfl ?_
    refine Wx.getR hC te_24_11 rfl rfl rfl ?_
    refine Wx.iload_n hC te_24_14 rfl ?_
    refine Wx.iconst hC te_24_15 rfl ?_
    refine Wx.imul hC te_24_16 H.1 ?_
    replace H := H.2
    refine Wx.iconst hC te_24_17 rfl ?_
    refine Wx.iadd hC te_24_18 H.1 ?_
    replace H := H.2
    refine Wx.iald hC te_24_19 rfl H.1 (fun v3 e1 e2 => ?_)
    replace H := H.2 v3 e1 e2
    refine Wx.goto hC (t := 31) te_24_20 (by decide) ?_
    exact Wx.ireturn hC te_24_31 rfl H
theorem w_25_0 {C : CXW} (hC : Cmono C) {S : Nat × (Nat → Int32)} {K : WK} {mem : MM} {x1 : Int} (H : ((0 : Int) ≤ x1 ∧ (x1 : Int) < 8) ∧ ∀ v1 : Int, v1 = mem 2 (Int.toNat x1) → InI v1 → ((¬ v1 = 5 → (InI (x1 * 4)) ∧ (InI ((x1 * 4) + 1)) ∧ ((0 : Int) ≤ ((x1 * 4) + 1) ∧ (((x1 * 4) + 1) : Int) < 32) ∧ ∀ v2 : Int, v2 = mem 3 (Int.toNat ((x1 * 4) + 1)) → InI v2 → (InI v2 → K (some v2) mem)) ∧ (¬ (¬ v1 = 5) → (InI (x1 * 4)) ∧ (InI ((x1 * 4) + 3)) ∧ ((0 : Int) ≤ ((x1 * 4) + 3) ∧ (((x1 * 4) + 3) : Int) < 32) ∧ ∀ v3 : Int, v3 = mem 3 (Int.toNat ((x1 * 4) + 3)) → InI v3 → (InI v3 → K (some v3) mem)))) : Wx C S M_25 K 0 [some (.inr 1), some (.inl x1)] [] mem := by
  refine Wx.aload_n hC te_25_0 rfl ?_
  refine Wx.getR hC te_25_1 rfl rfl rfl ?_
  refine Wx.iload_n hC te_25_4 rfl ?_
  refine Wx.iald hC te_25_5 rfl H.1 (fun v1 e1 e2 => ?_)
  replace H := H.2 v1 e1 e2
  refine Wx.iconst hC te_25_6 rfl ?_
  refine Wx.icmp hC (t := 23) te_25_7 (by decide) (fun q => ?_) (fun q => ?_)
  · replace H := H.1 q
    refine Wx.aload_n hC te_25_23 rfl ?_
    refine Wx.getR hC te_25_24 rfl rfl rfl ?_
    refine Wx.iload_n hC te_25_27 rfl ?_
    refine Wx.iconst hC te_25_28 rfl ?_
    refine Wx.imul hC te_25_29 H.1 ?_
    replace H := H.2
    refine Wx.iconst hC te_25_30 rfl ?_
    refine Wx.iadd hC te_25_31 H.1 ?_
    replace H := H.2
    refine Wx.iald hC te_25_32 rfl H.1 (fun v2 e1 e2 => ?_)
    replace H := H.2 v2 e1 e2
    exact Wx.ireturn hC te_25_33 rfl H
  · replace H := H.2 q
    refine Wx.aload_n hC te_25_10 rfl ?_
    refine Wx.getR hC te_25_11 rfl rfl rfl ?_
    refine Wx.iload_n hC te_25_14 rfl ?_
    refine Wx.iconst hC te_25_15 rfl ?_
    refine Wx.imul hC te_25_16 H.1 ?_
    replace H := H.2
    refine Wx.iconst hC te_25_17 rfl ?_
    refine Wx.iadd hC te_25_18 H.1 ?_
    replace H := H.2
    refine Wx.iald hC te_25_19 rfl H.1 (fun v3 e1 e2 => ?_)
    replace H := H.2 v3 e1 e2
    refine Wx.goto hC (t := 33) te_25_20 (by decide) ?_
    exact Wx.ireturn hC te_25_33 rfl H
theorem w_37_0 {C : CXW} (hC : Cmono C) {S : Nat × (Nat → Int32)} {K : WK} {mem : MM} {x1 : Int} (H : ((0 : Int) ≤ x1 ∧ (x1 : Int) < 8) ∧ ∀ v1 : Int, v1 = mem 2 (Int.toNat x1) → InI v1 → ((0 : Int) ≤ v1 ∧ (v1 : Int) < 6) ∧ ∀ v2 : Int, v2 = mem 5 (Int.toNat v1) → InI v2 → (InI v2 → K (some v2) mem)) : Wx C S M_37 K 0 [some (.inr 1), some (.inl x1)] [] mem := by
  refine Wx.aload_n hC te_37_0 rfl ?_
  refine Wx.getR hC te_37_1 rfl rfl rfl ?_
  refine Wx.aload_n hC te_37_4 rfl ?_
  refine Wx.getR hC te_37_5 rfl rfl rfl ?_
  refine Wx.iload_n hC te_37_8 rfl ?_
  refine Wx.iald hC te_37_9 rfl H.1 (fun v1 e1 e2 => ?_)
  replace H := H.2 v1 e1 e2
  refine Wx.iald hC te_37_10 rfl H.1 (fun v2 e1 e2 => ?_)
  replace H := H.2 v2 e1 e2
  exact Wx.ireturn hC te_37_11 rfl H
theorem w_38_0 {C : CXW} (hC : Cmono C) {S : Nat × (Nat → Int32)} {K : WK} {mem : MM} {x1 : Int} (H : ((0 : Int) ≤ x1 ∧ (x1 : Int) < 8) ∧ ∀ v1 : Int, v1 = mem 2 (Int.toNat x1) → InI v1 → ((0 : Int) ≤ v1 ∧ (v1 : Int) < 6) ∧ ∀ v2 : Int, v2 = mem 7 (Int.toNat v1) → InI v2 → (InI v2 → K (some v2) mem)) : Wx C S M_38 K 0 [some (.inr 1), some (.inl x1)] [] mem := by
  refine Wx.aload_n hC te_38_0 rfl ?_
  refine Wx.getR hC te_38_1 rfl rfl rfl ?_
  refine Wx.aload_n hC te_38_4 rfl ?_
  refine Wx.getR hC te_38_5 rfl rfl rfl ?_
  refine Wx.iload_n hC te_38_8 rfl ?_
  refine Wx.iald hC te_38_9 rfl H.1 (fun v1 e1 e2 => ?_)
  replace H := H.2 v1 e1 e2
  refine Wx.iald hC te_38_10 rfl H.1 (fun v2 e1 e2 => ?_)
  replace H := H.2 v2 e1 e2
  exact Wx.ireturn hC te_38_11 rfl H
theorem w_18_0 {C : CXW} (hC : Cmono C) {S : Nat × (Nat → Int32)} {K : WK} {mem : MM} {x1 x2 : Int} (H : (CWI C 19 [.inr 1, .inl x1] mem fun r2 m1 => InI r2 → ((0 : Int) ≤ x1 ∧ (x1 : Int) < 8) ∧ ∀ v3 : Int, v3 = m1 2 (Int.toNat x1) → InI v3 → ((¬ v3 = x2 → (InI r2 → K (some r2) m1)) ∧ (¬ (¬ v3 = x2) → (InI (r2 - 1)) ∧ (InI (r2 - 1) → K (some (r2 - 1)) m1))))) : Wx C S M_18 K 0 [some (.inr 1), some (.inl x1), some (.inl x2), none] [] mem := by
  refine Wx.aload_n hC te_18_0 rfl ?_
  refine Wx.iload_n hC te_18_1 rfl ?_
  refine Wx.virtI hC te_18_2 mt_19 (args := [.inr 1, .inl x1]) (rest := []) rfl rfl rfl rfl rfl rfl rfl rfl ?_
  refine CWI.mono hC (fun r2 m1 H hy => ?_) H
  replace H := H hy
  refine Wx.istore_n hC te_18_5 rfl ?_
  refine Wx.aload_n hC te_18_6 rfl ?_
  refine Wx.getR hC te_18_7 rfl rfl rfl ?_
  refine Wx.iload_n hC te_18_10 rfl ?_
  refine Wx.iald hC te_18_11 rfl H.1 (fun v3 e1 e2 => ?_)
  replace H := H.2 v3 e1 e2
  refine Wx.iload_n hC te_18_12 rfl ?_
  refine Wx.icmp hC (t := 22) te_18_13 (by decide) (fun q => ?_) (fun q => ?_)
  · replace H := H.1 q
    refine Wx.iload_n hC te_18_22 rfl ?_
    exact Wx.ireturn hC te_18_23 rfl H
  · replace H := H.2 q
    refine Wx.iload_n hC te_18_16 rfl ?_
    refine Wx.iconst hC te_18_17 rfl ?_
    refine Wx.isub hC te_18_18 H.1 ?_
    replace H := H.2
    refine Wx.goto hC (t := 23) te_18_19 (by decide) ?_
    exact Wx.ireturn hC te_18_23 rfl H
theorem w_21_0 {C : CXW} (hC : Cmono C) {S : Nat × (Nat → Int32)} {K : WK} {mem : MM} {W : Nat} (hW : WebSh W) {x1 x2 x3 x4 x5 : Int} (H : ((0 : Int) ≤ x1 ∧ (x1 : Int) < 64) ∧ ∀ v1 : Int, v1 = mem (W + 1) (Int.toNat x1) → InI v1 → ((v1 = x2 → ((0 : Int) ≤ x1 ∧ (x1 : Int) < 64) ∧ ∀ v2 : Int, v2 = mem (W + 2) (Int.toNat x1) → InI v2 → ((v2 = x3 → ((0 : Int) ≤ x1 ∧ (x1 : Int) < 64) ∧ ∀ v3 : Int, v3 = mem (W + 3) (Int.toNat x1) → InI v3 → ((v3 = x4 → ((0 : Int) ≤ x1 ∧ (x1 : Int) < 64) ∧ ∀ v4 : Int, v4 = mem (W + 4) (Int.toNat x1) → InI v4 → (InI (v4 - x5)) ∧ (InI (v4 - x5) → K (some (v4 - x5)) mem)) ∧ (¬ (v3 = x4) → ((0 : Int) ≤ x1 ∧ (x1 : Int) < 64) ∧ ∀ v5 : Int, v5 = mem (W + 3) (Int.toNat x1) → InI v5 → (InI (v5 - x4)) ∧ (InI (v5 - x4) → K (some (v5 - x4)) mem)))) ∧ (¬ (v2 = x3) → ((0 : Int) ≤ x1 ∧ (x1 : Int) < 64) ∧ ∀ v6 : Int, v6 = mem (W + 2) (Int.toNat x1) → InI v6 → (InI (v6 - x3)) ∧ (InI (v6 - x3) → K (some (v6 - x3)) mem)))) ∧ (¬ (v1 = x2) → ((0 : Int) ≤ x1 ∧ (x1 : Int) < 64) ∧ ∀ v7 : Int, v7 = mem (W + 1) (Int.toNat x1) → InI v7 → (InI (v7 - x2)) ∧ (InI (v7 - x2) → K (some (v7 - x2)) mem)))) : Wx C S M_21 K 0 [some (.inr W), some (.inl x1), some (.inl x2), some (.inl x3), some (.inl x4), some (.inl x5)] [] mem := by
  refine Wx.aload_n hC te_21_0 rfl ?_
  refine Wx.getR hC te_21_1 hW.1 rfl rfl ?_
  refine Wx.iload_n hC te_21_4 rfl ?_
  refine Wx.iald hC te_21_5 hW.2.1 H.1 (fun v1 e1 e2 => ?_)
  replace H := H.2 v1 e1 e2
  refine Wx.iload_n hC te_21_6 rfl ?_
  refine Wx.icmp hC (t := 19) te_21_7 (by decide) (fun q => ?_) (fun q => ?_)
  · replace H := H.1 q
    refine Wx.aload_n hC te_21_19 rfl ?_
    refine Wx.getR hC te_21_20 hW.1 rfl rfl ?_
    refine Wx.iload_n hC te_21_23 rfl ?_
    refine Wx.iald hC te_21_24 hW.2.2.1 H.1 (fun v2 e1 e2 => ?_)
    replace H := H.2 v2 e1 e2
    refine Wx.iload_n hC te_21_25 rfl ?_
    refine Wx.icmp hC (t := 38) te_21_26 (by decide) (fun q => ?_) (fun q => ?_)
    · replace H := H.1 q
      refine Wx.aload_n hC te_21_38 rfl ?_
      refine Wx.getR hC te_21_39 hW.1 rfl rfl ?_
      refine Wx.iload_n hC te_21_42 rfl ?_
      refine Wx.iald hC te_21_43 hW.2.2.2.1 H.1 (fun v3 e1 e2 => ?_)
      replace H := H.2 v3 e1 e2
      refine Wx.iload hC te_21_44 rfl ?_
      refine Wx.icmp hC (t := 59) te_21_46 (by decide) (fun q => ?_) (fun q => ?_)
      · replace H := H.1 q
        refine Wx.aload_n hC te_21_59 rfl ?_
        refine Wx.getR hC te_21_60 hW.1 rfl rfl ?_
        refine Wx.iload_n hC te_21_63 rfl ?_
        refine Wx.iald hC te_21_64 hW.2.2.2.2 H.1 (fun v4 e1 e2 => ?_)
        replace H := H.2 v4 e1 e2
        refine Wx.iload hC te_21_65 rfl ?_
        refine Wx.isub hC te_21_67 H.1 ?_
        replace H := H.2
        exact Wx.ireturn hC te_21_68 rfl H
      · replace H := H.2 q
        refine Wx.aload_n hC te_21_49 rfl ?_
        refine Wx.getR hC te_21_50 hW.1 rfl rfl ?_
        refine Wx.iload_n hC te_21_53 rfl ?_
        refine Wx.iald hC te_21_54 hW.2.2.2.1 H.1 (fun v5 e1 e2 => ?_)
        replace H := H.2 v5 e1 e2
        refine Wx.iload hC te_21_55 rfl ?_
        refine Wx.isub hC te_21_57 H.1 ?_
        replace H := H.2
        exact Wx.ireturn hC te_21_58 rfl H
    · replace H := H.2 q
      refine Wx.aload_n hC te_21_29 rfl ?_
      refine Wx.getR hC te_21_30 hW.1 rfl rfl ?_
      refine Wx.iload_n hC te_21_33 rfl ?_
      refine Wx.iald hC te_21_34 hW.2.2.1 H.1 (fun v6 e1 e2 => ?_)
      replace H := H.2 v6 e1 e2
      refine Wx.iload_n hC te_21_35 rfl ?_
      refine Wx.isub hC te_21_36 H.1 ?_
      replace H := H.2
      exact Wx.ireturn hC te_21_37 rfl H
  · replace H := H.2 q
    refine Wx.aload_n hC te_21_10 rfl ?_
    refine Wx.getR hC te_21_11 hW.1 rfl rfl ?_
    refine Wx.iload_n hC te_21_14 rfl ?_
    refine Wx.iald hC te_21_15 hW.2.1 H.1 (fun v7 e1 e2 => ?_)
    replace H := H.2 v7 e1 e2
    refine Wx.iload_n hC te_21_16 rfl ?_
    refine Wx.isub hC te_21_17 H.1 ?_
    replace H := H.2
    exact Wx.ireturn hC te_21_18 rfl H
theorem w_22_0 {C : CXW} (hC : Cmono C) {S : Nat × (Nat → Int32)} {K : WK} {mem : MM} {W : Nat} (hW : WebSh W) {x1 x2 x3 x4 x5 : Int} (H : ((0 : Int) ≤ x1 ∧ (x1 : Int) < 64) ∧ ((0 : Int) ≤ x1 ∧ (x1 : Int) < 64) ∧ ((0 : Int) ≤ x1 ∧ (x1 : Int) < 64) ∧ ((0 : Int) ≤ x1 ∧ (x1 : Int) < 64) ∧ (K none (upm (upm (upm (upm mem (W + 1) (Int.toNat x1) x2) (W + 2) (Int.toNat x1) x3) (W + 3) (Int.toNat x1) x4) (W + 4) (Int.toNat x1) x5))) : Wx C S M_22 K 0 [some (.inr W), some (.inl x1), some (.inl x2), some (.inl x3), some (.inl x4), some (.inl x5)] [] mem := by
  refine Wx.aload_n hC te_22_0 rfl ?_
  refine Wx.getR hC te_22_1 hW.1 rfl rfl ?_
  refine Wx.iload_n hC te_22_4 rfl ?_
  refine Wx.iload_n hC te_22_5 rfl ?_
  refine Wx.iast hC te_22_6 hW.2.1 H.1 ?_
  replace H := H.2
  refine Wx.aload_n hC te_22_7 rfl ?_
  refine Wx.getR hC te_22_8 hW.1 rfl rfl ?_
  refine Wx.iload_n hC te_22_11 rfl ?_
  refine Wx.iload_n hC te_22_12 rfl ?_
  refine Wx.iast hC te_22_13 hW.2.2.1 H.1 ?_
  replace H := H.2
  refine Wx.aload_n hC te_22_14 rfl ?_
  refine Wx.getR hC te_22_15 hW.1 rfl rfl ?_
  refine Wx.iload_n hC te_22_18 rfl ?_
  refine Wx.iload hC te_22_19 rfl ?_
  refine Wx.iast hC te_22_21 hW.2.2.2.1 H.1 ?_
  replace H := H.2
  refine Wx.aload_n hC te_22_22 rfl ?_
  refine Wx.getR hC te_22_23 hW.1 rfl rfl ?_
  refine Wx.iload_n hC te_22_26 rfl ?_
  refine Wx.iload hC te_22_27 rfl ?_
  refine Wx.iast hC te_22_29 hW.2.2.2.2 H.1 ?_
  replace H := H.2
  exact Wx.vret hC te_22_30 rfl H
theorem w_20_0 {C : CXW} (hC : Cmono C) {S : Nat × (Nat → Int32)} {K : WK} {mem : MM} {W : Nat} (hW : WebSh W) {x1 x2 x3 x4 : Int} (H : (Wx C S M_20 K 6 [some (.inr W), some (.inl x1), some (.inl x2), some (.inl x3), some (.inl x4), some (.inl 0), some (.inl (-1)), none] [] mem)) : Wx C S M_20 K 0 [some (.inr W), some (.inl x1), some (.inl x2), some (.inl x3), some (.inl x4), none, none, none] [] mem := by
  refine Wx.iconst hC te_20_0 rfl ?_
  refine Wx.istore hC te_20_1 rfl ?_
  refine Wx.iconst hC te_20_3 rfl ?_
  refine Wx.istore hC te_20_4 rfl ?_
  exact H
theorem w_20_6 {C : CXW} (hC : Cmono C) {S : Nat × (Nat → Int32)} {K : WK} {mem : MM} {W : Nat} (hW : WebSh W) {x1 x2 x3 x4 x5 x6 : Int} (H : ∀ v1 : Int, v1 = mem W 0 → InI v1 → ((v1 ≤ x5 → ∀ v2 : Int, v2 = mem W 0 → InI v2 → ((v2 ≤ x5 → ∀ v3 : Int, v3 = mem W 0 → InI v3 → ((v3 < 64 → ∀ v4 : Int, v4 = mem W 0 → InI v4 → (Wx C S M_20 K 72 [some (.inr W), some (.inl x1), some (.inl x2), some (.inl x3), some (.inl x4), some (.inl x5), some (.inl x6), some (.inl v4)] [] mem)) ∧ (¬ (v3 < 64) → (K none mem)))) ∧ (¬ (v2 ≤ x5) → ((x6 = 0 → (K none mem)) ∧ (¬ (x6 = 0) → ∀ v5 : Int, v5 = mem W 0 → InI v5 → ((v5 < 64 → ∀ v6 : Int, v6 = mem W 0 → InI v6 → (Wx C S M_20 K 72 [some (.inr W), some (.inl x1), some (.inl x2), some (.inl x3), some (.inl x4), some (.inl x5), some (.inl x6), some (.inl v6)] [] mem)) ∧ (¬ (v5 < 64) → (K none mem)))))))) ∧ (¬ (v1 ≤ x5) → (CWI C 21 [.inr W, .inl x5, .inl x1, .inl x2, .inl x3, .inl x4] mem fun r8 m7 => InI r8 → ((r8 < 0 → (InI (x5 + 1)) ∧ (Wx C S M_20 K 6 [some (.inr W), some (.inl x1), some (.inl x2), some (.inl x3), some (.inl x4), some (.inl (x5 + 1)), some (.inl r8), none] [] m7)) ∧ (¬ (r8 < 0) → ∀ v9 : Int, v9 = m7 W 0 → InI v9 → ((v9 ≤ x5 → ∀ v10 : Int, v10 = m7 W 0 → InI v10 → ((v10 < 64 → ∀ v11 : Int, v11 = m7 W 0 → InI v11 → (Wx C S M_20 K 72 [some (.inr W), some (.inl x1), some (.inl x2), some (.inl x3), some (.inl x4), some (.inl x5), some (.inl r8), some (.inl v11)] [] m7)) ∧ (¬ (v10 < 64) → (K none m7)))) ∧ (¬ (v9 ≤ x5) → ((r8 = 0 → (K none m7)) ∧ (¬ (r8 = 0) → ∀ v12 : Int, v12 = m7 W 0 → InI v12 → ((v12 < 64 → ∀ v13 : Int, v13 = m7 W 0 → InI v13 → (Wx C S M_20 K 72 [some (.inr W), some (.inl x1), some (.inl x2), some (.inl x3), some (.inl x4), some (.inl x5), some (.inl r8), some (.inl v13)] [] m7)) ∧ (¬ (v12 < 64) → (K none m7))))))))))))) : Wx C S M_20 K 6 [some (.inr W), some (.inl x1), some (.inl x2), some (.inl x3), some (.inl x4), some (.inl x5), some (.inl x6), none] [] mem := by
  refine Wx.iload hC te_20_6 rfl ?_
  refine Wx.aload_n hC te_20_8 rfl ?_
  refine Wx.getI hC te_20_9 hW.1 rfl rfl (fun v1 e1 e2 => ?_)
  replace H := H v1 e1 e2
  refine Wx.icmp hC (t := 42) te_20_12 (by decide) (fun q => ?_) (fun q => ?_)
  · replace H := H.1 q
    refine Wx.iload hC te_20_42 rfl ?_
    refine Wx.aload_n hC te_20_44 rfl ?_
    refine Wx.getI hC te_20_45 hW.1 rfl rfl (fun v2 e1 e2 => ?_)
    replace H := H v2 e1 e2
    refine Wx.icmp hC (t := 56) te_20_48 (by decide) (fun q => ?_) (fun q => ?_)
    · replace H := H.1 q
      refine Wx.aload_n hC te_20_56 rfl ?_
      refine Wx.getI hC te_20_57 hW.1 rfl rfl (fun v3 e1 e2 => ?_)
      replace H := H v3 e1 e2
      refine Wx.bipush hC te_20_60 rfl rfl ?_
      refine Wx.icmp hC (t := 66) te_20_62 (by decide) (fun q => ?_) (fun q => ?_)
      · replace H := H.1 q
        refine Wx.aload_n hC te_20_66 rfl ?_
        refine Wx.getI hC te_20_67 hW.1 rfl rfl (fun v4 e1 e2 => ?_)
        replace H := H v4 e1 e2
        refine Wx.istore hC te_20_70 rfl ?_
        exact H
      · replace H := H.2 q
        exact Wx.vret hC te_20_65 rfl H
    · replace H := H.2 q
      refine Wx.iload hC te_20_51 rfl ?_
      refine Wx.ifc hC (t := 65) te_20_53 (by decide) (fun q => ?_) (fun q => ?_)
      · replace H := H.1 q
        exact Wx.vret hC te_20_65 rfl H
      · replace H := H.2 q
        refine Wx.aload_n hC te_20_56 rfl ?_
        refine Wx.getI hC te_20_57 hW.1 rfl rfl (fun v5 e1 e2 => ?_)
        replace H := H v5 e1 e2
        refine Wx.bipush hC te_20_60 rfl rfl ?_
        refine Wx.icmp hC (t := 66) te_20_62 (by decide) (fun q => ?_) (fun q => ?_)
        · replace H := H.1 q
          refine Wx.aload_n hC te_20_66 rfl ?_
          refine Wx.getI hC te_20_67 hW.1 rfl rfl (fun v6 e1 e2 => ?_)
          replace H := H v6 e1 e2
          refine Wx.istore hC te_20_70 rfl ?_
          exact H
        · replace H := H.2 q
          exact Wx.vret hC te_20_65 rfl H
  · replace H := H.2 q
    refine Wx.aload_n hC te_20_15 rfl ?_
    refine Wx.iload hC te_20_16 rfl ?_
    refine Wx.iload_n hC te_20_18 rfl ?_
    refine Wx.iload_n hC te_20_19 rfl ?_
    refine Wx.iload_n hC te_20_20 rfl ?_
    refine Wx.iload hC te_20_21 rfl ?_
    refine Wx.virtI hC te_20_23 mt_21 (args := [.inr W, .inl x5, .inl x1, .inl x2, .inl x3, .inl x4]) (rest := []) rfl rfl rfl rfl rfl rfl hW.1 rfl ?_
    refine CWI.mono hC (fun r8 m7 H hy => ?_) H
    replace H := H hy
    refine Wx.istore hC te_20_26 rfl ?_
    refine Wx.iload hC te_20_28 rfl ?_
    refine Wx.ifc hC (t := 36) te_20_30 (by decide) (fun q => ?_) (fun q => ?_)
    · replace H := H.1 q
      refine Wx.iinc hC te_20_36 rfl rfl H.1 ?_
      replace H := H.2
      refine Wx.goto hC (t := 6) te_20_39 (by decide) ?_
      exact H
    · replace H := H.2 q
      refine Wx.goto hC (t := 42) te_20_33 (by decide) ?_
      refine Wx.iload hC te_20_42 rfl ?_
      refine Wx.aload_n hC te_20_44 rfl ?_
      refine Wx.getI hC te_20_45 hW.1 rfl rfl (fun v9 e1 e2 => ?_)
      replace H := H v9 e1 e2
      refine Wx.icmp hC (t := 56) te_20_48 (by decide) (fun q => ?_) (fun q => ?_)
      · replace H := H.1 q
        refine Wx.aload_n hC te_20_56 rfl ?_
        refine Wx.getI hC te_20_57 hW.1 rfl rfl (fun v10 e1 e2 => ?_)
        replace H := H v10 e1 e2
        refine Wx.bipush hC te_20_60 rfl rfl ?_
        refine Wx.icmp hC (t := 66) te_20_62 (by decide) (fun q => ?_) (fun q => ?_)
        · replace H := H.1 q
          refine Wx.aload_n hC te_20_66 rfl ?_
          refine Wx.getI hC te_20_67 hW.1 rfl rfl (fun v11 e1 e2 => ?_)
          replace H := H v11 e1 e2
          refine Wx.istore hC te_20_70 rfl ?_
          exact H
        · replace H := H.2 q
          exact Wx.vret hC te_20_65 rfl H
      · replace H := H.2 q
        refine Wx.iload hC te_20_51 rfl ?_
        refine Wx.ifc hC (t := 65) te_20_53 (by decide) (fun q => ?_) (fun q => ?_)
        · replace H := H.1 q
          exact Wx.vret hC te_20_65 rfl H
        · replace H := H.2 q
          refine Wx.aload_n hC te_20_56 rfl ?_
          refine Wx.getI hC te_20_57 hW.1 rfl rfl (fun v12 e1 e2 => ?_)
          replace H := H v12 e1 e2
          refine Wx.bipush hC te_20_60 rfl rfl ?_
          refine Wx.icmp hC (t := 66) te_20_62 (by decide) (fun q => ?_) (fun q => ?_)
          · replace H := H.1 q
            refine Wx.aload_n hC te_20_66 rfl ?_
            refine Wx.getI hC te_20_67 hW.1 rfl rfl (fun v13 e1 e2 => ?_)
            replace H := H v13 e1 e2
            refine Wx.istore hC te_20_70 rfl ?_
            exact H
          · replace H := H.2 q
            exact Wx.vret hC te_20_65 rfl H
theorem w_20_72 {C : CXW} (hC : Cmono C) {S : Nat × (Nat → Int32)} {K : WK} {mem : MM} {W : Nat} (hW : WebSh W) {x1 x2 x3 x4 x5 x6 x7 : Int} (H : ((x7 ≤ x5 → (CWV C 22 [.inr W, .inl x5, .inl x1, .inl x2, .inl x3, .inl x4] mem fun m1 => ∀ v2 : Int, v2 = m1 W 0 → InI v2 → (InI (v2 + 1)) ∧ (K none (upm m1 W 0 (v2 + 1))))) ∧ (¬ (x7 ≤ x5) → (InI (x7 - 1)) ∧ ((0 : Int) ≤ (x7 - 1) ∧ ((x7 - 1) : Int) < 64) ∧ ∀ v3 : Int, v3 = mem (W + 1) (Int.toNat (x7 - 1)) → InI v3 → (InI (x7 - 1)) ∧ ((0 : Int) ≤ (x7 - 1) ∧ ((x7 - 1) : Int) < 64) ∧ ∀ v4 : Int, v4 = mem (W + 2) (Int.toNat (x7 - 1)) → InI v4 → (InI (x7 - 1)) ∧ ((0 : Int) ≤ (x7 - 1) ∧ ((x7 - 1) : Int) < 64) ∧ ∀ v5 : Int, v5 = mem (W + 3) (Int.toNat (x7 - 1)) → InI v5 → (InI (x7 - 1)) ∧ ((0 : Int) ≤ (x7 - 1) ∧ ((x7 - 1) : Int) < 64) ∧ ∀ v6 : Int, v6 = mem (W + 4) (Int.toNat (x7 - 1)) → InI v6 → (CWV C 22 [.inr W, .inl x7, .inl v3, .inl v4, .inl v5, .inl v6] mem fun m7 => (InI (x7 + (-1))) ∧ (Wx C S M_20 K 72 [some (.inr W), some (.inl x1), some (.inl x2), some (.inl x3), some (.inl x4), some (.inl x5), some (.inl x6), some (.inl (x7 + (-1)))] [] m7))))) : Wx C S M_20 K 72 [some (.inr W), some (.inl x1), some (.inl x2), some (.inl x3), some (.inl x4), some (.inl x5), some (.inl x6), some (.inl x7)] [] mem := by
  refine Wx.iload hC te_20_72 rfl ?_
  refine Wx.iload hC te_20_74 rfl ?_
  refine Wx.icmp hC (t := 127) te_20_76 (by decide) (fun q => ?_) (fun q => ?_)
  · replace H := H.1 q
    refine Wx.aload_n hC te_20_127 rfl ?_
    refine Wx.iload hC te_20_128 rfl ?_
    refine Wx.iload_n hC te_20_130 rfl ?_
    refine Wx.iload_n hC te_20_131 rfl ?_
    refine Wx.iload_n hC te_20_132 rfl ?_
    refine Wx.iload hC te_20_133 rfl ?_
    refine Wx.virtV hC te_20_135 mt_22 (args := [.inr W, .inl x5, .inl x1, .inl x2, .inl x3, .inl x4]) (rest := []) rfl rfl rfl rfl rfl rfl hW.1 rfl ?_
    refine CWV.mono hC (fun m1 H => ?_) H
    refine Wx.aload_n hC te_20_138 rfl ?_
    refine Wx.dup hC te_20_139 ?_
    refine Wx.getI hC te_20_140 hW.1 rfl rfl (fun v2 e1 e2 => ?_)
    replace H := H v2 e1 e2
    refine Wx.iconst hC te_20_143 rfl ?_
    refine Wx.iadd hC te_20_144 H.1 ?_
    replace H := H.2
    refine Wx.putI hC te_20_145 hW.1 rfl rfl rfl ?_
    exact Wx.vret hC te_20_148 rfl H
  · replace H := H.2 q
    refine Wx.aload_n hC te_20_79 rfl ?_
    refine Wx.iload hC te_20_80 rfl ?_
    refine Wx.aload_n hC te_20_82 rfl ?_
    refine Wx.getR hC te_20_83 hW.1 rfl rfl ?_
    refine Wx.iload hC te_20_86 rfl ?_
    refine Wx.iconst hC te_20_88 rfl ?_
    refine Wx.isub hC te_20_89 H.1 ?_
    replace H := H.2
    refine Wx.iald hC te_20_90 hW.2.1 H.1 (fun v3 e1 e2 => ?_)
    replace H := H.2 v3 e1 e2
    refine Wx.aload_n hC te_20_91 rfl ?_
    refine Wx.getR hC te_20_92 hW.1 rfl rfl ?_
    refine Wx.iload hC te_20_95 rfl ?_
    refine Wx.iconst hC te_20_97 rfl ?_
    refine Wx.isub hC te_20_98 H.1 ?_
    replace H := H.2
    refine Wx.iald hC te_20_99 hW.2.2.1 H.1 (fun v4 e1 e2 => ?_)
    replace H := H.2 v4 e1 e2
    refine Wx.aload_n hC te_20_100 rfl ?_
    refine Wx.getR hC te_20_101 hW.1 rfl rfl ?_
    refine Wx.iload hC te_20_104 rfl ?_
    refine Wx.iconst hC te_20_106 rfl ?_
    refine Wx.isub hC te_20_107 H.1 ?_
    replace H := H.2
    refine Wx.iald hC te_20_108 hW.2.2.2.1 H.1 (fun v5 e1 e2 => ?_)
    replace H := H.2 v5 e1 e2
    refine Wx.aload_n hC te_20_109 rfl ?_
    refine Wx.getR hC te_20_110 hW.1 rfl rfl ?_
    refine Wx.iload hC te_20_113 rfl ?_
    refine Wx.iconst hC te_20_115 rfl ?_
    refine Wx.isub hC te_20_116 H.1 ?_
    replace H := H.2
    refine Wx.iald hC te_20_117 hW.2.2.2.2 H.1 (fun v6 e1 e2 => ?_)
    replace H := H.2 v6 e1 e2
    refine Wx.virtV hC te_20_118 mt_22 (args := [.inr W, .inl x7, .inl v3, .inl v4, .inl v5, .inl v6]) (rest := []) rfl rfl rfl rfl rfl rfl hW.1 rfl ?_
    refine CWV.mono hC (fun m7 H => ?_) H
    refine Wx.iinc hC te_20_121 rfl rfl H.1 ?_
    replace H := H.2
    refine Wx.goto hC (t := 72) te_20_124 (by decide) ?_
    exact H
theorem w_23_0 {C : CXW} (hC : Cmono C) {S : Nat × (Nat → Int32)} {K : WK} {mem : MM} {W : Nat} (hW : WebSh W) {x2 x3 x4 : Int} (H : ((0 : Int) ≤ x2 ∧ (x2 : Int) < 8) ∧ ∀ v1 : Int, v1 = mem 2 (Int.toNat x2) → InI v1 → ((v1 < 4 → (K none mem)) ∧ (¬ (v1 < 4) → ((0 : Int) ≤ x3 ∧ (x3 : Int) < 8) ∧ ∀ v2 : Int, v2 = mem 2 (Int.toNat x3) → InI v2 → ((4 ≤ v2 → (CWI C 24 [.inr 1, .inl x2] mem fun r4 m3 => InI r4 → (CWI C 24 [.inr 1, .inl x3] m3 fun r6 m5 => InI r6 → ((r4 = r6 → (CWI C 25 [.inr 1, .inl x2] m5 fun r8 m7 => InI r8 → (CWI C 25 [.inr 1, .inl x3] m7 fun r10 m9 => InI r10 → ((r8 < r10 → (CWI C 25 [.inr 1, .inl x3] m9 fun r12 m11 => InI r12 → (CWI C 25 [.inr 1, .inl x2] m11 fun r14 m13 => InI r14 → (InI (r12 - r14)) ∧ ((0 : Int) ≤ x3 ∧ (x3 : Int) < 8) ∧ ∀ v15 : Int, v15 = m13 2 (Int.toNat x3) → InI v15 → ((¬ v15 = 5 → ((0 : Int) ≤ x2 ∧ (x2 : Int) < 8) ∧ ∀ v16 : Int, v16 = m13 2 (Int.toNat x2) → InI v16 → ((¬ v16 = 5 → (K none m13)) ∧ (¬ (¬ v16 = 5) → (CWI C 18 [.inr 1, .inl x2, .inl x4] m13 fun r18 m17 => InI r18 → (InI (1 - r18)) ∧ (CWV C 20 [.inr W, .inl x3, .inl x2, .inl (r12 - r14), .inl (1 - r18)] m17 fun m19 => (K none m19)))))) ∧ (¬ (¬ v15 = 5) → ((0 : Int) ≤ x2 ∧ (x2 : Int) < 8) ∧ ∀ v20 : Int, v20 = m13 2 (Int.toNat x2) → InI v20 → ((¬ v20 = 5 → (CWI C 18 [.inr 1, .inl x3, .inl x4] m13 fun r22 m21 => InI r22 → (CWV C 20 [.inr W, .inl x3, .inl x2, .inl (r12 - r14), .inl r22] m21 fun m23 => (K none m23)))) ∧ (¬ (¬ v20 = 5) → (CWV C 20 [.inr W, .inl x3, .inl x2, .inl (r12 - r14), .inl 1] m13 fun m24 => (K none m24))))))))) ∧ (¬ (r8 < r10) → (CWI C 25 [.inr 1, .inl x2] m9 fun r26 m25 => InI r26 → (CWI C 25 [.inr 1, .inl x3] m25 fun r28 m27 => InI r28 → (InI (r26 - r28)) ∧ ((0 : Int) ≤ x2 ∧ (x2 : Int) < 8) ∧ ∀ v29 : Int, v29 = m27 2 (Int.toNat x2) → InI v29 → ((¬ v29 = 5 → ((0 : Int) ≤ x3 ∧ (x3 : Int) < 8) ∧ ∀ v30 : Int, v30 = m27 2 (Int.toNat x3) → InI v30 → ((¬ v30 = 5 → (K none m27)) ∧ (¬ (¬ v30 = 5) → (CWI C 18 [.inr 1, .inl x3, .inl x4] m27 fun r32 m31 => InI r32 → (InI (1 - r32)) ∧ (CWV C 20 [.inr W, .inl x2, .inl x3, .inl (r26 - r28), .inl (1 - r32)] m31 fun m33 => (K none m33)))))) ∧ (¬ (¬ v29 = 5) → ((0 : Int) ≤ x3 ∧ (x3 : Int) < 8) ∧ ∀ v34 : Int, v34 = m27 2 (Int.toNat x3) → InI v34 → ((¬ v34 = 5 → (CWI C 18 [.inr 1, .inl x2, .inl x4] m27 fun r36 m35 => InI r36 → (CWV C 20 [.inr W, .inl x2, .inl x3, .inl (r26 - r28), .inl r36] m35 fun m37 => (K none m37)))) ∧ (¬ (¬ v34 = 5) → (CWV C 20 [.inr W, .inl x2, .inl x3, .inl (r26 - r28), .inl 1] m27 fun m38 => (K none m38))))))))))))) ∧ (¬ (r4 = r6) → (K none m5)))))) ∧ (¬ (4 ≤ v2) → (K none mem)))))) : Wx C S M_23 K 0 [some (.inr W), some (.inr 1), some (.inl x2), some (.inl x3), some (.inl x4), none, none, none, none, none, none] [] mem := by
  refine Wx.aload_n hC te_23_0 rfl ?_
  refine Wx.getR hC te_23_1 rfl rfl rfl ?_
  refine Wx.iload_n hC te_23_4 rfl ?_
  refine Wx.iald hC te_23_5 rfl H.1 (fun v1 e1 e2 => ?_)
  replace H := H.2 v1 e1 e2
  refine Wx.iconst hC te_23_6 rfl ?_
  refine Wx.icmp hC (t := 20) te_23_7 (by decide) (fun q => ?_) (fun q => ?_)
  · replace H := H.1 q
    exact Wx.vret hC te_23_20 rfl H
  · replace H := H.2 q
    refine Wx.aload_n hC te_23_10 rfl ?_
    refine Wx.getR hC te_23_11 rfl rfl rfl ?_
    refine Wx.iload_n hC te_23_14 rfl ?_
    refine Wx.iald hC te_23_15 rfl H.1 (fun v2 e1 e2 => ?_)
    replace H := H.2 v2 e1 e2
    refine Wx.iconst hC te_23_16 rfl ?_
    refine Wx.icmp hC (t := 21) te_23_17 (by decide) (fun q => ?_) (fun q => ?_)
    · replace H := H.1 q
      refine Wx.aload_n hC te_23_21 rfl ?_
      refine Wx.iload_n hC te_23_22 rfl ?_
      refine Wx.virtI hC te_23_23 mt_24 (args := [.inr 1, .inl x2]) (rest := []) rfl rfl rfl rfl rfl rfl rfl rfl ?_
      refine CWI.mono hC (fun r4 m3 H hy => ?_) H
      replace H := H hy
      refine Wx.aload_n hC te_23_26 rfl ?_
      refine Wx.iload_n hC te_23_27 rfl ?_
      refine Wx.virtI hC te_23_28 mt_24 (args := [.inr 1, .inl x3]) (rest := [.inl r4]) rfl rfl rfl rfl rfl rfl rfl rfl ?_
      refine CWI.mono hC (fun r6 m5 H hy => ?_) H
      replace H := H hy
      refine Wx.icmp hC (t := 35) te_23_31 (by decide) (fun q => ?_) (fun q => ?_)
      · replace H := H.1 q
        refine Wx.aload_n hC te_23_35 rfl ?_
        refine Wx.iload_n hC te_23_36 rfl ?_
        refine Wx.virtI hC te_23_37 mt_25 (args := [.inr 1, .inl x2]) (rest := []) rfl rfl rfl rfl rfl rfl rfl rfl ?_
        refine CWI.mono hC (fun r8 m7 H hy => ?_) H
        replace H := H hy
        refine Wx.aload_n hC te_23_40 rfl ?_
        refine Wx.iload_n hC te_23_41 rfl ?_
        refine Wx.virtI hC te_23_42 mt_25 (args := [.inr 1, .inl x3]) (rest := [.inl r8]) rfl rfl rfl rfl rfl rfl rfl rfl ?_
        refine CWI.mono hC (fun r10 m9 H hy => ?_) H
        replace H := H hy
        refine Wx.icmp hC (t := 52) te_23_45 (by decide) (fun q => ?_) (fun q => ?_)
        · replace H := H.1 q
          refine Wx.iconst hC te_23_52 rfl ?_
          refine Wx.istore hC te_23_53 rfl ?_
          refine Wx.iload hC te_23_55 rfl ?_
          refine Wx.ifc hC (t := 64) te_23_57 (by decide) (fun q => ?_) (fun q => absurd (show (0 : Int) = 0 by decide) q)
          refine Wx.iload_n hC te_23_64 rfl ?_
          refine Wx.istore hC te_23_65 rfl ?_
          refine Wx.iload hC te_23_67 rfl ?_
          refine Wx.ifc hC (t := 76) te_23_69 (by decide) (fun q => ?_) (fun q => absurd (show (0 : Int) = 0 by decide) q)
          refine Wx.iload_n hC te_23_76 rfl ?_
          refine Wx.istore hC te_23_77 rfl ?_
          refine Wx.aload_n hC te_23_79 rfl ?_
          refine Wx.iload hC te_23_80 rfl ?_
          refine Wx.virtI hC te_23_82 mt_25 (args := [.inr 1, .inl x3]) (rest := []) rfl rfl rfl rfl rfl rfl rfl rfl ?_
          refine CWI.mono hC (fun r12 m11 H hy => ?_) H
          replace H := H hy
          refine Wx.aload_n hC te_23_85 rfl ?_
          refine Wx.iload hC te_23_86 rfl ?_
          refine Wx.virtI hC te_23_88 mt_25 (args := [.inr 1, .inl x2]) (rest := [.inl r12]) rfl rfl rfl rfl rfl rfl rfl rfl ?_
          refine CWI.mono hC (fun r14 m13 H hy => ?_) H
          replace H := H hy
          refine Wx.isub hC te_23_91 H.1 ?_
          replace H := H.2
          refine Wx.istore hC te_23_92 rfl ?_
          refine Wx.aload_n hC te_23_94 rfl ?_
          refine Wx.getR hC te_23_95 rfl rfl rfl ?_
          refine Wx.iload hC te_23_98 rfl ?_
          refine Wx.iald hC te_23_100 rfl H.1 (fun v15 e1 e2 => ?_)
          replace H := H.2 v15 e1 e2
          refine Wx.iconst hC te_23_101 rfl ?_
          refine Wx.icmp hC (t := 109) te_23_102 (by decide) (fun q => ?_) (fun q => ?_)
          · replace H := H.1 q
            refine Wx.iconst hC te_23_109 rfl ?_
            refine Wx.istore hC te_23_110 rfl ?_
            refine Wx.aload_n hC te_23_112 rfl ?_
            refine Wx.getR hC te_23_113 rfl rfl rfl ?_
            refine Wx.iload hC te_23_116 rfl ?_
            refine Wx.iald hC te_23_118 rfl H.1 (fun v16 e1 e2 => ?_)
            replace H := H.2 v16 e1 e2
            refine Wx.iconst hC te_23_119 rfl ?_
            refine Wx.icmp hC (t := 127) te_23_120 (by decide) (fun q => ?_) (fun q => ?_)
            · replace H := H.1 q
              refine Wx.iconst hC te_23_127 rfl ?_
              refine Wx.istore hC te_23_128 rfl ?_
              refine Wx.iload hC te_23_130 rfl ?_
              refine Wx.ifc hC (t := 154) te_23_132 (by decide) (fun q => ?_) (fun q => absurd (show (0 : Int) = 0 by decide) q)
              refine Wx.iload hC te_23_154 rfl ?_
              refine Wx.ifc hC (t := 180) te_23_156 (by decide) (fun q => ?_) (fun q => absurd (show (0 : Int) = 0 by decide) q)
              refine Wx.iload hC te_23_180 rfl ?_
              refine Wx.ifc hC (t := 205) te_23_182 (by decide) (fun q => ?_) (fun q => absurd (show (0 : Int) = 0 by decide) q)
              exact Wx.vret hC te_23_205 rfl H
            · replace H := H.2 q
              refine Wx.iconst hC te_23_123 rfl ?_
              refine Wx.goto hC (t := 128) te_23_124 (by decide) ?_
              refine Wx.istore hC te_23_128 rfl ?_
              refine Wx.iload hC te_23_130 rfl ?_
              refine Wx.ifc hC (t := 154) te_23_132 (by decide) (fun q => ?_) (fun q => absurd (show (0 : Int) = 0 by decide) q)
              refine Wx.iload hC te_23_154 rfl ?_
              refine Wx.ifc hC (t := 180) te_23_156 (by decide) (fun q => ?_) (fun q => absurd (show (0 : Int) = 0 by decide) q)
              refine Wx.iload hC te_23_180 rfl ?_
              refine Wx.ifc hC (t := 205) te_23_182 (by decide) (fun q => absurd q (show ¬ ((1 : Int) = 0) by decide)) (fun q => ?_)
              refine Wx.aload_n hC te_23_185 rfl ?_
              refine Wx.iload hC te_23_186 rfl ?_
              refine Wx.iload hC te_23_188 rfl ?_
              refine Wx.iload hC te_23_190 rfl ?_
              refine Wx.iconst hC te_23_192 rfl ?_
              refine Wx.aload_n hC te_23_193 rfl ?_
              refine Wx.iload hC te_23_194 rfl ?_
              refine Wx.iload hC te_23_196 rfl ?_
              refine Wx.statI hC te_23_198 (by decide) mt_18 (args := [.inr 1, .inl x2, .inl x4]) (rest := [.inl 1, .inl (r12 - r14), .inl x2, .inl x3, .inr W]) rfl rfl rfl rfl rfl ?_
              refine CWI.mono hC (fun r18 m17 H hy => ?_) H
              replace H := H hy
              refine Wx.isub hC te_23_201 H.1 ?_
              replace H := H.2
              refine Wx.virtV hC te_23_202 mt_20 (args := [.inr W, .inl x3, .inl x2, .inl (r12 - r14), .inl (1 - r18)]) (rest := []) rfl rfl rfl rfl rfl rfl hW.1 rfl ?_
              refine CWV.mono hC (fun m19 H => ?_) H
              exact Wx.vret hC te_23_205 rfl H
          · replace H := H.2 q
            refine Wx.iconst hC te_23_105 rfl ?_
            refine Wx.goto hC (t := 110) te_23_106 (by decide) ?_
            refine Wx.istore hC te_23_110 rfl ?_
            refine Wx.aload_n hC te_23_112 rfl ?_
            refine Wx.getR hC te_23_113 rfl rfl rfl ?_
            refine Wx.iload hC te_23_116 rfl ?_
            refine Wx.iald hC te_23_118 rfl H.1 (fun v20 e1 e2 => ?_)
            replace H := H.2 v20 e1 e2
            refine Wx.iconst hC te_23_119 rfl ?_
            refine Wx.icmp hC (t := 127) te_23_120 (by decide) (fun q => ?_) (fun q => ?_)
            · replace H := H.1 q
              refine Wx.iconst hC te_23_127 rfl ?_
              refine Wx.istore hC te_23_128 rfl ?_
              refine Wx.iload hC te_23_130 rfl ?_
              refine Wx.ifc hC (t := 154) te_23_132 (by decide) (fun q => absurd q (show ¬ ((1 : Int) = 0) by decide)) (fun q => ?_)
              refine Wx.iload hC te_23_135 rfl ?_
              refine Wx.ifc hC (t := 154) te_23_137 (by decide) (fun q => ?_) (fun q => absurd (show (0 : Int) = 0 by decide) q)
              refine Wx.iload hC te_23_154 rfl ?_
              refine Wx.ifc hC (t := 180) te_23_156 (by decide) (fun q => absurd q (show ¬ ((1 : Int) = 0) by decide)) (fun q => ?_)
              refine Wx.aload_n hC te_23_159 rfl ?_
              refine Wx.iload hC te_23_160 rfl ?_
              refine Wx.iload hC te_23_162 rfl ?_
              refine Wx.iload hC te_23_164 rfl ?_
              refine Wx.aload_n hC te_23_166 rfl ?_
              refine Wx.iload hC te_23_167 rfl ?_
              refine Wx.iload hC te_23_169 rfl ?_
              refine Wx.statI hC te_23_171 (by decide) mt_18 (args := [.inr 1, .inl x3, .inl x4]) (rest := [.inl (r12 - r14), .inl x2, .inl x3, .inr W]) rfl rfl rfl rfl rfl ?_
              refine CWI.mono hC (fun r22 m21 H hy => ?_) H
              replace H := H hy
              refine Wx.virtV hC te_23_174 mt_20 (args := [.inr W, .inl x3, .inl x2, .inl (r12 - r14), .inl r22]) (rest := []) rfl rfl rfl rfl rfl rfl hW.1 rfl ?_
              refine CWV.mono hC (fun m23 H => ?_) H
              refine Wx.goto hC (t := 205) te_23_177 (by decide) ?_
              exact Wx.vret hC te_23_205 rfl H
            · replace H := H.2 q
              refine Wx.iconst hC te_23_123 rfl ?_
              refine Wx.goto hC (t := 128) te_23_124 (by decide) ?_
              refine Wx.istore hC te_23_128 rfl ?_
              refine Wx.iload hC te_23_130 rfl ?_
              refine Wx.ifc hC (t := 154) te_23_132 (by decide) (fun q => absurd q (show ¬ ((1 : Int) = 0) by decide)) (fun q => ?_)
              refine Wx.iload hC te_23_135 rfl ?_
              refine Wx.ifc hC (t := 154) te_23_137 (by decide) (fun q => absurd q (show ¬ ((1 : Int) = 0) by decide)) (fun q => ?_)
              refine Wx.aload_n hC te_23_140 rfl ?_
              refine Wx.iload hC te_23_141 rfl ?_
              refine Wx.iload hC te_23_143 rfl ?_
              refine Wx.iload hC te_23_145 rfl ?_
              refine Wx.iconst hC te_23_147 rfl ?_
              refine Wx.virtV hC te_23_148 mt_20 (args := [.inr W, .inl x3, .inl x2, .inl (r12 - r14), .inl 1]) (rest := []) rfl rfl rfl rfl rfl rfl hW.1 rfl ?_
              refine CWV.mono hC (fun m24 H => ?_) H
              refine Wx.goto hC (t := 205) te_23_151 (by decide) ?_
              exact Wx.vret hC te_23_205 rfl H
        · replace H := H.2 q
          refine Wx.iconst hC te_23_48 rfl ?_
          refine Wx.goto hC (t := 53) te_23_49 (by decide) ?_
          refine Wx.istore hC te_23_53 rfl ?_
          refine Wx.iload hC te_23_55 rfl ?_
          refine Wx.ifc hC (t := 64) te_23_57 (by decide) (fun q => absurd q (show ¬ ((1 : Int) = 0) by decide)) (fun q => ?_)
          refine Wx.iload_n hC te_23_60 rfl ?_
          refine Wx.goto hC (t := 65) te_23_61 (by decide) ?_
          refine Wx.istore hC te_23_65 rfl ?_
          refine Wx.iload hC te_23_67 rfl ?_
          refine Wx.ifc hC (t := 76) te_23_69 (by decide) (fun q => absurd q (show ¬ ((1 : Int) = 0) by decide)) (fun q => ?_)
          refine Wx.iload_n hC te_23_72 rfl ?_
          refine Wx.goto hC (t := 77) te_23_73 (by decide) ?_
          refine Wx.istore hC te_23_77 rfl ?_
          refine Wx.aload_n hC te_23_79 rfl ?_
          refine Wx.iload hC te_23_80 rfl ?_
          refine Wx.virtI hC te_23_82 mt_25 (args := [.inr 1, .inl x2]) (rest := []) rfl rfl rfl rfl rfl rfl rfl rfl ?_
          refine CWI.mono hC (fun r26 m25 H hy => ?_) H
          replace H := H hy
          refine Wx.aload_n hC te_23_85 rfl ?_
          refine Wx.iload hC te_23_86 rfl ?_
          refine Wx.virtI hC te_23_88 mt_25 (args := [.inr 1, .inl x3]) (rest := [.inl r26]) rfl rfl rfl rfl rfl rfl rfl rfl ?_
          refine CWI.mono hC (fun r28 m27 H hy => ?_) H
          replace H := H hy
          refine Wx.isub hC te_23_91 H.1 ?_
          replace H := H.2
          refine Wx.istore hC te_23_92 rfl ?_
          refine Wx.aload_n hC te_23_94 rfl ?_
          refine Wx.getR hC te_23_95 rfl rfl rfl ?_
          refine Wx.iload hC te_23_98 rfl ?_
          refine Wx.iald hC te_23_100 rfl H.1 (fun v29 e1 e2 => ?_)
          replace H := H.2 v29 e1 e2
          refine Wx.iconst hC te_23_101 rfl ?_
          refine Wx.icmp hC (t := 109) te_23_102 (by decide) (fun q => ?_) (fun q => ?_)
          · replace H := H.1 q
            refine Wx.iconst hC te_23_109 rfl ?_
            refine Wx.istore hC te_23_110 rfl ?_
            refine Wx.aload_n hC te_23_112 rfl ?_
            refine Wx.getR hC te_23_113 rfl rfl rfl ?_
            refine Wx.iload hC te_23_116 rfl ?_
            refine Wx.iald hC te_23_118 rfl H.1 (fun v30 e1 e2 => ?_)
            replace H := H.2 v30 e1 e2
            refine Wx.iconst hC te_23_119 rfl ?_
            refine Wx.icmp hC (t := 127) te_23_120 (by decide) (fun q => ?_) (fun q => ?_)
            · replace H := H.1 q
              refine Wx.iconst hC te_23_127 rfl ?_
              refine Wx.istore hC te_23_128 rfl ?_
              refine Wx.iload hC te_23_130 rfl ?_
              refine Wx.ifc hC (t := 154) te_23_132 (by decide) (fun q => ?_) (fun q => absurd (show (0 : Int) = 0 by decide) q)
              refine Wx.iload hC te_23_154 rfl ?_
              refine Wx.ifc hC (t := 180) te_23_156 (by decide) (fun q => ?_) (fun q => absurd (show (0 : Int) = 0 by decide) q)
              refine Wx.iload hC te_23_180 rfl ?_
              refine Wx.ifc hC (t := 205) te_23_182 (by decide) (fun q => ?_) (fun q => absurd (show (0 : Int) = 0 by decide) q)
              exact Wx.vret hC te_23_205 rfl H
            · replace H := H.2 q
              refine Wx.iconst hC te_23_123 rfl ?_
              refine Wx.goto hC (t := 128) te_23_124 (by decide) ?_
              refine Wx.istore hC te_23_128 rfl ?_
              refine Wx.iload hC te_23_130 rfl ?_
              refine Wx.ifc hC (t := 154) te_23_132 (by decide) (fun q => ?_) (fun q => absurd (show (0 : Int) = 0 by decide) q)
              refine Wx.iload hC te_23_154 rfl ?_
              refine Wx.ifc hC (t := 180) te_23_156 (by decide) (fun q => ?_) (fun q => absurd (show (0 : Int) = 0 by decide) q)
              refine Wx.iload hC te_23_180 rfl ?_
              refine Wx.ifc hC (t := 205) te_23_182 (by decide) (fun q => absurd q (show ¬ ((1 : Int) = 0) by decide)) (fun q => ?_)
              refine Wx.aload_n hC te_23_185 rfl ?_
              refine Wx.iload hC te_23_186 rfl ?_
              refine Wx.iload hC te_23_188 rfl ?_
              refine Wx.iload hC te_23_190 rfl ?_
              refine Wx.iconst hC te_23_192 rfl ?_
              refine Wx.aload_n hC te_23_193 rfl ?_
              refine Wx.iload hC te_23_194 rfl ?_
              refine Wx.iload hC te_23_196 rfl ?_
              refine Wx.statI hC te_23_198 (by decide) mt_18 (args := [.inr 1, .inl x3, .inl x4]) (rest := [.inl 1, .inl (r26 - r28), .inl x3, .inl x2, .inr W]) rfl rfl rfl rfl rfl ?_
              refine CWI.mono hC (fun r32 m31 H hy => ?_) H
              replace H := H hy
              refine Wx.isub hC te_23_201 H.1 ?_
              replace H := H.2
              refine Wx.virtV hC te_23_202 mt_20 (args := [.inr W, .inl x2, .inl x3, .inl (r26 - r28), .inl (1 - r32)]) (rest := []) rfl rfl rfl rfl rfl rfl hW.1 rfl ?_
              refine CWV.mono hC (fun m33 H => ?_) H
              exact Wx.vret hC te_23_205 rfl H
          · replace H := H.2 q
            refine Wx.iconst hC te_23_105 rfl ?_
            refine Wx.goto hC (t := 110) te_23_106 (by decide) ?_
            refine Wx.istore hC te_23_110 rfl ?_
            refine Wx.aload_n hC te_23_112 rfl ?_
            refine Wx.getR hC te_23_113 rfl rfl rfl ?_
            refine Wx.iload hC te_23_116 rfl ?_
            refine Wx.iald hC te_23_118 rfl H.1 (fun v34 e1 e2 => ?_)
            replace H := H.2 v34 e1 e2
            refine Wx.iconst hC te_23_119 rfl ?_
            refine Wx.icmp hC (t := 127) te_23_120 (by decide) (fun q => ?_) (fun q => ?_)
            · replace H := H.1 q
              refine Wx.iconst hC te_23_127 rfl ?_
              refine Wx.istore hC te_23_128 rfl ?_
              refine Wx.iload hC te_23_130 rfl ?_
              refine Wx.ifc hC (t := 154) te_23_132 (by decide) (fun q => absurd q (show ¬ ((1 : Int) = 0) by decide)) (fun q => ?_)
              refine Wx.iload hC te_23_135 rfl ?_
              refine Wx.ifc hC (t := 154) te_23_137 (by decide) (fun q => ?_) (fun q => absurd (show (0 : Int) = 0 by decide) q)
              refine Wx.iload hC te_23_154 rfl ?_
              refine Wx.ifc hC (t := 180) te_23_156 (by decide) (fun q => absurd q (show ¬ ((1 : Int) = 0) by decide)) (fun q => ?_)
              refine Wx.aload_n hC te_23_159 rfl ?_
              refine Wx.iload hC te_23_160 rfl ?_
              refine Wx.iload hC te_23_162 rfl ?_
              refine Wx.iload hC te_23_164 rfl ?_
              refine Wx.aload_n hC te_23_166 rfl ?_
              refine Wx.iload hC te_23_167 rfl ?_
              refine Wx.iload hC te_23_169 rfl ?_
              refine Wx.statI hC te_23_171 (by decide) mt_18 (args := [.inr 1, .inl x2, .inl x4]) (rest := [.inl (r26 - r28), .inl x3, .inl x2, .inr W]) rfl rfl rfl rfl rfl ?_
              refine CWI.mono hC (fun r36 m35 H hy => ?_) H
              replace H := H hy
              refine Wx.virtV hC te_23_174 mt_20 (args := [.inr W, .inl x2, .inl x3, .inl (r26 - r28), .inl r36]) (rest := []) rfl rfl rfl rfl rfl rfl hW.1 rfl ?_
              refine CWV.mono hC (fun m37 H => ?_) H
              refine Wx.goto hC (t := 205) te_23_177 (by decide) ?_
              exact Wx.vret hC te_23_205 rfl H
            · replace H := H.2 q
              refine Wx.iconst hC te_23_123 rfl ?_
              refine Wx.goto hC (t := 128) te_23_124 (by decide) ?_
              refine Wx.istore hC te_23_128 rfl ?_
              refine Wx.iload hC te_23_130 rfl ?_
              refine Wx.ifc hC (t := 154) te_23_132 (by decide) (fun q => absurd q (show ¬ ((1 : Int) = 0) by decide)) (fun q => ?_)
              refine Wx.iload hC te_23_135 rfl ?_
              refine Wx.ifc hC (t := 154) te_23_137 (by decide) (fun q => absurd q (show ¬ ((1 : Int) = 0) by decide)) (fun q => ?_)
              refine Wx.aload_n hC te_23_140 rfl ?_
              refine Wx.iload hC te_23_141 rfl ?_
              refine Wx.iload hC te_23_143 rfl ?_
              refine Wx.iload hC te_23_145 rfl ?_
              refine Wx.iconst hC te_23_147 rfl ?_
              refine Wx.virtV hC te_23_148 mt_20 (args := [.inr W, .inl x2, .inl x3, .inl (r26 - r28), .inl 1]) (rest := []) rfl rfl rfl rfl rfl rfl hW.1 rfl ?_
              refine CWV.mono hC (fun m38 H => ?_) H
              refine Wx.goto hC (t := 205) te_23_151 (by decide) ?_
              exact Wx.vret hC te_23_205 rfl H
      · replace H := H.2 q
        exact Wx.vret hC te_23_34 rfl H
    · replace H := H.2 q
      exact Wx.vret hC te_23_20 rfl H
theorem w_17_0 {C : CXW} (hC : Cmono C) {S : Nat × (Nat → Int32)} {K : WK} {mem : MM} {W : Nat} (hW : WebSh W) {x2 : Int} (H : (Wx C S M_17 K 7 [some (.inr W), some (.inr 1), some (.inl x2), some (.inl 0), none, none] [] (upm mem W 0 0))) : Wx C S M_17 K 0 [some (.inr W), some (.inr 1), some (.inl x2), none, none, none] [] mem := by
  refine Wx.aload_n hC te_17_0 rfl ?_
  refine Wx.iconst hC te_17_1 rfl ?_
  refine Wx.putI hC te_17_2 hW.1 rfl rfl rfl ?_
  refine Wx.iconst hC te_17_5 rfl ?_
  refine Wx.istore_n hC te_17_6 rfl ?_
  exact H
theorem w_17_7 {C : CXW} (hC : Cmono C) {S : Nat × (Nat → Int32)} {K : WK} {mem : MM} {W : Nat} (hW : WebSh W) {x2 x3 : Int} (H : ∀ v1 : Int, v1 = mem 1 0 → InI v1 → ((v1 ≤ x3 → (Wx C S M_17 K 77 [some (.inr W), some (.inr 1), some (.inl x2), some (.inl 0), none, none] [] mem)) ∧ (¬ (v1 ≤ x3) → (Wx C S M_17 K 18 [some (.inr W), some (.inr 1), some (.inl x2), some (.inl x3), some (.inl 0), none] [] mem)))) : Wx C S M_17 K 7 [some (.inr W), some (.inr 1), some (.inl x2), some (.inl x3), none, none] [] mem := by
  refine Wx.iload_n hC te_17_7 rfl ?_
  refine Wx.aload_n hC te_17_8 rfl ?_
  refine Wx.getI hC te_17_9 rfl rfl rfl (fun v1 e1 e2 => ?_)
  replace H := H v1 e1 e2
  refine Wx.icmp hC (t := 75) te_17_12 (by decide) (fun q => ?_) (fun q => ?_)
  · replace H := H.1 q
    refine Wx.iconst hC te_17_75 rfl ?_
    refine Wx.istore_n hC te_17_76 rfl ?_
    exact H
  · replace H := H.2 q
    refine Wx.iconst hC te_17_15 rfl ?_
    refine Wx.istore hC te_17_16 rfl ?_
    exact H
theorem w_17_18 {C : CXW} (hC : Cmono C) {S : Nat × (Nat → Int32)} {K : WK} {mem : MM} {W : Nat} (hW : WebSh W) {x2 x3 x4 : Int} (H : (CWI C 13 [.inr 1, .inl x3] mem fun r2 m1 => InI r2 → ((r2 ≤ x4 → (InI (x3 + 1)) ∧ (Wx C S M_17 K 7 [some (.inr W), some (.inr 1), some (.inl x2), some (.inl (x3 + 1)), none, none] [] m1)) ∧ (¬ (r2 ≤ x4) → (CWI C 14 [.inr 1, .inl x3, .inl x4] m1 fun r4 m3 => InI r4 → ((r4 < 0 → (InI (x4 + 1)) ∧ (Wx C S M_17 K 18 [some (.inr W), some (.inr 1), some (.inl x2), some (.inl x3), some (.inl (x4 + 1)), none] [] m3)) ∧ (¬ (r4 < 0) → (CWI C 15 [.inr 1, .inl x3, .inl x4] m3 fun r6 m5 => InI r6 → (CWI C 18 [.inr 1, .inl r4, .inl x2] m5 fun r8 m7 => InI r8 → (CWV C 20 [.inr W, .inl r4, .inl x3, .inl r6, .inl r8] m7 fun m9 => (InI (x4 + 1)) ∧ (Wx C S M_17 K 18 [some (.inr W), some (.inr 1), some (.inl x2), some (.inl x3), some (.inl (x4 + 1)), none] [] m9))))))))))) : Wx C S M_17 K 18 [some (.inr W), some (.inr 1), some (.inl x2), some (.inl x3), some (.inl x4), none] [] mem := by
  refine Wx.iload hC te_17_18 rfl ?_
  refine Wx.aload_n hC te_17_20 rfl ?_
  refine Wx.iload_n hC te_17_21 rfl ?_
  refine Wx.virtI hC te_17_22 mt_13 (args := [.inr 1, .inl x3]) (rest := [.inl x4]) rfl rfl rfl rfl rfl rfl rfl rfl ?_
  refine CWI.mono hC (fun r2 m1 H hy => ?_) H
  replace H := H hy
  refine Wx.icmp hC (t := 69) te_17_25 (by decide) (fun q => ?_) (fun q => ?_)
  · replace H := H.1 q
    refine Wx.iinc hC te_17_69 rfl rfl H.1 ?_
    replace H := H.2
    refine Wx.goto hC (t := 7) te_17_72 (by decide) ?_
    exact Wx.weak (by repeat' (first | exact trivial | exact rfl | constructor)) H
  · replace H := H.2 q
    refine Wx.aload_n hC te_17_28 rfl ?_
    refine Wx.iload_n hC te_17_29 rfl ?_
    refine Wx.iload hC te_17_30 rfl ?_
    refine Wx.virtI hC te_17_32 mt_14 (args := [.inr 1, .inl x3, .inl x4]) (rest := []) rfl rfl rfl rfl rfl rfl rfl rfl ?_
    refine CWI.mono hC (fun r4 m3 H hy => ?_) H
    replace H := H hy
    refine Wx.istore hC te_17_35 rfl ?_
    refine Wx.iload hC te_17_37 rfl ?_
    refine Wx.ifc hC (t := 63) te_17_39 (by decide) (fun q => ?_) (fun q => ?_)
    · replace H := H.1 q
      refine Wx.iinc hC te_17_63 rfl rfl H.1 ?_
      replace H := H.2
      refine Wx.goto hC (t := 18) te_17_66 (by decide) ?_
      exact Wx.weak (by repeat' (first | exact trivial | exact rfl | constructor)) H
    · replace H := H.2 q
      refine Wx.aload_n hC te_17_42 rfl ?_
      refine Wx.iload hC te_17_43 rfl ?_
      refine Wx.iload_n hC te_17_45 rfl ?_
      refine Wx.aload_n hC te_17_46 rfl ?_
      refine Wx.iload_n hC te_17_47 rfl ?_
      refine Wx.iload hC te_17_48 rfl ?_
      refine Wx.virtI hC te_17_50 mt_15 (args := [.inr 1, .inl x3, .inl x4]) (rest := [.inl x3, .inl r4, .inr W]) rfl rfl rfl rfl rfl rfl rfl rfl ?_
      refine CWI.mono hC (fun r6 m5 H hy => ?_) H
      replace H := H hy
      refine Wx.aload_n hC te_17_53 rfl ?_
      refine Wx.iload hC te_17_54 rfl ?_
      refine Wx.iload_n hC te_17_56 rfl ?_
      refine Wx.statI hC te_17_57 (by decide) mt_18 (args := [.inr 1, .inl r4, .inl x2]) (rest := [.inl r6, .inl x3, .inl r4, .inr W]) rfl rfl rfl rfl rfl ?_
      refine CWI.mono hC (fun r8 m7 H hy => ?_) H
      replace H := H hy
      refine Wx.virtV hC te_17_60 mt_20 (args := [.inr W, .inl r4, .inl x3, .inl r6, .inl r8]) (rest := []) rfl rfl rfl rfl rfl rfl hW.1 rfl ?_
      refine CWV.mono hC (fun m9 H => ?_) H
      refine Wx.iinc hC te_17_63 rfl rfl H.1 ?_
      replace H := H.2
      refine Wx.goto hC (t := 18) te_17_66 (by decide) ?_
      exact Wx.weak (by repeat' (first | exact trivial | exact rfl | constructor)) H
theorem w_17_77 {C : CXW} (hC : Cmono C) {S : Nat × (Nat → Int32)} {K : WK} {mem : MM} {W : Nat} (hW : WebSh W) {x2 x3 : Int} (H : ∀ v1 : Int, v1 = mem 1 0 → InI v1 → ((v1 ≤ x3 → (K none mem)) ∧ (¬ (v1 ≤ x3) → (InI (x3 + 1)) ∧ (Wx C S M_17 K 90 [some (.inr W), some (.inr 1), some (.inl x2), some (.inl x3), some (.inl (x3 + 1)), none] [] mem)))) : Wx C S M_17 K 77 [some (.inr W), some (.inr 1), some (.inl x2), some (.inl x3), none, none] [] mem := by
  refine Wx.iload_n hC te_17_77 rfl ?_
  refine Wx.aload_n hC te_17_78 rfl ?_
  refine Wx.getI hC te_17_79 rfl rfl rfl (fun v1 e1 e2 => ?_)
  replace H := H v1 e1 e2
  refine Wx.icmp hC (t := 120) te_17_82 (by decide) (fun q => ?_) (fun q => ?_)
  · replace H := H.1 q
    exact Wx.vret hC te_17_120 rfl H
  · replace H := H.2 q
    refine Wx.iload_n hC te_17_85 rfl ?_
    refine Wx.iconst hC te_17_86 rfl ?_
    refine Wx.iadd hC te_17_87 H.1 ?_
    replace H := H.2
    refine Wx.istore hC te_17_88 rfl ?_
    exact H
theorem w_17_90 {C : CXW} (hC : Cmono C) {S : Nat × (Nat → Int32)} {K : WK} {mem : MM} {W : Nat} (hW : WebSh W) {x2 x3 x4 : Int} (H : ∀ v1 : Int, v1 = mem 1 0 → InI v1 → ((v1 ≤ x4 → (InI (x3 + 1)) ∧ (Wx C S M_17 K 77 [some (.inr W), some (.inr 1), some (.inl x2), some (.inl (x3 + 1)), none, none] [] mem)) ∧ (¬ (v1 ≤ x4) → (CWV C 23 [.inr W, .inr 1, .inl x3, .inl x4, .inl x2] mem fun m2 => (InI (x4 + 1)) ∧ (Wx C S M_17 K 90 [some (.inr W), some (.inr 1), some (.inl x2), some (.inl x3), some (.inl (x4 + 1)), none] [] m2))))) : Wx C S M_17 K 90 [some (.inr W), some (.inr 1), some (.inl x2), some (.inl x3), some (.inl x4), none] [] mem := by
  refine Wx.iload hC te_17_90 rfl ?_
  refine Wx.aload_n hC te_17_92 rfl ?_
  refine Wx.getI hC te_17_93 rfl rfl rfl (fun v1 e1 e2 => ?_)
  replace H := H v1 e1 e2
  refine Wx.icmp hC (t := 114) te_17_96 (by decide) (fun q => ?_) (fun q => ?_)
  · replace H := H.1 q
    refine Wx.iinc hC te_17_114 rfl rfl H.1 ?_
    replace H := H.2
    refine Wx.goto hC (t := 77) te_17_117 (by decide) ?_
    exact Wx.weak (by repeat' (first | exact trivial | exact rfl | constructor)) H
  · replace H := H.2 q
    refine Wx.aload_n hC te_17_99 rfl ?_
    refine Wx.aload_n hC te_17_100 rfl ?_
    refine Wx.iload_n hC te_17_101 rfl ?_
    refine Wx.iload hC te_17_102 rfl ?_
    refine Wx.iload_n hC te_17_104 rfl ?_
    refine Wx.virtV hC te_17_105 mt_23 (args := [.inr W, .inr 1, .inl x3, .inl x4, .inl x2]) (rest := []) rfl rfl rfl rfl rfl rfl hW.1 rfl ?_
    refine CWV.mono hC (fun m2 H => ?_) H
    refine Wx.iinc hC te_17_108 rfl rfl H.1 ?_
    replace H := H.2
    refine Wx.goto hC (t := 90) te_17_111 (by decide) ?_
    exact H
/-! the class: its ops, and the web of needs -/
def BOp (m : MM) (o : Nat) : Prop := (0 ≤ m 2 o ∧ m 2 o ≤ 5) ∧ (m 2 o ≤ 3 → srcOK (m 3 (4 * o)) (m 3 (4 * o + 1)) ∧ srcOK (m 3 (4 * o + 2)) (m 3 (4 * o + 3))) ∧ (m 2 o = 4 → 0 ≤ m 3 (4 * o) ∧ m 3 (4 * o) ≤ 1 ∧ 0 ≤ m 3 (4 * o + 1) ∧ m 3 (4 * o + 1) ≤ 7) ∧ (m 2 o = 5 → srcOK (m 3 (4 * o)) (m 3 (4 * o + 1)) ∧ 0 ≤ m 3 (4 * o + 2) ∧ m 3 (4 * o + 2) ≤ 1 ∧ 0 ≤ m 3 (4 * o + 3) ∧ m 3 (4 * o + 3) ≤ 7)
def BodyOK (m : MM) : Prop := (0 ≤ m 1 0 ∧ m 1 0 ≤ 8) ∧ (∀ o, o < 8 → BOp m o) ∧ (∀ k, k < 6 → 0 ≤ m 5 k ∧ m 5 k ≤ 2) ∧ (∀ k, k < 6 → 1 ≤ m 6 k ∧ m 6 k ≤ 6) ∧ (∀ k, k < 6 → 1 ≤ m 7 k ∧ m 7 k ≤ 15) ∧ (∀ k, k < 3 → 1 ≤ m 8 k ∧ m 8 k ≤ 3)
def csN (m : MM) (o : Nat) : Int := if m 2 o = 4 then 0 else if m 2 o = 5 then 1 else 2
def rowB (m : MM) (o : Nat) : Int := if m 2 o = 5 then m 3 (4 * o + 2) else m 3 (4 * o)
def plcB (m : MM) (o : Nat) : Int := if m 2 o = 5 then m 3 (4 * o + 3) else m 3 (4 * o + 1)
theorem csN_le (m : MM) (o : Nat) : 0 ≤ csN m o ∧ csN m o ≤ 2 := by unfold csN; split <;> (try split) <;> omega
theorem BodyOK.src {m : MM} (h : BodyOK m) {o k : Nat} (ho : o < 8) (hk : (k : Int) < csN m o) : srcOK (m 3 (4 * o + 2 * k)) (m 3 (4 * o + 2 * k + 1)) := by
  obtain ⟨h1, h3, h4, h5⟩ := h.2.1 o ho
  unfold csN at hk
  split at hk
  · omega
  · split at hk
    · have e : k = 0 := by omega
      subst e
      exact (h5 (by assumption)).1
    · have : k = 0 ∨ k = 1 := by omega
      rcases this with e | e <;> subst e
      · exact (h3 (by omega)).1
      · exact (h3 (by omega)).2
theorem BodyOK.row {m : MM} (h : BodyOK m) {o : Nat} (ho : o < 8) (q : 4 ≤ m 2 o) : (0 ≤ rowB m o ∧ rowB m o ≤ 1) ∧ 0 ≤ plcB m o ∧ plcB m o ≤ 7 := by
  obtain ⟨h1, h3, h4, h5⟩ := h.2.1 o ho
  unfold rowB plcB
  by_cases e : m 2 o = 5
  · rw [if_pos e, if_pos e]; have := h5 e; omega
  · rw [if_neg e, if_neg e]; have := h4 (by omega); omega
def R64 (m : MM) (W : Nat) : Prop := ∀ j, j < 64 → Rg (m (W + 1) j) (m (W + 2) j) (m (W + 3) j) (m (W + 4) j)
def FrWb (W : Nat) (m m' : MM) : Prop := ∀ A i, ¬ (W < A ∧ A ≤ W + 4) → ¬ (A = W ∧ i = 0) → m' A i = m A i
theorem FrWb.rf {W : Nat} {m : MM} : FrWb W m m := fun _ _ _ _ => rfl
theorem FrWb.tr {W : Nat} {a b c : MM} (h1 : FrWb W a b) (h2 : FrWb W b c) : FrWb W a c := fun A i e1 e2 => (h2 A i e1 e2).trans (h1 A i e1 e2)
theorem BodyOK.fr {m m' : MM} (h : BodyOK m) (e : ∀ A i, 0 < A → A < 9 → m' A i = m A i) : BodyOK m' := by
  refine ⟨by rw [e _ _ (by omega) (by omega)]; exact h.1, fun o ho => ?_, fun k hk => ?_, fun k hk => ?_, fun k hk => ?_, fun k hk => ?_⟩
  · unfold BOp
    rw [e 2 o (by omega) (by omega), e 3 (4 * o) (by omega) (by omega), e 3 (4 * o + 1) (by omega) (by omega), e 3 (4 * o + 2) (by omega) (by omega), e 3 (4 * o + 3) (by omega) (by omega)]
    exact h.2.1 o ho
  · rw [e _ _ (by omega) (by omega)]; exact h.2.2.1 k hk
  · rw [e _ _ (by omega) (by omega)]; exact h.2.2.2.1 k hk
  · rw [e _ _ (by omega) (by omega)]; exact h.2.2.2.2.1 k hk
  · rw [e _ _ (by omega) (by omega)]; exact h.2.2.2.2.2 k hk
/-- a web between its calls -/
def WbOK (m : MM) (W : Nat) : Prop := R64 m W ∧ 0 ≤ m W 0 ∧ m W 0 ≤ 64
section WEB
variable {S : Nat × (Nat → Int32)} {n : Nat} {mem : MM} {K : Int → MM → Prop}
theorem f_13 {o : Int} (h : 0 ≤ o ∧ o < 8) (H : K (csN mem o.toNat) mem) : CWI (Ex S (n + 1)) 13 [.inr 1, .inl o] mem K := by
  refine CW.of (k := 0) mt_13 rfl rfl (w_13_0 (Ex.mono S n) ⟨h, fun v e _ => ⟨fun q => ⟨h, fun v2 e2 _ => ⟨fun q2 _ => ⟨_, rfl, ?_⟩, fun q2 _ => ⟨_, rfl, ?_⟩⟩⟩, fun q _ => ⟨_, rfl, ?_⟩⟩⟩)
  · unfold csN at H; rw [if_neg (by omega), if_neg (by omega)] at H; exact H
  · unfold csN at H; rw [if_neg (by omega), if_pos (by omega)] at H; exact H
  · unfold csN at H; rw [if_pos (by omega)] at H; exact H
theorem f_14 {o k : Nat} (ho : o < 8) (hk : k < 2) (H : K (mem 3 (4 * o + 2 * k)) mem) : CWI (Ex S (n + 1)) 14 [.inr 1, .inl (o : Int), .inl (k : Int)] mem K := by
  refine CW.of (k := 0) mt_14 rfl rfl (w_14_0 (Ex.mono S n) ⟨by unfold InI; omega, by unfold InI; omega, by unfold InI; omega, by omega, fun v e _ _ => ⟨_, rfl, ?_⟩⟩)
  rw [show ((o : Int) * 4 + (k : Int) * 2).toNat = 4 * o + 2 * k by omega] at e
  rw [e]; exact H
theorem f_15 {o k : Nat} (ho : o < 8) (hk : k < 2) (H : K (mem 3 (4 * o + 2 * k + 1)) mem) : CWI (Ex S (n + 1)) 15 [.inr 1, .inl (o : Int), .inl (k : Int)] mem K := by
  refine CW.of (k := 0) mt_15 rfl rfl (w_15_0 (Ex.mono S n) ⟨by unfold InI; omega, by unfold InI; omega, by unfold InI; omega, by unfold InI; omega, by omega, fun v e _ _ => ⟨_, rfl, ?_⟩⟩)
  rw [show ((o : Int) * 4 + (k : Int) * 2 + 1).toNat = 4 * o + 2 * k + 1 by omega] at e
  rw [e]; exact H
theorem f_24 {o : Nat} (ho : o < 8) (H : K (rowB mem o) mem) : CWI (Ex S (n + 1)) 24 [.inr 1, .inl (o : Int)] mem K := by
  refine CW.of (k := 0) mt_24 rfl rfl (w_24_0 (Ex.mono S n) ⟨by omega, fun v e _ => ⟨fun q => ⟨by unfold InI; omega, by omega, fun v2 e2 _ _ => ⟨_, rfl, ?_⟩⟩, fun q => ⟨by unfold InI; omega, by unfold InI; omega, by omega, fun v2 e2 _ _ => ⟨_, rfl, ?_⟩⟩⟩⟩) <;> rw [Int.toNat_natCast] at e
  · rw [show ((o : Int) * 4).toNat = 4 * o by omega] at e2
    unfold rowB at H; rw [if_neg (by omega)] at H; rw [e2]; exact H
  · rw [show ((o : Int) * 4 + 2).toNat = 4 * o + 2 by omega] at e2
    unfold rowB at H; rw [if_pos (by omega)] at H; rw [e2]; exact H
theorem f_25 {o : Nat} (ho : o < 8) (H : K (plcB mem o) mem) : CWI (Ex S (n + 1)) 25 [.inr 1, .inl (o : Int)] mem K := by
  refine CW.of (k := 0) mt_25 rfl rfl (w_25_0 (Ex.mono S n) ⟨by omega, fun v e _ => ⟨fun q => ⟨by unfold InI; omega, by unfold InI; omega, by omega, fun v2 e2 _ _ => ⟨_, rfl, ?_⟩⟩, fun q => ⟨by unfold InI; omega, by unfold InI; omega, by omega, fun v2 e2 _ _ => ⟨_, rfl, ?_⟩⟩⟩⟩) <;> rw [Int.toNat_natCast] at e
  · rw [show ((o : Int) * 4 + 1).toNat = 4 * o + 1 by omega] at e2
    unfold plcB at H; rw [if_neg (by omega)] at H; rw [e2]; exact H
  · rw [show ((o : Int) * 4 + 3).toNat = 4 * o + 3 by omega] at e2
    unfold plcB at H; rw [if_pos (by omega)] at H; rw [e2]; exact H
theorem f_19 (hB : BodyOK mem) {o : Int} (h : 0 ≤ o ∧ o < 8) (H : ∀ u, 1 ≤ u → u ≤ 6 → K u mem) : CWI (Ex S (n + 1)) 19 [.inr 1, .inl o] mem K := by
  obtain ⟨h1, -⟩ := hB.2.1 o.toNat (by omega)
  refine CW.of (k := 0) mt_19 rfl rfl (w_19_0 (Ex.mono S n) ⟨h, fun v e _ => ⟨by omega, fun v2 e2 _ _ => ⟨_, rfl, ?_⟩⟩⟩)
  have := hB.2.2.2.1 v.toNat (by omega)
  exact H v2 (by omega) (by omega)
theorem f_37 (hB : BodyOK mem) {o : Int} (h : 0 ≤ o ∧ o < 8) (H : ∀ u, 0 ≤ u → u ≤ 2 → K u mem) : CWI (Ex S (n + 1)) 37 [.inr 1, .inl o] mem K := by
  obtain ⟨h1, -⟩ := hB.2.1 o.toNat (by omega)
  refine CW.of (k := 0) mt_37 rfl rfl (w_37_0 (Ex.mono S n) ⟨h, fun v e _ => ⟨by omega, fun v2 e2 _ _ => ⟨_, rfl, ?_⟩⟩⟩)
  have := hB.2.2.1 v.toNat (by omega)
  exact H v2 (by omega) (by omega)
theorem f_38 (hB : BodyOK mem) {o : Int} (h : 0 ≤ o ∧ o < 8) (H : ∀ u, 1 ≤ u → u ≤ 15 → K u mem) : CWI (Ex S (n + 1)) 38 [.inr 1, .inl o] mem K := by
  obtain ⟨h1, -⟩ := hB.2.1 o.toNat (by omega)
  refine CW.of (k := 0) mt_38 rfl rfl (w_38_0 (Ex.mono S n) ⟨h, fun v e _ => ⟨by omega, fun v2 e2 _ _ => ⟨_, rfl, ?_⟩⟩⟩)
  have := hB.2.2.2.2.1 v.toNat (by omega)
  exact H v2 (by omega) (by omega)
theorem f_18 (hB : BodyOK mem) {o q : Int} (h : 0 ≤ o ∧ o < 8) (H : ∀ u, 0 ≤ u → u ≤ 6 → K u mem) : CWI (Ex S (n + 2)) 18 [.inr 1, .inl o, .inl q] mem K :=
  CW.of (k := 1) mt_18 rfl rfl (w_18_0 (Ex.mono S (n + 1)) (f_19 hB h (fun u u1 u2 _ => ⟨h, fun v _ _ => ⟨fun _ _ => ⟨_, rfl, H u (by omega) u2⟩, fun _ => ⟨by unfold InI; omega, fun _ => ⟨_, rfl, H _ (by omega) (by omega)⟩⟩⟩⟩)))
theorem f_21 {W : Nat} (hW : WebSh W) (hR : R64 mem W) {j a b d l : Int} (hj : 0 ≤ j ∧ j < 64) (hr : Rg a b d l) (H : ∀ r, K r mem) : CWI (Ex S (n + 1)) 21 [.inr W, .inl j, .inl a, .inl b, .inl d, .inl l] mem K := by
  obtain ⟨r1, r2, r3, r4⟩ := hR j.toNat (by omega)
  obtain ⟨s1, s2, s3, s4⟩ := hr
  refine CW.of (k := 0) mt_21 rfl rfl (w_21_0 (Ex.mono S n) hW ⟨hj, fun v1 e1 _ => ⟨fun _ => ⟨hj, fun v2 e2 _ => ⟨fun _ => ⟨hj, fun v3 e3 _ => ⟨fun _ => ⟨hj, fun v4 e4 _ => ⟨by unfold InI; omega, fun _ => ⟨_, rfl, H _⟩⟩⟩, fun _ => ⟨hj, fun v5 e5 _ => ⟨by unfold InI; omega, fun _ => ⟨_, rfl, H _⟩⟩⟩⟩⟩, fun _ => ⟨hj, fun v5 e5 _ => ⟨by unfold InI; omega, fun _ => ⟨_, rfl, H _⟩⟩⟩⟩⟩, fun _ => ⟨hj, fun v5 e5 _ => ⟨by unfold InI; omega, fun _ => ⟨_, rfl, H _⟩⟩⟩⟩⟩)
theorem f_22 {K : MM → Prop} {W : Nat} (hW : WebSh W) (hR : R64 mem W) {j a b d l : Int} (hj : 0 ≤ j ∧ j < 64) (hr : Rg a b d l) (H : ∀ m', FrWb W mem m' → m' W 0 = mem W 0 → R64 m' W → K m') : CWV (Ex S (n + 1)) 22 [.inr W, .inl j, .inl a, .inl b, .inl d, .inl l] mem K := by
  refine CW.of (k := 0) mt_22 rfl rfl (w_22_0 (Ex.mono S n) hW ⟨hj, hj, hj, hj, rfl, H _ (fun A i e1 e2 => ?_) ?_ (fun i hi => ?_)⟩)
  · rw [upm_ne (by omega), upm_ne (by omega), upm_ne (by omega), upm_ne (by omega)]
  · rw [upm_ne (by omega), upm_ne (by omega), upm_ne (by omega), upm_ne (by omega)]
  · by_cases e : i = j.toNat
    · subst e
      rw [upm_ne (A := W + 4) (B := W + 1) (by omega), upm_ne (A := W + 3) (B := W + 1) (by omega), upm_ne (A := W + 2) (B := W + 1) (by omega), upm_eq, upm_ne (A := W + 4) (B := W + 2) (by omega), upm_ne (A := W + 3) (B := W + 2) (by omega), upm_eq, upm_ne (A := W + 4) (B := W + 3) (by omega), upm_eq, upm_eq]
      exact hr
    · rw [upm_ne (A := W + 4) (B := W + 1) (by omega), upm_ne (A := W + 3) (B := W + 1) (by omega), upm_ne (A := W + 2) (B := W + 1) (by omega), upm_ne (A := W + 1) (B := W + 1) (by omega), upm_ne (A := W + 4) (B := W + 2) (by omega), upm_ne (A := W + 3) (B := W + 2) (by omega), upm_ne (A := W + 2) (B := W + 2) (by omega), upm_ne (A := W + 1) (B := W + 2) (by omega), upm_ne (A := W + 4) (B := W + 3) (by omega), upm_ne (A := W + 3) (B := W + 3) (by omega), upm_ne (A := W + 2) (B := W + 3) (by omega), upm_ne (A := W + 1) (B := W + 3) (by omega), upm_ne (A := W + 4) (B := W + 4) (by omega), upm_ne (A := W + 3) (B := W + 4) (by omega), upm_ne (A := W + 2) (B := W + 4) (by omega), upm_ne (A := W + 1) (B := W + 4) (by omega)]
      exact hR i hi
theorem f_20 {K : MM → Prop} {W : Nat} (hW : WebSh W) (hO : WbOK mem W) {a b d l : Int} (hr : Rg a b d l) (H : ∀ m', FrWb W mem m' → WbOK m' W → K m') : CWV (Ex S (n + 2)) 20 [.inr W, .inl a, .inl b, .inl d, .inl l] mem K := by
  obtain ⟨hR, h0, h64⟩ := hO
  have at72 : ∀ (N : Nat) (p x i : Int) (m : MM), 0 ≤ p → p ≤ i → i < 64 → (i - p).toNat < N → FrWb W mem m → m W 0 = mem W 0 → R64 m W → mem W 0 < 64 → Wx (Ex S (n + 1)) S M_20 (fun r m => r = none ∧ K m) 72 [some (.inr W), some (.inl a), some (.inl b), some (.inl d), some (.inl l), some (.inl p), some (.inl x), some (.inl i)] [] m := by
    intro N
    induction N with
    | zero => intros; omega
    | succ N ih =>
      intro p x i m hp hpi hi hN hF e0 hRm h63
      refine w_20_72 (Ex.mono S (n + 1)) hW ⟨fun q => f_22 hW hRm ⟨hp, by omega⟩ hr (fun m1 k1 k2 k3 v2 e2 _ => ⟨by unfold InI; omega, rfl, H _ (fun A i e1 e2 => ?_) ⟨fun j hj => ?_, ?_⟩⟩), fun q => ?_⟩
      · rw [upm_ne e2]; exact (hF.tr k1) A i e1 e2
      · rw [upm_ne (by omega), upm_ne (by omega), upm_ne (by omega), upm_ne (by omega)]; exact k3 j hj
      · rw [upm_eq]; omega
      · have hi1 : 0 ≤ i - 1 ∧ i - 1 < 64 := by omega
        have hI : InI (i - 1) := by unfold InI; omega
        refine ⟨hI, hi1, fun v3 e3 _ => ⟨hI, hi1, fun v4 e4 _ => ⟨hI, hi1, fun v5 e5 _ => ⟨hI, hi1, fun v6 e6 _ => ?_⟩⟩⟩⟩
        have hg := hRm (i - 1).toNat (by omega)
        rw [← e3, ← e4, ← e5, ← e6] at hg
        refine f_22 hW hRm ⟨by omega, hi⟩ hg (fun m7 k1 k2 k3 => ⟨by unfold InI; omega, ?_⟩)
        rw [show i + -1 = i - 1 by omega]
        exact ih p x (i - 1) m7 hp (by omega) (by omega) (by omega) (hF.tr k1) (k2.trans e0) k3 h63
  have key : ∀ (N : Nat) (p x : Int), 0 ≤ p → p ≤ mem W 0 → (mem W 0 - p).toNat < N → Wx (Ex S (n + 1)) S M_20 (fun r m => r = none ∧ K m) 6 [some (.inr W), some (.inl a), some (.inl b), some (.inl d), some (.inl l), some (.inl p), some (.inl x), none] [] mem := by
    intro N
    induction N with
    | zero => intros; omega
    | succ N ih =>
      intro p x hp hp2 hN
      have fin : ∃ z : Option Int, z = none ∧ K mem := ⟨none, rfl, H mem FrWb.rf ⟨hR, h0, h64⟩⟩
      have fk : K mem := H mem FrWb.rf ⟨hR, h0, h64⟩
      have go : ∀ x v : Int, v = mem W 0 → v < 64 → Wx (Ex S (n + 1)) S M_20 (fun r m => r = none ∧ K m) 72 [some (.inr W), some (.inl a), some (.inl b), some (.inl d), some (.inl l), some (.inl p), some (.inl x), some (.inl v)] [] mem := fun x v e z => at72 _ p x v mem hp (by omega) (by omega) (Nat.lt_succ_self _) FrWb.rf rfl hR (by omega)
      refine w_20_6 (Ex.mono S (n + 1)) hW (fun v1 e1 _ => ⟨fun q v2 e2 _ => ⟨fun _ v3 e3 _ => ⟨fun z v4 e4 _ => go _ _ e4 (by omega), fun _ => ⟨rfl, fk⟩⟩, fun z => ⟨fun _ => ⟨rfl, fk⟩, fun _ v5 e5 _ => ⟨fun z v6 e6 _ => go _ _ e6 (by omega), fun _ => ⟨rfl, fk⟩⟩⟩⟩, fun q => ?_⟩)
      exact f_21 hW hR ⟨hp, by omega⟩ hr (fun r _ => ⟨fun _ => ⟨by unfold InI; omega, ih (p + 1) r (by omega) (by omega) (by omega)⟩, fun _ v9 e9 _ => ⟨fun _ v10 e10 _ => ⟨fun z v11 e11 _ => go _ _ e11 (by omega), fun _ => ⟨rfl, fk⟩⟩, fun _ => ⟨fun _ => ⟨rfl, fk⟩, fun _ v12 e12 _ => ⟨fun z v13 e13 _ => go _ _ e13 (by omega), fun _ => ⟨rfl, fk⟩⟩⟩⟩⟩)
  exact CW.of (k := 3) mt_20 rfl rfl (w_20_0 (Ex.mono S (n + 1)) hW (key _ 0 (-1) (by omega) h0 (Nat.lt_succ_self _)))
theorem f_23 {K : MM → Prop} {W : Nat} (hW : WebSh W) (hB : BodyOK mem) (hO : WbOK mem W) {o p : Nat} {q : Int} (ho : o < 8) (hp : p < 8) (H : ∀ m', FrWb W mem m' → WbOK m' W → K m') : CWV (Ex S (n + 3)) 23 [.inr W, .inr 1, .inl (o : Int), .inl (p : Int), .inl q] mem K := by
  have same : none = (none : Option Int) ∧ K mem := ⟨rfl, H mem FrWb.rf hO⟩
  have ko : 0 ≤ (o : Int) ∧ (o : Int) < 8 := by omega
  have kp : 0 ≤ (p : Int) ∧ (p : Int) < 8 := by omega
  refine CW.of (k := 6) mt_23 rfl rfl (w_23_0 (Ex.mono S (n + 2)) hW ⟨ko, fun v1 e1 _ => ⟨fun _ => same, fun q1 => ⟨kp, fun v2 e2 _ => ⟨fun q2 => f_24 ho (fun _ => f_24 hp (fun _ => ⟨fun _ => f_25 ho (fun _ => f_25 hp (fun _ => ?_)), fun _ => same⟩)), fun _ => same⟩⟩⟩⟩)
  rw [Int.toNat_natCast] at e1 e2
  have ro := hB.row ho (by omega)
  have rp := hB.row hp (by omega)
  have put : ∀ a b d l : Int, Rg a b d l → CWV (Ex S (n + 2)) 20 [.inr W, .inl a, .inl b, .inl d, .inl l] mem fun m' => none = (none : Option Int) ∧ K m' := fun a b d l hg => f_20 hW hO hg (fun m' k1 k2 => ⟨rfl, H m' k1 k2⟩)
  refine ⟨fun z => f_25 hp (fun _ => f_25 ho (fun _ => ⟨by unfold InI; omega, kp, fun v15 _ _ => ⟨fun _ => ⟨ko, fun v16 _ _ => ⟨fun _ => same, fun _ => f_18 hB ko (fun u u1 u2 _ => ⟨by unfold InI; omega, put p o (plcB mem p - plcB mem o) (1 - u) (by unfold Rg; omega)⟩)⟩⟩, fun _ => ⟨ko, fun v20 _ _ => ⟨fun _ => f_18 hB kp (fun u u1 u2 _ => put p o (plcB mem p - plcB mem o) u (by unfold Rg; omega)), fun _ => put p o (plcB mem p - plcB mem o) 1 (by unfold Rg; omega)⟩⟩⟩⟩)), fun z => f_25 ho (fun _ => f_25 hp (fun _ => ⟨by unfold InI; omega, ko, fun v15 _ _ => ⟨fun _ => ⟨kp, fun v16 _ _ => ⟨fun _ => same, fun _ => f_18 hB kp (fun u u1 u2 _ => ⟨by unfold InI; omega, put o p (plcB mem o - plcB mem p) (1 - u) (by unfold Rg; omega)⟩)⟩⟩, fun _ => ⟨kp, fun v20 _ _ => ⟨fun _ => f_18 hB ko (fun u u1 u2 _ => put o p (plcB mem o - plcB mem p) u (by unfold Rg; omega)), fun _ => put o p (plcB mem o - plcB mem p) 1 (by unfold Rg; omega)⟩⟩⟩⟩))⟩
theorem f_17 {K : MM → Prop} {W : Nat} (hW : WebSh W) (hWv : W = 9 ∨ W = 14) (hB : BodyOK mem) (hO : R64 mem W) {q : Int} (H : ∀ m', FrWb W mem m' → WbOK m' W → K m') : CWV (Ex S (n + 4)) 17 [.inr W, .inr 1, .inl q] mem K := by
  have h8 := hB.1
  have bF : ∀ m, FrWb W mem m → BodyOK m := fun m hF => hB.fr (fun A i e1 e2 => hF A i (by omega) (by omega))
  have sz : ∀ m, FrWb W mem m → m 1 0 = mem 1 0 := fun m hF => hF _ _ (by omega) (by omega)
  have l77 : ∀ (N : Nat) (o : Nat) (m : MM), (mem 1 0 - o).toNat < N → FrWb W mem m → WbOK m W → Wx (Ex S (n + 3)) S M_17 (fun r m => r = none ∧ K m) 77 [some (.inr W), some (.inr 1), some (.inl q), some (.inl (o : Int)), none, none] [] m := by
    intro N
    induction N with
    | zero => intros; omega
    | succ N ih =>
      intro o m hN hF hO'
      have es := sz m hF
      refine w_17_77 (Ex.mono S (n + 3)) hW (fun v1 e1 _ => ⟨fun _ => ⟨rfl, H m hF hO'⟩, fun z => ⟨by unfold InI; omega, ?_⟩⟩)
      have inner : ∀ (N' : Nat) (p : Nat) (m : MM), (mem 1 0 - p).toNat < N' → FrWb W mem m → WbOK m W → Wx (Ex S (n + 3)) S M_17 (fun r m => r = none ∧ K m) 90 [some (.inr W), some (.inr 1), some (.inl q), some (.inl (o : Int)), some (.inl (p : Int)), none] [] m := by
        intro N'
        induction N' with
        | zero => intros; omega
        | succ N' ih2 =>
          intro p m hN' hF hO'
          have es := sz m hF
          exact w_17_90 (Ex.mono S (n + 3)) hW (fun v1 e1 _ => ⟨fun _ => ⟨by unfold InI; omega, ih (o + 1) m (by omega) hF hO'⟩, fun z2 => f_23 hW (bF m hF) hO' (by omega) (by omega) (fun m' k1 k2 => ⟨by unfold InI; omega, ih2 (p + 1) m' (by omega) (hF.tr k1) k2⟩)⟩)
      exact inner _ (o + 1) m (Nat.lt_succ_self _) hF hO'
  have l7 : ∀ (N : Nat) (o : Nat) (m : MM), (mem 1 0 - o).toNat < N → FrWb W mem m → WbOK m W → Wx (Ex S (n + 3)) S M_17 (fun r m => r = none ∧ K m) 7 [some (.inr W), some (.inr 1), some (.inl q), some (.inl (o : Int)), none, none] [] m := by
    intro N
    induction N with
    | zero => intros; omega
    | succ N ih =>
      intro o m hN hF hO'
      have es := sz m hF
      refine w_17_7 (Ex.mono S (n + 3)) hW (fun v1 e1 _ => ⟨fun _ => l77 _ 0 m (Nat.lt_succ_self _) hF hO', fun z => ?_⟩)
      have inner : ∀ (N' : Nat) (k : Nat) (m : MM), k ≤ 2 → 3 - k < N' → FrWb W mem m → WbOK m W → Wx (Ex S (n + 3)) S M_17 (fun r m => r = none ∧ K m) 18 [some (.inr W), some (.inr 1), some (.inl q), some (.inl (o : Int)), some (.inl (k : Int)), none] [] m := by
        intro N'
        induction N' with
        | zero => intros; omega
        | succ N' ih2 =>
          intro k m hk hN' hF hO'
          have es := sz m hF
          have hcs := csN_le m o
          refine w_17_18 (Ex.mono S (n + 3)) hW (f_13 ⟨by omega, by omega⟩ (fun _ => ⟨fun _ => ⟨by unfold InI; omega, ih (o + 1) m (by omega) hF hO'⟩, fun z2 => ?_⟩))
          rw [Int.toNat_natCast] at z2
          have hs := (bF m hF).src (o := o) (k := k) (by omega) (by omega)
          refine f_14 (by omega) (by omega) (fun _ => ⟨fun _ => ⟨by unfold InI; omega, ih2 (k + 1) m (by omega) (by omega) hF hO'⟩, fun z3 => f_15 (by omega) (by omega) (fun _ => ?_)⟩)
          unfold srcOK at hs
          exact f_18 (bF m hF) ⟨by omega, by omega⟩ (fun u u1 u2 _ => f_20 hW hO' (by unfold Rg; omega) (fun m' k1 k2 => ⟨by unfold InI; omega, ih2 (k + 1) m' (by omega) (by omega) (hF.tr k1) k2⟩))
      exact inner 4 0 m (by omega) (by omega) hF hO'
  refine CW.of (k := 3) mt_17 rfl rfl (w_17_0 (Ex.mono S (n + 3)) hW (l7 _ 0 _ (Nat.lt_succ_self _) (fun A i e1 e2 => upm_ne e2) ⟨fun j hj => ?_, by rw [upm_eq]; omega⟩))
  rw [upm_ne (by omega), upm_ne (by omega), upm_ne (by omega), upm_ne (by omega)]; exact hO j hj
end WEB
/-! bits of a set of ops -/
def X1 (o : Int) : Int32 := Int32.ofInt 1 <<< (Int32.ofInt o &&& 31)
def tb (t o : Int) : Prop := ¬ (Int32.ofInt t &&& X1 o = 0)
theorem i32_dist (x a b : Int32) : (x ||| a) &&& b = (x &&& b) ||| (a &&& b) := Int32.toBitVec_inj.1 (by
  show (x.toBitVec ||| a.toBitVec) &&& b.toBitVec = (x.toBitVec &&& b.toBitVec) ||| (a.toBitVec &&& b.toBitVec)
  ext i hi
  simp [Bool.and_or_distrib_right])
theorem X1_off {o p : Int} (ho : 0 ≤ o ∧ o < 8) (hp : 0 ≤ p ∧ p < 8) (h : ¬ o = p) : X1 o &&& X1 p = 0 := by
  have a : o = 0 ∨ o = 1 ∨ o = 2 ∨ o = 3 ∨ o = 4 ∨ o = 5 ∨ o = 6 ∨ o = 7 := by omega
  have b : p = 0 ∨ p = 1 ∨ p = 2 ∨ p = 3 ∨ p = 4 ∨ p = 5 ∨ p = 6 ∨ p = 7 := by omega
  rcases a with a | a | a | a | a | a | a | a <;> rcases b with b | b | b | b | b | b | b | b <;> subst a <;> subst b <;> first | exact absurd rfl h | decide
theorem X1_on {o : Int} (ho : 0 ≤ o ∧ o < 8) : ¬ X1 o = 0 := by
  have a : o = 0 ∨ o = 1 ∨ o = 2 ∨ o = 3 ∨ o = 4 ∨ o = 5 ∨ o = 6 ∨ o = 7 := by omega
  rcases a with a | a | a | a | a | a | a | a <;> subst a <;> decide
theorem tI0 (x : Int32) : x.toInt = 0 ↔ x = 0 := ⟨fun h => toInt_inj (by rw [h]; rfl), fun h => by rw [h]; rfl⟩
/-- the test -/
theorem tb_of {t o b1 b2 : Int} (e1 : b1 = ((fun (x y : Int32) => x <<< (y &&& 31)) (Int32.ofInt 1) (Int32.ofInt o)).toInt) (e2 : b2 = ((fun (x y : Int32) => x &&& y) (Int32.ofInt t) (Int32.ofInt b1)).toInt) : b2 = 0 ↔ ¬ tb t o := by
  have e1 : b1 = (X1 o).toInt := e1
  rw [e2, e1]
  show (Int32.ofInt t &&& Int32.ofInt (X1 o).toInt).toInt = 0 ↔ _
  rw [Int32.ofInt_toInt, tI0]
  unfold tb
  exact ⟨fun h q => q h, fun h => Classical.not_not.mp h⟩
/-- one more -/
theorem tb_set {t o p b1 t' : Int} (e1 : b1 = ((fun (x y : Int32) => x <<< (y &&& 31)) (Int32.ofInt 1) (Int32.ofInt o)).toInt) (e2 : t' = ((fun (x y : Int32) => x ||| y) (Int32.ofInt t) (Int32.ofInt b1)).toInt) (ho : 0 ≤ o ∧ o < 8) (hp : 0 ≤ p ∧ p < 8) : tb t' p ↔ tb t p ∨ o = p := by
  have e1 : b1 = (X1 o).toInt := e1
  have e2 : t' = (Int32.ofInt t ||| X1 o).toInt := by
    rw [e2, e1]
    show (Int32.ofInt t ||| Int32.ofInt (X1 o).toInt).toInt = _
    rw [Int32.ofInt_toInt]
  unfold tb
  rw [e2, Int32.ofInt_toInt, i32_dist]
  by_cases h : o = p
  · subst h
    rw [Int32.and_self]
    refine ⟨fun _ => Or.inr rfl, fun _ q => ?_⟩
    exact X1_on ho (Int32.or_eq_zero_iff.mp q).2
  · rw [X1_off ho hp h, Int32.or_zero]
    exact ⟨Or.inl, fun q => q.elim id (fun z => absurd z h)⟩
/-- some fewer -/
theorem tb_and {t y p t' : Int} (e2 : t' = ((fun (x y : Int32) => x &&& y) (Int32.ofInt t) (Int32.ofInt y)).toInt) (h : tb t' p) : tb t p := by
  unfold tb at h ⊢
  intro q
  apply h
  have e2 : t' = (Int32.ofInt t &&& Int32.ofInt y).toInt := e2
  rw [e2, Int32.ofInt_toInt, Int32.and_assoc, Int32.and_comm (Int32.ofInt y), ← Int32.and_assoc, q, Int32.zero_and]
/-- how many ops are not in it -/
def cnt (t : Int) : Nat := smN (fun p => if Int32.ofInt t &&& X1 (p : Int) = 0 then 1 else 0) 8
theorem smN_mono {f g : Nat → Nat} : ∀ k, (∀ i, i < k → f i ≤ g i) → smN f k ≤ smN g k
  | 0, _ => Nat.le_refl _
  | k + 1, h => by
    have := smN_mono k (fun i hi => h i (by omega))
    have := h k (by omega)
    simp only [smN]; omega
theorem smN_lt {f g : Nat → Nat} {i : Nat} : ∀ k, (∀ i, i < k → f i ≤ g i) → i < k → f i < g i → smN f k < smN g k
  | 0, _, h, _ => by omega
  | k + 1, h, hi, hl => by
    have h2 := h k (by omega)
    simp only [smN]
    by_cases e : i = k
    · subst e
      have := smN_mono i (fun j hj => h j (by omega))
      omega
    · have := smN_lt k (fun j hj => h j (by omega)) (by omega) hl
      omega
theorem cnt_le (t : Int) : cnt t ≤ 8 := by
  have := smN_le (f := fun p => if Int32.ofInt t &&& X1 (p : Int) = 0 then 1 else 0) (c := 1) 8 (fun i _ => by split <;> omega)
  unfold cnt; omega
theorem cnt_set {t o b1 t' : Int} (e1 : b1 = ((fun (x y : Int32) => x <<< (y &&& 31)) (Int32.ofInt 1) (Int32.ofInt o)).toInt) (e2 : t' = ((fun (x y : Int32) => x ||| y) (Int32.ofInt t) (Int32.ofInt b1)).toInt) (ho : 0 ≤ o ∧ o < 8) (h : ¬ tb t o) : cnt t' < cnt t := by
  unfold cnt
  refine smN_lt (i := o.toNat) 8 (fun i hi => ?_) (by omega) ?_
  · have := tb_set (p := (i : Int)) e1 e2 ho ⟨by omega, by omega⟩
    unfold tb at this
    by_cases z : Int32.ofInt t &&& X1 (i : Int) = 0
    · rw [if_pos z]; split <;> omega
    · rw [if_neg (this.mpr (Or.inl z))]; omega
  · have := tb_set (p := o) e1 e2 ho ho
    unfold tb at this h
    rw [show ((o.toNat : Nat) : Int) = o by omega, if_neg (this.mpr (Or.inr rfl)), if_pos (Classical.not_not.mp h)]; omega
/-! laid by wip/hand/wxg.py: rings of the web: what the paths of methods ask for -/
set_option maxRecDepth 100000 in
theorem mt_26 : MT[26]? = some M_26 := rfl
set_option maxRecDepth 100000 in
theorem mt_27 : MT[27]? = some M_27 := rfl
set_option maxRecDepth 100000 in
theorem mt_28 : MT[28]? = some M_28 := rfl
set_option maxRecDepth 100000 in
theorem mt_29 : MT[29]? = some M_29 := rfl
set_option maxRecDepth 100000 in
theorem mt_30 : MT[30]? = some M_30 := rfl
theorem te_26_0 : (pT M_26).find? (fun e => e.1 == 0) = some (0, .aload_n 0, 0, 0) := rfl
theorem te_26_1 : (pT M_26).find? (fun e => e.1 == 1) = some (1, .iconst 0, 0, 0) := rfl
theorem te_26_2 : (pT M_26).find? (fun e => e.1 == 2) = some (2, .putfield 28, 7, 5) := rfl
theorem te_26_5 : (pT M_26).find? (fun e => e.1 == 5) = some (5, .aload_n 0, 0, 0) := rfl
theorem te_26_6 : (pT M_26).find? (fun e => e.1 == 6) = some (6, .iconst 1, 0, 0) := rfl
theorem te_26_7 : (pT M_26).find? (fun e => e.1 == 7) = some (7, .putfield 24, 7, 6) := rfl
theorem te_26_10 : (pT M_26).find? (fun e => e.1 == 10) = some (10, .aload_n 0, 0, 0) := rfl
theorem te_26_11 : (pT M_26).find? (fun e => e.1 == 11) = some (11, .iconst 0, 0, 0) := rfl
theorem te_26_12 : (pT M_26).find? (fun e => e.1 == 12) = some (12, .putfield 83, 7, 7) := rfl
theorem te_26_15 : (pT M_26).find? (fun e => e.1 == 15) = some (15, .iconst 0, 0, 0) := rfl
theorem te_26_16 : (pT M_26).find? (fun e => e.1 == 16) = some (16, .istore_n 2, 0, 0) := rfl
theorem te_26_17 : (pT M_26).find? (fun e => e.1 == 17) = some (17, .iload_n 2, 0, 0) := rfl
theorem te_26_18 : (pT M_26).find? (fun e => e.1 == 18) = some (18, .iload_n 1, 0, 0) := rfl
theorem te_26_19 : (pT M_26).find? (fun e => e.1 == 19) = some (19, .if_icmp .ge 20, 0, 0) := rfl
theorem te_26_22 : (pT M_26).find? (fun e => e.1 == 22) = some (22, .aload_n 0, 0, 0) := rfl
theorem te_26_23 : (pT M_26).find? (fun e => e.1 == 23) = some (23, .iload_n 2, 0, 0) := rfl
theorem te_26_24 : (pT M_26).find? (fun e => e.1 == 24) = some (24, .iload_n 2, 0, 0) := rfl
theorem te_26_25 : (pT M_26).find? (fun e => e.1 == 25) = some (25, .iconst 1, 0, 0) := rfl
theorem te_26_26 : (pT M_26).find? (fun e => e.1 == 26) = some (26, .iload_n 2, 0, 0) := rfl
theorem te_26_27 : (pT M_26).find? (fun e => e.1 == 27) = some (27, .ishl, 0, 0) := rfl
theorem te_26_28 : (pT M_26).find? (fun e => e.1 == 28) = some (28, .iconst 0, 0, 0) := rfl
theorem te_26_29 : (pT M_26).find? (fun e => e.1 == 29) = some (29, .iconst 0, 0, 0) := rfl
theorem te_26_30 : (pT M_26).find? (fun e => e.1 == 30) = some (30, .invokevirtual 86, 27, 0) := rfl
theorem te_26_33 : (pT M_26).find? (fun e => e.1 == 33) = some (33, .iinc 2 1, 0, 0) := rfl
theorem te_26_36 : (pT M_26).find? (fun e => e.1 == 36) = some (36, .goto (-19), 0, 0) := rfl
theorem te_26_39 : (pT M_26).find? (fun e => e.1 == 39) = some (39, .aload_n 0, 0, 0) := rfl
theorem te_26_40 : (pT M_26).find? (fun e => e.1 == 40) = some (40, .getfield 28, 7, 5) := rfl
theorem te_26_43 : (pT M_26).find? (fun e => e.1 == 43) = some (43, .aload_n 0, 0, 0) := rfl
theorem te_26_44 : (pT M_26).find? (fun e => e.1 == 44) = some (44, .getfield 24, 7, 6) := rfl
theorem te_26_47 : (pT M_26).find? (fun e => e.1 == 47) = some (47, .invokestatic 89, 30, 2) := rfl
theorem te_26_50 : (pT M_26).find? (fun e => e.1 == 50) = some (50, .istore_n 2, 0, 0) := rfl
theorem te_26_51 : (pT M_26).find? (fun e => e.1 == 51) = some (51, .iload_n 2, 0, 0) := rfl
theorem te_26_52 : (pT M_26).find? (fun e => e.1 == 52) = some (52, .iconst 1, 0, 0) := rfl
theorem te_26_53 : (pT M_26).find? (fun e => e.1 == 53) = some (53, .if_icmp .le 23, 0, 0) := rfl
theorem te_26_56 : (pT M_26).find? (fun e => e.1 == 56) = some (56, .aload_n 0, 0, 0) := rfl
theorem te_26_57 : (pT M_26).find? (fun e => e.1 == 57) = some (57, .dup, 0, 0) := rfl
theorem te_26_58 : (pT M_26).find? (fun e => e.1 == 58) = some (58, .getfield 28, 7, 5) := rfl
theorem te_26_61 : (pT M_26).find? (fun e => e.1 == 61) = some (61, .iload_n 2, 0, 0) := rfl
theorem te_26_62 : (pT M_26).find? (fun e => e.1 == 62) = some (62, .idiv, 0, 0) := rfl
theorem te_26_63 : (pT M_26).find? (fun e => e.1 == 63) = some (63, .putfield 28, 7, 5) := rfl
theorem te_26_66 : (pT M_26).find? (fun e => e.1 == 66) = some (66, .aload_n 0, 0, 0) := rfl
theorem te_26_67 : (pT M_26).find? (fun e => e.1 == 67) = some (67, .dup, 0, 0) := rfl
theorem te_26_68 : (pT M_26).find? (fun e => e.1 == 68) = some (68, .getfield 24, 7, 6) := rfl
theorem te_26_71 : (pT M_26).find? (fun e => e.1 == 71) = some (71, .iload_n 2, 0, 0) := rfl
theorem te_26_72 : (pT M_26).find? (fun e => e.1 == 72) = some (72, .idiv, 0, 0) := rfl
theorem te_26_73 : (pT M_26).find? (fun e => e.1 == 73) = some (73, .putfield 24, 7, 6) := rfl
theorem te_26_76 : (pT M_26).find? (fun e => e.1 == 76) = some (76, .return_, 0, 0) := rfl
theorem te_27_0 : (pT M_27).find? (fun e => e.1 == 0) = some (0, .iconst 0, 0, 0) := rfl
theorem te_27_1 : (pT M_27).find? (fun e => e.1 == 1) = some (1, .istore 6, 0, 0) := rfl
theorem te_27_3 : (pT M_27).find? (fun e => e.1 == 3) = some (3, .iload 6, 0, 0) := rfl
theorem te_27_5 : (pT M_27).find? (fun e => e.1 == 5) = some (5, .aload_n 0, 0, 0) := rfl
theorem te_27_6 : (pT M_27).find? (fun e => e.1 == 6) = some (6, .getfield 35, 7, 0) := rfl
theorem te_27_9 : (pT M_27).find? (fun e => e.1 == 9) = some (9, .if_icmp .ge 130, 0, 0) := rfl
theorem te_27_12 : (pT M_27).find? (fun e => e.1 == 12) = some (12, .aload_n 0, 0, 0) := rfl
theorem te_27_13 : (pT M_27).find? (fun e => e.1 == 13) = some (13, .getfield 11, 7, 1) := rfl
theorem te_27_16 : (pT M_27).find? (fun e => e.1 == 16) = some (16, .iload 6, 0, 0) := rfl
theorem te_27_18 : (pT M_27).find? (fun e => e.1 == 18) = some (18, .iaload, 0, 0) := rfl
theorem te_27_19 : (pT M_27).find? (fun e => e.1 == 19) = some (19, .iload_n 2, 0, 0) := rfl
theorem te_27_20 : (pT M_27).find? (fun e => e.1 == 20) = some (20, .if_icmp .ne 113, 0, 0) := rfl
theorem te_27_23 : (pT M_27).find? (fun e => e.1 == 23) = some (23, .aload_n 0, 0, 0) := rfl
theorem te_27_24 : (pT M_27).find? (fun e => e.1 == 24) = some (24, .getfield 15, 7, 2) := rfl
theorem te_27_27 : (pT M_27).find? (fun e => e.1 == 27) = some (27, .iload 6, 0, 0) := rfl
theorem te_27_29 : (pT M_27).find? (fun e => e.1 == 29) = some (29, .iaload, 0, 0) := rfl
theorem te_27_30 : (pT M_27).find? (fun e => e.1 == 30) = some (30, .iload_n 1, 0, 0) := rfl
theorem te_27_31 : (pT M_27).find? (fun e => e.1 == 31) = some (31, .if_icmp .ge 6, 0, 0) := rfl
theorem te_27_34 : (pT M_27).find? (fun e => e.1 == 34) = some (34, .goto 99, 0, 0) := rfl
theorem te_27_37 : (pT M_27).find? (fun e => e.1 == 37) = some (37, .aload_n 0, 0, 0) := rfl
theorem te_27_38 : (pT M_27).find? (fun e => e.1 == 38) = some (38, .getfield 15, 7, 2) := rfl
theorem te_27_41 : (pT M_27).find? (fun e => e.1 == 41) = some (41, .iload 6, 0, 0) := rfl
theorem te_27_43 : (pT M_27).find? (fun e => e.1 == 43) = some (43, .iaload, 0, 0) := rfl
theorem te_27_44 : (pT M_27).find? (fun e => e.1 == 44) = some (44, .iload_n 1, 0, 0) := rfl
theorem te_27_45 : (pT M_27).find? (fun e => e.1 == 45) = some (45, .if_icmp .ne 31, 0, 0) := rfl
theorem te_27_48 : (pT M_27).find? (fun e => e.1 == 48) = some (48, .aload_n 0, 0, 0) := rfl
theorem te_27_49 : (pT M_27).find? (fun e => e.1 == 49) = some (49, .iload_n 3, 0, 0) := rfl
theorem te_27_50 : (pT M_27).find? (fun e => e.1 == 50) = some (50, .iload 4, 0, 0) := rfl
theorem te_27_52 : (pT M_27).find? (fun e => e.1 == 52) = some (52, .aload_n 0, 0, 0) := rfl
theorem te_27_53 : (pT M_27).find? (fun e => e.1 == 53) = some (53, .getfield 21, 7, 4) := rfl
theorem te_27_56 : (pT M_27).find? (fun e => e.1 == 56) = some (56, .iload 6, 0, 0) := rfl
theorem te_27_58 : (pT M_27).find? (fun e => e.1 == 58) = some (58, .iaload, 0, 0) := rfl
theorem te_27_59 : (pT M_27).find? (fun e => e.1 == 59) = some (59, .iadd, 0, 0) := rfl
theorem te_27_60 : (pT M_27).find? (fun e => e.1 == 60) = some (60, .iload 5, 0, 0) := rfl
theorem te_27_62 : (pT M_27).find? (fun e => e.1 == 62) = some (62, .aload_n 0, 0, 0) := rfl
theorem te_27_63 : (pT M_27).find? (fun e => e.1 == 63) = some (63, .getfield 18, 7, 3) := rfl
theorem te_27_66 : (pT M_27).find? (fun e => e.1 == 66) = some (66, .iload 6, 0, 0) := rfl
theorem te_27_68 : (pT M_27).find? (fun e => e.1 == 68) = some (68, .iaload, 0, 0) := rfl
theorem te_27_69 : (pT M_27).find? (fun e => e.1 == 69) = some (69, .iadd, 0, 0) := rfl
theorem te_27_70 : (pT M_27).find? (fun e => e.1 == 70) = some (70, .invokevirtual 92, 28, 0) := rfl
theorem te_27_73 : (pT M_27).find? (fun e => e.1 == 73) = some (73, .goto 60, 0, 0) := rfl
theorem te_27_76 : (pT M_27).find? (fun e => e.1 == 76) = some (76, .iload_n 3, 0, 0) := rfl
theorem te_27_77 : (pT M_27).find? (fun e => e.1 == 77) = some (77, .iconst 1, 0, 0) := rfl
theorem te_27_78 : (pT M_27).find? (fun e => e.1 == 78) = some (78, .aload_n 0, 0, 0) := rfl
theorem te_27_79 : (pT M_27).find? (fun e => e.1 == 79) = some (79, .getfield 15, 7, 2) := rfl
theorem te_27_82 : (pT M_27).find? (fun e => e.1 == 82) = some (82, .iload 6, 0, 0) := rfl
theorem te_27_84 : (pT M_27).find? (fun e => e.1 == 84) = some (84, .iaload, 0, 0) := rfl
theorem te_27_85 : (pT M_27).find? (fun e => e.1 == 85) = some (85, .ishl, 0, 0) := rfl
theorem te_27_86 : (pT M_27).find? (fun e => e.1 == 86) = some (86, .iand, 0, 0) := rfl
theorem te_27_87 : (pT M_27).find? (fun e => e.1 == 87) = some (87, .ifCond .ne 46, 0, 0) := rfl
theorem te_27_90 : (pT M_27).find? (fun e => e.1 == 90) = some (90, .aload_n 0, 0, 0) := rfl
theorem te_27_91 : (pT M_27).find? (fun e => e.1 == 91) = some (91, .iload_n 1, 0, 0) := rfl
theorem te_27_92 : (pT M_27).find? (fun e => e.1 == 92) = some (92, .aload_n 0, 0, 0) := rfl
theorem te_27_93 : (pT M_27).find? (fun e => e.1 == 93) = some (93, .getfield 15, 7, 2) := rfl
theorem te_27_96 : (pT M_27).find? (fun e => e.1 == 96) = some (96, .iload 6, 0, 0) := rfl
theorem te_27_98 : (pT M_27).find? (fun e => e.1 == 98) = some (98, .iaload, 0, 0) := rfl
theorem te_27_99 : (pT M_27).find? (fun e => e.1 == 99) = some (99, .iload_n 3, 0, 0) := rfl
theorem te_27_100 : (pT M_27).find? (fun e => e.1 == 100) = some (100, .iconst 1, 0, 0) := rfl
theorem te_27_101 : (pT M_27).find? (fun e => e.1 == 101) = some (101, .aload_n 0, 0, 0) := rfl
theorem te_27_102 : (pT M_27).find? (fun e => e.1 == 102) = some (102, .getfield 15, 7, 2) := rfl
theorem te_27_105 : (pT M_27).find? (fun e => e.1 == 105) = some (105, .iload 6, 0, 0) := rfl
theorem te_27_107 : (pT M_27).find? (fun e => e.1 == 107) = some (107, .iaload, 0, 0) := rfl
theorem te_27_108 : (pT M_27).find? (fun e => e.1 == 108) = some (108, .ishl, 0, 0) := rfl
theorem te_27_109 : (pT M_27).find? (fun e => e.1 == 109) = some (109, .ior, 0, 0) := rfl
theorem te_27_110 : (pT M_27).find? (fun e => e.1 == 110) = some (110, .iload 4, 0, 0) := rfl
theorem te_27_112 : (pT M_27).find? (fun e => e.1 == 112) = some (112, .aload_n 0, 0, 0) := rfl
theorem te_27_113 : (pT M_27).find? (fun e => e.1 == 113) = some (113, .getfield 21, 7, 4) := rfl
theorem te_27_116 : (pT M_27).find? (fun e => e.1 == 116) = some (116, .iload 6, 0, 0) := rfl
theorem te_27_118 : (pT M_27).find? (fun e => e.1 == 118) = some (118, .iaload, 0, 0) := rfl
theorem te_27_119 : (pT M_27).find? (fun e => e.1 == 119) = some (119, .iadd, 0, 0) := rfl
theorem te_27_120 : (pT M_27).find? (fun e => e.1 == 120) = some (120, .iload 5, 0, 0) := rfl
theorem te_27_122 : (pT M_27).find? (fun e => e.1 == 122) = some (122, .aload_n 0, 0, 0) := rfl
theorem te_27_123 : (pT M_27).find? (fun e => e.1 == 123) = some (123, .getfield 18, 7, 3) := rfl
theorem te_27_126 : (pT M_27).find? (fun e => e.1 == 126) = some (126, .iload 6, 0, 0) := rfl
theorem te_27_128 : (pT M_27).find? (fun e => e.1 == 128) = some (128, .iaload, 0, 0) := rfl
theorem te_27_129 : (pT M_27).find? (fun e => e.1 == 129) = some (129, .iadd, 0, 0) := rfl
theorem te_27_130 : (pT M_27).find? (fun e => e.1 == 130) = some (130, .invokevirtual 86, 27, 0) := rfl
theorem te_27_133 : (pT M_27).find? (fun e => e.1 == 133) = some (133, .iinc 6 1, 0, 0) := rfl
theorem te_27_136 : (pT M_27).find? (fun e => e.1 == 136) = some (136, .goto (-133), 0, 0) := rfl
theorem te_27_139 : (pT M_27).find? (fun e => e.1 == 139) = some (139, .return_, 0, 0) := rfl
theorem te_28_0 : (pT M_28).find? (fun e => e.1 == 0) = some (0, .iload_n 2, 0, 0) := rfl
theorem te_28_1 : (pT M_28).find? (fun e => e.1 == 1) = some (1, .ifCond .le 7, 0, 0) := rfl
theorem te_28_4 : (pT M_28).find? (fun e => e.1 == 4) = some (4, .iload_n 3, 0, 0) := rfl
theorem te_28_5 : (pT M_28).find? (fun e => e.1 == 5) = some (5, .ifCond .gt 4, 0, 0) := rfl
theorem te_28_8 : (pT M_28).find? (fun e => e.1 == 8) = some (8, .return_, 0, 0) := rfl
theorem te_28_9 : (pT M_28).find? (fun e => e.1 == 9) = some (9, .iload_n 2, 0, 0) := rfl
theorem te_28_10 : (pT M_28).find? (fun e => e.1 == 10) = some (10, .aload_n 0, 0, 0) := rfl
theorem te_28_11 : (pT M_28).find? (fun e => e.1 == 11) = some (11, .getfield 24, 7, 6) := rfl
theorem te_28_14 : (pT M_28).find? (fun e => e.1 == 14) = some (14, .imul, 0, 0) := rfl
theorem te_28_15 : (pT M_28).find? (fun e => e.1 == 15) = some (15, .aload_n 0, 0, 0) := rfl
theorem te_28_16 : (pT M_28).find? (fun e => e.1 == 16) = some (16, .getfield 28, 7, 5) := rfl
theorem te_28_19 : (pT M_28).find? (fun e => e.1 == 19) = some (19, .iload_n 3, 0, 0) := rfl
theorem te_28_20 : (pT M_28).find? (fun e => e.1 == 20) = some (20, .imul, 0, 0) := rfl
theorem te_28_21 : (pT M_28).find? (fun e => e.1 == 21) = some (21, .isub, 0, 0) := rfl
theorem te_28_22 : (pT M_28).find? (fun e => e.1 == 22) = some (22, .istore 4, 0, 0) := rfl
theorem te_28_24 : (pT M_28).find? (fun e => e.1 == 24) = some (24, .iload 4, 0, 0) := rfl
theorem te_28_26 : (pT M_28).find? (fun e => e.1 == 26) = some (26, .ifCond .le 21, 0, 0) := rfl
theorem te_28_29 : (pT M_28).find? (fun e => e.1 == 29) = some (29, .aload_n 0, 0, 0) := rfl
theorem te_28_30 : (pT M_28).find? (fun e => e.1 == 30) = some (30, .iload_n 2, 0, 0) := rfl
theorem te_28_31 : (pT M_28).find? (fun e => e.1 == 31) = some (31, .putfield 28, 7, 5) := rfl
theorem te_28_34 : (pT M_28).find? (fun e => e.1 == 34) = some (34, .aload_n 0, 0, 0) := rfl
theorem te_28_35 : (pT M_28).find? (fun e => e.1 == 35) = some (35, .iload_n 3, 0, 0) := rfl
theorem te_28_36 : (pT M_28).find? (fun e => e.1 == 36) = some (36, .putfield 24, 7, 6) := rfl
theorem te_28_39 : (pT M_28).find? (fun e => e.1 == 39) = some (39, .aload_n 0, 0, 0) := rfl
theorem te_28_40 : (pT M_28).find? (fun e => e.1 == 40) = some (40, .iload_n 1, 0, 0) := rfl
theorem te_28_41 : (pT M_28).find? (fun e => e.1 == 41) = some (41, .putfield 83, 7, 7) := rfl
theorem te_28_44 : (pT M_28).find? (fun e => e.1 == 44) = some (44, .goto 20, 0, 0) := rfl
theorem te_28_47 : (pT M_28).find? (fun e => e.1 == 47) = some (47, .iload 4, 0, 0) := rfl
theorem te_28_49 : (pT M_28).find? (fun e => e.1 == 49) = some (49, .ifCond .ne 15, 0, 0) := rfl
theorem te_28_52 : (pT M_28).find? (fun e => e.1 == 52) = some (52, .aload_n 0, 0, 0) := rfl
theorem te_28_53 : (pT M_28).find? (fun e => e.1 == 53) = some (53, .aload_n 0, 0, 0) := rfl
theorem te_28_54 : (pT M_28).find? (fun e => e.1 == 54) = some (54, .getfield 83, 7, 7) := rfl
theorem te_28_57 : (pT M_28).find? (fun e => e.1 == 57) = some (57, .iload_n 1, 0, 0) := rfl
theorem te_28_58 : (pT M_28).find? (fun e => e.1 == 58) = some (58, .invokestatic 96, 29, 2) := rfl
theorem te_28_61 : (pT M_28).find? (fun e => e.1 == 61) = some (61, .putfield 83, 7, 7) := rfl
theorem te_28_64 : (pT M_28).find? (fun e => e.1 == 64) = some (64, .return_, 0, 0) := rfl
theorem te_29_0 : (pT M_29).find? (fun e => e.1 == 0) = some (0, .iload_n 0, 0, 0) := rfl
theorem te_29_1 : (pT M_29).find? (fun e => e.1 == 1) = some (1, .iload_n 1, 0, 0) := rfl
theorem te_29_2 : (pT M_29).find? (fun e => e.1 == 2) = some (2, .if_icmp .gt 7, 0, 0) := rfl
theorem te_29_5 : (pT M_29).find? (fun e => e.1 == 5) = some (5, .iload_n 0, 0, 0) := rfl
theorem te_29_6 : (pT M_29).find? (fun e => e.1 == 6) = some (6, .goto 4, 0, 0) := rfl
theorem te_29_9 : (pT M_29).find? (fun e => e.1 == 9) = some (9, .iload_n 1, 0, 0) := rfl
theorem te_29_10 : (pT M_29).find? (fun e => e.1 == 10) = some (10, .ireturn, 0, 0) := rfl
theorem te_30_0 : (pT M_30).find? (fun e => e.1 == 0) = some (0, .iload_n 0, 0, 0) := rfl
theorem te_30_1 : (pT M_30).find? (fun e => e.1 == 1) = some (1, .istore_n 2, 0, 0) := rfl
theorem te_30_2 : (pT M_30).find? (fun e => e.1 == 2) = some (2, .iload_n 1, 0, 0) := rfl
theorem te_30_3 : (pT M_30).find? (fun e => e.1 == 3) = some (3, .istore_n 3, 0, 0) := rfl
theorem te_30_4 : (pT M_30).find? (fun e => e.1 == 4) = some (4, .iconst 0, 0, 0) := rfl
theorem te_30_5 : (pT M_30).find? (fun e => e.1 == 5) = some (5, .istore 4, 0, 0) := rfl
theorem te_30_7 : (pT M_30).find? (fun e => e.1 == 7) = some (7, .iload 4, 0, 0) := rfl
theorem te_30_9 : (pT M_30).find? (fun e => e.1 == 9) = some (9, .bipush 100, 0, 0) := rfl
theorem te_30_11 : (pT M_30).find? (fun e => e.1 == 11) = some (11, .if_icmp .ge 23, 0, 0) := rfl
theorem te_30_14 : (pT M_30).find? (fun e => e.1 == 14) = some (14, .iload_n 3, 0, 0) := rfl
theorem te_30_15 : (pT M_30).find? (fun e => e.1 == 15) = some (15, .ifCond .eq 19, 0, 0) := rfl
theorem te_30_18 : (pT M_30).find? (fun e => e.1 == 18) = some (18, .iload_n 2, 0, 0) := rfl
theorem te_30_19 : (pT M_30).find? (fun e => e.1 == 19) = some (19, .iload_n 3, 0, 0) := rfl
theorem te_30_20 : (pT M_30).find? (fun e => e.1 == 20) = some (20, .irem, 0, 0) := rfl
theorem te_30_21 : (pT M_30).find? (fun e => e.1 == 21) = some (21, .istore 5, 0, 0) := rfl
theorem te_30_23 : (pT M_30).find? (fun e => e.1 == 23) = some (23, .iload_n 3, 0, 0) := rfl
theorem te_30_24 : (pT M_30).find? (fun e => e.1 == 24) = some (24, .istore_n 2, 0, 0) := rfl
theorem te_30_25 : (pT M_30).find? (fun e => e.1 == 25) = some (25, .iload 5, 0, 0) := rfl
theorem te_30_27 : (pT M_30).find? (fun e => e.1 == 27) = some (27, .istore_n 3, 0, 0) := rfl
theorem te_30_28 : (pT M_30).find? (fun e => e.1 == 28) = some (28, .iinc 4 1, 0, 0) := rfl
theorem te_30_31 : (pT M_30).find? (fun e => e.1 == 31) = some (31, .goto (-24), 0, 0) := rfl
theorem te_30_34 : (pT M_30).find? (fun e => e.1 == 34) = some (34, .iload_n 2, 0, 0) := rfl
theorem te_30_35 : (pT M_30).find? (fun e => e.1 == 35) = some (35, .ireturn, 0, 0) := rfl
theorem w_29_0 {C : CXW} (hC : Cmono C) {S : Nat × (Nat → Int32)} {K : WK} {mem : MM} {x0 x1 : Int} (H : ((x1 < x0 → (InI x1 → K (some x1) mem)) ∧ (¬ (x1 < x0) → (InI x0 → K (some x0) mem)))) : Wx C S M_29 K 0 [some (.inl x0), some (.inl x1)] [] mem := by
  refine Wx.iload_n hC te_29_0 rfl ?_
  refine Wx.iload_n hC te_29_1 rfl ?_
  refine Wx.icmp hC (t := 9) te_29_2 (by decide) (fun q => ?_) (fun q => ?_)
  · replace H := H.1 q
    refine Wx.iload_n hC te_29_9 rfl ?_
    exact Wx.ireturn hC te_29_10 rfl H
  · replace H := H.2 q
    refine Wx.iload_n hC te_29_5 rfl ?_
    refine Wx.goto hC (t := 10) te_29_6 (by decide) ?_
    exact Wx.ireturn hC te_29_10 rfl H
theorem w_30_0 {C : CXW} (hC : Cmono C) {S : Nat × (Nat → Int32)} {K : WK} {mem : MM} {x0 x1 : Int} (H : (Wx C S M_30 K 7 [some (.inl x0), some (.inl x1), some (.inl x0), some (.inl x1), some (.inl 0), none] [] mem)) : Wx C S M_30 K 0 [some (.inl x0), some (.inl x1), none, none, none, none] [] mem := by
  refine Wx.iload_n hC te_30_0 rfl ?_
  refine Wx.istore_n hC te_30_1 rfl ?_
  refine Wx.iload_n hC te_30_2 rfl ?_
  refine Wx.istore_n hC te_30_3 rfl ?_
  refine Wx.iconst hC te_30_4 rfl ?_
  refine Wx.istore hC te_30_5 rfl ?_
  exact H
theorem w_30_7 {C : CXW} (hC : Cmono C) {S : Nat × (Nat → Int32)} {K : WK} {mem : MM} {x0 x1 x2 x3 x4 : Int} (H : ((100 ≤ x4 → (InI x2 → K (some x2) mem)) ∧ (¬ (100 ≤ x4) → ((x3 = 0 → (InI x2 → K (some x2) mem)) ∧ (¬ (x3 = 0) → (0 < x3) ∧ (InI (x4 + 1)) ∧ (Wx C S M_30 K 7 [some (.inl x0), some (.inl x1), some (.inl x3), some (.inl ((x2 : Int).tmod x3)), some (.inl (x4 + 1)), none] [] mem)))))) : Wx C S M_30 K 7 [some (.inl x0), some (.inl x1), some (.inl x2), some (.inl x3), some (.inl x4), none] [] mem := by
  refine Wx.iload hC te_30_7 rfl ?_
  refine Wx.bipush hC te_30_9 rfl rfl ?_
  refine Wx.icmp hC (t := 34) te_30_11 (by decide) (fun q => ?_) (fun q => ?_)
  · replace H := H.1 q
    refine Wx.iload_n hC te_30_34 rfl ?_
    exact Wx.ireturn hC te_30_35 rfl H
  · replace H := H.2 q
    refine Wx.iload_n hC te_30_14 rfl ?_
    refine Wx.ifc hC (t := 34) te_30_15 (by decide) (fun q => ?_) (fun q => ?_)
    · replace H := H.1 q
      refine Wx.iload_n hC te_30_34 rfl ?_
      exact Wx.ireturn hC te_30_35 rfl H
    · replace H := H.2 q
      refine Wx.iload_n hC te_30_18 rfl ?_
      refine Wx.iload_n hC te_30_19 rfl ?_
      refine Wx.irem hC te_30_20 H.1 ?_
      replace H := H.2
      refine Wx.istore hC te_30_21 rfl ?_
      refine Wx.iload_n hC te_30_23 rfl ?_
      refine Wx.istore_n hC te_30_24 rfl ?_
      refine Wx.iload hC te_30_25 rfl ?_
      refine Wx.istore_n hC te_30_27 rfl ?_
      refine Wx.iinc hC te_30_28 rfl rfl H.1 ?_
      replace H := H.2
      refine Wx.goto hC (t := 7) te_30_31 (by decide) ?_
      exact Wx.weak (by repeat' (first | exact trivial | exact rfl | constructor)) H
theorem w_28_0 {C : CXW} (hC : Cmono C) {S : Nat × (Nat → Int32)} {K : WK} {mem : MM} {W : Nat} (hW : WebSh W) {x1 x2 x3 : Int} (H : ((x2 ≤ 0 → (K none mem)) ∧ (¬ (x2 ≤ 0) → ((0 < x3 → ∀ v1 : Int, v1 = mem W 6 → InI v1 → (InI (x2 * v1)) ∧ ∀ v2 : Int, v2 = mem W 5 → InI v2 → (InI (v2 * x3)) ∧ (InI ((x2 * v1) - (v2 * x3))) ∧ ((((x2 * v1) - (v2 * x3)) ≤ 0 → ((¬ ((x2 * v1) - (v2 * x3)) = 0 → (K none mem)) ∧ (¬ (¬ ((x2 * v1) - (v2 * x3)) = 0) → ∀ v3 : Int, v3 = mem W 7 → InI v3 → (CWI C 29 [.inl v3, .inl x1] mem fun r5 m4 => InI r5 → (K none (upm m4 W 7 r5)))))) ∧ (¬ (((x2 * v1) - (v2 * x3)) ≤ 0) → (K none (upm (upm (upm mem W 5 x2) W 6 x3) W 7 x1))))) ∧ (¬ (0 < x3) → (K none mem)))))) : Wx C S M_28 K 0 [some (.inr W), some (.inl x1), some (.inl x2), some (.inl x3), none] [] mem := by
  refine Wx.iload_n hC te_28_0 rfl ?_
  refine Wx.ifc hC (t := 8) te_28_1 (by decide) (fun q => ?_) (fun q => ?_)
  · replace H := H.1 q
    exact Wx.vret hC te_28_8 rfl H
  · replace H := H.2 q
    refine Wx.iload_n hC te_28_4 rfl ?_
    refine Wx.ifc hC (t := 9) te_28_5 (by decide) (fun q => ?_) (fun q => ?_)
    · replace H := H.1 q
      refine Wx.iload_n hC te_28_9 rfl ?_
      refine Wx.aload_n hC te_28_10 rfl ?_
      refine Wx.getI hC te_28_11 hW.1 rfl rfl (fun v1 e1 e2 => ?_)
      replace H := H v1 e1 e2
      refine Wx.imul hC te_28_14 H.1 ?_
      replace H := H.2
      refine Wx.aload_n hC te_28_15 rfl ?_
      refine Wx.getI hC te_28_16 hW.1 rfl rfl (fun v2 e1 e2 => ?_)
      replace H := H v2 e1 e2
      refine Wx.iload_n hC te_28_19 rfl ?_
      refine Wx.imul hC te_28_20 H.1 ?_
      replace H := H.2
      refine Wx.isub hC te_28_21 H.1 ?_
      replace H := H.2
      refine Wx.istore hC te_28_22 rfl ?_
      refine Wx.iload hC te_28_24 rfl ?_
      refine Wx.ifc hC (t := 47) te_28_26 (by decide) (fun q => ?_) (fun q => ?_)
      · replace H := H.1 q
        refine Wx.iload hC te_28_47 rfl ?_
        refine Wx.ifc hC (t := 64) te_28_49 (by decide) (fun q => ?_) (fun q => ?_)
        · replace H := H.1 q
          exact Wx.vret hC te_28_64 rfl H
        · replace H := H.2 q
          refine Wx.aload_n hC te_28_52 rfl ?_
          refine Wx.aload_n hC te_28_53 rfl ?_
          refine Wx.getI hC te_28_54 hW.1 rfl rfl (fun v3 e1 e2 => ?_)
          replace H := H v3 e1 e2
          refine Wx.iload_n hC te_28_57 rfl ?_
          refine Wx.statI hC te_28_58 (by decide) mt_29 (args := [.inl v3, .inl x1]) (rest := [.inr W]) rfl rfl rfl rfl rfl ?_
          refine CWI.mono hC (fun r5 m4 H hy => ?_) H
          replace H := H hy
          refine Wx.putI hC te_28_61 hW.1 rfl rfl rfl ?_
          exact Wx.vret hC te_28_64 rfl H
      · replace H := H.2 q
        refine Wx.aload_n hC te_28_29 rfl ?_
        refine Wx.iload_n hC te_28_30 rfl ?_
        refine Wx.putI hC te_28_31 hW.1 rfl rfl rfl ?_
        refine Wx.aload_n hC te_28_34 rfl ?_
        refine Wx.iload_n hC te_28_35 rfl ?_
        refine Wx.putI hC te_28_36 hW.1 rfl rfl rfl ?_
        refine Wx.aload_n hC te_28_39 rfl ?_
        refine Wx.iload_n hC te_28_40 rfl ?_
        refine Wx.putI hC te_28_41 hW.1 rfl rfl rfl ?_
        refine Wx.goto hC (t := 64) te_28_44 (by decide) ?_
        exact Wx.vret hC te_28_64 rfl H
    · replace H := H.2 q
      exact Wx.vret hC te_28_8 rfl H
theorem w_27_0 {C : CXW} (hC : Cmono C) {S : Nat × (Nat → Int32)} {K : WK} {mem : MM} {W : Nat} (hW : WebSh W) {x1 x2 x3 x4 x5 : Int} (H : (Wx C S M_27 K 3 [some (.inr W), some (.inl x1), some (.inl x2), some (.inl x3), some (.inl x4), some (.inl x5), some (.inl 0)] [] mem)) : Wx C S M_27 K 0 [some (.inr W), some (.inl x1), some (.inl x2), some (.inl x3), some (.inl x4), some (.inl x5), none] [] mem := by
  refine Wx.iconst hC te_27_0 rfl ?_
  refine Wx.istore hC te_27_1 rfl ?_
  exact H
theorem w_27_3 {C : CXW} (hC : Cmono C) {S : Nat × (Nat → Int32)} {K : WK} {mem : MM} {W : Nat} (hW : WebSh W) {x1 x2 x3 x4 x5 x6 : Int} (H : ∀ v1 : Int, v1 = mem W 0 → InI v1 → ((v1 ≤ x6 → (K none mem)) ∧ (¬ (v1 ≤ x6) → ((0 : Int) ≤ x6 ∧ (x6 : Int) < 64) ∧ ∀ v2 : Int, v2 = mem (W + 1) (Int.toNat x6) → InI v2 → ((¬ v2 = x2 → (InI (x6 + 1)) ∧ (Wx C S M_27 K 3 [some (.inr W), some (.inl x1), some (.inl x2), some (.inl x3), some (.inl x4), some (.inl x5), some (.inl (x6 + 1))] [] mem)) ∧ (¬ (¬ v2 = x2) → ((0 : Int) ≤ x6 ∧ (x6 : Int) < 64) ∧ ∀ v3 : Int, v3 = mem (W + 2) (Int.toNat x6) → InI v3 → ((x1 ≤ v3 → ((0 : Int) ≤ x6 ∧ (x6 : Int) < 64) ∧ ∀ v4 : Int, v4 = mem (W + 2) (Int.toNat x6) → InI v4 → ((¬ v4 = x1 → ((0 : Int) ≤ x6 ∧ (x6 : Int) < 64) ∧ ∀ v5 : Int, v5 = mem (W + 2) (Int.toNat x6) → InI v5 → ∀ b6 : Int, b6 = ((fun (x y : Int32) => x <<< (y &&& 31)) (Int32.ofInt 1) (Int32.ofInt v5)).toInt → InI b6 → ∀ b7 : Int, b7 = ((fun (x y : Int32) => x &&& y) (Int32.ofInt x3) (Int32.ofInt b6)).toInt → InI b7 → ((¬ b7 = 0 → (InI (x6 + 1)) ∧ (Wx C S M_27 K 3 [some (.inr W), some (.inl x1), some (.inl x2), some (.inl x3), some (.inl x4), some (.inl x5), some (.inl (x6 + 1))] [] mem)) ∧ (¬ (¬ b7 = 0) → ((0 : Int) ≤ x6 ∧ (x6 : Int) < 64) ∧ ∀ v8 : Int, v8 = mem (W + 2) (Int.toNat x6) → InI v8 → ((0 : Int) ≤ x6 ∧ (x6 : Int) < 64) ∧ ∀ v9 : Int, v9 = mem (W + 2) (Int.toNat x6) → InI v9 → ∀ b10 : Int, b10 = ((fun (x y : Int32) => x <<< (y &&& 31)) (Int32.ofInt 1) (Int32.ofInt v9)).toInt → InI b10 → ∀ b11 : Int, b11 = ((fun (x y : Int32) => x ||| y) (Int32.ofInt x3) (Int32.ofInt b10)).toInt → InI b11 → ((0 : Int) ≤ x6 ∧ (x6 : Int) < 64) ∧ ∀ v12 : Int, v12 = mem (W + 4) (Int.toNat x6) → InI v12 → (InI (x4 + v12)) ∧ ((0 : Int) ≤ x6 ∧ (x6 : Int) < 64) ∧ ∀ v13 : Int, v13 = mem (W + 3) (Int.toNat x6) → InI v13 → (InI (x5 + v13)) ∧ (CWV C 27 [.inr W, .inl x1, .inl v8, .inl b11, .inl (x4 + v12), .inl (x5 + v13)] mem fun m14 => (InI (x6 + 1)) ∧ (Wx C S M_27 K 3 [some (.inr W), some (.inl x1), some (.inl x2), some (.inl x3), some (.inl x4), some (.inl x5), some (.inl (x6 + 1))] [] m14))))) ∧ (¬ (¬ v4 = x1) → ((0 : Int) ≤ x6 ∧ (x6 : Int) < 64) ∧ ∀ v15 : Int, v15 = mem (W + 4) (Int.toNat x6) → InI v15 → (InI (x4 + v15)) ∧ ((0 : Int) ≤ x6 ∧ (x6 : Int) < 64) ∧ ∀ v16 : Int, v16 = mem (W + 3) (Int.toNat x6) → InI v16 → (InI (x5 + v16)) ∧ (CWV C 28 [.inr W, .inl x3, .inl (x4 + v15), .inl (x5 + v16)] mem fun m17 => (InI (x6 + 1)) ∧ (Wx C S M_27 K 3 [some (.inr W), some (.inl x1), some (.inl x2), some (.inl x3), some (.inl x4), some (.inl x5), some (.inl (x6 + 1))] [] m17))))) ∧ (¬ (x1 ≤ v3) → (InI (x6 + 1)) ∧ (Wx C S M_27 K 3 [some (.inr W), some (.inl x1), some (.inl x2), some (.inl x3), some (.inl x4), some (.inl x5), some (.inl (x6 + 1))] [] mem)))))))) : Wx C S M_27 K 3 [some (.inr W), some (.inl x1), some (.inl x2), some (.inl x3), some (.inl x4), some (.inl x5), some (.inl x6)] [] mem := by
  refine Wx.iload hC te_27_3 rfl ?_
  refine Wx.aload_n hC te_27_5 rfl ?_
  refine Wx.getI hC te_27_6 hW.1 rfl rfl (fun v1 e1 e2 => ?_)
  replace H := H v1 e1 e2
  refine Wx.icmp hC (t := 139) te_27_9 (by decide) (fun q => ?_) (fun q => ?_)
  · replace H := H.1 q
    exact Wx.vret hC te_27_139 rfl H
  · replace H := H.2 q
    refine Wx.aload_n hC te_27_12 rfl ?_
    refine Wx.getR hC te_27_13 hW.1 rfl rfl ?_
    refine Wx.iload hC te_27_16 rfl ?_
    refine Wx.iald hC te_27_18 hW.2.1 H.1 (fun v2 e1 e2 => ?_)
    replace H := H.2 v2 e1 e2
    refine Wx.iload_n hC te_27_19 rfl ?_
    refine Wx.icmp hC (t := 133) te_27_20 (by decide) (fun q => ?_) (fun q => ?_)
    · replace H := H.1 q
      refine Wx.iinc hC te_27_133 rfl rfl H.1 ?_
      replace H := H.2
      refine Wx.goto hC (t := 3) te_27_136 (by decide) ?_
      exact H
    · replace H := H.2 q
      refine Wx.aload_n hC te_27_23 rfl ?_
      refine Wx.getR hC te_27_24 hW.1 rfl rfl ?_
      refine Wx.iload hC te_27_27 rfl ?_
      refine Wx.iald hC te_27_29 hW.2.2.1 H.1 (fun v3 e1 e2 => ?_)
      replace H := H.2 v3 e1 e2
      refine Wx.iload_n hC te_27_30 rfl ?_
      refine Wx.icmp hC (t := 37) te_27_31 (by decide) (fun q => ?_) (fun q => ?_)
      · replace H := H.1 q
        refine Wx.aload_n hC te_27_37 rfl ?_
        refine Wx.getR hC te_27_38 hW.1 rfl rfl ?_
        refine Wx.iload hC te_27_41 rfl ?_
        refine Wx.iald hC te_27_43 hW.2.2.1 H.1 (fun v4 e1 e2 => ?_)
        replace H := H.2 v4 e1 e2
        refine Wx.iload_n hC te_27_44 rfl ?_
        refine Wx.icmp hC (t := 76) te_27_45 (by decide) (fun q => ?_) (fun q => ?_)
        · replace H := H.1 q
          refine Wx.iload_n hC te_27_76 rfl ?_
          refine Wx.iconst hC te_27_77 rfl ?_
          refine Wx.aload_n hC te_27_78 rfl ?_
          refine Wx.getR hC te_27_79 hW.1 rfl rfl ?_
          refine Wx.iload hC te_27_82 rfl ?_
          refine Wx.iald hC te_27_84 hW.2.2.1 H.1 (fun v5 e1 e2 => ?_)
          replace H := H.2 v5 e1 e2
          refine Wx.bits hC (f := (fun (x y : Int32) => x <<< (y &&& 31))) te_27_85 (fun _ _ _ _ => Iff.rfl) (fun b6 e1 e2 => ?_)
          replace H := H b6 e1 e2
          refine Wx.bits hC (f := (fun (x y : Int32) => x &&& y)) te_27_86 (fun _ _ _ _ => Iff.rfl) (fun b7 e1 e2 => ?_)
          replace H := H b7 e1 e2
          refine Wx.ifc hC (t := 133) te_27_87 (by decide) (fun q => ?_) (fun q => ?_)
          · replace H := H.1 q
            refine Wx.iinc hC te_27_133 rfl rfl H.1 ?_
            replace H := H.2
            refine Wx.goto hC (t := 3) te_27_136 (by decide) ?_
            exact H
          · replace H := H.2 q
            refine Wx.aload_n hC te_27_90 rfl ?_
            refine Wx.iload_n hC te_27_91 rfl ?_
            refine Wx.aload_n hC te_27_92 rfl ?_
            refine Wx.getR hC te_27_93 hW.1 rfl rfl ?_
            refine Wx.iload hC te_27_96 rfl ?_
            refine Wx.iald hC te_27_98 hW.2.2.1 H.1 (fun v8 e1 e2 => ?_)
            replace H := H.2 v8 e1 e2
            refine Wx.iload_n hC te_27_99 rfl ?_
            refine Wx.iconst hC te_27_100 rfl ?_
            refine Wx.aload_n hC te_27_101 rfl ?_
            refine Wx.getR hC te_27_102 hW.1 rfl rfl ?_
            refine Wx.iload hC te_27_105 rfl ?_
            refine Wx.iald hC te_27_107 hW.2.2.1 H.1 (fun v9 e1 e2 => ?_)
            replace H := H.2 v9 e1 e2
            refine Wx.bits hC (f := (fun (x y : Int32) => x <<< (y &&& 31))) te_27_108 (fun _ _ _ _ => Iff.rfl) (fun b10 e1 e2 => ?_)
            replace H := H b10 e1 e2
            refine Wx.bits hC (f := (fun (x y : Int32) => x ||| y)) te_27_109 (fun _ _ _ _ => Iff.rfl) (fun b11 e1 e2 => ?_)
            replace H := H b11 e1 e2
            refine Wx.iload hC te_27_110 rfl ?_
            refine Wx.aload_n hC te_27_112 rfl ?_
            refine Wx.getR hC te_27_113 hW.1 rfl rfl ?_
            refine Wx.iload hC te_27_116 rfl ?_
            refine Wx.iald hC te_27_118 hW.2.2.2.2 H.1 (fun v12 e1 e2 => ?_)
            replace H := H.2 v12 e1 e2
            refine Wx.iadd hC te_27_119 H.1 ?_
            replace H := H.2
            refine Wx.iload hC te_27_120 rfl ?_
            refine Wx.aload_n hC te_27_122 rfl ?_
            refine Wx.getR hC te_27_123 hW.1 rfl rfl ?_
            refine Wx.iload hC te_27_126 rfl ?_
            refine Wx.iald hC te_27_128 hW.2.2.2.1 H.1 (fun v13 e1 e2 => ?_)
            replace H := H.2 v13 e1 e2
            refine Wx.iadd hC te_27_129 H.1 ?_
            replace H := H.2
            refine Wx.virtV hC te_27_130 mt_27 (args := [.inr W, .inl x1, .inl v8, .inl b11, .inl (x4 + v12), .inl (x5 + v13)]) (rest := []) rfl rfl rfl rfl rfl rfl hW.1 rfl ?_
            refine CWV.mono hC (fun m14 H => ?_) H
            refine Wx.iinc hC te_27_133 rfl rfl H.1 ?_
            replace H := H.2
            refine Wx.goto hC (t := 3) te_27_136 (by decide) ?_
            exact H
        · replace H := H.2 q
          refine Wx.aload_n hC te_27_48 rfl ?_
          refine Wx.iload_n hC te_27_49 rfl ?_
          refine Wx.iload hC te_27_50 rfl ?_
          refine Wx.aload_n hC te_27_52 rfl ?_
          refine Wx.getR hC te_27_53 hW.1 rfl rfl ?_
          refine Wx.iload hC te_27_56 rfl ?_
          refine Wx.iald hC te_27_58 hW.2.2.2.2 H.1 (fun v15 e1 e2 => ?_)
          replace H := H.2 v15 e1 e2
          refine Wx.iadd hC te_27_59 H.1 ?_
          replace H := H.2
          refine Wx.iload hC te_27_60 rfl ?_
          refine Wx.aload_n hC te_27_62 rfl ?_
          refine Wx.getR hC te_27_63 hW.1 rfl rfl ?_
          refine Wx.iload hC te_27_66 rfl ?_
          refine Wx.iald hC te_27_68 hW.2.2.2.1 H.1 (fun v16 e1 e2 => ?_)
          replace H := H.2 v16 e1 e2
          refine Wx.iadd hC te_27_69 H.1 ?_
          replace H := H.2
          refine Wx.virtV hC te_27_70 mt_28 (args := [.inr W, .inl x3, .inl (x4 + v15), .inl (x5 + v16)]) (rest := []) rfl rfl rfl rfl rfl rfl hW.1 rfl ?_
          refine CWV.mono hC (fun m17 H => ?_) H
          refine Wx.goto hC (t := 133) te_27_73 (by decide) ?_
          refine Wx.iinc hC te_27_133 rfl rfl H.1 ?_
          replace H := H.2
          refine Wx.goto hC (t := 3) te_27_136 (by decide) ?_
          exact H
      · replace H := H.2 q
        refine Wx.goto hC (t := 133) te_27_34 (by decide) ?_
        refine Wx.iinc hC te_27_133 rfl rfl H.1 ?_
        replace H := H.2
        refine Wx.goto hC (t := 3) te_27_136 (by decide) ?_
        exact H
theorem w_26_0 {C : CXW} (hC : Cmono C) {S : Nat × (Nat → Int32)} {K : WK} {mem : MM} {W : Nat} (hW : WebSh W) {x1 : Int} (H : (Wx C S M_26 K 17 [some (.inr W), some (.inl x1), some (.inl 0)] [] (upm (upm (upm mem W 5 0) W 6 1) W 7 0))) : Wx C S M_26 K 0 [some (.inr W), some (.inl x1), none] [] mem := by
  refine Wx.aload_n hC te_26_0 rfl ?_
  refine Wx.iconst hC te_26_1 rfl ?_
  refine Wx.putI hC te_26_2 hW.1 rfl rfl rfl ?_
  refine Wx.aload_n hC te_26_5 rfl ?_
  refine Wx.iconst hC te_26_6 rfl ?_
  refine Wx.putI hC te_26_7 hW.1 rfl rfl rfl ?_
  refine Wx.aload_n hC te_26_10 rfl ?_
  refine Wx.iconst hC te_26_11 rfl ?_
  refine Wx.putI hC te_26_12 hW.1 rfl rfl rfl ?_
  refine Wx.iconst hC te_26_15 rfl ?_
  refine Wx.istore_n hC te_26_16 rfl ?_
  exact H
theorem w_26_17 {C : CXW} (hC : Cmono C) {S : Nat × (Nat → Int32)} {K : WK} {mem : MM} {W : Nat} (hW : WebSh W) {x1 x2 : Int} (H : ((x1 ≤ x2 → ∀ v1 : Int, v1 = mem W 5 → InI v1 → ∀ v2 : Int, v2 = mem W 6 → InI v2 → (CWI C 30 [.inl v1, .inl v2] mem fun r4 m3 => InI r4 → ((r4 ≤ 1 → (K none m3)) ∧ (¬ (r4 ≤ 1) → ∀ v5 : Int, v5 = m3 W 5 → InI v5 → (0 < r4) ∧ ∀ v6 : Int, v6 = (upm m3 W 5 ((v5 : Int).tdiv r4)) W 6 → InI v6 → (0 < r4) ∧ (K none (upm (upm m3 W 5 ((v5 : Int).tdiv r4)) W 6 ((v6 : Int).tdiv r4))))))) ∧ (¬ (x1 ≤ x2) → ∀ b7 : Int, b7 = ((fun (x y : Int32) => x <<< (y &&& 31)) (Int32.ofInt 1) (Int32.ofInt x2)).toInt → InI b7 → (CWV C 27 [.inr W, .inl x2, .inl x2, .inl b7, .inl 0, .inl 0] mem fun m8 => (InI (x2 + 1)) ∧ (Wx C S M_26 K 17 [some (.inr W), some (.inl x1), some (.inl (x2 + 1))] [] m8))))) : Wx C S M_26 K 17 [some (.inr W), some (.inl x1), some (.inl x2)] [] mem := by
  refine Wx.iload_n hC te_26_17 rfl ?_
  refine Wx.iload_n hC te_26_18 rfl ?_
  refine Wx.icmp hC (t := 39) te_26_19 (by decide) (fun q => ?_) (fun q => ?_)
  · replace H := H.1 q
    refine Wx.aload_n hC te_26_39 rfl ?_
    refine Wx.getI hC te_26_40 hW.1 rfl rfl (fun v1 e1 e2 => ?_)
    replace H := H v1 e1 e2
    refine Wx.aload_n hC te_26_43 rfl ?_
    refine Wx.getI hC te_26_44 hW.1 rfl rfl (fun v2 e1 e2 => ?_)
    replace H := H v2 e1 e2
    refine Wx.statI hC te_26_47 (by decide) mt_30 (args := [.inl v1, .inl v2]) (rest := []) rfl rfl rfl rfl rfl ?_
    refine CWI.mono hC (fun r4 m3 H hy => ?_) H
    replace H := H hy
    refine Wx.istore_n hC te_26_50 rfl ?_
    refine Wx.iload_n hC te_26_51 rfl ?_
    refine Wx.iconst hC te_26_52 rfl ?_
    refine Wx.icmp hC (t := 76) te_26_53 (by decide) (fun q => ?_) (fun q => ?_)
    · replace H := H.1 q
      exact Wx.vret hC te_26_76 rfl H
    · replace H := H.2 q
      refine Wx.aload_n hC te_26_56 rfl ?_
      refine Wx.dup hC te_26_57 ?_
      refine Wx.getI hC te_26_58 hW.1 rfl rfl (fun v5 e1 e2 => ?_)
      replace H := H v5 e1 e2
      refine Wx.iload_n hC te_26_61 rfl ?_
      refine Wx.idiv hC te_26_62 H.1 ?_
      replace H := H.2
      refine Wx.putI hC te_26_63 hW.1 rfl rfl rfl ?_
      refine Wx.aload_n hC te_26_66 rfl ?_
      refine Wx.dup hC te_26_67 ?_
      refine Wx.getI hC te_26_68 hW.1 rfl rfl (fun v6 e1 e2 => ?_)
      replace H := H v6 e1 e2
      refine Wx.iload_n hC te_26_71 rfl ?_
      refine Wx.idiv hC te_26_72 H.1 ?_
      replace H := H.2
      refine Wx.putI hC te_26_73 hW.1 rfl rfl rfl ?_
      exact Wx.vret hC te_26_76 rfl H
  · replace H := H.2 q
    refine Wx.aload_n hC te_26_22 rfl ?_
    refine Wx.iload_n hC te_26_23 rfl ?_
    refine Wx.iload_n hC te_26_24 rfl ?_
    refine Wx.iconst hC te_26_25 rfl ?_
    refine Wx.iload_n hC te_26_26 rfl ?_
    refine Wx.bits hC (f := (fun (x y : Int32) => x <<< (y &&& 31))) te_26_27 (fun _ _ _ _ => Iff.rfl) (fun b7 e1 e2 => ?_)
    replace H := H b7 e1 e2
    refine Wx.iconst hC te_26_28 rfl ?_
    refine Wx.iconst hC te_26_29 rfl ?_
    refine Wx.virtV hC te_26_30 mt_27 (args := [.inr W, .inl x2, .inl x2, .inl b7, .inl 0, .inl 0]) (rest := []) rfl rfl rfl rfl rfl rfl hW.1 rfl ?_
    refine CWV.mono hC (fun m8 H => ?_) H
    refine Wx.iinc hC te_26_33 rfl rfl H.1 ?_
    replace H := H.2
    refine Wx.goto hC (t := 17) te_26_36 (by decide) ?_
    exact H
/-! rings of the class's web -/
def FrWc (W : Nat) (m m' : MM) : Prop := ∀ A i, ¬ (A = W ∧ (i = 5 ∨ i = 6 ∨ i = 7)) → m' A i = m A i
theorem FrWc.rf {W : Nat} {m : MM} : FrWc W m m := fun _ _ _ => rfl
theorem FrWc.tr {W : Nat} {a b c : MM} (h1 : FrWc W a b) (h2 : FrWc W b c) : FrWc W a c := fun A i e => (h2 A i e).trans (h1 A i e)
def WtOK (m : MM) (W : Nat) : Prop := (0 ≤ m W 5 ∧ m W 5 ≤ 80) ∧ 1 ≤ m W 6 ∧ m W 6 ≤ 80
theorem FrWc.wb {W : Nat} {m m' : MM} (e : FrWc W m m') (h : WbOK m W) : WbOK m' W := by
  refine ⟨fun j hj => ?_, by rw [e W 0 (by omega)]; exact h.2⟩
  rw [e _ _ (by omega), e _ _ (by omega), e _ _ (by omega), e _ _ (by omega)]; exact h.1 j hj
section WEIGH
variable {S : Nat × (Nat → Int32)} {n : Nat} {mem : MM}
theorem f_29 {K : Int → MM → Prop} {a b : Int} (H : K (min a b) mem) : CWI (Ex S (n + 1)) 29 [.inl a, .inl b] mem K := by
  refine CW.of (k := 0) mt_29 rfl rfl (w_29_0 (Ex.mono S n) ⟨fun q _ => ⟨_, rfl, ?_⟩, fun q _ => ⟨_, rfl, ?_⟩⟩)
  · rw [show min a b = b by omega] at H; exact H
  · rw [show min a b = a by omega] at H; exact H
theorem f_28 {K : MM → Prop} {W : Nat} (hW : WebSh W) (hT : WtOK mem W) {b x y : Int} (hx : x ≤ 80) (hy : y ≤ 80) (H : ∀ m', FrWc W mem m' → WtOK m' W → K m') : CWV (Ex S (n + 2)) 28 [.inr W, .inl b, .inl x, .inl y] mem K := by
  have same : none = (none : Option Int) ∧ K mem := ⟨rfl, H mem FrWc.rf hT⟩
  obtain ⟨h5, h6⟩ := hT
  refine CW.of (k := 1) mt_28 rfl rfl (w_28_0 (Ex.mono S (n + 1)) hW ⟨fun _ => same, fun q => ⟨fun q2 v1 e1 _ => ?_, fun _ => same⟩⟩)
  have p1 : 0 ≤ x * v1 ∧ x * v1 ≤ 6400 := by
    have a1 : 0 ≤ x * v1 := Int.mul_nonneg (by omega) (by omega)
    have a2 : x * v1 ≤ 80 * v1 := Int.mul_le_mul_of_nonneg_right hx (by omega)
    omega
  refine ⟨by unfold InI; omega, fun v3 e3 _ => ?_⟩
  have p2 : 0 ≤ v3 * y ∧ v3 * y ≤ 6400 := by
    have a1 : 0 ≤ v3 * y := Int.mul_nonneg (by omega) (by omega)
    have a2 : v3 * y ≤ v3 * 80 := Int.mul_le_mul_of_nonneg_left hy (by omega)
    omega
  refine ⟨by unfold InI; omega, by unfold InI; omega, fun _ => ⟨fun _ => same, fun _ v5 _ _ => f_29 (fun _ => ⟨rfl, H _ (fun A i e => upm_ne (by omega)) ⟨?_, ?_⟩⟩)⟩, fun _ => ⟨rfl, H _ (fun A i e => ?_) ⟨?_, ?_⟩⟩⟩
  · rw [upm_ne (by omega)]; exact h5
  · rw [upm_ne (by omega)]; exact h6
  · rw [upm_ne (by omega), upm_ne (by omega), upm_ne (by omega)]
  · rw [upm_ne (by omega), upm_ne (by omega), upm_eq]; omega
  · rw [upm_ne (by omega), upm_eq]; omega
/-- the loop of goOn, with what a call one deeper comes to -/
theorem go_3 {W : Nat} (hW : WebSh W) {s a b x y : Int} {m0 : MM} {K : MM → Prop} {E : Nat} (hO : WbOK m0 W) (x1 : -74 ≤ x) (x2 : x ≤ 74) (y1 : 0 ≤ y) (y2 : y ≤ 73) (H : ∀ m', FrWc W m0 m' → WtOK m' W → K m') (rec : ∀ (m : MM) (K : MM → Prop) (v b7 b' l e : Int), FrWc W m0 m → WtOK m W → 0 ≤ v → v ≤ 7 → -5 ≤ l → l ≤ 6 → 0 ≤ e → e ≤ 7 → ¬ tb b v → b7 = ((fun (x y : Int32) => x <<< (y &&& 31)) (Int32.ofInt 1) (Int32.ofInt v)).toInt → b' = ((fun (x y : Int32) => x ||| y) (Int32.ofInt b) (Int32.ofInt b7)).toInt → (∀ m', FrWc W m m' → WtOK m' W → K m') → CWV (Ex S (E + 2)) 27 [.inr W, .inl s, .inl v, .inl b', .inl (x + l), .inl (y + e)] m K) : ∀ (N : Nat) (i : Nat) (m : MM), 64 - i < N → FrWc W m0 m → WtOK m W → Wx (Ex S (E + 2)) S M_27 (fun r m => r = none ∧ K m) 3 [some (.inr W), some (.inl s), some (.inl a), some (.inl b), some (.inl x), some (.inl y), some (.inl (i : Int))] [] m := by
  intro N
  induction N with
  | zero => intros; omega
  | succ N ih =>
    intro i m hN hF hT
    have hO' := hF.wb hO
    refine w_27_3 (Ex.mono S (E + 2)) hW (fun v1 e1 _ => ⟨fun _ => ⟨rfl, H m hF hT⟩, fun q => ?_⟩)
    have hi : 0 ≤ (i : Int) ∧ (i : Int) < 64 := by have := hO'.2; omega
    obtain ⟨g1, g2, g3, g4⟩ := hO'.1 i (by omega)
    have nx : ∀ m', FrWc W m0 m' → WtOK m' W → InI ((i : Int) + 1) ∧ Wx (Ex S (E + 2)) S M_27 (fun r m => r = none ∧ K m) 3 [some (.inr W), some (.inl s), some (.inl a), some (.inl b), some (.inl x), some (.inl y), some (.inl ((i : Int) + 1))] [] m' := fun m' z1 z2 => ⟨by unfold InI; omega, ih (i + 1) m' (by omega) z1 z2⟩
    rw [Int.toNat_natCast]
    refine ⟨hi, fun v2 e2 _ => ⟨fun _ => nx m hF hT, fun _ => ⟨hi, fun v3 e3 _ => ⟨fun _ => ⟨hi, fun v4 e4 _ => ⟨fun _ => ⟨hi, fun v5 e5 _ b6 e6 _ b7 e7 _ => ⟨fun _ => nx m hF hT, fun z => ⟨hi, fun v8 e8 _ => ⟨hi, fun v9 e9 _ b10 e10 _ b11 e11 _ => ⟨hi, fun v12 e12 _ => ⟨by unfold InI; omega, hi, fun v13 e13 _ => ⟨by unfold InI; omega, ?_⟩⟩⟩⟩⟩⟩⟩, fun _ => ⟨hi, fun v15 e15 _ => ⟨by unfold InI; omega, hi, fun v16 e16 _ => ⟨by unfold InI; omega, f_28 hW hT (by omega) (by omega) (fun m' k1 k2 => nx m' (hF.tr k1) k2)⟩⟩⟩⟩⟩, fun _ => nx m hF hT⟩⟩⟩⟩
    have h59 : v9 = v8 := by rw [e9, e8]
    have h58 : v5 = v8 := by rw [e5, e8]
    subst h59
    rw [h58] at e6
    have hnt : ¬ tb b v9 := by
      have := tb_of e6 e7
      exact this.mp (Classical.not_not.mp z)
    exact rec m _ v9 b10 b11 v12 v13 hF hT (by omega) (by omega) (by omega) (by omega) (by omega) (by omega) hnt e10 e11 (fun m' k1 k2 => nx m' (hF.tr k1) k2)
/-- goOn: been grows -/
theorem f_27 {W : Nat} (hW : WebSh W) {s : Int} : ∀ (c : Nat) (mem : MM) (K : MM → Prop) (a b x y : Int), WbOK mem W → WtOK mem W → cnt b ≤ c → c ≤ 8 → -6 * (9 - (c : Int)) ≤ x → x ≤ 6 * (9 - (c : Int)) → 0 ≤ y → y ≤ 7 * (9 - (c : Int)) → (∀ m', FrWc W mem m' → WtOK m' W → K m') → CWV (Ex S (n + c + 3)) 27 [.inr W, .inl s, .inl a, .inl b, .inl x, .inl y] mem K := by
  intro c
  induction c with
  | zero =>
    intro mem K a b x y hO hT hc hc8 x1 x2 y1 y2 H
    refine CW.of (k := 1) mt_27 rfl rfl (w_27_0 (Ex.mono S (n + 0 + 2)) hW (go_3 hW hO (by omega) (by omega) y1 (by omega) H (fun m K v b7 b' l e _ _ v1 v2 _ _ _ _ hb e1 e2 _ => ?_) 65 0 mem (by omega) FrWc.rf hT))
    have := cnt_set e1 e2 ⟨v1, by omega⟩ hb
    omega
  | succ c ihc =>
    intro mem K a b x y hO hT hc hc8 x1 x2 y1 y2 H
    refine CW.of (k := 1) mt_27 rfl rfl (w_27_0 (Ex.mono S (n + (c + 1) + 2)) hW (go_3 hW hO (by omega) (by omega) y1 (by omega) H (fun m K v b7 b' l e hF hT' v1 v2 l1 l2 d1 d2 hb e1 e2 H' => ?_) 65 0 mem (by omega) FrWc.rf hT))
    have := cnt_set e1 e2 ⟨v1, by omega⟩ hb
    exact ihc m K v b' (x + l) (y + e) (hF.wb hO) hT' (by omega) (by omega) (by omega) (by omega) (by omega) (by omega) H'
theorem f_30 {K : Int → MM → Prop} {a b : Int} (ha : 0 ≤ a ∧ a ≤ 80) (hb : 1 ≤ b ∧ b ≤ 80) (H : ∀ r, 0 < r → r ∣ b → K r mem) : CWI (Ex S (n + 1)) 30 [.inl a, .inl b] mem K := by
  have key : ∀ (N : Nat) (x y i : Int), 0 < x ∨ (x = 0 ∧ 0 < y) → 0 ≤ y → 0 ≤ x → 0 ≤ i → y ≤ 80 - i → (100 - i).toNat < N → (∀ d : Int, d ∣ x → d ∣ y → d ∣ b) → Wx (Ex S n) S M_30 (fun r m => ∃ y, r = some y ∧ K y m) 7 [some (.inl a), some (.inl b), some (.inl x), some (.inl y), some (.inl i), none] [] mem := by
    intro N
    induction N with
    | zero => intros; omega
    | succ N ih =>
      intro x y i h0 hy hx hi hyi hN hd
      refine w_30_7 (Ex.mono S n) ⟨fun q _ => by omega, fun q => ⟨fun q2 _ => ⟨_, rfl, H x (by omega) (hd x (Int.dvd_refl _) (by rw [q2]; exact Int.dvd_zero _))⟩, fun q2 => ⟨by omega, by unfold InI; omega, ?_⟩⟩⟩
      have r := tmod_r hx (show 0 < y by omega)
      refine ih y _ (i + 1) (by omega) r.1 hy (by omega) (by omega) (by omega) (fun d d1 d2 => hd d ?_ d1)
      have e := Int.mul_tdiv_add_tmod x y
      rw [← e]
      exact Int.dvd_add (Int.dvd_mul_of_dvd_left d1) d2
  refine CW.of (k := 4) mt_30 rfl rfl (w_30_0 (Ex.mono S n) (key 101 a b 0 (by omega) (by omega) ha.1 (by omega) (by omega) (by omega) (fun d _ d2 => d2)))
theorem f_26 {K : MM → Prop} {W : Nat} (hW : WebSh W) (hO : WbOK mem W) {c : Int} (hc : 0 ≤ c ∧ c ≤ 8) (H : ∀ m', FrWc W mem m' → WtOK m' W → K m') : CWV (Ex S (n + 12)) 26 [.inr W, .inl c] mem K := by
  have key : ∀ (N : Nat) (o : Int) (m : MM), 0 ≤ o → (8 - o).toNat < N → FrWc W mem m → WtOK m W → Wx (Ex S (n + 11)) S M_26 (fun r m => r = none ∧ K m) 17 [some (.inr W), some (.inl c), some (.inl o)] [] m := by
    intro N
    induction N with
    | zero => intros; omega
    | succ N ih =>
      intro o m ho hN hF hT
      refine w_26_17 (Ex.mono S (n + 11)) hW ⟨fun q v1 e1 _ v2 e2 _ => ?_, fun q b7 e7 _ => ?_⟩
      · obtain ⟨h5, h6⟩ := hT
        refine f_30 ⟨by omega, by omega⟩ ⟨by omega, by omega⟩ (fun r r1 r2 _ => ⟨fun _ => ⟨rfl, H m hF ⟨h5, h6⟩⟩, fun _ v5 e5 _ => ⟨r1, fun v6 e6 _ => ⟨r1, rfl, H _ (fun A i e => ?_) ⟨?_, ?_⟩⟩⟩⟩)
        · rw [upm_ne (by omega), upm_ne (by omega)]; exact hF A i e
        · rw [upm_ne (by omega), upm_eq]
          have := tdiv_r (show 0 ≤ v5 by omega) r1
          omega
        · rw [upm_ne (by omega)] at e6
          obtain ⟨k, hk⟩ := r2
          have hkp : 0 < k := by
            rcases Int.lt_or_le 0 k with z | z
            · exact z
            · have := Int.mul_nonpos_of_nonneg_of_nonpos (Int.le_of_lt r1) z
              omega
          have e : v6.tdiv r = k := by rw [show v6 = r * k by omega]; exact Int.mul_tdiv_cancel_left _ (by omega)
          have := tdiv_r (show 0 ≤ v6 by omega) r1
          rw [upm_eq]; omega
      · refine f_27 hW 8 m _ o b7 0 0 (hF.wb hO) hT (cnt_le _) (by omega) (by omega) (by omega) (by omega) (by omega) (fun m' k1 k2 => ⟨by unfold InI; omega, ih (o + 1) m' (by omega) (by omega) (hF.tr k1) k2⟩)
  refine CW.of (k := 1) mt_26 rfl rfl (w_26_0 (Ex.mono S (n + 11)) hW (key 9 0 _ (by omega) (by omega) (fun A i e => ?_) ⟨?_, ?_⟩))
  · rw [upm_ne (by omega), upm_ne (by omega), upm_ne (by omega)]
  · rw [upm_ne (by omega), upm_ne (by omega), upm_eq]; omega
  · rw [upm_ne (by omega), upm_eq]; omega
end WEIGH
/-! the length of a row -/
theorem Wx.alen {C : CXW} (hC : Cmono C) {S : Nat × (Nat → Int32)} {M : PM} {K : WK} {pc : Nat} {L : List (Option WV)} {st : List WV} {mem : MM} {a b A n : Nat} (ht : (pT M).find? (fun e => e.1 == pc) = some (pc, .arraylength, a, b)) (hA : shA A = some (.inl n)) (hI : InI (n : Int)) (H : Wx C S M K (pc + 1) L (.inl (n : Int) :: st) mem) : Wx C S M K pc L (.inr A :: st) mem :=
  Wx.go hC ht fun h0 lv h h1 h2 h3 => by
    obtain ⟨g, e1, e2⟩ := h3.row hA
    show p_alen S h (.ref A :: st.map wv) fun st => Vx C S M [] (QK h0 K) (pc + 1) lv st h 0 0
    refine alen_mk e1 (by omega) ?_
    have := H h0 lv h h1 (stc hI (fun u hu => h2 u (List.mem_cons_of_mem _ hu))) h3
    rw [List.map_cons, show wv (.inl (n : Int)) = .int (Int32.ofNat n) from rfl] at this
    exact this
theorem Wx.putB {C : CXW} (hC : Cmono C) {S : Nat × (Nat → Int32)} {M : PM} {K : WK} {pc : Nat} {L : List (Option WV)} {st : List WV} {mem : MM} {p A ci f : Nat} {fs : List (Option Nat)} {x : Int} (ht : (pT M).find? (fun e => e.1 == pc) = some (pc, .putfield p, ci, f)) (hA : shA A = some (.inr (ci, fs))) (hf : fs[f]? = some none) (hn : Nat.blt f (fnum ci) = true) (hy : ftyX ci f = .boolean) (hx : x = 0 ∨ x = 1) (H : Wx C S M K (pc + 3) L st (upm mem A f x)) : Wx C S M K pc L (.inl x :: .inr A :: st) mem :=
  Wx.go hC ht fun h0 lv h h1 h2 h3 => by
    obtain ⟨gs, e1, e0, e2⟩ := h3.obj hA
    have hfl : f < gs.length := by rw [e0]; exact (List.getElem?_eq_some_iff.mp hf).1
    have hI : InI x := h2 _ List.mem_cons_self
    show p_put h ci f (.int (Int32.ofInt x) :: .ref A :: st.map wv) fun st h => Vx C S M [] (QK h0 K) (pc + 3) lv st h 0 0
    refine put_mk e1 (blt_iff.mp hn) hfl (by rw [hy]; rcases hx with e | e <;> subst e <;> rfl) (by rw [hy]; rcases hx with e | e <;> subst e <;> rfl) ?_
    have := h3.setObj (x := Int32.ofInt x) hA hf e1
    rw [wi hI] at this
    exact H h0 lv _ h1 (fun u hu => h2 u (List.mem_cons_of_mem _ (List.mem_cons_of_mem _ hu))) this
theorem Wx.statV {C : CXW} (hC : Cmono C) {S : Nat × (Nat → Int32)} {M : PM} {K : WK} {pc : Nat} {L : List (Option WV)} {st : List WV} {mem : MM} {p μ b : Nat} {N : PM} {args rest : List WV} (ht : (pT M).find? (fun e => e.1 == pc) = some (pc, .invokestatic p, μ, b)) (hb : b ≠ 7) (hN : MT[μ]? = some N) (hst : st = args.reverse ++ rest) (hl : args.length = pN N) (hr : Nat.ble rest.length 8 = true) (hc : pC N = 0) (hs : pS N = 0) (H : CWV C μ args mem fun m => Wx C S M K (pc + 3) L rest m) : Wx C S M K pc L st mem := by
  subst hst
  exact Wx.go hC ht fun h0 lv h h1 h2 h3 => Or.inr ⟨hb, Wx.call hC hN hl hr hc hs (fun q => by cases q) H (fun r m ⟨e, q⟩ _ => by subst e; exact q) h1 h2 h3⟩
/-! laid by wip/hand/wxg.py: the quick way of the class: what the paths of methods ask for -/
set_option maxRecDepth 100000 in
theorem mt_40 : MT[40]? = some M_40 := rfl
set_option maxRecDepth 100000 in
theorem mt_76 : MT[76]? = some M_76 := rfl
set_option maxRecDepth 100000 in
theorem mt_80 : MT[80]? = some M_80 := rfl
set_option maxRecDepth 100000 in
theorem mt_123 : MT[123]? = some M_123 := rfl
set_option maxRecDepth 100000 in
theorem mt_124 : MT[124]? = some M_124 := rfl
set_option maxRecDepth 100000 in
theorem mt_125 : MT[125]? = some M_125 := rfl
set_option maxRecDepth 100000 in
theorem mt_126 : MT[126]? = some M_126 := rfl
set_option maxRecDepth 100000 in
theorem mt_127 : MT[127]? = some M_127 := rfl
set_option maxRecDepth 100000 in
theorem mt_128 : MT[128]? = some M_128 := rfl
set_option maxRecDepth 100000 in
theorem mt_129 : MT[129]? = some M_129 := rfl
set_option maxRecDepth 100000 in
theorem mt_130 : MT[130]? = some M_130 := rfl
set_option maxRecDepth 100000 in
theorem mt_131 : MT[131]? = some M_131 := rfl
set_option maxRecDepth 100000 in
theorem mt_132 : MT[132]? = some M_132 := rfl
set_option maxRecDepth 100000 in
theorem mt_133 : MT[133]? = some M_133 := rfl
set_option maxRecDepth 100000 in
theorem mt_134 : MT[134]? = some M_134 := rfl
theorem te_40_0 : (pT M_40).find? (fun e => e.1 == 0) = some (0, .iload_n 0, 0, 0) := rfl
theorem te_40_1 : (pT M_40).find? (fun e => e.1 == 1) = some (1, .iload_n 1, 0, 0) := rfl
theorem te_40_2 : (pT M_40).find? (fun e => e.1 == 2) = some (2, .if_icmp .lt 7, 0, 0) := rfl
theorem te_40_5 : (pT M_40).find? (fun e => e.1 == 5) = some (5, .iload_n 0, 0, 0) := rfl
theorem te_40_6 : (pT M_40).find? (fun e => e.1 == 6) = some (6, .goto 4, 0, 0) := rfl
theorem te_40_9 : (pT M_40).find? (fun e => e.1 == 9) = some (9, .iload_n 1, 0, 0) := rfl
theorem te_40_10 : (pT M_40).find? (fun e => e.1 == 10) = some (10, .ireturn, 0, 0) := rfl
theorem te_76_0 : (pT M_76).find? (fun e => e.1 == 0) = some (0, .iconst 0, 0, 0) := rfl
theorem te_76_1 : (pT M_76).find? (fun e => e.1 == 1) = some (1, .istore_n 2, 0, 0) := rfl
theorem te_76_2 : (pT M_76).find? (fun e => e.1 == 2) = some (2, .aload_n 0, 0, 0) := rfl
theorem te_76_3 : (pT M_76).find? (fun e => e.1 == 3) = some (3, .arraylength, 0, 0) := rfl
theorem te_76_4 : (pT M_76).find? (fun e => e.1 == 4) = some (4, .istore_n 3, 0, 0) := rfl
theorem te_76_5 : (pT M_76).find? (fun e => e.1 == 5) = some (5, .iload_n 2, 0, 0) := rfl
theorem te_76_6 : (pT M_76).find? (fun e => e.1 == 6) = some (6, .iload_n 3, 0, 0) := rfl
theorem te_76_7 : (pT M_76).find? (fun e => e.1 == 7) = some (7, .if_icmp .ge 13, 0, 0) := rfl
theorem te_76_10 : (pT M_76).find? (fun e => e.1 == 10) = some (10, .aload_n 0, 0, 0) := rfl
theorem te_76_11 : (pT M_76).find? (fun e => e.1 == 11) = some (11, .iload_n 2, 0, 0) := rfl
theorem te_76_12 : (pT M_76).find? (fun e => e.1 == 12) = some (12, .iload_n 1, 0, 0) := rfl
theorem te_76_13 : (pT M_76).find? (fun e => e.1 == 13) = some (13, .iastore, 0, 0) := rfl
theorem te_76_14 : (pT M_76).find? (fun e => e.1 == 14) = some (14, .iinc 2 1, 0, 0) := rfl
theorem te_76_17 : (pT M_76).find? (fun e => e.1 == 17) = some (17, .goto (-12), 0, 0) := rfl
theorem te_76_20 : (pT M_76).find? (fun e => e.1 == 20) = some (20, .return_, 0, 0) := rfl
theorem te_80_0 : (pT M_80).find? (fun e => e.1 == 0) = some (0, .iconst 0, 0, 0) := rfl
theorem te_80_1 : (pT M_80).find? (fun e => e.1 == 1) = some (1, .istore_n 2, 0, 0) := rfl
theorem te_80_2 : (pT M_80).find? (fun e => e.1 == 2) = some (2, .iconst 0, 0, 0) := rfl
theorem te_80_3 : (pT M_80).find? (fun e => e.1 == 3) = some (3, .istore_n 3, 0, 0) := rfl
theorem te_80_4 : (pT M_80).find? (fun e => e.1 == 4) = some (4, .iload_n 3, 0, 0) := rfl
theorem te_80_5 : (pT M_80).find? (fun e => e.1 == 5) = some (5, .aload_n 0, 0, 0) := rfl
theorem te_80_6 : (pT M_80).find? (fun e => e.1 == 6) = some (6, .getfield 24, 5, 0) := rfl
theorem te_80_9 : (pT M_80).find? (fun e => e.1 == 9) = some (9, .if_icmp .ge 25, 0, 0) := rfl
theorem te_80_12 : (pT M_80).find? (fun e => e.1 == 12) = some (12, .iload_n 2, 0, 0) := rfl
theorem te_80_13 : (pT M_80).find? (fun e => e.1 == 13) = some (13, .aload_n 0, 0, 0) := rfl
theorem te_80_14 : (pT M_80).find? (fun e => e.1 == 14) = some (14, .getfield 9, 5, 2) := rfl
theorem te_80_17 : (pT M_80).find? (fun e => e.1 == 17) = some (17, .iload_n 1, 0, 0) := rfl
theorem te_80_18 : (pT M_80).find? (fun e => e.1 == 18) = some (18, .bipush 8, 0, 0) := rfl
theorem te_80_20 : (pT M_80).find? (fun e => e.1 == 20) = some (20, .imul, 0, 0) := rfl
theorem te_80_21 : (pT M_80).find? (fun e => e.1 == 21) = some (21, .iload_n 3, 0, 0) := rfl
theorem te_80_22 : (pT M_80).find? (fun e => e.1 == 22) = some (22, .iadd, 0, 0) := rfl
theorem te_80_23 : (pT M_80).find? (fun e => e.1 == 23) = some (23, .iaload, 0, 0) := rfl
theorem te_80_24 : (pT M_80).find? (fun e => e.1 == 24) = some (24, .invokestatic 47, 40, 2) := rfl
theorem te_80_27 : (pT M_80).find? (fun e => e.1 == 27) = some (27, .istore_n 2, 0, 0) := rfl
theorem te_80_28 : (pT M_80).find? (fun e => e.1 == 28) = some (28, .iinc 3 1, 0, 0) := rfl
theorem te_80_31 : (pT M_80).find? (fun e => e.1 == 31) = some (31, .goto (-27), 0, 0) := rfl
theorem te_80_34 : (pT M_80).find? (fun e => e.1 == 34) = some (34, .iload_n 2, 0, 0) := rfl
theorem te_80_35 : (pT M_80).find? (fun e => e.1 == 35) = some (35, .ireturn, 0, 0) := rfl
theorem te_123_0 : (pT M_123).find? (fun e => e.1 == 0) = some (0, .aload_n 0, 0, 0) := rfl
theorem te_123_1 : (pT M_123).find? (fun e => e.1 == 1) = some (1, .getfield 24, 2, 0) := rfl
theorem te_123_4 : (pT M_123).find? (fun e => e.1 == 4) = some (4, .iload 4, 0, 0) := rfl
theorem te_123_6 : (pT M_123).find? (fun e => e.1 == 6) = some (6, .if_icmp .ne 4, 0, 0) := rfl
theorem te_123_9 : (pT M_123).find? (fun e => e.1 == 9) = some (9, .return_, 0, 0) := rfl
theorem te_123_10 : (pT M_123).find? (fun e => e.1 == 10) = some (10, .aload_n 0, 0, 0) := rfl
theorem te_123_11 : (pT M_123).find? (fun e => e.1 == 11) = some (11, .iload 4, 0, 0) := rfl
theorem te_123_13 : (pT M_123).find? (fun e => e.1 == 13) = some (13, .putfield 24, 2, 0) := rfl
theorem te_123_16 : (pT M_123).find? (fun e => e.1 == 16) = some (16, .aload_n 0, 0, 0) := rfl
theorem te_123_17 : (pT M_123).find? (fun e => e.1 == 17) = some (17, .iconst 0, 0, 0) := rfl
theorem te_123_18 : (pT M_123).find? (fun e => e.1 == 18) = some (18, .putfield 28, 2, 1) := rfl
theorem te_123_21 : (pT M_123).find? (fun e => e.1 == 21) = some (21, .aload_n 0, 0, 0) := rfl
theorem te_123_22 : (pT M_123).find? (fun e => e.1 == 22) = some (22, .iconst 0, 0, 0) := rfl
theorem te_123_23 : (pT M_123).find? (fun e => e.1 == 23) = some (23, .putfield 32, 2, 2) := rfl
theorem te_123_26 : (pT M_123).find? (fun e => e.1 == 26) = some (26, .aload_n 0, 0, 0) := rfl
theorem te_123_27 : (pT M_123).find? (fun e => e.1 == 27) = some (27, .iconst 0, 0, 0) := rfl
theorem te_123_28 : (pT M_123).find? (fun e => e.1 == 28) = some (28, .putfield 35, 2, 3) := rfl
theorem te_123_31 : (pT M_123).find? (fun e => e.1 == 31) = some (31, .iconst 0, 0, 0) := rfl
theorem te_123_32 : (pT M_123).find? (fun e => e.1 == 32) = some (32, .istore 5, 0, 0) := rfl
theorem te_123_34 : (pT M_123).find? (fun e => e.1 == 34) = some (34, .iload 5, 0, 0) := rfl
theorem te_123_36 : (pT M_123).find? (fun e => e.1 == 36) = some (36, .aload_n 1, 0, 0) := rfl
theorem te_123_37 : (pT M_123).find? (fun e => e.1 == 37) = some (37, .getfield 38, 0, 0) := rfl
theorem te_123_40 : (pT M_123).find? (fun e => e.1 == 40) = some (40, .if_icmp .ge 53, 0, 0) := rfl
theorem te_123_43 : (pT M_123).find? (fun e => e.1 == 43) = some (43, .aload_n 0, 0, 0) := rfl
theorem te_123_44 : (pT M_123).find? (fun e => e.1 == 44) = some (44, .getfield 15, 2, 5) := rfl
theorem te_123_47 : (pT M_123).find? (fun e => e.1 == 47) = some (47, .iload 5, 0, 0) := rfl
theorem te_123_49 : (pT M_123).find? (fun e => e.1 == 49) = some (49, .iconst (-1), 0, 0) := rfl
theorem te_123_50 : (pT M_123).find? (fun e => e.1 == 50) = some (50, .iastore, 0, 0) := rfl
theorem te_123_51 : (pT M_123).find? (fun e => e.1 == 51) = some (51, .aload_n 0, 0, 0) := rfl
theorem te_123_52 : (pT M_123).find? (fun e => e.1 == 52) = some (52, .getfield 21, 2, 7) := rfl
theorem te_123_55 : (pT M_123).find? (fun e => e.1 == 55) = some (55, .iload 5, 0, 0) := rfl
theorem te_123_57 : (pT M_123).find? (fun e => e.1 == 57) = some (57, .aload_n 3, 0, 0) := rfl
theorem te_123_58 : (pT M_123).find? (fun e => e.1 == 58) = some (58, .iload 5, 0, 0) := rfl
theorem te_123_60 : (pT M_123).find? (fun e => e.1 == 60) = some (60, .invokevirtual 43, 80, 1) := rfl
theorem te_123_63 : (pT M_123).find? (fun e => e.1 == 63) = some (63, .iastore, 0, 0) := rfl
theorem te_123_64 : (pT M_123).find? (fun e => e.1 == 64) = some (64, .aload_n 0, 0, 0) := rfl
theorem te_123_65 : (pT M_123).find? (fun e => e.1 == 65) = some (65, .aload_n 1, 0, 0) := rfl
theorem te_123_66 : (pT M_123).find? (fun e => e.1 == 66) = some (66, .aload_n 1, 0, 0) := rfl
theorem te_123_67 : (pT M_123).find? (fun e => e.1 == 67) = some (67, .iload 5, 0, 0) := rfl
theorem te_123_69 : (pT M_123).find? (fun e => e.1 == 69) = some (69, .invokevirtual 49, 37, 1) := rfl
theorem te_123_72 : (pT M_123).find? (fun e => e.1 == 72) = some (72, .invokevirtual 52, 124, 0) := rfl
theorem te_123_75 : (pT M_123).find? (fun e => e.1 == 75) = some (75, .aload_n 0, 0, 0) := rfl
theorem te_123_76 : (pT M_123).find? (fun e => e.1 == 76) = some (76, .aload_n 1, 0, 0) := rfl
theorem te_123_77 : (pT M_123).find? (fun e => e.1 == 77) = some (77, .iload 5, 0, 0) := rfl
theorem te_123_79 : (pT M_123).find? (fun e => e.1 == 79) = some (79, .iconst 0, 0, 0) := rfl
theorem te_123_80 : (pT M_123).find? (fun e => e.1 == 80) = some (80, .invokevirtual 56, 126, 0) := rfl
theorem te_123_83 : (pT M_123).find? (fun e => e.1 == 83) = some (83, .ifCond .ne 4, 0, 0) := rfl
theorem te_123_86 : (pT M_123).find? (fun e => e.1 == 86) = some (86, .return_, 0, 0) := rfl
theorem te_123_87 : (pT M_123).find? (fun e => e.1 == 87) = some (87, .iinc 5 1, 0, 0) := rfl
theorem te_123_90 : (pT M_123).find? (fun e => e.1 == 90) = some (90, .goto (-56), 0, 0) := rfl
theorem te_123_93 : (pT M_123).find? (fun e => e.1 == 93) = some (93, .iconst 1, 0, 0) := rfl
theorem te_123_94 : (pT M_123).find? (fun e => e.1 == 94) = some (94, .aload_n 1, 0, 0) := rfl
theorem te_123_95 : (pT M_123).find? (fun e => e.1 == 95) = some (95, .getfield 38, 0, 0) := rfl
theorem te_123_98 : (pT M_123).find? (fun e => e.1 == 98) = some (98, .ishl, 0, 0) := rfl
theorem te_123_99 : (pT M_123).find? (fun e => e.1 == 99) = some (99, .iconst 1, 0, 0) := rfl
theorem te_123_100 : (pT M_123).find? (fun e => e.1 == 100) = some (100, .isub, 0, 0) := rfl
theorem te_123_101 : (pT M_123).find? (fun e => e.1 == 101) = some (101, .istore 5, 0, 0) := rfl
theorem te_123_103 : (pT M_123).find? (fun e => e.1 == 103) = some (103, .aload_n 0, 0, 0) := rfl
theorem te_123_104 : (pT M_123).find? (fun e => e.1 == 104) = some (104, .getfield 32, 2, 2) := rfl
theorem te_123_107 : (pT M_123).find? (fun e => e.1 == 107) = some (107, .bipush 6, 0, 0) := rfl
theorem te_123_109 : (pT M_123).find? (fun e => e.1 == 109) = some (109, .aload_n 1, 0, 0) := rfl
theorem te_123_110 : (pT M_123).find? (fun e => e.1 == 110) = some (110, .getfield 38, 0, 0) := rfl
theorem te_123_113 : (pT M_123).find? (fun e => e.1 == 113) = some (113, .imul, 0, 0) := rfl
theorem te_123_114 : (pT M_123).find? (fun e => e.1 == 114) = some (114, .if_icmp .ge 39, 0, 0) := rfl
theorem te_123_117 : (pT M_123).find? (fun e => e.1 == 117) = some (117, .aload_n 0, 0, 0) := rfl
theorem te_123_118 : (pT M_123).find? (fun e => e.1 == 118) = some (118, .getfield 35, 2, 3) := rfl
theorem te_123_121 : (pT M_123).find? (fun e => e.1 == 121) = some (121, .iload 5, 0, 0) := rfl
theorem te_123_123 : (pT M_123).find? (fun e => e.1 == 123) = some (123, .if_icmp .eq 30, 0, 0) := rfl
theorem te_123_126 : (pT M_123).find? (fun e => e.1 == 126) = some (126, .aload_n 0, 0, 0) := rfl
theorem te_123_127 : (pT M_123).find? (fun e => e.1 == 127) = some (127, .aload_n 1, 0, 0) := rfl
theorem te_123_128 : (pT M_123).find? (fun e => e.1 == 128) = some (128, .aload_n 2, 0, 0) := rfl
theorem te_123_129 : (pT M_123).find? (fun e => e.1 == 129) = some (129, .aload_n 0, 0, 0) := rfl
theorem te_123_130 : (pT M_123).find? (fun e => e.1 == 130) = some (130, .aload_n 1, 0, 0) := rfl
theorem te_123_131 : (pT M_123).find? (fun e => e.1 == 131) = some (131, .getfield 38, 0, 0) := rfl
theorem te_123_134 : (pT M_123).find? (fun e => e.1 == 134) = some (134, .invokevirtual 60, 128, 0) := rfl
theorem te_123_137 : (pT M_123).find? (fun e => e.1 == 137) = some (137, .invokevirtual 63, 129, 0) := rfl
theorem te_123_140 : (pT M_123).find? (fun e => e.1 == 140) = some (140, .aload_n 0, 0, 0) := rfl
theorem te_123_141 : (pT M_123).find? (fun e => e.1 == 141) = some (141, .dup, 0, 0) := rfl
theorem te_123_142 : (pT M_123).find? (fun e => e.1 == 142) = some (142, .getfield 32, 2, 2) := rfl
theorem te_123_145 : (pT M_123).find? (fun e => e.1 == 145) = some (145, .iconst 1, 0, 0) := rfl
theorem te_123_146 : (pT M_123).find? (fun e => e.1 == 146) = some (146, .iadd, 0, 0) := rfl
theorem te_123_147 : (pT M_123).find? (fun e => e.1 == 147) = some (147, .putfield 32, 2, 2) := rfl
theorem te_123_150 : (pT M_123).find? (fun e => e.1 == 150) = some (150, .goto (-47), 0, 0) := rfl
theorem te_123_153 : (pT M_123).find? (fun e => e.1 == 153) = some (153, .aload_n 0, 0, 0) := rfl
theorem te_123_154 : (pT M_123).find? (fun e => e.1 == 154) = some (154, .aload_n 0, 0, 0) := rfl
theorem te_123_155 : (pT M_123).find? (fun e => e.1 == 155) = some (155, .getfield 35, 2, 3) := rfl
theorem te_123_158 : (pT M_123).find? (fun e => e.1 == 158) = some (158, .iload 5, 0, 0) := rfl
theorem te_123_160 : (pT M_123).find? (fun e => e.1 == 160) = some (160, .if_icmp .ne 7, 0, 0) := rfl
theorem te_123_163 : (pT M_123).find? (fun e => e.1 == 163) = some (163, .iconst 1, 0, 0) := rfl
theorem te_123_164 : (pT M_123).find? (fun e => e.1 == 164) = some (164, .goto 4, 0, 0) := rfl
theorem te_123_167 : (pT M_123).find? (fun e => e.1 == 167) = some (167, .iconst 0, 0, 0) := rfl
theorem te_123_168 : (pT M_123).find? (fun e => e.1 == 168) = some (168, .putfield 28, 2, 1) := rfl
theorem te_123_171 : (pT M_123).find? (fun e => e.1 == 171) = some (171, .return_, 0, 0) := rfl
theorem te_124_0 : (pT M_124).find? (fun e => e.1 == 0) = some (0, .aload_n 0, 0, 0) := rfl
theorem te_124_1 : (pT M_124).find? (fun e => e.1 == 1) = some (1, .getfield 18, 2, 6) := rfl
theorem te_124_4 : (pT M_124).find? (fun e => e.1 == 4) = some (4, .iconst 0, 0, 0) := rfl
theorem te_124_5 : (pT M_124).find? (fun e => e.1 == 5) = some (5, .invokestatic 99, 76, 2) := rfl
theorem te_124_8 : (pT M_124).find? (fun e => e.1 == 8) = some (8, .iconst 0, 0, 0) := rfl
theorem te_124_9 : (pT M_124).find? (fun e => e.1 == 9) = some (9, .istore_n 3, 0, 0) := rfl
theorem te_124_10 : (pT M_124).find? (fun e => e.1 == 10) = some (10, .iload_n 3, 0, 0) := rfl
theorem te_124_11 : (pT M_124).find? (fun e => e.1 == 11) = some (11, .aload_n 1, 0, 0) := rfl
theorem te_124_12 : (pT M_124).find? (fun e => e.1 == 12) = some (12, .getfield 38, 0, 0) := rfl
theorem te_124_15 : (pT M_124).find? (fun e => e.1 == 15) = some (15, .if_icmp .ge 45, 0, 0) := rfl
theorem te_124_18 : (pT M_124).find? (fun e => e.1 == 18) = some (18, .aload_n 0, 0, 0) := rfl
theorem te_124_19 : (pT M_124).find? (fun e => e.1 == 19) = some (19, .getfield 35, 2, 3) := rfl
theorem te_124_22 : (pT M_124).find? (fun e => e.1 == 22) = some (22, .iconst 1, 0, 0) := rfl
theorem te_124_23 : (pT M_124).find? (fun e => e.1 == 23) = some (23, .iload_n 3, 0, 0) := rfl
theorem te_124_24 : (pT M_124).find? (fun e => e.1 == 24) = some (24, .ishl, 0, 0) := rfl
theorem te_124_25 : (pT M_124).find? (fun e => e.1 == 25) = some (25, .iand, 0, 0) := rfl
theorem te_124_26 : (pT M_124).find? (fun e => e.1 == 26) = some (26, .ifCond .eq 28, 0, 0) := rfl
theorem te_124_29 : (pT M_124).find? (fun e => e.1 == 29) = some (29, .aload_n 1, 0, 0) := rfl
theorem te_124_30 : (pT M_124).find? (fun e => e.1 == 30) = some (30, .iload_n 3, 0, 0) := rfl
theorem te_124_31 : (pT M_124).find? (fun e => e.1 == 31) = some (31, .invokevirtual 49, 37, 1) := rfl
theorem te_124_34 : (pT M_124).find? (fun e => e.1 == 34) = some (34, .iload_n 2, 0, 0) := rfl
theorem te_124_35 : (pT M_124).find? (fun e => e.1 == 35) = some (35, .if_icmp .ne 19, 0, 0) := rfl
theorem te_124_38 : (pT M_124).find? (fun e => e.1 == 38) = some (38, .aload_n 0, 0, 0) := rfl
theorem te_124_39 : (pT M_124).find? (fun e => e.1 == 39) = some (39, .aload_n 1, 0, 0) := rfl
theorem te_124_40 : (pT M_124).find? (fun e => e.1 == 40) = some (40, .iload_n 3, 0, 0) := rfl
theorem te_124_41 : (pT M_124).find? (fun e => e.1 == 41) = some (41, .invokevirtual 105, 38, 1) := rfl
theorem te_124_44 : (pT M_124).find? (fun e => e.1 == 44) = some (44, .aload_n 0, 0, 0) := rfl
theorem te_124_45 : (pT M_124).find? (fun e => e.1 == 45) = some (45, .getfield 9, 2, 4) := rfl
theorem te_124_48 : (pT M_124).find? (fun e => e.1 == 48) = some (48, .iload_n 3, 0, 0) := rfl
theorem te_124_49 : (pT M_124).find? (fun e => e.1 == 49) = some (49, .iaload, 0, 0) := rfl
theorem te_124_50 : (pT M_124).find? (fun e => e.1 == 50) = some (50, .iconst 1, 0, 0) := rfl
theorem te_124_51 : (pT M_124).find? (fun e => e.1 == 51) = some (51, .invokevirtual 108, 125, 0) := rfl
theorem te_124_54 : (pT M_124).find? (fun e => e.1 == 54) = some (54, .iinc 3 1, 0, 0) := rfl
theorem te_124_57 : (pT M_124).find? (fun e => e.1 == 57) = some (57, .goto (-47), 0, 0) := rfl
theorem te_124_60 : (pT M_124).find? (fun e => e.1 == 60) = some (60, .return_, 0, 0) := rfl
theorem te_125_0 : (pT M_125).find? (fun e => e.1 == 0) = some (0, .iconst 0, 0, 0) := rfl
theorem te_125_1 : (pT M_125).find? (fun e => e.1 == 1) = some (1, .istore 4, 0, 0) := rfl
theorem te_125_3 : (pT M_125).find? (fun e => e.1 == 3) = some (3, .iload 4, 0, 0) := rfl
theorem te_125_5 : (pT M_125).find? (fun e => e.1 == 5) = some (5, .iconst 4, 0, 0) := rfl
theorem te_125_6 : (pT M_125).find? (fun e => e.1 == 6) = some (6, .if_icmp .ge 36, 0, 0) := rfl
theorem te_125_9 : (pT M_125).find? (fun e => e.1 == 9) = some (9, .iload_n 1, 0, 0) := rfl
theorem te_125_10 : (pT M_125).find? (fun e => e.1 == 10) = some (10, .iconst 1, 0, 0) := rfl
theorem te_125_11 : (pT M_125).find? (fun e => e.1 == 11) = some (11, .iload 4, 0, 0) := rfl
theorem te_125_13 : (pT M_125).find? (fun e => e.1 == 13) = some (13, .ishl, 0, 0) := rfl
theorem te_125_14 : (pT M_125).find? (fun e => e.1 == 14) = some (14, .iand, 0, 0) := rfl
theorem te_125_15 : (pT M_125).find? (fun e => e.1 == 15) = some (15, .ifCond .eq 21, 0, 0) := rfl
theorem te_125_18 : (pT M_125).find? (fun e => e.1 == 18) = some (18, .aload_n 0, 0, 0) := rfl
theorem te_125_19 : (pT M_125).find? (fun e => e.1 == 19) = some (19, .getfield 18, 2, 6) := rfl
theorem te_125_22 : (pT M_125).find? (fun e => e.1 == 22) = some (22, .iload_n 2, 0, 0) := rfl
theorem te_125_23 : (pT M_125).find? (fun e => e.1 == 23) = some (23, .iload 4, 0, 0) := rfl
theorem te_125_25 : (pT M_125).find? (fun e => e.1 == 25) = some (25, .iadd, 0, 0) := rfl
theorem te_125_26 : (pT M_125).find? (fun e => e.1 == 26) = some (26, .aload_n 0, 0, 0) := rfl
theorem te_125_27 : (pT M_125).find? (fun e => e.1 == 27) = some (27, .getfield 24, 2, 0) := rfl
theorem te_125_30 : (pT M_125).find? (fun e => e.1 == 30) = some (30, .irem, 0, 0) := rfl
theorem te_125_31 : (pT M_125).find? (fun e => e.1 == 31) = some (31, .dup2, 0, 0) := rfl
theorem te_125_32 : (pT M_125).find? (fun e => e.1 == 32) = some (32, .iaload, 0, 0) := rfl
theorem te_125_33 : (pT M_125).find? (fun e => e.1 == 33) = some (33, .iload_n 3, 0, 0) := rfl
theorem te_125_34 : (pT M_125).find? (fun e => e.1 == 34) = some (34, .iadd, 0, 0) := rfl
theorem te_125_35 : (pT M_125).find? (fun e => e.1 == 35) = some (35, .iastore, 0, 0) := rfl
theorem te_125_36 : (pT M_125).find? (fun e => e.1 == 36) = some (36, .iinc 4 1, 0, 0) := rfl
theorem te_125_39 : (pT M_125).find? (fun e => e.1 == 39) = some (39, .goto (-36), 0, 0) := rfl
theorem te_125_42 : (pT M_125).find? (fun e => e.1 == 42) = some (42, .return_, 0, 0) := rfl
theorem te_126_0 : (pT M_126).find? (fun e => e.1 == 0) = some (0, .aload_n 1, 0, 0) := rfl
theorem te_126_1 : (pT M_126).find? (fun e => e.1 == 1) = some (1, .iload_n 2, 0, 0) := rfl
theorem te_126_2 : (pT M_126).find? (fun e => e.1 == 2) = some (2, .invokevirtual 105, 38, 1) := rfl
theorem te_126_5 : (pT M_126).find? (fun e => e.1 == 5) = some (5, .istore 4, 0, 0) := rfl
theorem te_126_7 : (pT M_126).find? (fun e => e.1 == 7) = some (7, .aload_n 0, 0, 0) := rfl
theorem te_126_8 : (pT M_126).find? (fun e => e.1 == 8) = some (8, .iload 4, 0, 0) := rfl
theorem te_126_10 : (pT M_126).find? (fun e => e.1 == 10) = some (10, .iload_n 3, 0, 0) := rfl
theorem te_126_11 : (pT M_126).find? (fun e => e.1 == 11) = some (11, .iconst 1, 0, 0) := rfl
theorem te_126_12 : (pT M_126).find? (fun e => e.1 == 12) = some (12, .invokevirtual 108, 125, 0) := rfl
theorem te_126_15 : (pT M_126).find? (fun e => e.1 == 15) = some (15, .aload_n 0, 0, 0) := rfl
theorem te_126_16 : (pT M_126).find? (fun e => e.1 == 16) = some (16, .iload 4, 0, 0) := rfl
theorem te_126_18 : (pT M_126).find? (fun e => e.1 == 18) = some (18, .iload_n 3, 0, 0) := rfl
theorem te_126_19 : (pT M_126).find? (fun e => e.1 == 19) = some (19, .aload_n 1, 0, 0) := rfl
theorem te_126_20 : (pT M_126).find? (fun e => e.1 == 20) = some (20, .getfield 112, 0, 7) := rfl
theorem te_126_23 : (pT M_126).find? (fun e => e.1 == 23) = some (23, .aload_n 1, 0, 0) := rfl
theorem te_126_24 : (pT M_126).find? (fun e => e.1 == 24) = some (24, .iload_n 2, 0, 0) := rfl
theorem te_126_25 : (pT M_126).find? (fun e => e.1 == 25) = some (25, .invokevirtual 49, 37, 1) := rfl
theorem te_126_28 : (pT M_126).find? (fun e => e.1 == 28) = some (28, .iaload, 0, 0) := rfl
theorem te_126_29 : (pT M_126).find? (fun e => e.1 == 29) = some (29, .invokevirtual 115, 127, 0) := rfl
theorem te_126_32 : (pT M_126).find? (fun e => e.1 == 32) = some (32, .ifCond .ne 7, 0, 0) := rfl
theorem te_126_35 : (pT M_126).find? (fun e => e.1 == 35) = some (35, .iconst 1, 0, 0) := rfl
theorem te_126_36 : (pT M_126).find? (fun e => e.1 == 36) = some (36, .goto 4, 0, 0) := rfl
theorem te_126_39 : (pT M_126).find? (fun e => e.1 == 39) = some (39, .iconst 0, 0, 0) := rfl
theorem te_126_40 : (pT M_126).find? (fun e => e.1 == 40) = some (40, .istore 5, 0, 0) := rfl
theorem te_126_42 : (pT M_126).find? (fun e => e.1 == 42) = some (42, .aload_n 0, 0, 0) := rfl
theorem te_126_43 : (pT M_126).find? (fun e => e.1 == 43) = some (43, .iload 4, 0, 0) := rfl
theorem te_126_45 : (pT M_126).find? (fun e => e.1 == 45) = some (45, .iload_n 3, 0, 0) := rfl
theorem te_126_46 : (pT M_126).find? (fun e => e.1 == 46) = some (46, .iconst (-1), 0, 0) := rfl
theorem te_126_47 : (pT M_126).find? (fun e => e.1 == 47) = some (47, .invokevirtual 108, 125, 0) := rfl
theorem te_126_50 : (pT M_126).find? (fun e => e.1 == 50) = some (50, .iload 5, 0, 0) := rfl
theorem te_126_52 : (pT M_126).find? (fun e => e.1 == 52) = some (52, .ireturn, 0, 0) := rfl
theorem te_127_0 : (pT M_127).find? (fun e => e.1 == 0) = some (0, .iconst 0, 0, 0) := rfl
theorem te_127_1 : (pT M_127).find? (fun e => e.1 == 1) = some (1, .istore 4, 0, 0) := rfl
theorem te_127_3 : (pT M_127).find? (fun e => e.1 == 3) = some (3, .iload 4, 0, 0) := rfl
theorem te_127_5 : (pT M_127).find? (fun e => e.1 == 5) = some (5, .iconst 4, 0, 0) := rfl
theorem te_127_6 : (pT M_127).find? (fun e => e.1 == 6) = some (6, .if_icmp .ge 38, 0, 0) := rfl
theorem te_127_9 : (pT M_127).find? (fun e => e.1 == 9) = some (9, .iload_n 1, 0, 0) := rfl
theorem te_127_10 : (pT M_127).find? (fun e => e.1 == 10) = some (10, .iconst 1, 0, 0) := rfl
theorem te_127_11 : (pT M_127).find? (fun e => e.1 == 11) = some (11, .iload 4, 0, 0) := rfl
theorem te_127_13 : (pT M_127).find? (fun e => e.1 == 13) = some (13, .ishl, 0, 0) := rfl
theorem te_127_14 : (pT M_127).find? (fun e => e.1 == 14) = some (14, .iand, 0, 0) := rfl
theorem te_127_15 : (pT M_127).find? (fun e => e.1 == 15) = some (15, .ifCond .eq 23, 0, 0) := rfl
theorem te_127_18 : (pT M_127).find? (fun e => e.1 == 18) = some (18, .aload_n 0, 0, 0) := rfl
theorem te_127_19 : (pT M_127).find? (fun e => e.1 == 19) = some (19, .getfield 18, 2, 6) := rfl
theorem te_127_22 : (pT M_127).find? (fun e => e.1 == 22) = some (22, .iload_n 2, 0, 0) := rfl
theorem te_127_23 : (pT M_127).find? (fun e => e.1 == 23) = some (23, .iload 4, 0, 0) := rfl
theorem te_127_25 : (pT M_127).find? (fun e => e.1 == 25) = some (25, .iadd, 0, 0) := rfl
theorem te_127_26 : (pT M_127).find? (fun e => e.1 == 26) = some (26, .aload_n 0, 0, 0) := rfl
theorem te_127_27 : (pT M_127).find? (fun e => e.1 == 27) = some (27, .getfield 24, 2, 0) := rfl
theorem te_127_30 : (pT M_127).find? (fun e => e.1 == 30) = some (30, .irem, 0, 0) := rfl
theorem te_127_31 : (pT M_127).find? (fun e => e.1 == 31) = some (31, .iaload, 0, 0) := rfl
theorem te_127_32 : (pT M_127).find? (fun e => e.1 == 32) = some (32, .iload_n 3, 0, 0) := rfl
theorem te_127_33 : (pT M_127).find? (fun e => e.1 == 33) = some (33, .if_icmp .le 5, 0, 0) := rfl
theorem te_127_36 : (pT M_127).find? (fun e => e.1 == 36) = some (36, .iconst 1, 0, 0) := rfl
theorem te_127_37 : (pT M_127).find? (fun e => e.1 == 37) = some (37, .ireturn, 0, 0) := rfl
theorem te_127_38 : (pT M_127).find? (fun e => e.1 == 38) = some (38, .iinc 4 1, 0, 0) := rfl
theorem te_127_41 : (pT M_127).find? (fun e => e.1 == 41) = some (41, .goto (-38), 0, 0) := rfl
theorem te_127_44 : (pT M_127).find? (fun e => e.1 == 44) = some (44, .iconst 0, 0, 0) := rfl
theorem te_127_45 : (pT M_127).find? (fun e => e.1 == 45) = some (45, .ireturn, 0, 0) := rfl
theorem te_128_0 : (pT M_128).find? (fun e => e.1 == 0) = some (0, .iconst 0, 0, 0) := rfl
theorem te_128_1 : (pT M_128).find? (fun e => e.1 == 1) = some (1, .istore_n 2, 0, 0) := rfl
theorem te_128_2 : (pT M_128).find? (fun e => e.1 == 2) = some (2, .iconst (-1), 0, 0) := rfl
theorem te_128_3 : (pT M_128).find? (fun e => e.1 == 3) = some (3, .istore_n 3, 0, 0) := rfl
theorem te_128_4 : (pT M_128).find? (fun e => e.1 == 4) = some (4, .iconst 0, 0, 0) := rfl
theorem te_128_5 : (pT M_128).find? (fun e => e.1 == 5) = some (5, .istore 4, 0, 0) := rfl
theorem te_128_7 : (pT M_128).find? (fun e => e.1 == 7) = some (7, .iload 4, 0, 0) := rfl
theorem te_128_9 : (pT M_128).find? (fun e => e.1 == 9) = some (9, .iload_n 1, 0, 0) := rfl
theorem te_128_10 : (pT M_128).find? (fun e => e.1 == 10) = some (10, .if_icmp .ge 43, 0, 0) := rfl
theorem te_128_13 : (pT M_128).find? (fun e => e.1 == 13) = some (13, .aload_n 0, 0, 0) := rfl
theorem te_128_14 : (pT M_128).find? (fun e => e.1 == 14) = some (14, .getfield 35, 2, 3) := rfl
theorem te_128_17 : (pT M_128).find? (fun e => e.1 == 17) = some (17, .iconst 1, 0, 0) := rfl
theorem te_128_18 : (pT M_128).find? (fun e => e.1 == 18) = some (18, .iload 4, 0, 0) := rfl
theorem te_128_20 : (pT M_128).find? (fun e => e.1 == 20) = some (20, .ishl, 0, 0) := rfl
theorem te_128_21 : (pT M_128).find? (fun e => e.1 == 21) = some (21, .iand, 0, 0) := rfl
theorem te_128_22 : (pT M_128).find? (fun e => e.1 == 22) = some (22, .ifCond .ne 25, 0, 0) := rfl
theorem te_128_25 : (pT M_128).find? (fun e => e.1 == 25) = some (25, .aload_n 0, 0, 0) := rfl
theorem te_128_26 : (pT M_128).find? (fun e => e.1 == 26) = some (26, .getfield 21, 2, 7) := rfl
theorem te_128_29 : (pT M_128).find? (fun e => e.1 == 29) = some (29, .iload 4, 0, 0) := rfl
theorem te_128_31 : (pT M_128).find? (fun e => e.1 == 31) = some (31, .iaload, 0, 0) := rfl
theorem te_128_32 : (pT M_128).find? (fun e => e.1 == 32) = some (32, .iload_n 3, 0, 0) := rfl
theorem te_128_33 : (pT M_128).find? (fun e => e.1 == 33) = some (33, .if_icmp .le 14, 0, 0) := rfl
theorem te_128_36 : (pT M_128).find? (fun e => e.1 == 36) = some (36, .aload_n 0, 0, 0) := rfl
theorem te_128_37 : (pT M_128).find? (fun e => e.1 == 37) = some (37, .getfield 21, 2, 7) := rfl
theorem te_128_40 : (pT M_128).find? (fun e => e.1 == 40) = some (40, .iload 4, 0, 0) := rfl
theorem te_128_42 : (pT M_128).find? (fun e => e.1 == 42) = some (42, .iaload, 0, 0) := rfl
theorem te_128_43 : (pT M_128).find? (fun e => e.1 == 43) = some (43, .istore_n 3, 0, 0) := rfl
theorem te_128_44 : (pT M_128).find? (fun e => e.1 == 44) = some (44, .iload 4, 0, 0) := rfl
theorem te_128_46 : (pT M_128).find? (fun e => e.1 == 46) = some (46, .istore_n 2, 0, 0) := rfl
theorem te_128_47 : (pT M_128).find? (fun e => e.1 == 47) = some (47, .iinc 4 1, 0, 0) := rfl
theorem te_128_50 : (pT M_128).find? (fun e => e.1 == 50) = some (50, .goto (-43), 0, 0) := rfl
theorem te_128_53 : (pT M_128).find? (fun e => e.1 == 53) = some (53, .iload_n 2, 0, 0) := rfl
theorem te_128_54 : (pT M_128).find? (fun e => e.1 == 54) = some (54, .ireturn, 0, 0) := rfl
theorem te_129_0 : (pT M_129).find? (fun e => e.1 == 0) = some (0, .aload_n 0, 0, 0) := rfl
theorem te_129_1 : (pT M_129).find? (fun e => e.1 == 1) = some (1, .aload_n 2, 0, 0) := rfl
theorem te_129_2 : (pT M_129).find? (fun e => e.1 == 2) = some (2, .iload_n 3, 0, 0) := rfl
theorem te_129_3 : (pT M_129).find? (fun e => e.1 == 3) = some (3, .invokevirtual 67, 130, 0) := rfl
theorem te_129_6 : (pT M_129).find? (fun e => e.1 == 6) = some (6, .istore 4, 0, 0) := rfl
theorem te_129_8 : (pT M_129).find? (fun e => e.1 == 8) = some (8, .aload_n 0, 0, 0) := rfl
theorem te_129_9 : (pT M_129).find? (fun e => e.1 == 9) = some (9, .aload_n 1, 0, 0) := rfl
theorem te_129_10 : (pT M_129).find? (fun e => e.1 == 10) = some (10, .aload_n 1, 0, 0) := rfl
theorem te_129_11 : (pT M_129).find? (fun e => e.1 == 11) = some (11, .iload_n 3, 0, 0) := rfl
theorem te_129_12 : (pT M_129).find? (fun e => e.1 == 12) = some (12, .invokevirtual 49, 37, 1) := rfl
theorem te_129_15 : (pT M_129).find? (fun e => e.1 == 15) = some (15, .invokevirtual 52, 124, 0) := rfl
theorem te_129_18 : (pT M_129).find? (fun e => e.1 == 18) = some (18, .iload 4, 0, 0) := rfl
theorem te_129_20 : (pT M_129).find? (fun e => e.1 == 20) = some (20, .istore 5, 0, 0) := rfl
theorem te_129_22 : (pT M_129).find? (fun e => e.1 == 22) = some (22, .iload 5, 0, 0) := rfl
theorem te_129_24 : (pT M_129).find? (fun e => e.1 == 24) = some (24, .iload 4, 0, 0) := rfl
theorem te_129_26 : (pT M_129).find? (fun e => e.1 == 26) = some (26, .aload_n 0, 0, 0) := rfl
theorem te_129_27 : (pT M_129).find? (fun e => e.1 == 27) = some (27, .getfield 24, 2, 0) := rfl
theorem te_129_30 : (pT M_129).find? (fun e => e.1 == 30) = some (30, .iadd, 0, 0) := rfl
theorem te_129_31 : (pT M_129).find? (fun e => e.1 == 31) = some (31, .if_icmp .ge 20, 0, 0) := rfl
theorem te_129_34 : (pT M_129).find? (fun e => e.1 == 34) = some (34, .aload_n 0, 0, 0) := rfl
theorem te_129_35 : (pT M_129).find? (fun e => e.1 == 35) = some (35, .aload_n 1, 0, 0) := rfl
theorem te_129_36 : (pT M_129).find? (fun e => e.1 == 36) = some (36, .iload_n 3, 0, 0) := rfl
theorem te_129_37 : (pT M_129).find? (fun e => e.1 == 37) = some (37, .iload 5, 0, 0) := rfl
theorem te_129_39 : (pT M_129).find? (fun e => e.1 == 39) = some (39, .invokevirtual 56, 126, 0) := rfl
theorem te_129_42 : (pT M_129).find? (fun e => e.1 == 42) = some (42, .ifCond .ne 9, 0, 0) := rfl
theorem te_129_45 : (pT M_129).find? (fun e => e.1 == 45) = some (45, .iinc 5 1, 0, 0) := rfl
theorem te_129_48 : (pT M_129).find? (fun e => e.1 == 48) = some (48, .goto (-26), 0, 0) := rfl
theorem te_129_51 : (pT M_129).find? (fun e => e.1 == 51) = some (51, .iload 5, 0, 0) := rfl
theorem te_129_53 : (pT M_129).find? (fun e => e.1 == 53) = some (53, .iload 4, 0, 0) := rfl
theorem te_129_55 : (pT M_129).find? (fun e => e.1 == 55) = some (55, .aload_n 0, 0, 0) := rfl
theorem te_129_56 : (pT M_129).find? (fun e => e.1 == 56) = some (56, .getfield 24, 2, 0) := rfl
theorem te_129_59 : (pT M_129).find? (fun e => e.1 == 59) = some (59, .iadd, 0, 0) := rfl
theorem te_129_60 : (pT M_129).find? (fun e => e.1 == 60) = some (60, .if_icmp .lt 7, 0, 0) := rfl
theorem te_129_63 : (pT M_129).find? (fun e => e.1 == 63) = some (63, .iconst 1, 0, 0) := rfl
theorem te_129_64 : (pT M_129).find? (fun e => e.1 == 64) = some (64, .goto 4, 0, 0) := rfl
theorem te_129_67 : (pT M_129).find? (fun e => e.1 == 67) = some (67, .iconst 0, 0, 0) := rfl
theorem te_129_68 : (pT M_129).find? (fun e => e.1 == 68) = some (68, .istore 6, 0, 0) := rfl
theorem te_129_70 : (pT M_129).find? (fun e => e.1 == 70) = some (70, .iload 6, 0, 0) := rfl
theorem te_129_72 : (pT M_129).find? (fun e => e.1 == 72) = some (72, .ifCond .eq 18, 0, 0) := rfl
theorem te_129_75 : (pT M_129).find? (fun e => e.1 == 75) = some (75, .iload 4, 0, 0) := rfl
theorem te_129_77 : (pT M_129).find? (fun e => e.1 == 77) = some (77, .aload_n 0, 0, 0) := rfl
theorem te_129_78 : (pT M_129).find? (fun e => e.1 == 78) = some (78, .getfield 15, 2, 5) := rfl
theorem te_129_81 : (pT M_129).find? (fun e => e.1 == 81) = some (81, .iload_n 3, 0, 0) := rfl
theorem te_129_82 : (pT M_129).find? (fun e => e.1 == 82) = some (82, .iaload, 0, 0) := rfl
theorem te_129_83 : (pT M_129).find? (fun e => e.1 == 83) = some (83, .iconst 1, 0, 0) := rfl
theorem te_129_84 : (pT M_129).find? (fun e => e.1 == 84) = some (84, .iadd, 0, 0) := rfl
theorem te_129_85 : (pT M_129).find? (fun e => e.1 == 85) = some (85, .invokestatic 71, 40, 2) := rfl
theorem te_129_88 : (pT M_129).find? (fun e => e.1 == 88) = some (88, .istore 5, 0, 0) := rfl
theorem te_129_90 : (pT M_129).find? (fun e => e.1 == 90) = some (90, .aload_n 0, 0, 0) := rfl
theorem te_129_91 : (pT M_129).find? (fun e => e.1 == 91) = some (91, .getfield 9, 2, 4) := rfl
theorem te_129_94 : (pT M_129).find? (fun e => e.1 == 94) = some (94, .iload_n 3, 0, 0) := rfl
theorem te_129_95 : (pT M_129).find? (fun e => e.1 == 95) = some (95, .iload 5, 0, 0) := rfl
theorem te_129_97 : (pT M_129).find? (fun e => e.1 == 97) = some (97, .iastore, 0, 0) := rfl
theorem te_129_98 : (pT M_129).find? (fun e => e.1 == 98) = some (98, .aload_n 0, 0, 0) := rfl
theorem te_129_99 : (pT M_129).find? (fun e => e.1 == 99) = some (99, .getfield 15, 2, 5) := rfl
theorem te_129_102 : (pT M_129).find? (fun e => e.1 == 102) = some (102, .iload_n 3, 0, 0) := rfl
theorem te_129_103 : (pT M_129).find? (fun e => e.1 == 103) = some (103, .iload 5, 0, 0) := rfl
theorem te_129_105 : (pT M_129).find? (fun e => e.1 == 105) = some (105, .iastore, 0, 0) := rfl
theorem te_129_106 : (pT M_129).find? (fun e => e.1 == 106) = some (106, .aload_n 0, 0, 0) := rfl
theorem te_129_107 : (pT M_129).find? (fun e => e.1 == 107) = some (107, .dup, 0, 0) := rfl
theorem te_129_108 : (pT M_129).find? (fun e => e.1 == 108) = some (108, .getfield 35, 2, 3) := rfl
theorem te_129_111 : (pT M_129).find? (fun e => e.1 == 111) = some (111, .iconst 1, 0, 0) := rfl
theorem te_129_112 : (pT M_129).find? (fun e => e.1 == 112) = some (112, .iload_n 3, 0, 0) := rfl
theorem te_129_113 : (pT M_129).find? (fun e => e.1 == 113) = some (113, .ishl, 0, 0) := rfl
theorem te_129_114 : (pT M_129).find? (fun e => e.1 == 114) = some (114, .ior, 0, 0) := rfl
theorem te_129_115 : (pT M_129).find? (fun e => e.1 == 115) = some (115, .putfield 35, 2, 3) := rfl
theorem te_129_118 : (pT M_129).find? (fun e => e.1 == 118) = some (118, .iload 6, 0, 0) := rfl
theorem te_129_120 : (pT M_129).find? (fun e => e.1 == 120) = some (120, .ifCond .eq 9, 0, 0) := rfl
theorem te_129_123 : (pT M_129).find? (fun e => e.1 == 123) = some (123, .aload_n 0, 0, 0) := rfl
theorem te_129_124 : (pT M_129).find? (fun e => e.1 == 124) = some (124, .aload_n 1, 0, 0) := rfl
theorem te_129_125 : (pT M_129).find? (fun e => e.1 == 125) = some (125, .iload_n 3, 0, 0) := rfl
theorem te_129_126 : (pT M_129).find? (fun e => e.1 == 126) = some (126, .invokevirtual 77, 131, 0) := rfl
theorem te_129_129 : (pT M_129).find? (fun e => e.1 == 129) = some (129, .aload_n 0, 0, 0) := rfl
theorem te_129_130 : (pT M_129).find? (fun e => e.1 == 130) = some (130, .aload_n 2, 0, 0) := rfl
theorem te_129_131 : (pT M_129).find? (fun e => e.1 == 131) = some (131, .iload_n 3, 0, 0) := rfl
theorem te_129_132 : (pT M_129).find? (fun e => e.1 == 132) = some (132, .invokevirtual 80, 134, 0) := rfl
theorem te_129_135 : (pT M_129).find? (fun e => e.1 == 135) = some (135, .return_, 0, 0) := rfl
theorem te_130_0 : (pT M_130).find? (fun e => e.1 == 0) = some (0, .iconst 0, 0, 0) := rfl
theorem te_130_1 : (pT M_130).find? (fun e => e.1 == 1) = some (1, .istore_n 3, 0, 0) := rfl
theorem te_130_2 : (pT M_130).find? (fun e => e.1 == 2) = some (2, .iconst 0, 0, 0) := rfl
theorem te_130_3 : (pT M_130).find? (fun e => e.1 == 3) = some (3, .istore 4, 0, 0) := rfl
theorem te_130_5 : (pT M_130).find? (fun e => e.1 == 5) = some (5, .iload 4, 0, 0) := rfl
theorem te_130_7 : (pT M_130).find? (fun e => e.1 == 7) = some (7, .aload_n 1, 0, 0) := rfl
theorem te_130_8 : (pT M_130).find? (fun e => e.1 == 8) = some (8, .getfield 84, 7, 0) := rfl
theorem te_130_11 : (pT M_130).find? (fun e => e.1 == 11) = some (11, .if_icmp .ge 80, 0, 0) := rfl
theorem te_130_14 : (pT M_130).find? (fun e => e.1 == 14) = some (14, .aload_n 1, 0, 0) := rfl
theorem te_130_15 : (pT M_130).find? (fun e => e.1 == 15) = some (15, .getfield 87, 7, 1) := rfl
theorem te_130_18 : (pT M_130).find? (fun e => e.1 == 18) = some (18, .iload 4, 0, 0) := rfl
theorem te_130_20 : (pT M_130).find? (fun e => e.1 == 20) = some (20, .iaload, 0, 0) := rfl
theorem te_130_21 : (pT M_130).find? (fun e => e.1 == 21) = some (21, .istore 5, 0, 0) := rfl
theorem te_130_23 : (pT M_130).find? (fun e => e.1 == 23) = some (23, .aload_n 1, 0, 0) := rfl
theorem te_130_24 : (pT M_130).find? (fun e => e.1 == 24) = some (24, .getfield 90, 7, 2) := rfl
theorem te_130_27 : (pT M_130).find? (fun e => e.1 == 27) = some (27, .iload 4, 0, 0) := rfl
theorem te_130_29 : (pT M_130).find? (fun e => e.1 == 29) = some (29, .iaload, 0, 0) := rfl
theorem te_130_30 : (pT M_130).find? (fun e => e.1 == 30) = some (30, .iload_n 2, 0, 0) := rfl
theorem te_130_31 : (pT M_130).find? (fun e => e.1 == 31) = some (31, .if_icmp .ne 54, 0, 0) := rfl
theorem te_130_34 : (pT M_130).find? (fun e => e.1 == 34) = some (34, .iload 5, 0, 0) := rfl
theorem te_130_36 : (pT M_130).find? (fun e => e.1 == 36) = some (36, .iload_n 2, 0, 0) := rfl
theorem te_130_37 : (pT M_130).find? (fun e => e.1 == 37) = some (37, .if_icmp .eq 48, 0, 0) := rfl
theorem te_130_40 : (pT M_130).find? (fun e => e.1 == 40) = some (40, .aload_n 0, 0, 0) := rfl
theorem te_130_41 : (pT M_130).find? (fun e => e.1 == 41) = some (41, .getfield 35, 2, 3) := rfl
theorem te_130_44 : (pT M_130).find? (fun e => e.1 == 44) = some (44, .iconst 1, 0, 0) := rfl
theorem te_130_45 : (pT M_130).find? (fun e => e.1 == 45) = some (45, .iload 5, 0, 0) := rfl
theorem te_130_47 : (pT M_130).find? (fun e => e.1 == 47) = some (47, .ishl, 0, 0) := rfl
theorem te_130_48 : (pT M_130).find? (fun e => e.1 == 48) = some (48, .iand, 0, 0) := rfl
theorem te_130_49 : (pT M_130).find? (fun e => e.1 == 49) = some (49, .ifCond .eq 36, 0, 0) := rfl
theorem te_130_52 : (pT M_130).find? (fun e => e.1 == 52) = some (52, .iload_n 3, 0, 0) := rfl
theorem te_130_53 : (pT M_130).find? (fun e => e.1 == 53) = some (53, .aload_n 0, 0, 0) := rfl
theorem te_130_54 : (pT M_130).find? (fun e => e.1 == 54) = some (54, .getfield 9, 2, 4) := rfl
theorem te_130_57 : (pT M_130).find? (fun e => e.1 == 57) = some (57, .iload 5, 0, 0) := rfl
theorem te_130_59 : (pT M_130).find? (fun e => e.1 == 59) = some (59, .iaload, 0, 0) := rfl
theorem te_130_60 : (pT M_130).find? (fun e => e.1 == 60) = some (60, .aload_n 1, 0, 0) := rfl
theorem te_130_61 : (pT M_130).find? (fun e => e.1 == 61) = some (61, .getfield 93, 7, 4) := rfl
theorem te_130_64 : (pT M_130).find? (fun e => e.1 == 64) = some (64, .iload 4, 0, 0) := rfl
theorem te_130_66 : (pT M_130).find? (fun e => e.1 == 66) = some (66, .iaload, 0, 0) := rfl
theorem te_130_67 : (pT M_130).find? (fun e => e.1 == 67) = some (67, .iadd, 0, 0) := rfl
theorem te_130_68 : (pT M_130).find? (fun e => e.1 == 68) = some (68, .aload_n 0, 0, 0) := rfl
theorem te_130_69 : (pT M_130).find? (fun e => e.1 == 69) = some (69, .getfield 24, 2, 0) := rfl
theorem te_130_72 : (pT M_130).find? (fun e => e.1 == 72) = some (72, .aload_n 1, 0, 0) := rfl
theorem te_130_73 : (pT M_130).find? (fun e => e.1 == 73) = some (73, .getfield 96, 7, 3) := rfl
theorem te_130_76 : (pT M_130).find? (fun e => e.1 == 76) = some (76, .iload 4, 0, 0) := rfl
theorem te_130_78 : (pT M_130).find? (fun e => e.1 == 78) = some (78, .iaload, 0, 0) := rfl
theorem te_130_79 : (pT M_130).find? (fun e => e.1 == 79) = some (79, .imul, 0, 0) := rfl
theorem te_130_80 : (pT M_130).find? (fun e => e.1 == 80) = some (80, .isub, 0, 0) := rfl
theorem te_130_81 : (pT M_130).find? (fun e => e.1 == 81) = some (81, .invokestatic 71, 40, 2) := rfl
theorem te_130_84 : (pT M_130).find? (fun e => e.1 == 84) = some (84, .istore_n 3, 0, 0) := rfl
theorem te_130_85 : (pT M_130).find? (fun e => e.1 == 85) = some (85, .iinc 4 1, 0, 0) := rfl
theorem te_130_88 : (pT M_130).find? (fun e => e.1 == 88) = some (88, .goto (-83), 0, 0) := rfl
theorem te_130_91 : (pT M_130).find? (fun e => e.1 == 91) = some (91, .iload_n 3, 0, 0) := rfl
theorem te_130_92 : (pT M_130).find? (fun e => e.1 == 92) = some (92, .ireturn, 0, 0) := rfl
theorem te_131_0 : (pT M_131).find? (fun e => e.1 == 0) = some (0, .aload_n 1, 0, 0) := rfl
theorem te_131_1 : (pT M_131).find? (fun e => e.1 == 1) = some (1, .iload_n 2, 0, 0) := rfl
theorem te_131_2 : (pT M_131).find? (fun e => e.1 == 2) = some (2, .invokevirtual 49, 37, 1) := rfl
theorem te_131_5 : (pT M_131).find? (fun e => e.1 == 5) = some (5, .istore_n 3, 0, 0) := rfl
theorem te_131_6 : (pT M_131).find? (fun e => e.1 == 6) = some (6, .aload_n 0, 0, 0) := rfl
theorem te_131_7 : (pT M_131).find? (fun e => e.1 == 7) = some (7, .aload_n 1, 0, 0) := rfl
theorem te_131_8 : (pT M_131).find? (fun e => e.1 == 8) = some (8, .iload_n 3, 0, 0) := rfl
theorem te_131_9 : (pT M_131).find? (fun e => e.1 == 9) = some (9, .invokevirtual 52, 124, 0) := rfl
theorem te_131_12 : (pT M_131).find? (fun e => e.1 == 12) = some (12, .iconst 0, 0, 0) := rfl
theorem te_131_13 : (pT M_131).find? (fun e => e.1 == 13) = some (13, .istore 4, 0, 0) := rfl
theorem te_131_15 : (pT M_131).find? (fun e => e.1 == 15) = some (15, .iload 4, 0, 0) := rfl
theorem te_131_17 : (pT M_131).find? (fun e => e.1 == 17) = some (17, .aload_n 1, 0, 0) := rfl
theorem te_131_18 : (pT M_131).find? (fun e => e.1 == 18) = some (18, .getfield 38, 0, 0) := rfl
theorem te_131_21 : (pT M_131).find? (fun e => e.1 == 21) = some (21, .if_icmp .ge 93, 0, 0) := rfl
theorem te_131_24 : (pT M_131).find? (fun e => e.1 == 24) = some (24, .iload 4, 0, 0) := rfl
theorem te_131_26 : (pT M_131).find? (fun e => e.1 == 26) = some (26, .iload_n 2, 0, 0) := rfl
theorem te_131_27 : (pT M_131).find? (fun e => e.1 == 27) = some (27, .if_icmp .eq 17, 0, 0) := rfl
theorem te_131_30 : (pT M_131).find? (fun e => e.1 == 30) = some (30, .aload_n 1, 0, 0) := rfl
theorem te_131_31 : (pT M_131).find? (fun e => e.1 == 31) = some (31, .iload 4, 0, 0) := rfl
theorem te_131_33 : (pT M_131).find? (fun e => e.1 == 33) = some (33, .invokevirtual 49, 37, 1) := rfl
theorem te_131_36 : (pT M_131).find? (fun e => e.1 == 36) = some (36, .iload_n 3, 0, 0) := rfl
theorem te_131_37 : (pT M_131).find? (fun e => e.1 == 37) = some (37, .if_icmp .ne 7, 0, 0) := rfl
theorem te_131_40 : (pT M_131).find? (fun e => e.1 == 40) = some (40, .iconst 1, 0, 0) := rfl
theorem te_131_41 : (pT M_131).find? (fun e => e.1 == 41) = some (41, .goto 4, 0, 0) := rfl
theorem te_131_44 : (pT M_131).find? (fun e => e.1 == 44) = some (44, .iconst 0, 0, 0) := rfl
theorem te_131_45 : (pT M_131).find? (fun e => e.1 == 45) = some (45, .istore 5, 0, 0) := rfl
theorem te_131_47 : (pT M_131).find? (fun e => e.1 == 47) = some (47, .iload 5, 0, 0) := rfl
theorem te_131_49 : (pT M_131).find? (fun e => e.1 == 49) = some (49, .ifCond .eq 59, 0, 0) := rfl
theorem te_131_52 : (pT M_131).find? (fun e => e.1 == 52) = some (52, .aload_n 0, 0, 0) := rfl
theorem te_131_53 : (pT M_131).find? (fun e => e.1 == 53) = some (53, .getfield 35, 2, 3) := rfl
theorem te_131_56 : (pT M_131).find? (fun e => e.1 == 56) = some (56, .iconst 1, 0, 0) := rfl
theorem te_131_57 : (pT M_131).find? (fun e => e.1 == 57) = some (57, .iload 4, 0, 0) := rfl
theorem te_131_59 : (pT M_131).find? (fun e => e.1 == 59) = some (59, .ishl, 0, 0) := rfl
theorem te_131_60 : (pT M_131).find? (fun e => e.1 == 60) = some (60, .iand, 0, 0) := rfl
theorem te_131_61 : (pT M_131).find? (fun e => e.1 == 61) = some (61, .ifCond .eq 47, 0, 0) := rfl
theorem te_131_64 : (pT M_131).find? (fun e => e.1 == 64) = some (64, .aload_n 0, 0, 0) := rfl
theorem te_131_65 : (pT M_131).find? (fun e => e.1 == 65) = some (65, .aload_n 1, 0, 0) := rfl
theorem te_131_66 : (pT M_131).find? (fun e => e.1 == 66) = some (66, .iload_n 2, 0, 0) := rfl
theorem te_131_67 : (pT M_131).find? (fun e => e.1 == 67) = some (67, .iload 4, 0, 0) := rfl
theorem te_131_69 : (pT M_131).find? (fun e => e.1 == 69) = some (69, .invokevirtual 119, 132, 0) := rfl
theorem te_131_72 : (pT M_131).find? (fun e => e.1 == 72) = some (72, .ifCond .eq 36, 0, 0) := rfl
theorem te_131_75 : (pT M_131).find? (fun e => e.1 == 75) = some (75, .aload_n 0, 0, 0) := rfl
theorem te_131_76 : (pT M_131).find? (fun e => e.1 == 76) = some (76, .dup, 0, 0) := rfl
theorem te_131_77 : (pT M_131).find? (fun e => e.1 == 77) = some (77, .getfield 35, 2, 3) := rfl
theorem te_131_80 : (pT M_131).find? (fun e => e.1 == 80) = some (80, .iconst 1, 0, 0) := rfl
theorem te_131_81 : (pT M_131).find? (fun e => e.1 == 81) = some (81, .iload 4, 0, 0) := rfl
theorem te_131_83 : (pT M_131).find? (fun e => e.1 == 83) = some (83, .ishl, 0, 0) := rfl
theorem te_131_84 : (pT M_131).find? (fun e => e.1 == 84) = some (84, .iconst (-1), 0, 0) := rfl
theorem te_131_85 : (pT M_131).find? (fun e => e.1 == 85) = some (85, .ixor, 0, 0) := rfl
theorem te_131_86 : (pT M_131).find? (fun e => e.1 == 86) = some (86, .iand, 0, 0) := rfl
theorem te_131_87 : (pT M_131).find? (fun e => e.1 == 87) = some (87, .putfield 35, 2, 3) := rfl
theorem te_131_90 : (pT M_131).find? (fun e => e.1 == 90) = some (90, .aload_n 0, 0, 0) := rfl
theorem te_131_91 : (pT M_131).find? (fun e => e.1 == 91) = some (91, .aload_n 1, 0, 0) := rfl
theorem te_131_92 : (pT M_131).find? (fun e => e.1 == 92) = some (92, .iload 4, 0, 0) := rfl
theorem te_131_94 : (pT M_131).find? (fun e => e.1 == 94) = some (94, .invokevirtual 105, 38, 1) := rfl
theorem te_131_97 : (pT M_131).find? (fun e => e.1 == 97) = some (97, .aload_n 0, 0, 0) := rfl
theorem te_131_98 : (pT M_131).find? (fun e => e.1 == 98) = some (98, .getfield 9, 2, 4) := rfl
theorem te_131_101 : (pT M_131).find? (fun e => e.1 == 101) = some (101, .iload 4, 0, 0) := rfl
theorem te_131_103 : (pT M_131).find? (fun e => e.1 == 103) = some (103, .iaload, 0, 0) := rfl
theorem te_131_104 : (pT M_131).find? (fun e => e.1 == 104) = some (104, .iconst (-1), 0, 0) := rfl
theorem te_131_105 : (pT M_131).find? (fun e => e.1 == 105) = some (105, .invokevirtual 108, 125, 0) := rfl
theorem te_131_108 : (pT M_131).find? (fun e => e.1 == 108) = some (108, .iinc 4 1, 0, 0) := rfl
theorem te_131_111 : (pT M_131).find? (fun e => e.1 == 111) = some (111, .goto (-96), 0, 0) := rfl
theorem te_131_114 : (pT M_131).find? (fun e => e.1 == 114) = some (114, .return_, 0, 0) := rfl
theorem te_132_0 : (pT M_132).find? (fun e => e.1 == 0) = some (0, .aload_n 1, 0, 0) := rfl
theorem te_132_1 : (pT M_132).find? (fun e => e.1 == 1) = some (1, .getfield 112, 0, 7) := rfl
theorem te_132_4 : (pT M_132).find? (fun e => e.1 == 4) = some (4, .aload_n 1, 0, 0) := rfl
theorem te_132_5 : (pT M_132).find? (fun e => e.1 == 5) = some (5, .iload_n 2, 0, 0) := rfl
theorem te_132_6 : (pT M_132).find? (fun e => e.1 == 6) = some (6, .invokevirtual 49, 37, 1) := rfl
theorem te_132_9 : (pT M_132).find? (fun e => e.1 == 9) = some (9, .iaload, 0, 0) := rfl
theorem te_132_10 : (pT M_132).find? (fun e => e.1 == 10) = some (10, .istore 4, 0, 0) := rfl
theorem te_132_12 : (pT M_132).find? (fun e => e.1 == 12) = some (12, .aload_n 0, 0, 0) := rfl
theorem te_132_13 : (pT M_132).find? (fun e => e.1 == 13) = some (13, .aload_n 1, 0, 0) := rfl
theorem te_132_14 : (pT M_132).find? (fun e => e.1 == 14) = some (14, .iload_n 2, 0, 0) := rfl
theorem te_132_15 : (pT M_132).find? (fun e => e.1 == 15) = some (15, .invokevirtual 122, 133, 0) := rfl
theorem te_132_18 : (pT M_132).find? (fun e => e.1 == 18) = some (18, .aload_n 0, 0, 0) := rfl
theorem te_132_19 : (pT M_132).find? (fun e => e.1 == 19) = some (19, .aload_n 1, 0, 0) := rfl
theorem te_132_20 : (pT M_132).find? (fun e => e.1 == 20) = some (20, .iload_n 3, 0, 0) := rfl
theorem te_132_21 : (pT M_132).find? (fun e => e.1 == 21) = some (21, .invokevirtual 122, 133, 0) := rfl
theorem te_132_24 : (pT M_132).find? (fun e => e.1 == 24) = some (24, .iand, 0, 0) := rfl
theorem te_132_25 : (pT M_132).find? (fun e => e.1 == 25) = some (25, .istore 5, 0, 0) := rfl
theorem te_132_27 : (pT M_132).find? (fun e => e.1 == 27) = some (27, .iconst 0, 0, 0) := rfl
theorem te_132_28 : (pT M_132).find? (fun e => e.1 == 28) = some (28, .istore 6, 0, 0) := rfl
theorem te_132_30 : (pT M_132).find? (fun e => e.1 == 30) = some (30, .iload 6, 0, 0) := rfl
theorem te_132_32 : (pT M_132).find? (fun e => e.1 == 32) = some (32, .aload_n 0, 0, 0) := rfl
theorem te_132_33 : (pT M_132).find? (fun e => e.1 == 33) = some (33, .getfield 24, 2, 0) := rfl
theorem te_132_36 : (pT M_132).find? (fun e => e.1 == 36) = some (36, .if_icmp .ge 33, 0, 0) := rfl
theorem te_132_39 : (pT M_132).find? (fun e => e.1 == 39) = some (39, .iload 5, 0, 0) := rfl
theorem te_132_41 : (pT M_132).find? (fun e => e.1 == 41) = some (41, .iconst 1, 0, 0) := rfl
theorem te_132_42 : (pT M_132).find? (fun e => e.1 == 42) = some (42, .iload 6, 0, 0) := rfl
theorem te_132_44 : (pT M_132).find? (fun e => e.1 == 44) = some (44, .ishl, 0, 0) := rfl
theorem te_132_45 : (pT M_132).find? (fun e => e.1 == 45) = some (45, .iand, 0, 0) := rfl
theorem te_132_46 : (pT M_132).find? (fun e => e.1 == 46) = some (46, .ifCond .eq 17, 0, 0) := rfl
theorem te_132_49 : (pT M_132).find? (fun e => e.1 == 49) = some (49, .aload_n 0, 0, 0) := rfl
theorem te_132_50 : (pT M_132).find? (fun e => e.1 == 50) = some (50, .getfield 18, 2, 6) := rfl
theorem te_132_53 : (pT M_132).find? (fun e => e.1 == 53) = some (53, .iload 6, 0, 0) := rfl
theorem te_132_55 : (pT M_132).find? (fun e => e.1 == 55) = some (55, .iaload, 0, 0) := rfl
theorem te_132_56 : (pT M_132).find? (fun e => e.1 == 56) = some (56, .iload 4, 0, 0) := rfl
theorem te_132_58 : (pT M_132).find? (fun e => e.1 == 58) = some (58, .if_icmp .le 5, 0, 0) := rfl
theorem te_132_61 : (pT M_132).find? (fun e => e.1 == 61) = some (61, .iconst 1, 0, 0) := rfl
theorem te_132_62 : (pT M_132).find? (fun e => e.1 == 62) = some (62, .ireturn, 0, 0) := rfl
theorem te_132_63 : (pT M_132).find? (fun e => e.1 == 63) = some (63, .iinc 6 1, 0, 0) := rfl
theorem te_132_66 : (pT M_132).find? (fun e => e.1 == 66) = some (66, .goto (-36), 0, 0) := rfl
theorem te_132_69 : (pT M_132).find? (fun e => e.1 == 69) = some (69, .iconst 0, 0, 0) := rfl
theorem te_132_70 : (pT M_132).find? (fun e => e.1 == 70) = some (70, .ireturn, 0, 0) := rfl
theorem te_133_0 : (pT M_133).find? (fun e => e.1 == 0) = some (0, .iconst 0, 0, 0) := rfl
theorem te_133_1 : (pT M_133).find? (fun e => e.1 == 1) = some (1, .istore_n 3, 0, 0) := rfl
theorem te_133_2 : (pT M_133).find? (fun e => e.1 == 2) = some (2, .iconst 0, 0, 0) := rfl
theorem te_133_3 : (pT M_133).find? (fun e => e.1 == 3) = some (3, .istore 4, 0, 0) := rfl
theorem te_133_5 : (pT M_133).find? (fun e => e.1 == 5) = some (5, .iload 4, 0, 0) := rfl
theorem te_133_7 : (pT M_133).find? (fun e => e.1 == 7) = some (7, .iconst 4, 0, 0) := rfl
theorem te_133_8 : (pT M_133).find? (fun e => e.1 == 8) = some (8, .if_icmp .ge 41, 0, 0) := rfl
theorem te_133_11 : (pT M_133).find? (fun e => e.1 == 11) = some (11, .aload_n 1, 0, 0) := rfl
theorem te_133_12 : (pT M_133).find? (fun e => e.1 == 12) = some (12, .iload_n 2, 0, 0) := rfl
theorem te_133_13 : (pT M_133).find? (fun e => e.1 == 13) = some (13, .invokevirtual 105, 38, 1) := rfl
theorem te_133_16 : (pT M_133).find? (fun e => e.1 == 16) = some (16, .iconst 1, 0, 0) := rfl
theorem te_133_17 : (pT M_133).find? (fun e => e.1 == 17) = some (17, .iload 4, 0, 0) := rfl
theorem te_133_19 : (pT M_133).find? (fun e => e.1 == 19) = some (19, .ishl, 0, 0) := rfl
theorem te_133_20 : (pT M_133).find? (fun e => e.1 == 20) = some (20, .iand, 0, 0) := rfl
theorem te_133_21 : (pT M_133).find? (fun e => e.1 == 21) = some (21, .ifCond .eq 22, 0, 0) := rfl
theorem te_133_24 : (pT M_133).find? (fun e => e.1 == 24) = some (24, .iload_n 3, 0, 0) := rfl
theorem te_133_25 : (pT M_133).find? (fun e => e.1 == 25) = some (25, .iconst 1, 0, 0) := rfl
theorem te_133_26 : (pT M_133).find? (fun e => e.1 == 26) = some (26, .aload_n 0, 0, 0) := rfl
theorem te_133_27 : (pT M_133).find? (fun e => e.1 == 27) = some (27, .getfield 9, 2, 4) := rfl
theorem te_133_30 : (pT M_133).find? (fun e => e.1 == 30) = some (30, .iload_n 2, 0, 0) := rfl
theorem te_133_31 : (pT M_133).find? (fun e => e.1 == 31) = some (31, .iaload, 0, 0) := rfl
theorem te_133_32 : (pT M_133).find? (fun e => e.1 == 32) = some (32, .iload 4, 0, 0) := rfl
theorem te_133_34 : (pT M_133).find? (fun e => e.1 == 34) = some (34, .iadd, 0, 0) := rfl
theorem te_133_35 : (pT M_133).find? (fun e => e.1 == 35) = some (35, .aload_n 0, 0, 0) := rfl
theorem te_133_36 : (pT M_133).find? (fun e => e.1 == 36) = some (36, .getfield 24, 2, 0) := rfl
theorem te_133_39 : (pT M_133).find? (fun e => e.1 == 39) = some (39, .irem, 0, 0) := rfl
theorem te_133_40 : (pT M_133).find? (fun e => e.1 == 40) = some (40, .ishl, 0, 0) := rfl
theorem te_133_41 : (pT M_133).find? (fun e => e.1 == 41) = some (41, .ior, 0, 0) := rfl
theorem te_133_42 : (pT M_133).find? (fun e => e.1 == 42) = some (42, .istore_n 3, 0, 0) := rfl
theorem te_133_43 : (pT M_133).find? (fun e => e.1 == 43) = some (43, .iinc 4 1, 0, 0) := rfl
theorem te_133_46 : (pT M_133).find? (fun e => e.1 == 46) = some (46, .goto (-41), 0, 0) := rfl
theorem te_133_49 : (pT M_133).find? (fun e => e.1 == 49) = some (49, .iload_n 3, 0, 0) := rfl
theorem te_133_50 : (pT M_133).find? (fun e => e.1 == 50) = some (50, .ireturn, 0, 0) := rfl
theorem te_134_0 : (pT M_134).find? (fun e => e.1 == 0) = some (0, .iconst 0, 0, 0) := rfl
theorem te_134_1 : (pT M_134).find? (fun e => e.1 == 1) = some (1, .istore_n 3, 0, 0) := rfl
theorem te_134_2 : (pT M_134).find? (fun e => e.1 == 2) = some (2, .iload_n 3, 0, 0) := rfl
theorem te_134_3 : (pT M_134).find? (fun e => e.1 == 3) = some (3, .aload_n 1, 0, 0) := rfl
theorem te_134_4 : (pT M_134).find? (fun e => e.1 == 4) = some (4, .getfield 84, 7, 0) := rfl
theorem te_134_7 : (pT M_134).find? (fun e => e.1 == 7) = some (7, .if_icmp .ge 146, 0, 0) := rfl
theorem te_134_10 : (pT M_134).find? (fun e => e.1 == 10) = some (10, .aload_n 1, 0, 0) := rfl
theorem te_134_11 : (pT M_134).find? (fun e => e.1 == 11) = some (11, .getfield 87, 7, 1) := rfl
theorem te_134_14 : (pT M_134).find? (fun e => e.1 == 14) = some (14, .iload_n 3, 0, 0) := rfl
theorem te_134_15 : (pT M_134).find? (fun e => e.1 == 15) = some (15, .iaload, 0, 0) := rfl
theorem te_134_16 : (pT M_134).find? (fun e => e.1 == 16) = some (16, .istore 4, 0, 0) := rfl
theorem te_134_18 : (pT M_134).find? (fun e => e.1 == 18) = some (18, .aload_n 1, 0, 0) := rfl
theorem te_134_19 : (pT M_134).find? (fun e => e.1 == 19) = some (19, .getfield 90, 7, 2) := rfl
theorem te_134_22 : (pT M_134).find? (fun e => e.1 == 22) = some (22, .iload_n 3, 0, 0) := rfl
theorem te_134_23 : (pT M_134).find? (fun e => e.1 == 23) = some (23, .iaload, 0, 0) := rfl
theorem te_134_24 : (pT M_134).find? (fun e => e.1 == 24) = some (24, .istore 5, 0, 0) := rfl
theorem te_134_26 : (pT M_134).find? (fun e => e.1 == 26) = some (26, .iconst 1, 0, 0) := rfl
theorem te_134_27 : (pT M_134).find? (fun e => e.1 == 27) = some (27, .iload 4, 0, 0) := rfl
theorem te_134_29 : (pT M_134).find? (fun e => e.1 == 29) = some (29, .ishl, 0, 0) := rfl
theorem te_134_30 : (pT M_134).find? (fun e => e.1 == 30) = some (30, .iconst 1, 0, 0) := rfl
theorem te_134_31 : (pT M_134).find? (fun e => e.1 == 31) = some (31, .iload 5, 0, 0) := rfl
theorem te_134_33 : (pT M_134).find? (fun e => e.1 == 33) = some (33, .ishl, 0, 0) := rfl
theorem te_134_34 : (pT M_134).find? (fun e => e.1 == 34) = some (34, .ior, 0, 0) := rfl
theorem te_134_35 : (pT M_134).find? (fun e => e.1 == 35) = some (35, .istore 6, 0, 0) := rfl
theorem te_134_37 : (pT M_134).find? (fun e => e.1 == 37) = some (37, .iload 4, 0, 0) := rfl
theorem te_134_39 : (pT M_134).find? (fun e => e.1 == 39) = some (39, .iload_n 2, 0, 0) := rfl
theorem te_134_40 : (pT M_134).find? (fun e => e.1 == 40) = some (40, .if_icmp .ne 7, 0, 0) := rfl
theorem te_134_43 : (pT M_134).find? (fun e => e.1 == 43) = some (43, .iconst 1, 0, 0) := rfl
theorem te_134_44 : (pT M_134).find? (fun e => e.1 == 44) = some (44, .goto 4, 0, 0) := rfl
theorem te_134_47 : (pT M_134).find? (fun e => e.1 == 47) = some (47, .iconst 0, 0, 0) := rfl
theorem te_134_48 : (pT M_134).find? (fun e => e.1 == 48) = some (48, .iload 5, 0, 0) := rfl
theorem te_134_50 : (pT M_134).find? (fun e => e.1 == 50) = some (50, .iload_n 2, 0, 0) := rfl
theorem te_134_51 : (pT M_134).find? (fun e => e.1 == 51) = some (51, .if_icmp .ne 7, 0, 0) := rfl
theorem te_134_54 : (pT M_134).find? (fun e => e.1 == 54) = some (54, .iconst 1, 0, 0) := rfl
theorem te_134_55 : (pT M_134).find? (fun e => e.1 == 55) = some (55, .goto 4, 0, 0) := rfl
theorem te_134_58 : (pT M_134).find? (fun e => e.1 == 58) = some (58, .iconst 0, 0, 0) := rfl
theorem te_134_59 : (pT M_134).find? (fun e => e.1 == 59) = some (59, .if_icmp .eq 19, 0, 0) := rfl
theorem te_134_62 : (pT M_134).find? (fun e => e.1 == 62) = some (62, .aload_n 0, 0, 0) := rfl
theorem te_134_63 : (pT M_134).find? (fun e => e.1 == 63) = some (63, .getfield 35, 2, 3) := rfl
theorem te_134_66 : (pT M_134).find? (fun e => e.1 == 66) = some (66, .iload 6, 0, 0) := rfl
theorem te_134_68 : (pT M_134).find? (fun e => e.1 == 68) = some (68, .iand, 0, 0) := rfl
theorem te_134_69 : (pT M_134).find? (fun e => e.1 == 69) = some (69, .iload 6, 0, 0) := rfl
theorem te_134_71 : (pT M_134).find? (fun e => e.1 == 71) = some (71, .if_icmp .ne 7, 0, 0) := rfl
theorem te_134_74 : (pT M_134).find? (fun e => e.1 == 74) = some (74, .iconst 1, 0, 0) := rfl
theorem te_134_75 : (pT M_134).find? (fun e => e.1 == 75) = some (75, .goto 4, 0, 0) := rfl
theorem te_134_78 : (pT M_134).find? (fun e => e.1 == 78) = some (78, .iconst 0, 0, 0) := rfl
theorem te_134_79 : (pT M_134).find? (fun e => e.1 == 79) = some (79, .istore 7, 0, 0) := rfl
theorem te_134_81 : (pT M_134).find? (fun e => e.1 == 81) = some (81, .iload 7, 0, 0) := rfl
theorem te_134_83 : (pT M_134).find? (fun e => e.1 == 83) = some (83, .ifCond .eq 64, 0, 0) := rfl
theorem te_134_86 : (pT M_134).find? (fun e => e.1 == 86) = some (86, .aload_n 0, 0, 0) := rfl
theorem te_134_87 : (pT M_134).find? (fun e => e.1 == 87) = some (87, .getfield 9, 2, 4) := rfl
theorem te_134_90 : (pT M_134).find? (fun e => e.1 == 90) = some (90, .iload 5, 0, 0) := rfl
theorem te_134_92 : (pT M_134).find? (fun e => e.1 == 92) = some (92, .iaload, 0, 0) := rfl
theorem te_134_93 : (pT M_134).find? (fun e => e.1 == 93) = some (93, .aload_n 0, 0, 0) := rfl
theorem te_134_94 : (pT M_134).find? (fun e => e.1 == 94) = some (94, .getfield 9, 2, 4) := rfl
theorem te_134_97 : (pT M_134).find? (fun e => e.1 == 97) = some (97, .iload 4, 0, 0) := rfl
theorem te_134_99 : (pT M_134).find? (fun e => e.1 == 99) = some (99, .iaload, 0, 0) := rfl
theorem te_134_100 : (pT M_134).find? (fun e => e.1 == 100) = some (100, .aload_n 1, 0, 0) := rfl
theorem te_134_101 : (pT M_134).find? (fun e => e.1 == 101) = some (101, .getfield 93, 7, 4) := rfl
theorem te_134_104 : (pT M_134).find? (fun e => e.1 == 104) = some (104, .iload_n 3, 0, 0) := rfl
theorem te_134_105 : (pT M_134).find? (fun e => e.1 == 105) = some (105, .iaload, 0, 0) := rfl
theorem te_134_106 : (pT M_134).find? (fun e => e.1 == 106) = some (106, .iadd, 0, 0) := rfl
theorem te_134_107 : (pT M_134).find? (fun e => e.1 == 107) = some (107, .aload_n 0, 0, 0) := rfl
theorem te_134_108 : (pT M_134).find? (fun e => e.1 == 108) = some (108, .getfield 24, 2, 0) := rfl
theorem te_134_111 : (pT M_134).find? (fun e => e.1 == 111) = some (111, .aload_n 1, 0, 0) := rfl
theorem te_134_112 : (pT M_134).find? (fun e => e.1 == 112) = some (112, .getfield 96, 7, 3) := rfl
theorem te_134_115 : (pT M_134).find? (fun e => e.1 == 115) = some (115, .iload_n 3, 0, 0) := rfl
theorem te_134_116 : (pT M_134).find? (fun e => e.1 == 116) = some (116, .iaload, 0, 0) := rfl
theorem te_134_117 : (pT M_134).find? (fun e => e.1 == 117) = some (117, .imul, 0, 0) := rfl
theorem te_134_118 : (pT M_134).find? (fun e => e.1 == 118) = some (118, .isub, 0, 0) := rfl
theorem te_134_119 : (pT M_134).find? (fun e => e.1 == 119) = some (119, .if_icmp .ge 28, 0, 0) := rfl
theorem te_134_122 : (pT M_134).find? (fun e => e.1 == 122) = some (122, .aload_n 0, 0, 0) := rfl
theorem te_134_123 : (pT M_134).find? (fun e => e.1 == 123) = some (123, .dup, 0, 0) := rfl
theorem te_134_124 : (pT M_134).find? (fun e => e.1 == 124) = some (124, .getfield 35, 2, 3) := rfl
theorem te_134_127 : (pT M_134).find? (fun e => e.1 == 127) = some (127, .iload 6, 0, 0) := rfl
theorem te_134_129 : (pT M_134).find? (fun e => e.1 == 129) = some (129, .iconst (-1), 0, 0) := rfl
theorem te_134_130 : (pT M_134).find? (fun e => e.1 == 130) = some (130, .ixor, 0, 0) := rfl
theorem te_134_131 : (pT M_134).find? (fun e => e.1 == 131) = some (131, .iand, 0, 0) := rfl
theorem te_134_132 : (pT M_134).find? (fun e => e.1 == 132) = some (132, .putfield 35, 2, 3) := rfl
theorem te_134_135 : (pT M_134).find? (fun e => e.1 == 135) = some (135, .aload_n 0, 0, 0) := rfl
theorem te_134_136 : (pT M_134).find? (fun e => e.1 == 136) = some (136, .dup, 0, 0) := rfl
theorem te_134_137 : (pT M_134).find? (fun e => e.1 == 137) = some (137, .getfield 35, 2, 3) := rfl
theorem te_134_140 : (pT M_134).find? (fun e => e.1 == 140) = some (140, .iconst 1, 0, 0) := rfl
theorem te_134_141 : (pT M_134).find? (fun e => e.1 == 141) = some (141, .iload_n 2, 0, 0) := rfl
theorem te_134_142 : (pT M_134).find? (fun e => e.1 == 142) = some (142, .ishl, 0, 0) := rfl
theorem te_134_143 : (pT M_134).find? (fun e => e.1 == 143) = some (143, .ior, 0, 0) := rfl
theorem te_134_144 : (pT M_134).find? (fun e => e.1 == 144) = some (144, .putfield 35, 2, 3) := rfl
theorem te_134_147 : (pT M_134).find? (fun e => e.1 == 147) = some (147, .iinc 3 1, 0, 0) := rfl
theorem te_134_150 : (pT M_134).find? (fun e => e.1 == 150) = some (150, .goto (-148), 0, 0) := rfl
theorem te_134_153 : (pT M_134).find? (fun e => e.1 == 153) = some (153, .return_, 0, 0) := rfl
theorem w_76_0 {C : CXW} (hC : Cmono C) {S : Nat × (Nat → Int32)} {K : WK} {mem : MM} {Z zn : Nat} (hZ : shA Z = some (.inl zn)) {x1 : Int} (H : (InI (zn : Int)) ∧ (Wx C S M_76 K 5 [some (.inr Z), some (.inl x1), some (.inl 0), some (.inl (zn : Int))] [] mem)) : Wx C S M_76 K 0 [some (.inr Z), some (.inl x1), none, none] [] mem := by
  refine Wx.iconst hC te_76_0 rfl ?_
  refine Wx.istore_n hC te_76_1 rfl ?_
  refine Wx.aload_n hC te_76_2 rfl ?_
  refine Wx.alen hC te_76_3 hZ H.1 ?_
  replace H := H.2
  refine Wx.istore_n hC te_76_4 rfl ?_
  exact H
theorem w_76_5 {C : CXW} (hC : Cmono C) {S : Nat × (Nat → Int32)} {K : WK} {mem : MM} {Z zn : Nat} (hZ : shA Z = some (.inl zn)) {x1 x2 x3 : Int} (H : ((x3 ≤ x2 → (K none mem)) ∧ (¬ (x3 ≤ x2) → ((0 : Int) ≤ x2 ∧ (x2 : Int) < zn) ∧ (InI (x2 + 1)) ∧ (Wx C S M_76 K 5 [some (.inr Z), some (.inl x1), some (.inl (x2 + 1)), some (.inl x3)] [] (upm mem Z (Int.toNat x2) x1))))) : Wx C S M_76 K 5 [some (.inr Z), some (.inl x1), some (.inl x2), some (.inl x3)] [] mem := by
  refine Wx.iload_n hC te_76_5 rfl ?_
  refine Wx.iload_n hC te_76_6 rfl ?_
  refine Wx.icmp hC (t := 20) te_76_7 (by decide) (fun q => ?_) (fun q => ?_)
  · replace H := H.1 q
    exact Wx.vret hC te_76_20 rfl H
  · replace H := H.2 q
    refine Wx.aload_n hC te_76_10 rfl ?_
    refine Wx.iload_n hC te_76_11 rfl ?_
    refine Wx.iload_n hC te_76_12 rfl ?_
    refine Wx.iast hC te_76_13 hZ H.1 ?_
    replace H := H.2
    refine Wx.iinc hC te_76_14 rfl rfl H.1 ?_
    replace H := H.2
    refine Wx.goto hC (t := 5) te_76_17 (by decide) ?_
    exact H
theorem w_40_0 {C : CXW} (hC : Cmono C) {S : Nat × (Nat → Int32)} {K : WK} {mem : MM} {x0 x1 : Int} (H : ((x0 < x1 → (InI x1 → K (some x1) mem)) ∧ (¬ (x0 < x1) → (InI x0 → K (some x0) mem)))) : Wx C S M_40 K 0 [some (.inl x0), some (.inl x1)] [] mem := by
  refine Wx.iload_n hC te_40_0 rfl ?_
  refine Wx.iload_n hC te_40_1 rfl ?_
  refine Wx.icmp hC (t := 9) te_40_2 (by decide) (fun q => ?_) (fun q => ?_)
  · replace H := H.1 q
    refine Wx.iload_n hC te_40_9 rfl ?_
    exact Wx.ireturn hC te_40_10 rfl H
  · replace H := H.2 q
    refine Wx.iload_n hC te_40_5 rfl ?_
    refine Wx.goto hC (t := 10) te_40_6 (by decide) ?_
    exact Wx.ireturn hC te_40_10 rfl H
theorem w_80_0 {C : CXW} (hC : Cmono C) {S : Nat × (Nat → Int32)} {K : WK} {mem : MM} {x1 : Int} (H : (Wx C S M_80 K 4 [some (.inr 19), some (.inl x1), some (.inl 0), some (.inl 0)] [] mem)) : Wx C S M_80 K 0 [some (.inr 19), some (.inl x1), none, none] [] mem := by
  refine Wx.iconst hC te_80_0 rfl ?_
  refine Wx.istore_n hC te_80_1 rfl ?_
  refine Wx.iconst hC te_80_2 rfl ?_
  refine Wx.istore_n hC te_80_3 rfl ?_
  exact H
theorem w_80_4 {C : CXW} (hC : Cmono C) {S : Nat × (Nat → Int32)} {K : WK} {mem : MM} {x1 x2 x3 : Int} (H : ∀ v1 : Int, v1 = mem 19 0 → InI v1 → ((v1 ≤ x3 → (InI x2 → K (some x2) mem)) ∧ (¬ (v1 ≤ x3) → (InI (x1 * 8)) ∧ (InI ((x1 * 8) + x3)) ∧ ((0 : Int) ≤ ((x1 * 8) + x3) ∧ (((x1 * 8) + x3) : Int) < 64) ∧ ∀ v2 : Int, v2 = mem 20 (Int.toNat ((x1 * 8) + x3)) → InI v2 → (CWI C 40 [.inl x2, .inl v2] mem fun r4 m3 => InI r4 → (InI (x3 + 1)) ∧ (Wx C S M_80 K 4 [some (.inr 19), some (.inl x1), some (.inl r4), some (.inl (x3 + 1))] [] m3))))) : Wx C S M_80 K 4 [some (.inr 19), some (.inl x1), some (.inl x2), some (.inl x3)] [] mem := by
  refine Wx.iload_n hC te_80_4 rfl ?_
  refine Wx.aload_n hC te_80_5 rfl ?_
  refine Wx.getI hC te_80_6 rfl rfl rfl (fun v1 e1 e2 => ?_)
  replace H := H v1 e1 e2
  refine Wx.icmp hC (t := 34) te_80_9 (by decide) (fun q => ?_) (fun q => ?_)
  · replace H := H.1 q
    refine Wx.iload_n hC te_80_34 rfl ?_
    exact Wx.ireturn hC te_80_35 rfl H
  · replace H := H.2 q
    refine Wx.iload_n hC te_80_12 rfl ?_
    refine Wx.aload_n hC te_80_13 rfl ?_
    refine Wx.getR hC te_80_14 rfl rfl rfl ?_
    refine Wx.iload_n hC te_80_17 rfl ?_
    refine Wx.bipush hC te_80_18 rfl rfl ?_
    refine Wx.imul hC te_80_20 H.1 ?_
    replace H := H.2
    refine Wx.iload_n hC te_80_21 rfl ?_
    refine Wx.iadd hC te_80_22 H.1 ?_
    replace H := H.2
    refine Wx.iald hC te_80_23 rfl H.1 (fun v2 e1 e2 => ?_)
    replace H := H.2 v2 e1 e2
    refine Wx.statI hC te_80_24 (by decide) mt_40 (args := [.inl x2, .inl v2]) (rest := []) rfl rfl rfl rfl rfl ?_
    refine CWI.mono hC (fun r4 m3 H hy => ?_) H
    replace H := H hy
    refine Wx.istore_n hC te_80_27 rfl ?_
    refine Wx.iinc hC te_80_28 rfl rfl H.1 ?_
    replace H := H.2
    refine Wx.goto hC (t := 4) te_80_31 (by decide) ?_
    exact H
theorem w_125_0 {C : CXW} (hC : Cmono C) {S : Nat × (Nat → Int32)} {K : WK} {mem : MM} {x1 x2 x3 : Int} (H : (Wx C S M_125 K 3 [some (.inr 129), some (.inl x1), some (.inl x2), some (.inl x3), some (.inl 0)] [] mem)) : Wx C S M_125 K 0 [some (.inr 129), some (.inl x1), some (.inl x2), some (.inl x3), none] [] mem := by
  refine Wx.iconst hC te_125_0 rfl ?_
  refine Wx.istore hC te_125_1 rfl ?_
  exact H
theorem w_125_3 {C : CXW} (hC : Cmono C) {S : Nat × (Nat → Int32)} {K : WK} {mem : MM} {x1 x2 x3 x4 : Int} (H : ((4 ≤ x4 → (K none mem)) ∧ (¬ (4 ≤ x4) → ∀ b1 : Int, b1 = ((fun (x y : Int32) => x <<< (y &&& 31)) (Int32.ofInt 1) (Int32.ofInt x4)).toInt → InI b1 → ∀ b2 : Int, b2 = ((fun (x y : Int32) => x &&& y) (Int32.ofInt x1) (Int32.ofInt b1)).toInt → InI b2 → ((b2 = 0 → (InI (x4 + 1)) ∧ (Wx C S M_125 K 3 [some (.inr 129), some (.inl x1), some (.inl x2), some (.inl x3), some (.inl (x4 + 1))] [] mem)) ∧ (¬ (b2 = 0) → (InI (x2 + x4)) ∧ ∀ v3 : Int, v3 = mem 129 0 → InI v3 → (0 < v3) ∧ ((0 : Int) ≤ (((x2 + x4) : Int).tmod v3) ∧ ((((x2 + x4) : Int).tmod v3) : Int) < 12) ∧ ∀ v4 : Int, v4 = mem 132 (Int.toNat (((x2 + x4) : Int).tmod v3)) → InI v4 → ∀ z5 : Int, InI z5 → (InI (v4 + x3) → z5 = v4 + x3) → ((0 : Int) ≤ (((x2 + x4) : Int).tmod v3) ∧ ((((x2 + x4) : Int).tmod v3) : Int) < 12) ∧ (InI (x4 + 1)) ∧ (Wx C S M_125 K 3 [some (.inr 129), some (.inl x1), some (.inl x2), some (.inl x3), some (.inl (x4 + 1))] [] (upm mem 132 (Int.toNat (((x2 + x4) : Int).tmod v3)) z5))))))) : Wx C S M_125 K 3 [some (.inr 129), some (.inl x1), some (.inl x2), some (.inl x3), some (.inl x4)] [] mem := by
  refine Wx.iload hC te_125_3 rfl ?_
  refine Wx.iconst hC te_125_5 rfl ?_
  refine Wx.icmp hC (t := 42) te_125_6 (by decide) (fun q => ?_) (fun q => ?_)
  · replace H := H.1 q
    exact Wx.vret hC te_125_42 rfl H
  · replace H := H.2 q
    refine Wx.iload_n hC te_125_9 rfl ?_
    refine Wx.iconst hC te_125_10 rfl ?_
    refine Wx.iload hC te_125_11 rfl ?_
    refine Wx.bits hC (f := (fun (x y : Int32) => x <<< (y &&& 31))) te_125_13 (fun _ _ _ _ => Iff.rfl) (fun b1 e1 e2 => ?_)
    replace H := H b1 e1 e2
    refine Wx.bits hC (f := (fun (x y : Int32) => x &&& y)) te_125_14 (fun _ _ _ _ => Iff.rfl) (fun b2 e1 e2 => ?_)
    replace H := H b2 e1 e2
    refine Wx.ifc hC (t := 36) te_125_15 (by decide) (fun q => ?_) (fun q => ?_)
    · replace H := H.1 q
      refine Wx.iinc hC te_125_36 rfl rfl H.1 ?_
      replace H := H.2
      refine Wx.goto hC (t := 3) te_125_39 (by decide) ?_
      exact H
    · replace H := H.2 q
      refine Wx.aload_n hC te_125_18 rfl ?_
      refine Wx.getR hC te_125_19 rfl rfl rfl ?_
      refine Wx.iload_n hC te_125_22 rfl ?_
      refine Wx.iload hC te_125_23 rfl ?_
      refine Wx.iadd hC te_125_25 H.1 ?_
      replace H := H.2
      refine Wx.aload_n hC te_125_26 rfl ?_
      refine Wx.getI hC te_125_27 rfl rfl rfl (fun v3 e1 e2 => ?_)
      replace H := H v3 e1 e2
      refine Wx.irem hC te_125_30 H.1 ?_
      replace H := H.2
      refine Wx.dup2 hC te_125_31 ?_
      refine Wx.iald hC te_125_32 rfl H.1 (fun v4 e1 e2 => ?_)
      replace H := H.2 v4 e1 e2
      refine Wx.iload_n hC te_125_33 rfl ?_
      refine Wx.iaddW hC te_125_34 (fun z5 e1 e2 => ?_)
      replace H := H z5 e1 e2
      refine Wx.iast hC te_125_35 rfl H.1 ?_
      replace H := H.2
      refine Wx.iinc hC te_125_36 rfl rfl H.1 ?_
      replace H := H.2
      refine Wx.goto hC (t := 3) te_125_39 (by decide) ?_
      exact H
theorem w_127_0 {C : CXW} (hC : Cmono C) {S : Nat × (Nat → Int32)} {K : WK} {mem : MM} {x1 x2 x3 : Int} (H : (Wx C S M_127 K 3 [some (.inr 129), some (.inl x1), some (.inl x2), some (.inl x3), some (.inl 0)] [] mem)) : Wx C S M_127 K 0 [some (.inr 129), some (.inl x1), some (.inl x2), some (.inl x3), none] [] mem := by
  refine Wx.iconst hC te_127_0 rfl ?_
  refine Wx.istore hC te_127_1 rfl ?_
  exact H
theorem w_127_3 {C : CXW} (hC : Cmono C) {S : Nat × (Nat → Int32)} {K : WK} {mem : MM} {x1 x2 x3 x4 : Int} (H : ((4 ≤ x4 → (K (some 0) mem)) ∧ (¬ (4 ≤ x4) → ∀ b1 : Int, b1 = ((fun (x y : Int32) => x <<< (y &&& 31)) (Int32.ofInt 1) (Int32.ofInt x4)).toInt → InI b1 → ∀ b2 : Int, b2 = ((fun (x y : Int32) => x &&& y) (Int32.ofInt x1) (Int32.ofInt b1)).toInt → InI b2 → ((b2 = 0 → (InI (x4 + 1)) ∧ (Wx C S M_127 K 3 [some (.inr 129), some (.inl x1), some (.inl x2), some (.inl x3), some (.inl (x4 + 1))] [] mem)) ∧ (¬ (b2 = 0) → (InI (x2 + x4)) ∧ ∀ v3 : Int, v3 = mem 129 0 → InI v3 → (0 < v3) ∧ ((0 : Int) ≤ (((x2 + x4) : Int).tmod v3) ∧ ((((x2 + x4) : Int).tmod v3) : Int) < 12) ∧ ∀ v4 : Int, v4 = mem 132 (Int.toNat (((x2 + x4) : Int).tmod v3)) → InI v4 → ((v4 ≤ x3 → (InI (x4 + 1)) ∧ (Wx C S M_127 K 3 [some (.inr 129), some (.inl x1), some (.inl x2), some (.inl x3), some (.inl (x4 + 1))] [] mem)) ∧ (¬ (v4 ≤ x3) → (K (some 1) mem)))))))) : Wx C S M_127 K 3 [some (.inr 129), some (.inl x1), some (.inl x2), some (.inl x3), some (.inl x4)] [] mem := by
  refine Wx.iload hC te_127_3 rfl ?_
  refine Wx.iconst hC te_127_5 rfl ?_
  refine Wx.icmp hC (t := 44) te_127_6 (by decide) (fun q => ?_) (fun q => ?_)
  · replace H := H.1 q
    refine Wx.iconst hC te_127_44 rfl ?_
    exact Wx.bret hC te_127_45 rfl (Or.inl rfl) H
  · replace H := H.2 q
    refine Wx.iload_n hC te_127_9 rfl ?_
    refine Wx.iconst hC te_127_10 rfl ?_
    refine Wx.iload hC te_127_11 rfl ?_
    refine Wx.bits hC (f := (fun (x y : Int32) => x <<< (y &&& 31))) te_127_13 (fun _ _ _ _ => Iff.rfl) (fun b1 e1 e2 => ?_)
    replace H := H b1 e1 e2
    refine Wx.bits hC (f := (fun (x y : Int32) => x &&& y)) te_127_14 (fun _ _ _ _ => Iff.rfl) (fun b2 e1 e2 => ?_)
    replace H := H b2 e1 e2
    refine Wx.ifc hC (t := 38) te_127_15 (by decide) (fun q => ?_) (fun q => ?_)
    · replace H := H.1 q
      refine Wx.iinc hC te_127_38 rfl rfl H.1 ?_
      replace H := H.2
      refine Wx.goto hC (t := 3) te_127_41 (by decide) ?_
      exact H
    · replace H := H.2 q
      refine Wx.aload_n hC te_127_18 rfl ?_
      refine Wx.getR hC te_127_19 rfl rfl rfl ?_
      refine Wx.iload_n hC te_127_22 rfl ?_
      refine Wx.iload hC te_127_23 rfl ?_
      refine Wx.iadd hC te_127_25 H.1 ?_
      replace H := H.2
      refine Wx.aload_n hC te_127_26 rfl ?_
      refine Wx.getI hC te_127_27 rfl rfl rfl (fun v3 e1 e2 => ?_)
      replace H := H v3 e1 e2
      refine Wx.irem hC te_127_30 H.1 ?_
      replace H := H.2
      refine Wx.iald hC te_127_31 rfl H.1 (fun v4 e1 e2 => ?_)
      replace H := H.2 v4 e1 e2
      refine Wx.iload_n hC te_127_32 rfl ?_
      refine Wx.icmp hC (t := 38) te_127_33 (by decide) (fun q => ?_) (fun q => ?_)
      · replace H := H.1 q
        refine Wx.iinc hC te_127_38 rfl rfl H.1 ?_
        replace H := H.2
        refine Wx.goto hC (t := 3) te_127_41 (by decide) ?_
        exact H
      · replace H := H.2 q
        refine Wx.iconst hC te_127_36 rfl ?_
        exact Wx.bret hC te_127_37 rfl (Or.inr rfl) H
theorem w_124_0 {C : CXW} (hC : Cmono C) {S : Nat × (Nat → Int32)} {K : WK} {mem : MM} {x2 : Int} (H : (CWV C 76 [.inr 132, .inl 0] mem fun m1 => (Wx C S M_124 K 10 [some (.inr 129), some (.inr 1), some (.inl x2), some (.inl 0)] [] m1))) : Wx C S M_124 K 0 [some (.inr 129), some (.inr 1), some (.inl x2), none] [] mem := by
  refine Wx.aload_n hC te_124_0 rfl ?_
  refine Wx.getR hC te_124_1 rfl rfl rfl ?_
  refine Wx.iconst hC te_124_4 rfl ?_
  refine Wx.statV hC te_124_5 (by decide) mt_76 (args := [.inr 132, .inl 0]) (rest := []) rfl rfl rfl rfl rfl ?_
  refine CWV.mono hC (fun m1 H => ?_) H
  refine Wx.iconst hC te_124_8 rfl ?_
  refine Wx.istore_n hC te_124_9 rfl ?_
  exact H
theorem w_124_10 {C : CXW} (hC : Cmono C) {S : Nat × (Nat → Int32)} {K : WK} {mem : MM} {x2 x3 : Int} (H : ∀ v1 : Int, v1 = mem 1 0 → InI v1 → ((v1 ≤ x3 → (K none mem)) ∧ (¬ (v1 ≤ x3) → ∀ v2 : Int, v2 = mem 129 3 → InI v2 → ∀ b3 : Int, b3 = ((fun (x y : Int32) => x <<< (y &&& 31)) (Int32.ofInt 1) (Int32.ofInt x3)).toInt → InI b3 → ∀ b4 : Int, b4 = ((fun (x y : Int32) => x &&& y) (Int32.ofInt v2) (Int32.ofInt b3)).toInt → InI b4 → ((b4 = 0 → (InI (x3 + 1)) ∧ (Wx C S M_124 K 10 [some (.inr 129), some (.inr 1), some (.inl x2), some (.inl (x3 + 1))] [] mem)) ∧ (¬ (b4 = 0) → (CWI C 37 [.inr 1, .inl x3] mem fun r6 m5 => InI r6 → ((¬ r6 = x2 → (InI (x3 + 1)) ∧ (Wx C S M_124 K 10 [some (.inr 129), some (.inr 1), some (.inl x2), some (.inl (x3 + 1))] [] m5)) ∧ (¬ (¬ r6 = x2) → (CWI C 38 [.inr 1, .inl x3] m5 fun r8 m7 => InI r8 → ((0 : Int) ≤ x3 ∧ (x3 : Int) < 8) ∧ ∀ v9 : Int, v9 = m7 130 (Int.toNat x3) → InI v9 → (CWV C 125 [.inr 129, .inl r8, .inl v9, .inl 1] m7 fun m10 => (InI (x3 + 1)) ∧ (Wx C S M_124 K 10 [some (.inr 129), some (.inr 1), some (.inl x2), some (.inl (x3 + 1))] [] m10))))))))))) : Wx C S M_124 K 10 [some (.inr 129), some (.inr 1), some (.inl x2), some (.inl x3)] [] mem := by
  refine Wx.iload_n hC te_124_10 rfl ?_
  refine Wx.aload_n hC te_124_11 rfl ?_
  refine Wx.getI hC te_124_12 rfl rfl rfl (fun v1 e1 e2 => ?_)
  replace H := H v1 e1 e2
  refine Wx.icmp hC (t := 60) te_124_15 (by decide) (fun q => ?_) (fun q => ?_)
  · replace H := H.1 q
    exact Wx.vret hC te_124_60 rfl H
  · replace H := H.2 q
    refine Wx.aload_n hC te_124_18 rfl ?_
    refine Wx.getI hC te_124_19 rfl rfl rfl (fun v2 e1 e2 => ?_)
    replace H := H v2 e1 e2
    refine Wx.iconst hC te_124_22 rfl ?_
    refine Wx.iload_n hC te_124_23 rfl ?_
    refine Wx.bits hC (f := (fun (x y : Int32) => x <<< (y &&& 31))) te_124_24 (fun _ _ _ _ => Iff.rfl) (fun b3 e1 e2 => ?_)
    replace H := H b3 e1 e2
    refine Wx.bits hC (f := (fun (x y : Int32) => x &&& y)) te_124_25 (fun _ _ _ _ => Iff.rfl) (fun b4 e1 e2 => ?_)
    replace H := H b4 e1 e2
    refine Wx.ifc hC (t := 54) te_124_26 (by decide) (fun q => ?_) (fun q => ?_)
    · replace H := H.1 q
      refine Wx.iinc hC te_124_54 rfl rfl H.1 ?_
      replace H := H.2
      refine Wx.goto hC (t := 10) te_124_57 (by decide) ?_
      exact H
    · replace H := H.2 q
      refine Wx.aload_n hC te_124_29 rfl ?_
      refine Wx.iload_n hC te_124_30 rfl ?_
      refine Wx.virtI hC te_124_31 mt_37 (args := [.inr 1, .inl x3]) (rest := []) rfl rfl rfl rfl rfl rfl rfl rfl ?_
      refine CWI.mono hC (fun r6 m5 H hy => ?_) H
      replace H := H hy
      refine Wx.iload_n hC te_124_34 rfl ?_
      refine Wx.icmp hC (t := 54) te_124_35 (by decide) (fun q => ?_) (fun q => ?_)
      · replace H := H.1 q
        refine Wx.iinc hC te_124_54 rfl rfl H.1 ?_
        replace H := H.2
        refine Wx.goto hC (t := 10) te_124_57 (by decide) ?_
        exact H
      · replace H := H.2 q
        refine Wx.aload_n hC te_124_38 rfl ?_
        refine Wx.aload_n hC te_124_39 rfl ?_
        refine Wx.iload_n hC te_124_40 rfl ?_
        refine Wx.virtI hC te_124_41 mt_38 (args := [.inr 1, .inl x3]) (rest := [.inr 129]) rfl rfl rfl rfl rfl rfl rfl rfl ?_
        refine CWI.mono hC (fun r8 m7 H hy => ?_) H
        replace H := H hy
        refine Wx.aload_n hC te_124_44 rfl ?_
        refine Wx.getR hC te_124_45 rfl rfl rfl ?_
        refine Wx.iload_n hC te_124_48 rfl ?_
        refine Wx.iald hC te_124_49 rfl H.1 (fun v9 e1 e2 => ?_)
        replace H := H.2 v9 e1 e2
        refine Wx.iconst hC te_124_50 rfl ?_
        refine Wx.virtV hC te_124_51 mt_125 (args := [.inr 129, .inl r8, .inl v9, .inl 1]) (rest := []) rfl rfl rfl rfl rfl rfl rfl rfl ?_
        refine CWV.mono hC (fun m10 H => ?_) H
        refine Wx.iinc hC te_124_54 rfl rfl H.1 ?_
        replace H := H.2
        refine Wx.goto hC (t := 10) te_124_57 (by decide) ?_
        exact H
theorem w_126_0 {C : CXW} (hC : Cmono C) {S : Nat × (Nat → Int32)} {K : WK} {mem : MM} {x2 x3 : Int} (H : (CWI C 38 [.inr 1, .inl x2] mem fun r2 m1 => InI r2 → (CWV C 125 [.inr 129, .inl r2, .inl x3, .inl 1] m1 fun m3 => (CWI C 37 [.inr 1, .inl x2] m3 fun r5 m4 => InI r5 → ((0 : Int) ≤ r5 ∧ (r5 : Int) < 3) ∧ ∀ v6 : Int, v6 = m4 8 (Int.toNat r5) → InI v6 → (CWI C 127 [.inr 129, .inl r2, .inl x3, .inl v6] m4 fun r8 m7 => InI r8 → ((¬ r8 = 0 → (CWV C 125 [.inr 129, .inl r2, .inl x3, .inl (-1)] m7 fun m9 => (K (some 0) m9))) ∧ (¬ (¬ r8 = 0) → (CWV C 125 [.inr 129, .inl r2, .inl x3, .inl (-1)] m7 fun m10 => (K (some 1) m10))))))))) : Wx C S M_126 K 0 [some (.inr 129), some (.inr 1), some (.inl x2), some (.inl x3), none, none] [] mem := by
  refine Wx.aload_n hC te_126_0 rfl ?_
  refine Wx.iload_n hC te_126_1 rfl ?_
  refine Wx.virtI hC te_126_2 mt_38 (args := [.inr 1, .inl x2]) (rest := []) rfl rfl rfl rfl rfl rfl rfl rfl ?_
  refine CWI.mono hC (fun r2 m1 H hy => ?_) H
  replace H := H hy
  refine Wx.istore hC te_126_5 rfl ?_
  refine Wx.aload_n hC te_126_7 rfl ?_
  refine Wx.iload hC te_126_8 rfl ?_
  refine Wx.iload_n hC te_126_10 rfl ?_
  refine Wx.iconst hC te_126_11 rfl ?_
  refine Wx.virtV hC te_126_12 mt_125 (args := [.inr 129, .inl r2, .inl x3, .inl 1]) (rest := []) rfl rfl rfl rfl rfl rfl rfl rfl ?_
  refine CWV.mono hC (fun m3 H => ?_) H
  refine Wx.aload_n hC te_126_15 rfl ?_
  refine Wx.iload hC te_126_16 rfl ?_
  refine Wx.iload_n hC te_126_18 rfl ?_
  refine Wx.aload_n hC te_126_19 rfl ?_
  refine Wx.getR hC te_126_20 rfl rfl rfl ?_
  refine Wx.aload_n hC te_126_23 rfl ?_
  refine Wx.iload_n hC te_126_24 rfl ?_
  refine Wx.virtI hC te_126_25 mt_37 (args := [.inr 1, .inl x2]) (rest := [.inr 8, .inl x3, .inl r2, .inr 129]) rfl rfl rfl rfl rfl rfl rfl rfl ?_
  refine CWI.mono hC (fun r5 m4 H hy => ?_) H
  replace H := H hy
  refine Wx.iald hC te_126_28 rfl H.1 (fun v6 e1 e2 => ?_)
  replace H := H.2 v6 e1 e2
  refine Wx.virtI hC te_126_29 mt_127 (args := [.inr 129, .inl r2, .inl x3, .inl v6]) (rest := []) rfl rfl rfl rfl rfl rfl rfl rfl ?_
  refine CWI.mono hC (fun r8 m7 H hy => ?_) H
  replace H := H hy
  refine Wx.ifc hC (t := 39) te_126_32 (by decide) (fun q => ?_) (fun q => ?_)
  · replace H := H.1 q
    refine Wx.iconst hC te_126_39 rfl ?_
    refine Wx.istore hC te_126_40 rfl ?_
    refine Wx.aload_n hC te_126_42 rfl ?_
    refine Wx.iload hC te_126_43 rfl ?_
    refine Wx.iload_n hC te_126_45 rfl ?_
    refine Wx.iconst hC te_126_46 rfl ?_
    refine Wx.virtV hC te_126_47 mt_125 (args := [.inr 129, .inl r2, .inl x3, .inl (-1)]) (rest := []) rfl rfl rfl rfl rfl rfl rfl rfl ?_
    refine CWV.mono hC (fun m9 H => ?_) H
    refine Wx.iload hC te_126_50 rfl ?_
    exact Wx.bret hC te_126_52 rfl (Or.inl rfl) H
  · replace H := H.2 q
    refine Wx.iconst hC te_126_35 rfl ?_
    refine Wx.goto hC (t := 40) te_126_36 (by decide) ?_
    refine Wx.istore hC te_126_40 rfl ?_
    refine Wx.aload_n hC te_126_42 rfl ?_
    refine Wx.iload hC te_126_43 rfl ?_
    refine Wx.iload_n hC te_126_45 rfl ?_
    refine Wx.iconst hC te_126_46 rfl ?_
    refine Wx.virtV hC te_126_47 mt_125 (args := [.inr 129, .inl r2, .inl x3, .inl (-1)]) (rest := []) rfl rfl rfl rfl rfl rfl rfl rfl ?_
    refine CWV.mono hC (fun m10 H => ?_) H
    refine Wx.iload hC te_126_50 rfl ?_
    exact Wx.bret hC te_126_52 rfl (Or.inr rfl) H
theorem w_128_0 {C : CXW} (hC : Cmono C) {S : Nat × (Nat → Int32)} {K : WK} {mem : MM} {x1 : Int} (H : (Wx C S M_128 K 7 [some (.inr 129), some (.inl x1), some (.inl 0), some (.inl (-1)), some (.inl 0)] [] mem)) : Wx C S M_128 K 0 [some (.inr 129), some (.inl x1), none, none, none] [] mem := by
  refine Wx.iconst hC te_128_0 rfl ?_
  refine Wx.istore_n hC te_128_1 rfl ?_
  refine Wx.iconst hC te_128_2 rfl ?_
  refine Wx.istore_n hC te_128_3 rfl ?_
  refine Wx.iconst hC te_128_4 rfl ?_
  refine Wx.istore hC te_128_5 rfl ?_
  exact H
theorem w_128_7 {C : CXW} (hC : Cmono C) {S : Nat × (Nat → Int32)} {K : WK} {mem : MM} {x1 x2 x3 x4 : Int} (H : ((x1 ≤ x4 → (InI x2 → K (some x2) mem)) ∧ (¬ (x1 ≤ x4) → ∀ v1 : Int, v1 = mem 129 3 → InI v1 → ∀ b2 : Int, b2 = ((fun (x y : Int32) => x <<< (y &&& 31)) (Int32.ofInt 1) (Int32.ofInt x4)).toInt → InI b2 → ∀ b3 : Int, b3 = ((fun (x y : Int32) => x &&& y) (Int32.ofInt v1) (Int32.ofInt b2)).toInt → InI b3 → ((¬ b3 = 0 → (InI (x4 + 1)) ∧ (Wx C S M_128 K 7 [some (.inr 129), some (.inl x1), some (.inl x2), some (.inl x3), some (.inl (x4 + 1))] [] mem)) ∧ (¬ (¬ b3 = 0) → ((0 : Int) ≤ x4 ∧ (x4 : Int) < 8) ∧ ∀ v4 : Int, v4 = mem 133 (Int.toNat x4) → InI v4 → ((v4 ≤ x3 → (InI (x4 + 1)) ∧ (Wx C S M_128 K 7 [some (.inr 129), some (.inl x1), some (.inl x2), some (.inl x3), some (.inl (x4 + 1))] [] mem)) ∧ (¬ (v4 ≤ x3) → ((0 : Int) ≤ x4 ∧ (x4 : Int) < 8) ∧ ∀ v5 : Int, v5 = mem 133 (Int.toNat x4) → InI v5 → (InI (x4 + 1)) ∧ (Wx C S M_128 K 7 [some (.inr 129), some (.inl x1), some (.inl x4), some (.inl v5), some (.inl (x4 + 1))] [] mem)))))))) : Wx C S M_128 K 7 [some (.inr 129), some (.inl x1), some (.inl x2), some (.inl x3), some (.inl x4)] [] mem := by
  refine Wx.iload hC te_128_7 rfl ?_
  refine Wx.iload_n hC te_128_9 rfl ?_
  refine Wx.icmp hC (t := 53) te_128_10 (by decide) (fun q => ?_) (fun q => ?_)
  · replace H := H.1 q
    refine Wx.iload_n hC te_128_53 rfl ?_
    exact Wx.ireturn hC te_128_54 rfl H
  · replace H := H.2 q
    refine Wx.aload_n hC te_128_13 rfl ?_
    refine Wx.getI hC te_128_14 rfl rfl rfl (fun v1 e1 e2 => ?_)
    replace H := H v1 e1 e2
    refine Wx.iconst hC te_128_17 rfl ?_
    refine Wx.iload hC te_128_18 rfl ?_
    refine Wx.bits hC (f := (fun (x y : Int32) => x <<< (y &&& 31))) te_128_20 (fun _ _ _ _ => Iff.rfl) (fun b2 e1 e2 => ?_)
    replace H := H b2 e1 e2
    refine Wx.bits hC (f := (fun (x y : Int32) => x &&& y)) te_128_21 (fun _ _ _ _ => Iff.rfl) (fun b3 e1 e2 => ?_)
    replace H := H b3 e1 e2
    refine Wx.ifc hC (t := 47) te_128_22 (by decide) (fun q => ?_) (fun q => ?_)
    · replace H := H.1 q
      refine Wx.iinc hC te_128_47 rfl rfl H.1 ?_
      replace H := H.2
      refine Wx.goto hC (t := 7) te_128_50 (by decide) ?_
      exact H
    · replace H := H.2 q
      refine Wx.aload_n hC te_128_25 rfl ?_
      refine Wx.getR hC te_128_26 rfl rfl rfl ?_
      refine Wx.iload hC te_128_29 rfl ?_
      refine Wx.iald hC te_128_31 rfl H.1 (fun v4 e1 e2 => ?_)
      replace H := H.2 v4 e1 e2
      refine Wx.iload_n hC te_128_32 rfl ?_
      refine Wx.icmp hC (t := 47) te_128_33 (by decide) (fun q => ?_) (fun q => ?_)
      · replace H := H.1 q
        refine Wx.iinc hC te_128_47 rfl rfl H.1 ?_
        replace H := H.2
        refine Wx.goto hC (t := 7) te_128_50 (by decide) ?_
        exact H
      · replace H := H.2 q
        refine Wx.aload_n hC te_128_36 rfl ?_
        refine Wx.getR hC te_128_37 rfl rfl rfl ?_
        refine Wx.iload hC te_128_40 rfl ?_
        refine Wx.iald hC te_128_42 rfl H.1 (fun v5 e1 e2 => ?_)
        replace H := H.2 v5 e1 e2
        refine Wx.istore_n hC te_128_43 rfl ?_
        refine Wx.iload hC te_128_44 rfl ?_
        refine Wx.istore_n hC te_128_46 rfl ?_
        refine Wx.iinc hC te_128_47 rfl rfl H.1 ?_
        replace H := H.2
        refine Wx.goto hC (t := 7) te_128_50 (by decide) ?_
        exact H
theorem w_130_0 {C : CXW} (hC : Cmono C) {S : Nat × (Nat → Int32)} {K : WK} {mem : MM} {x2 : Int} (H : (Wx C S M_130 K 5 [some (.inr 129), some (.inr 9), some (.inl x2), some (.inl 0), some (.inl 0), none] [] mem)) : Wx C S M_130 K 0 [some (.inr 129), some (.inr 9), some (.inl x2), none, none, none] [] mem := by
  refine Wx.iconst hC te_130_0 rfl ?_
  refine Wx.istore_n hC te_130_1 rfl ?_
  refine Wx.iconst hC te_130_2 rfl ?_
  refine Wx.istore hC te_130_3 rfl ?_
  exact H
theorem w_130_5 {C : CXW} (hC : Cmono C) {S : Nat × (Nat → Int32)} {K : WK} {mem : MM} {x2 x3 x4 : Int} (H : ∀ v1 : Int, v1 = mem 9 0 → InI v1 → ((v1 ≤ x4 → (InI x3 → K (some x3) mem)) ∧ (¬ (v1 ≤ x4) → ((0 : Int) ≤ x4 ∧ (x4 : Int) < 64) ∧ ∀ v2 : Int, v2 = mem 10 (Int.toNat x4) → InI v2 → ((0 : Int) ≤ x4 ∧ (x4 : Int) < 64) ∧ ∀ v3 : Int, v3 = mem 11 (Int.toNat x4) → InI v3 → ((¬ v3 = x2 → (InI (x4 + 1)) ∧ (Wx C S M_130 K 5 [some (.inr 129), some (.inr 9), some (.inl x2), some (.inl x3), some (.inl (x4 + 1)), none] [] mem)) ∧ (¬ (¬ v3 = x2) → ((v2 = x2 → (InI (x4 + 1)) ∧ (Wx C S M_130 K 5 [some (.inr 129), some (.inr 9), some (.inl x2), some (.inl x3), some (.inl (x4 + 1)), none] [] mem)) ∧ (¬ (v2 = x2) → ∀ v4 : Int, v4 = mem 129 3 → InI v4 → ∀ b5 : Int, b5 = ((fun (x y : Int32) => x <<< (y &&& 31)) (Int32.ofInt 1) (Int32.ofInt v2)).toInt → InI b5 → ∀ b6 : Int, b6 = ((fun (x y : Int32) => x &&& y) (Int32.ofInt v4) (Int32.ofInt b5)).toInt → InI b6 → ((b6 = 0 → (InI (x4 + 1)) ∧ (Wx C S M_130 K 5 [some (.inr 129), some (.inr 9), some (.inl x2), some (.inl x3), some (.inl (x4 + 1)), none] [] mem)) ∧ (¬ (b6 = 0) → ((0 : Int) ≤ v2 ∧ (v2 : Int) < 8) ∧ ∀ v7 : Int, v7 = mem 130 (Int.toNat v2) → InI v7 → ((0 : Int) ≤ x4 ∧ (x4 : Int) < 64) ∧ ∀ v8 : Int, v8 = mem 13 (Int.toNat x4) → InI v8 → (InI (v7 + v8)) ∧ ∀ v9 : Int, v9 = mem 129 0 → InI v9 → ((0 : Int) ≤ x4 ∧ (x4 : Int) < 64) ∧ ∀ v10 : Int, v10 = mem 12 (Int.toNat x4) → InI v10 → (InI (v9 * v10)) ∧ (InI ((v7 + v8) - (v9 * v10))) ∧ (CWI C 40 [.inl x3, .inl ((v7 + v8) - (v9 * v10))] mem fun r12 m11 => InI r12 → (InI (x4 + 1)) ∧ (Wx C S M_130 K 5 [some (.inr 129), some (.inr 9), some (.inl x2), some (.inl r12), some (.inl (x4 + 1)), none] [] m11))))))))))) : Wx C S M_130 K 5 [some (.inr 129), some (.inr 9), some (.inl x2), some (.inl x3), some (.inl x4), none] [] mem := by
  refine Wx.iload hC te_130_5 rfl ?_
  refine Wx.aload_n hC te_130_7 rfl ?_
  refine Wx.getI hC te_130_8 rfl rfl rfl (fun v1 e1 e2 => ?_)
  replace H := H v1 e1 e2
  refine Wx.icmp hC (t := 91) te_130_11 (by decide) (fun q => ?_) (fun q => ?_)
  · replace H := H.1 q
    refine Wx.iload_n hC te_130_91 rfl ?_
    exact Wx.ireturn hC te_130_92 rfl H
  · replace H := H.2 q
    refine Wx.aload_n hC te_130_14 rfl ?_
    refine Wx.getR hC te_130_15 rfl rfl rfl ?_
    refine Wx.iload hC te_130_18 rfl ?_
    refine Wx.iald hC te_130_20 rfl H.1 (fun v2 e1 e2 => ?_)
    replace H := H.2 v2 e1 e2
    refine Wx.istore hC te_130_21 rfl ?_
    refine Wx.aload_n hC te_130_23 rfl ?_
    refine Wx.getR hC te_130_24 rfl rfl rfl ?_
    refine Wx.iload hC te_130_27 rfl ?_
    refine Wx.iald hC te_130_29 rfl H.1 (fun v3 e1 e2 => ?_)
    replace H := H.2 v3 e1 e2
    refine Wx.iload_n hC te_130_30 rfl ?_
    refine Wx.icmp hC (t := 85) te_130_31 (by decide) (fun q => ?_) (fun q => ?_)
    · replace H := H.1 q
      refine Wx.iinc hC te_130_85 rfl rfl H.1 ?_
      replace H := H.2
      refine Wx.goto hC (t := 5) te_130_88 (by decide) ?_
      exact Wx.weak (by repeat' (first | exact trivial | exact rfl | constructor)) H
    · replace H := H.2 q
      refine Wx.iload hC te_130_34 rfl ?_
      refine Wx.iload_n hC te_130_36 rfl ?_
      refine Wx.icmp hC (t := 85) te_130_37 (by decide) (fun q => ?_) (fun q => ?_)
      · replace H := H.1 q
        refine Wx.iinc hC te_130_85 rfl rfl H.1 ?_
        replace H := H.2
        refine Wx.goto hC (t := 5) te_130_88 (by decide) ?_
        exact Wx.weak (by repeat' (first | exact trivial | exact rfl | constructor)) H
      · replace H := H.2 q
        refine Wx.aload_n hC te_130_40 rfl ?_
        refine Wx.getI hC te_130_41 rfl rfl rfl (fun v4 e1 e2 => ?_)
        replace H := H v4 e1 e2
        refine Wx.iconst hC te_130_44 rfl ?_
        refine Wx.iload hC te_130_45 rfl ?_
        refine Wx.bits hC (f := (fun (x y : Int32) => x <<< (y &&& 31))) te_130_47 (fun _ _ _ _ => Iff.rfl) (fun b5 e1 e2 => ?_)
        replace H := H b5 e1 e2
        refine Wx.bits hC (f := (fun (x y : Int32) => x &&& y)) te_130_48 (fun _ _ _ _ => Iff.rfl) (fun b6 e1 e2 => ?_)
        replace H := H b6 e1 e2
        refine Wx.ifc hC (t := 85) te_130_49 (by decide) (fun q => ?_) (fun q => ?_)
        · replace H := H.1 q
          refine Wx.iinc hC te_130_85 rfl rfl H.1 ?_
          replace H := H.2
          refine Wx.goto hC (t := 5) te_130_88 (by decide) ?_
          exact Wx.weak (by repeat' (first | exact trivial | exact rfl | constructor)) H
        · replace H := H.2 q
          refine Wx.iload_n hC te_130_52 rfl ?_
          refine Wx.aload_n hC te_130_53 rfl ?_
          refine Wx.getR hC te_130_54 rfl rfl rfl ?_
          refine Wx.iload hC te_130_57 rfl ?_
          refine Wx.iald hC te_130_59 rfl H.1 (fun v7 e1 e2 => ?_)
          replace H := H.2 v7 e1 e2
          refine Wx.aload_n hC te_130_60 rfl ?_
          refine Wx.getR hC te_130_61 rfl rfl rfl ?_
          refine Wx.iload hC te_130_64 rfl ?_
          refine Wx.iald hC te_130_66 rfl H.1 (fun v8 e1 e2 => ?_)
          replace H := H.2 v8 e1 e2
          refine Wx.iadd hC te_130_67 H.1 ?_
          replace H := H.2
          refine Wx.aload_n hC te_130_68 rfl ?_
          refine Wx.getI hC te_130_69 rfl rfl rfl (fun v9 e1 e2 => ?_)
          replace H := H v9 e1 e2
          refine Wx.aload_n hC te_130_72 rfl ?_
          refine Wx.getR hC te_130_73 rfl rfl rfl ?_
          refine Wx.iload hC te_130_76 rfl ?_
          refine Wx.iald hC te_130_78 rfl H.1 (fun v10 e1 e2 => ?_)
          replace H := H.2 v10 e1 e2
          refine Wx.imul hC te_130_79 H.1 ?_
          replace H := H.2
          refine Wx.isub hC te_130_80 H.1 ?_
          replace H := H.2
          refine Wx.statI hC te_130_81 (by decide) mt_40 (args := [.inl x3, .inl ((v7 + v8) - (v9 * v10))]) (rest := []) rfl rfl rfl rfl rfl ?_
          refine CWI.mono hC (fun r12 m11 H hy => ?_) H
          replace H := H hy
          refine Wx.istore_n hC te_130_84 rfl ?_
          refine Wx.iinc hC te_130_85 rfl rfl H.1 ?_
          replace H := H.2
          refine Wx.goto hC (t := 5) te_130_88 (by decide) ?_
          exact Wx.weak (by repeat' (first | exact trivial | exact rfl | constructor)) H
theorem w_133_0 {C : CXW} (hC : Cmono C) {S : Nat × (Nat → Int32)} {K : WK} {mem : MM} {x2 : Int} (H : (Wx C S M_133 K 5 [some (.inr 129), some (.inr 1), some (.inl x2), some (.inl 0), some (.inl 0)] [] mem)) : Wx C S M_133 K 0 [some (.inr 129), some (.inr 1), some (.inl x2), none, none] [] mem := by
  refine Wx.iconst hC te_133_0 rfl ?_
  refine Wx.istore_n hC te_133_1 rfl ?_
  refine Wx.iconst hC te_133_2 rfl ?_
  refine Wx.istore hC te_133_3 rfl ?_
  exact H
theorem w_133_5 {C : CXW} (hC : Cmono C) {S : Nat × (Nat → Int32)} {K : WK} {mem : MM} {x2 x3 x4 : Int} (H : ((4 ≤ x4 → (InI x3 → K (some x3) mem)) ∧ (¬ (4 ≤ x4) → (CWI C 38 [.inr 1, .inl x2] mem fun r2 m1 => InI r2 → ∀ b3 : Int, b3 = ((fun (x y : Int32) => x <<< (y &&& 31)) (Int32.ofInt 1) (Int32.ofInt x4)).toInt → InI b3 → ∀ b4 : Int, b4 = ((fun (x y : Int32) => x &&& y) (Int32.ofInt r2) (Int32.ofInt b3)).toInt → InI b4 → ((b4 = 0 → (InI (x4 + 1)) ∧ (Wx C S M_133 K 5 [some (.inr 129), some (.inr 1), some (.inl x2), some (.inl x3), some (.inl (x4 + 1))] [] m1)) ∧ (¬ (b4 = 0) → ((0 : Int) ≤ x2 ∧ (x2 : Int) < 8) ∧ ∀ v5 : Int, v5 = m1 130 (Int.toNat x2) → InI v5 → (InI (v5 + x4)) ∧ ∀ v6 : Int, v6 = m1 129 0 → InI v6 → (0 < v6) ∧ ∀ b7 : Int, b7 = ((fun (x y : Int32) => x <<< (y &&& 31)) (Int32.ofInt 1) (Int32.ofInt (((v5 + x4) : Int).tmod v6))).toInt → InI b7 → ∀ b8 : Int, b8 = ((fun (x y : Int32) => x ||| y) (Int32.ofInt x3) (Int32.ofInt b7)).toInt → InI b8 → (InI (x4 + 1)) ∧ (Wx C S M_133 K 5 [some (.inr 129), some (.inr 1), some (.inl x2), some (.inl b8), some (.inl (x4 + 1))] [] m1))))))) : Wx C S M_133 K 5 [some (.inr 129), some (.inr 1), some (.inl x2), some (.inl x3), some (.inl x4)] [] mem := by
  refine Wx.iload hC te_133_5 rfl ?_
  refine Wx.iconst hC te_133_7 rfl ?_
  refine Wx.icmp hC (t := 49) te_133_8 (by decide) (fun q => ?_) (fun q => ?_)
  · replace H := H.1 q
    refine Wx.iload_n hC te_133_49 rfl ?_
    exact Wx.ireturn hC te_133_50 rfl H
  · replace H := H.2 q
    refine Wx.aload_n hC te_133_11 rfl ?_
    refine Wx.iload_n hC te_133_12 rfl ?_
    refine Wx.virtI hC te_133_13 mt_38 (args := [.inr 1, .inl x2]) (rest := []) rfl rfl rfl rfl rfl rfl rfl rfl ?_
    refine CWI.mono hC (fun r2 m1 H hy => ?_) H
    replace H := H hy
    refine Wx.iconst hC te_133_16 rfl ?_
    refine Wx.iload hC te_133_17 rfl ?_
    refine Wx.bits hC (f := (fun (x y : Int32) => x <<< (y &&& 31))) te_133_19 (fun _ _ _ _ => Iff.rfl) (fun b3 e1 e2 => ?_)
    replace H := H b3 e1 e2
    refine Wx.bits hC (f := (fun (x y : Int32) => x &&& y)) te_133_20 (fun _ _ _ _ => Iff.rfl) (fun b4 e1 e2 => ?_)
    replace H := H b4 e1 e2
    refine Wx.ifc hC (t := 43) te_133_21 (by decide) (fun q => ?_) (fun q => ?_)
    · replace H := H.1 q
      refine Wx.iinc hC te_133_43 rfl rfl H.1 ?_
      replace H := H.2
      refine Wx.goto hC (t := 5) te_133_46 (by decide) ?_
      exact H
    · replace H := H.2 q
      refine Wx.iload_n hC te_133_24 rfl ?_
      refine Wx.iconst hC te_133_25 rfl ?_
      refine Wx.aload_n hC te_133_26 rfl ?_
      refine Wx.getR hC te_133_27 rfl rfl rfl ?_
      refine Wx.iload_n hC te_133_30 rfl ?_
      refine Wx.iald hC te_133_31 rfl H.1 (fun v5 e1 e2 => ?_)
      replace H := H.2 v5 e1 e2
      refine Wx.iload hC te_133_32 rfl ?_
      refine Wx.iadd hC te_133_34 H.1 ?_
      replace H := H.2
      refine Wx.aload_n hC te_133_35 rfl ?_
      refine Wx.getI hC te_133_36 rfl rfl rfl (fun v6 e1 e2 => ?_)
      replace H := H v6 e1 e2
      refine Wx.irem hC te_133_39 H.1 ?_
      replace H := H.2
      refine Wx.bits hC (f := (fun (x y : Int32) => x <<< (y &&& 31))) te_133_40 (fun _ _ _ _ => Iff.rfl) (fun b7 e1 e2 => ?_)
      replace H := H b7 e1 e2
      refine Wx.bits hC (f := (fun (x y : Int32) => x ||| y)) te_133_41 (fun _ _ _ _ => Iff.rfl) (fun b8 e1 e2 => ?_)
      replace H := H b8 e1 e2
      refine Wx.istore_n hC te_133_42 rfl ?_
      refine Wx.iinc hC te_133_43 rfl rfl H.1 ?_
      replace H := H.2
      refine Wx.goto hC (t := 5) te_133_46 (by decide) ?_
      exact H
theorem w_132_0 {C : CXW} (hC : Cmono C) {S : Nat × (Nat → Int32)} {K : WK} {mem : MM} {x2 x3 : Int} (H : (CWI C 37 [.inr 1, .inl x2] mem fun r2 m1 => InI r2 → ((0 : Int) ≤ r2 ∧ (r2 : Int) < 3) ∧ ∀ v3 : Int, v3 = m1 8 (Int.toNat r2) → InI v3 → (CWI C 133 [.inr 129, .inr 1, .inl x2] m1 fun r5 m4 => InI r5 → (CWI C 133 [.inr 129, .inr 1, .inl x3] m4 fun r7 m6 => InI r7 → ∀ b8 : Int, b8 = ((fun (x y : Int32) => x &&& y) (Int32.ofInt r5) (Int32.ofInt r7)).toInt → InI b8 → (Wx C S M_132 K 30 [some (.inr 129), some (.inr 1), some (.inl x2), some (.inl x3), some (.inl v3), some (.inl b8), some (.inl 0)] [] m6))))) : Wx C S M_132 K 0 [some (.inr 129), some (.inr 1), some (.inl x2), some (.inl x3), none, none, none] [] mem := by
  refine Wx.aload_n hC te_132_0 rfl ?_
  refine Wx.getR hC te_132_1 rfl rfl rfl ?_
  refine Wx.aload_n hC te_132_4 rfl ?_
  refine Wx.iload_n hC te_132_5 rfl ?_
  refine Wx.virtI hC te_132_6 mt_37 (args := [.inr 1, .inl x2]) (rest := [.inr 8]) rfl rfl rfl rfl rfl rfl rfl rfl ?_
  refine CWI.mono hC (fun r2 m1 H hy => ?_) H
  replace H := H hy
  refine Wx.iald hC te_132_9 rfl H.1 (fun v3 e1 e2 => ?_)
  replace H := H.2 v3 e1 e2
  refine Wx.istore hC te_132_10 rfl ?_
  refine Wx.aload_n hC te_132_12 rfl ?_
  refine Wx.aload_n hC te_132_13 rfl ?_
  refine Wx.iload_n hC te_132_14 rfl ?_
  refine Wx.virtI hC te_132_15 mt_133 (args := [.inr 129, .inr 1, .inl x2]) (rest := []) rfl rfl rfl rfl rfl rfl rfl rfl ?_
  refine CWI.mono hC (fun r5 m4 H hy => ?_) H
  replace H := H hy
  refine Wx.aload_n hC te_132_18 rfl ?_
  refine Wx.aload_n hC te_132_19 rfl ?_
  refine Wx.iload_n hC te_132_20 rfl ?_
  refine Wx.virtI hC te_132_21 mt_133 (args := [.inr 129, .inr 1, .inl x3]) (rest := [.inl r5]) rfl rfl rfl rfl rfl rfl rfl rfl ?_
  refine CWI.mono hC (fun r7 m6 H hy => ?_) H
  replace H := H hy
  refine Wx.bits hC (f := (fun (x y : Int32) => x &&& y)) te_132_24 (fun _ _ _ _ => Iff.rfl) (fun b8 e1 e2 => ?_)
  replace H := H b8 e1 e2
  refine Wx.istore hC te_132_25 rfl ?_
  refine Wx.iconst hC te_132_27 rfl ?_
  refine Wx.istore hC te_132_28 rfl ?_
  exact H
theorem w_132_30 {C : CXW} (hC : Cmono C) {S : Nat × (Nat → Int32)} {K : WK} {mem : MM} {x2 x3 x4 x5 x6 : Int} (H : ∀ v1 : Int, v1 = mem 129 0 → InI v1 → ((v1 ≤ x6 → (K (some 0) mem)) ∧ (¬ (v1 ≤ x6) → ∀ b2 : Int, b2 = ((fun (x y : Int32) => x <<< (y &&& 31)) (Int32.ofInt 1) (Int32.ofInt x6)).toInt → InI b2 → ∀ b3 : Int, b3 = ((fun (x y : Int32) => x &&& y) (Int32.ofInt x5) (Int32.ofInt b2)).toInt → InI b3 → ((b3 = 0 → (InI (x6 + 1)) ∧ (Wx C S M_132 K 30 [some (.inr 129), some (.inr 1), some (.inl x2), some (.inl x3), some (.inl x4), some (.inl x5), some (.inl (x6 + 1))] [] mem)) ∧ (¬ (b3 = 0) → ((0 : Int) ≤ x6 ∧ (x6 : Int) < 12) ∧ ∀ v4 : Int, v4 = mem 132 (Int.toNat x6) → InI v4 → ((v4 ≤ x4 → (InI (x6 + 1)) ∧ (Wx C S M_132 K 30 [some (.inr 129), some (.inr 1), some (.inl x2), some (.inl x3), some (.inl x4), some (.inl x5), some (.inl (x6 + 1))] [] mem)) ∧ (¬ (v4 ≤ x4) → (K (some 1) mem)))))))) : Wx C S M_132 K 30 [some (.inr 129), some (.inr 1), some (.inl x2), some (.inl x3), some (.inl x4), some (.inl x5), some (.inl x6)] [] mem := by
  refine Wx.iload hC te_132_30 rfl ?_
  refine Wx.aload_n hC te_132_32 rfl ?_
  refine Wx.getI hC te_132_33 rfl rfl rfl (fun v1 e1 e2 => ?_)
  replace H := H v1 e1 e2
  refine Wx.icmp hC (t := 69) te_132_36 (by decide) (fun q => ?_) (fun q => ?_)
  · replace H := H.1 q
    refine Wx.iconst hC te_132_69 rfl ?_
    exact Wx.bret hC te_132_70 rfl (Or.inl rfl) H
  · replace H := H.2 q
    refine Wx.iload hC te_132_39 rfl ?_
    refine Wx.iconst hC te_132_41 rfl ?_
    refine Wx.iload hC te_132_42 rfl ?_
    refine Wx.bits hC (f := (fun (x y : Int32) => x <<< (y &&& 31))) te_132_44 (fun _ _ _ _ => Iff.rfl) (fun b2 e1 e2 => ?_)
    replace H := H b2 e1 e2
    refine Wx.bits hC (f := (fun (x y : Int32) => x &&& y)) te_132_45 (fun _ _ _ _ => Iff.rfl) (fun b3 e1 e2 => ?_)
    replace H := H b3 e1 e2
    refine Wx.ifc hC (t := 63) te_132_46 (by decide) (fun q => ?_) (fun q => ?_)
    · replace H := H.1 q
      refine Wx.iinc hC te_132_63 rfl rfl H.1 ?_
      replace H := H.2
      refine Wx.goto hC (t := 30) te_132_66 (by decide) ?_
      exact H
    · replace H := H.2 q
      refine Wx.aload_n hC te_132_49 rfl ?_
      refine Wx.getR hC te_132_50 rfl rfl rfl ?_
      refine Wx.iload hC te_132_53 rfl ?_
      refine Wx.iald hC te_132_55 rfl H.1 (fun v4 e1 e2 => ?_)
      replace H := H.2 v4 e1 e2
      refine Wx.iload hC te_132_56 rfl ?_
      refine Wx.icmp hC (t := 63) te_132_58 (by decide) (fun q => ?_) (fun q => ?_)
      · replace H := H.1 q
        refine Wx.iinc hC te_132_63 rfl rfl H.1 ?_
        replace H := H.2
        refine Wx.goto hC (t := 30) te_132_66 (by decide) ?_
        exact H
      · replace H := H.2 q
        refine Wx.iconst hC te_132_61 rfl ?_
        exact Wx.bret hC te_132_62 rfl (Or.inr rfl) H
theorem w_131_0 {C : CXW} (hC : Cmono C) {S : Nat × (Nat → Int32)} {K : WK} {mem : MM} {x2 : Int} (H : (CWI C 37 [.inr 1, .inl x2] mem fun r2 m1 => InI r2 → (CWV C 124 [.inr 129, .inr 1, .inl r2] m1 fun m3 => (Wx C S M_131 K 15 [some (.inr 129), some (.inr 1), some (.inl x2), some (.inl r2), some (.inl 0), none] [] m3)))) : Wx C S M_131 K 0 [some (.inr 129), some (.inr 1), some (.inl x2), none, none, none] [] mem := by
  refine Wx.aload_n hC te_131_0 rfl ?_
  refine Wx.iload_n hC te_131_1 rfl ?_
  refine Wx.virtI hC te_131_2 mt_37 (args := [.inr 1, .inl x2]) (rest := []) rfl rfl rfl rfl rfl rfl rfl rfl ?_
  refine CWI.mono hC (fun r2 m1 H hy => ?_) H
  replace H := H hy
  refine Wx.istore_n hC te_131_5 rfl ?_
  refine Wx.aload_n hC te_131_6 rfl ?_
  refine Wx.aload_n hC te_131_7 rfl ?_
  refine Wx.iload_n hC te_131_8 rfl ?_
  refine Wx.virtV hC te_131_9 mt_124 (args := [.inr 129, .inr 1, .inl r2]) (rest := []) rfl rfl rfl rfl rfl rfl rfl rfl ?_
  refine CWV.mono hC (fun m3 H => ?_) H
  refine Wx.iconst hC te_131_12 rfl ?_
  refine Wx.istore hC te_131_13 rfl ?_
  exact H
theorem w_131_15 {C : CXW} (hC : Cmono C) {S : Nat × (Nat → Int32)} {K : WK} {mem : MM} {x2 x3 x4 : Int} (H : ∀ v1 : Int, v1 = mem 1 0 → InI v1 → ((v1 ≤ x4 → (K none mem)) ∧ (¬ (v1 ≤ x4) → ((x4 = x2 → (InI (x4 + 1)) ∧ (Wx C S M_131 K 15 [some (.inr 129), some (.inr 1), some (.inl x2), some (.inl x3), some (.inl (x4 + 1)), none] [] mem)) ∧ (¬ (x4 = x2) → (CWI C 37 [.inr 1, .inl x4] mem fun r3 m2 => InI r3 → ((¬ r3 = x3 → (InI (x4 + 1)) ∧ (Wx C S M_131 K 15 [some (.inr 129), some (.inr 1), some (.inl x2), some (.inl x3), some (.inl (x4 + 1)), none] [] m2)) ∧ (¬ (¬ r3 = x3) → ∀ v4 : Int, v4 = m2 129 3 → InI v4 → ∀ b5 : Int, b5 = ((fun (x y : Int32) => x <<< (y &&& 31)) (Int32.ofInt 1) (Int32.ofInt x4)).toInt → InI b5 → ∀ b6 : Int, b6 = ((fun (x y : Int32) => x &&& y) (Int32.ofInt v4) (Int32.ofInt b5)).toInt → InI b6 → ((b6 = 0 → (InI (x4 + 1)) ∧ (Wx C S M_131 K 15 [some (.inr 129), some (.inr 1), some (.inl x2), some (.inl x3), some (.inl (x4 + 1)), none] [] m2)) ∧ (¬ (b6 = 0) → (CWI C 132 [.inr 129, .inr 1, .inl x2, .inl x4] m2 fun r8 m7 => InI r8 → ((r8 = 0 → (InI (x4 + 1)) ∧ (Wx C S M_131 K 15 [some (.inr 129), some (.inr 1), some (.inl x2), some (.inl x3), some (.inl (x4 + 1)), none] [] m7)) ∧ (¬ (r8 = 0) → ∀ v9 : Int, v9 = m7 129 3 → InI v9 → ∀ b10 : Int, b10 = ((fun (x y : Int32) => x <<< (y &&& 31)) (Int32.ofInt 1) (Int32.ofInt x4)).toInt → InI b10 → ∀ b11 : Int, b11 = ((fun (x y : Int32) => x ^^^ y) (Int32.ofInt b10) (Int32.ofInt (-1))).toInt → InI b11 → ∀ b12 : Int, b12 = ((fun (x y : Int32) => x &&& y) (Int32.ofInt v9) (Int32.ofInt b11)).toInt → InI b12 → (CWI C 38 [.inr 1, .inl x4] (upm m7 129 3 b12) fun r14 m13 => InI r14 → ((0 : Int) ≤ x4 ∧ (x4 : Int) < 8) ∧ ∀ v15 : Int, v15 = m13 130 (Int.toNat x4) → InI v15 → (CWV C 125 [.inr 129, .inl r14, .inl v15, .inl (-1)] m13 fun m16 => (InI (x4 + 1)) ∧ (Wx C S M_131 K 15 [some (.inr 129), some (.inr 1), some (.inl x2), some (.inl x3), some (.inl (x4 + 1)), none] [] m16)))))))))))))))) : Wx C S M_131 K 15 [some (.inr 129), some (.inr 1), some (.inl x2), some (.inl x3), some (.inl x4), none] [] mem := by
  refine Wx.iload hC te_131_15 rfl ?_
  refine Wx.aload_n hC te_131_17 rfl ?_
  refine Wx.getI hC te_131_18 rfl rfl rfl (fun v1 e1 e2 => ?_)
  replace H := H v1 e1 e2
  refine Wx.icmp hC (t := 114) te_131_21 (by decide) (fun q => ?_) (fun q => ?_)
  · replace H := H.1 q
    exact Wx.vret hC te_131_114 rfl H
  · replace H := H.2 q
    refine Wx.iload hC te_131_24 rfl ?_
    refine Wx.iload_n hC te_131_26 rfl ?_
    refine Wx.icmp hC (t := 44) te_131_27 (by decide) (fun q => ?_) (fun q => ?_)
    · replace H := H.1 q
      refine Wx.iconst hC te_131_44 rfl ?_
      refine Wx.istore hC te_131_45 rfl ?_
      refine Wx.iload hC te_131_47 rfl ?_
      refine Wx.ifc hC (t := 108) te_131_49 (by decide) (fun q => ?_) (fun q => absurd (show (0 : Int) = 0 by decide) q)
      refine Wx.iinc hC te_131_108 rfl rfl H.1 ?_
      replace H := H.2
      refine Wx.goto hC (t := 15) te_131_111 (by decide) ?_
      exact Wx.weak (by repeat' (first | exact trivial | exact rfl | constructor)) H
    · replace H := H.2 q
      refine Wx.aload_n hC te_131_30 rfl ?_
      refine Wx.iload hC te_131_31 rfl ?_
      refine Wx.virtI hC te_131_33 mt_37 (args := [.inr 1, .inl x4]) (rest := []) rfl rfl rfl rfl rfl rfl rfl rfl ?_
      refine CWI.mono hC (fun r3 m2 H hy => ?_) H
      replace H := H hy
      refine Wx.iload_n hC te_131_36 rfl ?_
      refine Wx.icmp hC (t := 44) te_131_37 (by decide) (fun q => ?_) (fun q => ?_)
      · replace H := H.1 q
        refine Wx.iconst hC te_131_44 rfl ?_
        refine Wx.istore hC te_131_45 rfl ?_
        refine Wx.iload hC te_131_47 rfl ?_
        refine Wx.ifc hC (t := 108) te_131_49 (by decide) (fun q => ?_) (fun q => absurd (show (0 : Int) = 0 by decide) q)
        refine Wx.iinc hC te_131_108 rfl rfl H.1 ?_
        replace H := H.2
        refine Wx.goto hC (t := 15) te_131_111 (by decide) ?_
        exact Wx.weak (by repeat' (first | exact trivial | exact rfl | constructor)) H
      · replace H := H.2 q
        refine Wx.iconst hC te_131_40 rfl ?_
        refine Wx.goto hC (t := 45) te_131_41 (by decide) ?_
        refine Wx.istore hC te_131_45 rfl ?_
        refine Wx.iload hC te_131_47 rfl ?_
        refine Wx.ifc hC (t := 108) te_131_49 (by decide) (fun q => absurd q (show ¬ ((1 : Int) = 0) by decide)) (fun q => ?_)
        refine Wx.aload_n hC te_131_52 rfl ?_
        refine Wx.getI hC te_131_53 rfl rfl rfl (fun v4 e1 e2 => ?_)
        replace H := H v4 e1 e2
        refine Wx.iconst hC te_131_56 rfl ?_
        refine Wx.iload hC te_131_57 rfl ?_
        refine Wx.bits hC (f := (fun (x y : Int32) => x <<< (y &&& 31))) te_131_59 (fun _ _ _ _ => Iff.rfl) (fun b5 e1 e2 => ?_)
        replace H := H b5 e1 e2
        refine Wx.bits hC (f := (fun (x y : Int32) => x &&& y)) te_131_60 (fun _ _ _ _ => Iff.rfl) (fun b6 e1 e2 => ?_)
        replace H := H b6 e1 e2
        refine Wx.ifc hC (t := 108) te_131_61 (by decide) (fun q => ?_) (fun q => ?_)
        · replace H := H.1 q
          refine Wx.iinc hC te_131_108 rfl rfl H.1 ?_
          replace H := H.2
          refine Wx.goto hC (t := 15) te_131_111 (by decide) ?_
          exact Wx.weak (by repeat' (first | exact trivial | exact rfl | constructor)) H
        · replace H := H.2 q
          refine Wx.aload_n hC te_131_64 rfl ?_
          refine Wx.aload_n hC te_131_65 rfl ?_
          refine Wx.iload_n hC te_131_66 rfl ?_
          refine Wx.iload hC te_131_67 rfl ?_
          refine Wx.virtI hC te_131_69 mt_132 (args := [.inr 129, .inr 1, .inl x2, .inl x4]) (rest := []) rfl rfl rfl rfl rfl rfl rfl rfl ?_
          refine CWI.mono hC (fun r8 m7 H hy => ?_) H
          replace H := H hy
          refine Wx.ifc hC (t := 108) te_131_72 (by decide) (fun q => ?_) (fun q => ?_)
          · replace H := H.1 q
            refine Wx.iinc hC te_131_108 rfl rfl H.1 ?_
            replace H := H.2
            refine Wx.goto hC (t := 15) te_131_111 (by decide) ?_
            exact Wx.weak (by repeat' (first | exact trivial | exact rfl | constructor)) H
          · replace H := H.2 q
            refine Wx.aload_n hC te_131_75 rfl ?_
            refine Wx.dup hC te_131_76 ?_
            refine Wx.getI hC te_131_77 rfl rfl rfl (fun v9 e1 e2 => ?_)
            replace H := H v9 e1 e2
            refine Wx.iconst hC te_131_80 rfl ?_
            refine Wx.iload hC te_131_81 rfl ?_
            refine Wx.bits hC (f := (fun (x y : Int32) => x <<< (y &&& 31))) te_131_83 (fun _ _ _ _ => Iff.rfl) (fun b10 e1 e2 => ?_)
            replace H := H b10 e1 e2
            refine Wx.iconst hC te_131_84 rfl ?_
            refine Wx.bits hC (f := (fun (x y : Int32) => x ^^^ y)) te_131_85 (fun _ _ _ _ => Iff.rfl) (fun b11 e1 e2 => ?_)
            replace H := H b11 e1 e2
            refine Wx.bits hC (f := (fun (x y : Int32) => x &&& y)) te_131_86 (fun _ _ _ _ => Iff.rfl) (fun b12 e1 e2 => ?_)
            replace H := H b12 e1 e2
            refine Wx.putI hC te_131_87 rfl rfl rfl rfl ?_
            refine Wx.aload_n hC te_131_90 rfl ?_
            refine Wx.aload_n hC te_131_91 rfl ?_
            refine Wx.iload hC te_131_92 rfl ?_
            refine Wx.virtI hC te_131_94 mt_38 (args := [.inr 1, .inl x4]) (rest := [.inr 129]) rfl rfl rfl rfl rfl rfl rfl rfl ?_
            refine CWI.mono hC (fun r14 m13 H hy => ?_) H
            replace H := H hy
            refine Wx.aload_n hC te_131_97 rfl ?_
            refine Wx.getR hC te_131_98 rfl rfl rfl ?_
            refine Wx.iload hC te_131_101 rfl ?_
            refine Wx.iald hC te_131_103 rfl H.1 (fun v15 e1 e2 => ?_)
            replace H := H.2 v15 e1 e2
            refine Wx.iconst hC te_131_104 rfl ?_
            refine Wx.virtV hC te_131_105 mt_125 (args := [.inr 129, .inl r14, .inl v15, .inl (-1)]) (rest := []) rfl rfl rfl rfl rfl rfl rfl rfl ?_
            refine CWV.mono hC (fun m16 H => ?_) H
            refine Wx.iinc hC te_131_108 rfl rfl H.1 ?_
            replace H := H.2
            refine Wx.goto hC (t := 15) te_131_111 (by decide) ?_
            exact Wx.weak (by repeat' (first | exact trivial | exact rfl | constructor)) H
theorem w_134_0 {C : CXW} (hC : Cmono C) {S : Nat × (Nat → Int32)} {K : WK} {mem : MM} {x2 : Int} (H : (Wx C S M_134 K 2 [some (.inr 129), some (.inr 9), some (.inl x2), some (.inl 0), none, none, none, none] [] mem)) : Wx C S M_134 K 0 [some (.inr 129), some (.inr 9), some (.inl x2), none, none, none, none, none] [] mem := by
  refine Wx.iconst hC te_134_0 rfl ?_
  refine Wx.istore_n hC te_134_1 rfl ?_
  exact H
theorem w_134_2 {C : CXW} (hC : Cmono C) {S : Nat × (Nat → Int32)} {K : WK} {mem : MM} {x2 x3 : Int} (H : ∀ v1 : Int, v1 = mem 9 0 → InI v1 → ((v1 ≤ x3 → (K none mem)) ∧ (¬ (v1 ≤ x3) → ((0 : Int) ≤ x3 ∧ (x3 : Int) < 64) ∧ ∀ v2 : Int, v2 = mem 10 (Int.toNat x3) → InI v2 → ((0 : Int) ≤ x3 ∧ (x3 : Int) < 64) ∧ ∀ v3 : Int, v3 = mem 11 (Int.toNat x3) → InI v3 → ∀ b4 : Int, b4 = ((fun (x y : Int32) => x <<< (y &&& 31)) (Int32.ofInt 1) (Int32.ofInt v2)).toInt → InI b4 → ∀ b5 : Int, b5 = ((fun (x y : Int32) => x <<< (y &&& 31)) (Int32.ofInt 1) (Int32.ofInt v3)).toInt → InI b5 → ∀ b6 : Int, b6 = ((fun (x y : Int32) => x ||| y) (Int32.ofInt b4) (Int32.ofInt b5)).toInt → InI b6 → ((¬ v2 = x2 → ((¬ v3 = x2 → (InI (x3 + 1)) ∧ (Wx C S M_134 K 2 [some (.inr 129), some (.inr 9), some (.inl x2), some (.inl (x3 + 1)), none, none, none, none] [] mem)) ∧ (¬ (¬ v3 = x2) → ∀ v7 : Int, v7 = mem 129 3 → InI v7 → ∀ b8 : Int, b8 = ((fun (x y : Int32) => x &&& y) (Int32.ofInt v7) (Int32.ofInt b6)).toInt → InI b8 → ((¬ b8 = b6 → (InI (x3 + 1)) ∧ (Wx C S M_134 K 2 [some (.inr 129), some (.inr 9), some (.inl x2), some (.inl (x3 + 1)), none, none, none, none] [] mem)) ∧ (¬ (¬ b8 = b6) → ((0 : Int) ≤ v3 ∧ (v3 : Int) < 8) ∧ ∀ v9 : Int, v9 = mem 130 (Int.toNat v3) → InI v9 → ((0 : Int) ≤ v2 ∧ (v2 : Int) < 8) ∧ ∀ v10 : Int, v10 = mem 130 (Int.toNat v2) → InI v10 → ((0 : Int) ≤ x3 ∧ (x3 : Int) < 64) ∧ ∀ v11 : Int, v11 = mem 13 (Int.toNat x3) → InI v11 → (InI (v10 + v11)) ∧ ∀ v12 : Int, v12 = mem 129 0 → InI v12 → ((0 : Int) ≤ x3 ∧ (x3 : Int) < 64) ∧ ∀ v13 : Int, v13 = mem 12 (Int.toNat x3) → InI v13 → (InI (v12 * v13)) ∧ (InI ((v10 + v11) - (v12 * v13))) ∧ ((((v10 + v11) - (v12 * v13)) ≤ v9 → (InI (x3 + 1)) ∧ (Wx C S M_134 K 2 [some (.inr 129), some (.inr 9), some (.inl x2), some (.inl (x3 + 1)), none, none, none, none] [] mem)) ∧ (¬ (((v10 + v11) - (v12 * v13)) ≤ v9) → ∀ v14 : Int, v14 = mem 129 3 → InI v14 → ∀ b15 : Int, b15 = ((fun (x y : Int32) => x ^^^ y) (Int32.ofInt b6) (Int32.ofInt (-1))).toInt → InI b15 → ∀ b16 : Int, b16 = ((fun (x y : Int32) => x &&& y) (Int32.ofInt v14) (Int32.ofInt b15)).toInt → InI b16 → ∀ v17 : Int, v17 = (upm mem 129 3 b16) 129 3 → InI v17 → ∀ b18 : Int, b18 = ((fun (x y : Int32) => x <<< (y &&& 31)) (Int32.ofInt 1) (Int32.ofInt x2)).toInt → InI b18 → ∀ b19 : Int, b19 = ((fun (x y : Int32) => x ||| y) (Int32.ofInt v17) (Int32.ofInt b18)).toInt → InI b19 → (InI (x3 + 1)) ∧ (Wx C S M_134 K 2 [some (.inr 129), some (.inr 9), some (.inl x2), some (.inl (x3 + 1)), none, none, none, none] [] (upm (upm mem 129 3 b16) 129 3 b19))))))))) ∧ (¬ (¬ v2 = x2) → ((¬ v3 = x2 → ∀ v20 : Int, v20 = mem 129 3 → InI v20 → ∀ b21 : Int, b21 = ((fun (x y : Int32) => x &&& y) (Int32.ofInt v20) (Int32.ofInt b6)).toInt → InI b21 → ((¬ b21 = b6 → (InI (x3 + 1)) ∧ (Wx C S M_134 K 2 [some (.inr 129), some (.inr 9), some (.inl x2), some (.inl (x3 + 1)), none, none, none, none] [] mem)) ∧ (¬ (¬ b21 = b6) → ((0 : Int) ≤ v3 ∧ (v3 : Int) < 8) ∧ ∀ v22 : Int, v22 = mem 130 (Int.toNat v3) → InI v22 → ((0 : Int) ≤ v2 ∧ (v2 : Int) < 8) ∧ ∀ v23 : Int, v23 = mem 130 (Int.toNat v2) → InI v23 → ((0 : Int) ≤ x3 ∧ (x3 : Int) < 64) ∧ ∀ v24 : Int, v24 = mem 13 (Int.toNat x3) → InI v24 → (InI (v23 + v24)) ∧ ∀ v25 : Int, v25 = mem 129 0 → InI v25 → ((0 : Int) ≤ x3 ∧ (x3 : Int) < 64) ∧ ∀ v26 : Int, v26 = mem 12 (Int.toNat x3) → InI v26 → (InI (v25 * v26)) ∧ (InI ((v23 + v24) - (v25 * v26))) ∧ ((((v23 + v24) - (v25 * v26)) ≤ v22 → (InI (x3 + 1)) ∧ (Wx C S M_134 K 2 [some (.inr 129), some (.inr 9), some (.inl x2), some (.inl (x3 + 1)), none, none, none, none] [] mem)) ∧ (¬ (((v23 + v24) - (v25 * v26)) ≤ v22) → ∀ v27 : Int, v27 = mem 129 3 → InI v27 → ∀ b28 : Int, b28 = ((fun (x y : Int32) => x ^^^ y) (Int32.ofInt b6) (Int32.ofInt (-1))).toInt → InI b28 → ∀ b29 : Int, b29 = ((fun (x y : Int32) => x &&& y) (Int32.ofInt v27) (Int32.ofInt b28)).toInt → InI b29 → ∀ v30 : Int, v30 = (upm mem 129 3 b29) 129 3 → InI v30 → ∀ b31 : Int, b31 = ((fun (x y : Int32) => x <<< (y &&& 31)) (Int32.ofInt 1) (Int32.ofInt x2)).toInt → InI b31 → ∀ b32 : Int, b32 = ((fun (x y : Int32) => x ||| y) (Int32.ofInt v30) (Int32.ofInt b31)).toInt → InI b32 → (InI (x3 + 1)) ∧ (Wx C S M_134 K 2 [some (.inr 129), some (.inr 9), some (.inl x2), some (.inl (x3 + 1)), none, none, none, none] [] (upm (upm mem 129 3 b29) 129 3 b32))))))) ∧ (¬ (¬ v3 = x2) → (InI (x3 + 1)) ∧ (Wx C S M_134 K 2 [some (.inr 129), some (.inr 9), some (.inl x2), some (.inl (x3 + 1)), none, none, none, none] [] mem)))))))) : Wx C S M_134 K 2 [some (.inr 129), some (.inr 9), some (.inl x2), some (.inl x3), none, none, none, none] [] mem := by
  refine Wx.iload_n hC te_134_2 rfl ?_
  refine Wx.aload_n hC te_134_3 rfl ?_
  refine Wx.getI hC te_134_4 rfl rfl rfl (fun v1 e1 e2 => ?_)
  replace H := H v1 e1 e2
  refine Wx.icmp hC (t := 153) te_134_7 (by decide) (fun q => ?_) (fun q => ?_)
  · replace H := H.1 q
    exact Wx.vret hC te_134_153 rfl H
  · replace H := H.2 q
    refine Wx.aload_n hC te_134_10 rfl ?_
    refine Wx.getR hC te_134_11 rfl rfl rfl ?_
    refine Wx.iload_n hC te_134_14 rfl ?_
    refine Wx.iald hC te_134_15 rfl H.1 (fun v2 e1 e2 => ?_)
    replace H := H.2 v2 e1 e2
    refine Wx.istore hC te_134_16 rfl ?_
    refine Wx.aload_n hC te_134_18 rfl ?_
    refine Wx.getR hC te_134_19 rfl rfl rfl ?_
    refine Wx.iload_n hC te_134_22 rfl ?_
    refine Wx.iald hC te_134_23 rfl H.1 (fun v3 e1 e2 => ?_)
    replace H := H.2 v3 e1 e2
    refine Wx.istore hC te_134_24 rfl ?_
    refine Wx.iconst hC te_134_26 rfl ?_
    refine Wx.iload hC te_134_27 rfl ?_
    refine Wx.bits hC (f := (fun (x y : Int32) => x <<< (y &&& 31))) te_134_29 (fun _ _ _ _ => Iff.rfl) (fun b4 e1 e2 => ?_)
    replace H := H b4 e1 e2
    refine Wx.iconst hC te_134_30 rfl ?_
    refine Wx.iload hC te_134_31 rfl ?_
    refine Wx.bits hC (f := (fun (x y : Int32) => x <<< (y &&& 31))) te_134_33 (fun _ _ _ _ => Iff.rfl) (fun b5 e1 e2 => ?_)
    replace H := H b5 e1 e2
    refine Wx.bits hC (f := (fun (x y : Int32) => x ||| y)) te_134_34 (fun _ _ _ _ => Iff.rfl) (fun b6 e1 e2 => ?_)
    replace H := H b6 e1 e2
    refine Wx.istore hC te_134_35 rfl ?_
    refine Wx.iload hC te_134_37 rfl ?_
    refine Wx.iload_n hC te_134_39 rfl ?_
    refine Wx.icmp hC (t := 47) te_134_40 (by decide) (fun q => ?_) (fun q => ?_)
    · replace H := H.1 q
      refine Wx.iconst hC te_134_47 rfl ?_
      refine Wx.iload hC te_134_48 rfl ?_
      refine Wx.iload_n hC te_134_50 rfl ?_
      refine Wx.icmp hC (t := 58) te_134_51 (by decide) (fun q => ?_) (fun q => ?_)
      · replace H := H.1 q
        refine Wx.iconst hC te_134_58 rfl ?_
        refine Wx.icmp hC (t := 78) te_134_59 (by decide) (fun q => ?_) (fun q => absurd (show (0 : Int) = 0 by decide) q)
        refine Wx.iconst hC te_134_78 rfl ?_
        refine Wx.istore hC te_134_79 rfl ?_
        refine Wx.iload hC te_134_81 rfl ?_
        refine Wx.ifc hC (t := 147) te_134_83 (by decide) (fun q => ?_) (fun q => absurd (show (0 : Int) = 0 by decide) q)
        refine Wx.iinc hC te_134_147 rfl rfl H.1 ?_
        replace H := H.2
        refine Wx.goto hC (t := 2) te_134_150 (by decide) ?_
        exact Wx.weak (by repeat' (first | exact trivial | exact rfl | constructor)) H
      · replace H := H.2 q
        refine Wx.iconst hC te_134_54 rfl ?_
        refine Wx.goto hC (t := 59) te_134_55 (by decide) ?_
        refine Wx.icmp hC (t := 78) te_134_59 (by decide) (fun q => absurd q (show ¬ ((0 : Int) = 1) by decide)) (fun q => ?_)
        refine Wx.aload_n hC te_134_62 rfl ?_
        refine Wx.getI hC te_134_63 rfl rfl rfl (fun v7 e1 e2 => ?_)
        replace H := H v7 e1 e2
        refine Wx.iload hC te_134_66 rfl ?_
        refine Wx.bits hC (f := (fun (x y : Int32) => x &&& y)) te_134_68 (fun _ _ _ _ => Iff.rfl) (fun b8 e1 e2 => ?_)
        replace H := H b8 e1 e2
        refine Wx.iload hC te_134_69 rfl ?_
        refine Wx.icmp hC (t := 78) te_134_71 (by decide) (fun q => ?_) (fun q => ?_)
        · replace H := H.1 q
          refine Wx.iconst hC te_134_78 rfl ?_
          refine Wx.istore hC te_134_79 rfl ?_
          refine Wx.iload hC te_134_81 rfl ?_
          refine Wx.ifc hC (t := 147) te_134_83 (by decide) (fun q => ?_) (fun q => absurd (show (0 : Int) = 0 by decide) q)
          refine Wx.iinc hC te_134_147 rfl rfl H.1 ?_
          replace H := H.2
          refine Wx.goto hC (t := 2) te_134_150 (by decide) ?_
          exact Wx.weak (by repeat' (first | exact trivial | exact rfl | constructor)) H
        · replace H := H.2 q
          refine Wx.iconst hC te_134_74 rfl ?_
          refine Wx.goto hC (t := 79) te_134_75 (by decide) ?_
          refine Wx.istore hC te_134_79 rfl ?_
          refine Wx.iload hC te_134_81 rfl ?_
          refine Wx.ifc hC (t := 147) te_134_83 (by decide) (fun q => absurd q (show ¬ ((1 : Int) = 0) by decide)) (fun q => ?_)
          refine Wx.aload_n hC te_134_86 rfl ?_
          refine Wx.getR hC te_134_87 rfl rfl rfl ?_
          refine Wx.iload hC te_134_90 rfl ?_
          refine Wx.iald hC te_134_92 rfl H.1 (fun v9 e1 e2 => ?_)
          replace H := H.2 v9 e1 e2
          refine Wx.aload_n hC te_134_93 rfl ?_
          refine Wx.getR hC te_134_94 rfl rfl rfl ?_
          refine Wx.iload hC te_134_97 rfl ?_
          refine Wx.iald hC te_134_99 rfl H.1 (fun v10 e1 e2 => ?_)
          replace H := H.2 v10 e1 e2
          refine Wx.aload_n hC te_134_100 rfl ?_
          refine Wx.getR hC te_134_101 rfl rfl rfl ?_
          refine Wx.iload_n hC te_134_104 rfl ?_
          refine Wx.iald hC te_134_105 rfl H.1 (fun v11 e1 e2 => ?_)
          replace H := H.2 v11 e1 e2
          refine Wx.iadd hC te_134_106 H.1 ?_
          replace H := H.2
          refine Wx.aload_n hC te_134_107 rfl ?_
          refine Wx.getI hC te_134_108 rfl rfl rfl (fun v12 e1 e2 => ?_)
          replace H := H v12 e1 e2
          refine Wx.aload_n hC te_134_111 rfl ?_
          refine Wx.getR hC te_134_112 rfl rfl rfl ?_
          refine Wx.iload_n hC te_134_115 rfl ?_
          refine Wx.iald hC te_134_116 rfl H.1 (fun v13 e1 e2 => ?_)
          replace H := H.2 v13 e1 e2
          refine Wx.imul hC te_134_117 H.1 ?_
          replace H := H.2
          refine Wx.isub hC te_134_118 H.1 ?_
          replace H := H.2
          refine Wx.icmp hC (t := 147) te_134_119 (by decide) (fun q => ?_) (fun q => ?_)
          · replace H := H.1 q
            refine Wx.iinc hC te_134_147 rfl rfl H.1 ?_
            replace H := H.2
            refine Wx.goto hC (t := 2) te_134_150 (by decide) ?_
            exact Wx.weak (by repeat' (first | exact trivial | exact rfl | constructor)) H
          · replace H := H.2 q
            refine Wx.aload_n hC te_134_122 rfl ?_
            refine Wx.dup hC te_134_123 ?_
            refine Wx.getI hC te_134_124 rfl rfl rfl (fun v14 e1 e2 => ?_)
            replace H := H v14 e1 e2
            refine Wx.iload hC te_134_127 rfl ?_
            refine Wx.iconst hC te_134_129 rfl ?_
            refine Wx.bits hC (f := (fun (x y : Int32) => x ^^^ y)) te_134_130 (fun _ _ _ _ => Iff.rfl) (fun b15 e1 e2 => ?_)
            replace H := H b15 e1 e2
            refine Wx.bits hC (f := (fun (x y : Int32) => x &&& y)) te_134_131 (fun _ _ _ _ => Iff.rfl) (fun b16 e1 e2 => ?_)
            replace H := H b16 e1 e2
            refine Wx.putI hC te_134_132 rfl rfl rfl rfl ?_
            refine Wx.aload_n hC te_134_135 rfl ?_
            refine Wx.dup hC te_134_136 ?_
            refine Wx.getI hC te_134_137 rfl rfl rfl (fun v17 e1 e2 => ?_)
            replace H := H v17 e1 e2
            refine Wx.iconst hC te_134_140 rfl ?_
            refine Wx.iload_n hC te_134_141 rfl ?_
            refine Wx.bits hC (f := (fun (x y : Int32) => x <<< (y &&& 31))) te_134_142 (fun _ _ _ _ => Iff.rfl) (fun b18 e1 e2 => ?_)
            replace H := H b18 e1 e2
            refine Wx.bits hC (f := (fun (x y : Int32) => x ||| y)) te_134_143 (fun _ _ _ _ => Iff.rfl) (fun b19 e1 e2 => ?_)
            replace H := H b19 e1 e2
            refine Wx.putI hC te_134_144 rfl rfl rfl rfl ?_
            refine Wx.iinc hC te_134_147 rfl rfl H.1 ?_
            replace H := H.2
            refine Wx.goto hC (t := 2) te_134_150 (by decide) ?_
            exact Wx.weak (by repeat' (first | exact trivial | exact rfl | constructor)) H
    · replace H := H.2 q
      refine Wx.iconst hC te_134_43 rfl ?_
      refine Wx.goto hC (t := 48) te_134_44 (by decide) ?_
      refine Wx.iload hC te_134_48 rfl ?_
      refine Wx.iload_n hC te_134_50 rfl ?_
      refine Wx.icmp hC (t := 58) te_134_51 (by decide) (fun q => ?_) (fun q => ?_)
      · replace H := H.1 q
        refine Wx.iconst hC te_134_58 rfl ?_
        refine Wx.icmp hC (t := 78) te_134_59 (by decide) (fun q => absurd q (show ¬ ((1 : Int) = 0) by decide)) (fun q => ?_)
        refine Wx.aload_n hC te_134_62 rfl ?_
        refine Wx.getI hC te_134_63 rfl rfl rfl (fun v20 e1 e2 => ?_)
        replace H := H v20 e1 e2
        refine Wx.iload hC te_134_66 rfl ?_
        refine Wx.bits hC (f := (fun (x y : Int32) => x &&& y)) te_134_68 (fun _ _ _ _ => Iff.rfl) (fun b21 e1 e2 => ?_)
        replace H := H b21 e1 e2
        refine Wx.iload hC te_134_69 rfl ?_
        refine Wx.icmp hC (t := 78) te_134_71 (by decide) (fun q => ?_) (fun q => ?_)
        · replace H := H.1 q
          refine Wx.iconst hC te_134_78 rfl ?_
          refine Wx.istore hC te_134_79 rfl ?_
          refine Wx.iload hC te_134_81 rfl ?_
          refine Wx.ifc hC (t := 147) te_134_83 (by decide) (fun q => ?_) (fun q => absurd (show (0 : Int) = 0 by decide) q)
          refine Wx.iinc hC te_134_147 rfl rfl H.1 ?_
          replace H := H.2
          refine Wx.goto hC (t := 2) te_134_150 (by decide) ?_
          exact Wx.weak (by repeat' (first | exact trivial | exact rfl | constructor)) H
        · replace H := H.2 q
          refine Wx.iconst hC te_134_74 rfl ?_
          refine Wx.goto hC (t := 79) te_134_75 (by decide) ?_
          refine Wx.istore hC te_134_79 rfl ?_
          refine Wx.iload hC te_134_81 rfl ?_
          refine Wx.ifc hC (t := 147) te_134_83 (by decide) (fun q => absurd q (show ¬ ((1 : Int) = 0) by decide)) (fun q => ?_)
          refine Wx.aload_n hC te_134_86 rfl ?_
          refine Wx.getR hC te_134_87 rfl rfl rfl ?_
          refine Wx.iload hC te_134_90 rfl ?_
          refine Wx.iald hC te_134_92 rfl H.1 (fun v22 e1 e2 => ?_)
          replace H := H.2 v22 e1 e2
          refine Wx.aload_n hC te_134_93 rfl ?_
          refine Wx.getR hC te_134_94 rfl rfl rfl ?_
          refine Wx.iload hC te_134_97 rfl ?_
          refine Wx.iald hC te_134_99 rfl H.1 (fun v23 e1 e2 => ?_)
          replace H := H.2 v23 e1 e2
          refine Wx.aload_n hC te_134_100 rfl ?_
          refine Wx.getR hC te_134_101 rfl rfl rfl ?_
          refine Wx.iload_n hC te_134_104 rfl ?_
          refine Wx.iald hC te_134_105 rfl H.1 (fun v24 e1 e2 => ?_)
          replace H := H.2 v24 e1 e2
          refine Wx.iadd hC te_134_106 H.1 ?_
          replace H := H.2
          refine Wx.aload_n hC te_134_107 rfl ?_
          refine Wx.getI hC te_134_108 rfl rfl rfl (fun v25 e1 e2 => ?_)
          replace H := H v25 e1 e2
          refine Wx.aload_n hC te_134_111 rfl ?_
          refine Wx.getR hC te_134_112 rfl rfl rfl ?_
          refine Wx.iload_n hC te_134_115 rfl ?_
          refine Wx.iald hC te_134_116 rfl H.1 (fun v26 e1 e2 => ?_)
          replace H := H.2 v26 e1 e2
          refine Wx.imul hC te_134_117 H.1 ?_
          replace H := H.2
          refine Wx.isub hC te_134_118 H.1 ?_
          replace H := H.2
          refine Wx.icmp hC (t := 147) te_134_119 (by decide) (fun q => ?_) (fun q => ?_)
          · replace H := H.1 q
            refine Wx.iinc hC te_134_147 rfl rfl H.1 ?_
            replace H := H.2
            refine Wx.goto hC (t := 2) te_134_150 (by decide) ?_
            exact Wx.weak (by repeat' (first | exact trivial | exact rfl | constructor)) H
          · replace H := H.2 q
            refine Wx.aload_n hC te_134_122 rfl ?_
            refine Wx.dup hC te_134_123 ?_
            refine Wx.getI hC te_134_124 rfl rfl rfl (fun v27 e1 e2 => ?_)
            replace H := H v27 e1 e2
            refine Wx.iload hC te_134_127 rfl ?_
            refine Wx.iconst hC te_134_129 rfl ?_
            refine Wx.bits hC (f := (fun (x y : Int32) => x ^^^ y)) te_134_130 (fun _ _ _ _ => Iff.rfl) (fun b28 e1 e2 => ?_)
            replace H := H b28 e1 e2
            refine Wx.bits hC (f := (fun (x y : Int32) => x &&& y)) te_134_131 (fun _ _ _ _ => Iff.rfl) (fun b29 e1 e2 => ?_)
            replace H := H b29 e1 e2
            refine Wx.putI hC te_134_132 rfl rfl rfl rfl ?_
            refine Wx.aload_n hC te_134_135 rfl ?_
            refine Wx.dup hC te_134_136 ?_
            refine Wx.getI hC te_134_137 rfl rfl rfl (fun v30 e1 e2 => ?_)
            replace H := H v30 e1 e2
            refine Wx.iconst hC te_134_140 rfl ?_
            refine Wx.iload_n hC te_134_141 rfl ?_
            refine Wx.bits hC (f := (fun (x y : Int32) => x <<< (y &&& 31))) te_134_142 (fun _ _ _ _ => Iff.rfl) (fun b31 e1 e2 => ?_)
            replace H := H b31 e1 e2
            refine Wx.bits hC (f := (fun (x y : Int32) => x ||| y)) te_134_143 (fun _ _ _ _ => Iff.rfl) (fun b32 e1 e2 => ?_)
            replace H := H b32 e1 e2
            refine Wx.putI hC te_134_144 rfl rfl rfl rfl ?_
            refine Wx.iinc hC te_134_147 rfl rfl H.1 ?_
            replace H := H.2
            refine Wx.goto hC (t := 2) te_134_150 (by decide) ?_
            exact Wx.weak (by repeat' (first | exact trivial | exact rfl | constructor)) H
      · replace H := H.2 q
        refine Wx.iconst hC te_134_54 rfl ?_
        refine Wx.goto hC (t := 59) te_134_55 (by decide) ?_
        refine Wx.icmp hC (t := 78) te_134_59 (by decide) (fun q => ?_) (fun q => absurd (show (1 : Int) = 1 by decide) q)
        refine Wx.iconst hC te_134_78 rfl ?_
        refine Wx.istore hC te_134_79 rfl ?_
        refine Wx.iload hC te_134_81 rfl ?_
        refine Wx.ifc hC (t := 147) te_134_83 (by decide) (fun q => ?_) (fun q => absurd (show (0 : Int) = 0 by decide) q)
        refine Wx.iinc hC te_134_147 rfl rfl H.1 ?_
        replace H := H.2
        refine Wx.goto hC (t := 2) te_134_150 (by decide) ?_
        exact Wx.weak (by repeat' (first | exact trivial | exact rfl | constructor)) H
theorem w_129_0 {C : CXW} (hC : Cmono C) {S : Nat × (Nat → Int32)} {K : WK} {mem : MM} {x3 : Int} (H : (CWI C 130 [.inr 129, .inr 9, .inl x3] mem fun r2 m1 => InI r2 → (CWI C 37 [.inr 1, .inl x3] m1 fun r4 m3 => InI r4 → (CWV C 124 [.inr 129, .inr 1, .inl r4] m3 fun m5 => (Wx C S M_129 K 22 [some (.inr 129), some (.inr 1), some (.inr 9), some (.inl x3), some (.inl r2), some (.inl r2), none] [] m5))))) : Wx C S M_129 K 0 [some (.inr 129), some (.inr 1), some (.inr 9), some (.inl x3), none, none, none] [] mem := by
  refine Wx.aload_n hC te_129_0 rfl ?_
  refine Wx.aload_n hC te_129_1 rfl ?_
  refine Wx.iload_n hC te_129_2 rfl ?_
  refine Wx.virtI hC te_129_3 mt_130 (args := [.inr 129, .inr 9, .inl x3]) (rest := []) rfl rfl rfl rfl rfl rfl rfl rfl ?_
  refine CWI.mono hC (fun r2 m1 H hy => ?_) H
  replace H := H hy
  refine Wx.istore hC te_129_6 rfl ?_
  refine Wx.aload_n hC te_129_8 rfl ?_
  refine Wx.aload_n hC te_129_9 rfl ?_
  refine Wx.aload_n hC te_129_10 rfl ?_
  refine Wx.iload_n hC te_129_11 rfl ?_
  refine Wx.virtI hC te_129_12 mt_37 (args := [.inr 1, .inl x3]) (rest := [.inr 1, .inr 129]) rfl rfl rfl rfl rfl rfl rfl rfl ?_
  refine CWI.mono hC (fun r4 m3 H hy => ?_) H
  replace H := H hy
  refine Wx.virtV hC te_129_15 mt_124 (args := [.inr 129, .inr 1, .inl r4]) (rest := []) rfl rfl rfl rfl rfl rfl rfl rfl ?_
  refine CWV.mono hC (fun m5 H => ?_) H
  refine Wx.iload hC te_129_18 rfl ?_
  refine Wx.istore hC te_129_20 rfl ?_
  exact H
theorem w_129_22 {C : CXW} (hC : Cmono C) {S : Nat × (Nat → Int32)} {K : WK} {mem : MM} {x3 x4 x5 : Int} (H : ∀ v1 : Int, v1 = mem 129 0 → InI v1 → (InI (x4 + v1)) ∧ (((x4 + v1) ≤ x5 → (Wx C S M_129 K 51 [some (.inr 129), some (.inr 1), some (.inr 9), some (.inl x3), some (.inl x4), some (.inl x5), none] [] mem)) ∧ (¬ ((x4 + v1) ≤ x5) → (CWI C 126 [.inr 129, .inr 1, .inl x3, .inl x5] mem fun r3 m2 => InI r3 → ((¬ r3 = 0 → (Wx C S M_129 K 51 [some (.inr 129), some (.inr 1), some (.inr 9), some (.inl x3), some (.inl x4), some (.inl x5), none] [] m2)) ∧ (¬ (¬ r3 = 0) → (InI (x5 + 1)) ∧ (Wx C S M_129 K 22 [some (.inr 129), some (.inr 1), some (.inr 9), some (.inl x3), some (.inl x4), some (.inl (x5 + 1)), none] [] m2))))))) : Wx C S M_129 K 22 [some (.inr 129), some (.inr 1), some (.inr 9), some (.inl x3), some (.inl x4), some (.inl x5), none] [] mem := by
  refine Wx.iload hC te_129_22 rfl ?_
  refine Wx.iload hC te_129_24 rfl ?_
  refine Wx.aload_n hC te_129_26 rfl ?_
  refine Wx.getI hC te_129_27 rfl rfl rfl (fun v1 e1 e2 => ?_)
  replace H := H v1 e1 e2
  refine Wx.iadd hC te_129_30 H.1 ?_
  replace H := H.2
  refine Wx.icmp hC (t := 51) te_129_31 (by decide) (fun q => ?_) (fun q => ?_)
  · replace H := H.1 q
    exact H
  · replace H := H.2 q
    refine Wx.aload_n hC te_129_34 rfl ?_
    refine Wx.aload_n hC te_129_35 rfl ?_
    refine Wx.iload_n hC te_129_36 rfl ?_
    refine Wx.iload hC te_129_37 rfl ?_
    refine Wx.virtI hC te_129_39 mt_126 (args := [.inr 129, .inr 1, .inl x3, .inl x5]) (rest := []) rfl rfl rfl rfl rfl rfl rfl rfl ?_
    refine CWI.mono hC (fun r3 m2 H hy => ?_) H
    replace H := H hy
    refine Wx.ifc hC (t := 51) te_129_42 (by decide) (fun q => ?_) (fun q => ?_)
    · replace H := H.1 q
      exact H
    · replace H := H.2 q
      refine Wx.iinc hC te_129_45 rfl rfl H.1 ?_
      replace H := H.2
      refine Wx.goto hC (t := 22) te_129_48 (by decide) ?_
      exact H
theorem w_129_51 {C : CXW} (hC : Cmono C) {S : Nat × (Nat → Int32)} {K : WK} {mem : MM} {x3 x4 x5 : Int} (H : ∀ v1 : Int, v1 = mem 129 0 → InI v1 → (InI (x4 + v1)) ∧ ((x5 < (x4 + v1) → (Wx C S M_129 K 90 [some (.inr 129), some (.inr 1), some (.inr 9), some (.inl x3), some (.inl x4), some (.inl x5), some (.inl 0)] [] mem)) ∧ (¬ (x5 < (x4 + v1)) → ((0 : Int) ≤ x3 ∧ (x3 : Int) < 8) ∧ ∀ v2 : Int, v2 = mem 131 (Int.toNat x3) → InI v2 → (InI (v2 + 1)) ∧ (CWI C 40 [.inl x4, .inl (v2 + 1)] mem fun r4 m3 => InI r4 → (Wx C S M_129 K 90 [some (.inr 129), some (.inr 1), some (.inr 9), some (.inl x3), some (.inl x4), some (.inl r4), some (.inl 1)] [] m3))))) : Wx C S M_129 K 51 [some (.inr 129), some (.inr 1), some (.inr 9), some (.inl x3), some (.inl x4), some (.inl x5), none] [] mem := by
  refine Wx.iload hC te_129_51 rfl ?_
  refine Wx.iload hC te_129_53 rfl ?_
  refine Wx.aload_n hC te_129_55 rfl ?_
  refine Wx.getI hC te_129_56 rfl rfl rfl (fun v1 e1 e2 => ?_)
  replace H := H v1 e1 e2
  refine Wx.iadd hC te_129_59 H.1 ?_
  replace H := H.2
  refine Wx.icmp hC (t := 67) te_129_60 (by decide) (fun q => ?_) (fun q => ?_)
  · replace H := H.1 q
    refine Wx.iconst hC te_129_67 rfl ?_
    refine Wx.istore hC te_129_68 rfl ?_
    refine Wx.iload hC te_129_70 rfl ?_
    refine Wx.ifc hC (t := 90) te_129_72 (by decide) (fun q => ?_) (fun q => absurd (show (0 : Int) = 0 by decide) q)
    exact H
  · replace H := H.2 q
    refine Wx.iconst hC te_129_63 rfl ?_
    refine Wx.goto hC (t := 68) te_129_64 (by decide) ?_
    refine Wx.istore hC te_129_68 rfl ?_
    refine Wx.iload hC te_129_70 rfl ?_
    refine Wx.ifc hC (t := 90) te_129_72 (by decide) (fun q => absurd q (show ¬ ((1 : Int) = 0) by decide)) (fun q => ?_)
    refine Wx.iload hC te_129_75 rfl ?_
    refine Wx.aload_n hC te_129_77 rfl ?_
    refine Wx.getR hC te_129_78 rfl rfl rfl ?_
    refine Wx.iload_n hC te_129_81 rfl ?_
    refine Wx.iald hC te_129_82 rfl H.1 (fun v2 e1 e2 => ?_)
    replace H := H.2 v2 e1 e2
    refine Wx.iconst hC te_129_83 rfl ?_
    refine Wx.iadd hC te_129_84 H.1 ?_
    replace H := H.2
    refine Wx.statI hC te_129_85 (by decide) mt_40 (args := [.inl x4, .inl (v2 + 1)]) (rest := []) rfl rfl rfl rfl rfl ?_
    refine CWI.mono hC (fun r4 m3 H hy => ?_) H
    replace H := H hy
    refine Wx.istore hC te_129_88 rfl ?_
    exact H
theorem w_129_90 {C : CXW} (hC : Cmono C) {S : Nat × (Nat → Int32)} {K : WK} {mem : MM} {x3 x4 x5 x6 : Int} (H : ((0 : Int) ≤ x3 ∧ (x3 : Int) < 8) ∧ ((0 : Int) ≤ x3 ∧ (x3 : Int) < 8) ∧ ∀ v1 : Int, v1 = (upm (upm mem 130 (Int.toNat x3) x5) 131 (Int.toNat x3) x5) 129 3 → InI v1 → ∀ b2 : Int, b2 = ((fun (x y : Int32) => x <<< (y &&& 31)) (Int32.ofInt 1) (Int32.ofInt x3)).toInt → InI b2 → ∀ b3 : Int, b3 = ((fun (x y : Int32) => x ||| y) (Int32.ofInt v1) (Int32.ofInt b2)).toInt → InI b3 → ((x6 = 0 → (CWV C 134 [.inr 129, .inr 9, .inl x3] (upm (upm (upm mem 130 (Int.toNat x3) x5) 131 (Int.toNat x3) x5) 129 3 b3) fun m4 => (K none m4))) ∧ (¬ (x6 = 0) → (CWV C 131 [.inr 129, .inr 1, .inl x3] (upm (upm (upm mem 130 (Int.toNat x3) x5) 131 (Int.toNat x3) x5) 129 3 b3) fun m5 => (CWV C 134 [.inr 129, .inr 9, .inl x3] m5 fun m6 => (K none m6)))))) : Wx C S M_129 K 90 [some (.inr 129), some (.inr 1), some (.inr 9), some (.inl x3), some (.inl x4), some (.inl x5), some (.inl x6)] [] mem := by
  refine Wx.aload_n hC te_129_90 rfl ?_
  refine Wx.getR hC te_129_91 rfl rfl rfl ?_
  refine Wx.iload_n hC te_129_94 rfl ?_
  refine Wx.iload hC te_129_95 rfl ?_
  refine Wx.iast hC te_129_97 rfl H.1 ?_
  replace H := H.2
  refine Wx.aload_n hC te_129_98 rfl ?_
  refine Wx.getR hC te_129_99 rfl rfl rfl ?_
  refine Wx.iload_n hC te_129_102 rfl ?_
  refine Wx.iload hC te_129_103 rfl ?_
  refine Wx.iast hC te_129_105 rfl H.1 ?_
  replace H := H.2
  refine Wx.aload_n hC te_129_106 rfl ?_
  refine Wx.dup hC te_129_107 ?_
  refine Wx.getI hC te_129_108 rfl rfl rfl (fun v1 e1 e2 => ?_)
  replace H := H v1 e1 e2
  refine Wx.iconst hC te_129_111 rfl ?_
  refine Wx.iload_n hC te_129_112 rfl ?_
  refine Wx.bits hC (f := (fun (x y : Int32) => x <<< (y &&& 31))) te_129_113 (fun _ _ _ _ => Iff.rfl) (fun b2 e1 e2 => ?_)
  replace H := H b2 e1 e2
  refine Wx.bits hC (f := (fun (x y : Int32) => x ||| y)) te_129_114 (fun _ _ _ _ => Iff.rfl) (fun b3 e1 e2 => ?_)
  replace H := H b3 e1 e2
  refine Wx.putI hC te_129_115 rfl rfl rfl rfl ?_
  refine Wx.iload hC te_129_118 rfl ?_
  refine Wx.ifc hC (t := 129) te_129_120 (by decide) (fun q => ?_) (fun q => ?_)
  · replace H := H.1 q
    refine Wx.aload_n hC te_129_129 rfl ?_
    refine Wx.aload_n hC te_129_130 rfl ?_
    refine Wx.iload_n hC te_129_131 rfl ?_
    refine Wx.virtV hC te_129_132 mt_134 (args := [.inr 129, .inr 9, .inl x3]) (rest := []) rfl rfl rfl rfl rfl rfl rfl rfl ?_
    refine CWV.mono hC (fun m4 H => ?_) H
    exact Wx.vret hC te_129_135 rfl H
  · replace H := H.2 q
    refine Wx.aload_n hC te_129_123 rfl ?_
    refine Wx.aload_n hC te_129_124 rfl ?_
    refine Wx.iload_n hC te_129_125 rfl ?_
    refine Wx.virtV hC te_129_126 mt_131 (args := [.inr 129, .inr 1, .inl x3]) (rest := []) rfl rfl rfl rfl rfl rfl rfl rfl ?_
    refine CWV.mono hC (fun m5 H => ?_) H
    refine Wx.aload_n hC te_129_129 rfl ?_
    refine Wx.aload_n hC te_129_130 rfl ?_
    refine Wx.iload_n hC te_129_131 rfl ?_
    refine Wx.virtV hC te_129_132 mt_134 (args := [.inr 129, .inr 9, .inl x3]) (rest := []) rfl rfl rfl rfl rfl rfl rfl rfl ?_
    refine CWV.mono hC (fun m6 H => ?_) H
    exact Wx.vret hC te_129_135 rfl H
theorem w_123_0 {C : CXW} (hC : Cmono C) {S : Nat × (Nat → Int32)} {K : WK} {mem : MM} {x4 : Int} (H : ∀ v1 : Int, v1 = mem 129 0 → InI v1 → ((¬ v1 = x4 → (Wx C S M_123 K 34 [some (.inr 129), some (.inr 1), some (.inr 9), some (.inr 19), some (.inl x4), some (.inl 0)] [] (upm (upm (upm (upm mem 129 0 x4) 129 1 0) 129 2 0) 129 3 0))) ∧ (¬ (¬ v1 = x4) → (K none mem)))) : Wx C S M_123 K 0 [some (.inr 129), some (.inr 1), some (.inr 9), some (.inr 19), some (.inl x4), none] [] mem := by
  refine Wx.aload_n hC te_123_0 rfl ?_
  refine Wx.getI hC te_123_1 rfl rfl rfl (fun v1 e1 e2 => ?_)
  replace H := H v1 e1 e2
  refine Wx.iload hC te_123_4 rfl ?_
  refine Wx.icmp hC (t := 10) te_123_6 (by decide) (fun q => ?_) (fun q => ?_)
  · replace H := H.1 q
    refine Wx.aload_n hC te_123_10 rfl ?_
    refine Wx.iload hC te_123_11 rfl ?_
    refine Wx.putI hC te_123_13 rfl rfl rfl rfl ?_
    refine Wx.aload_n hC te_123_16 rfl ?_
    refine Wx.iconst hC te_123_17 rfl ?_
    refine Wx.putB hC te_123_18 rfl rfl rfl rfl (Or.inl rfl) ?_
    refine Wx.aload_n hC te_123_21 rfl ?_
    refine Wx.iconst hC te_123_22 rfl ?_
    refine Wx.putI hC te_123_23 rfl rfl rfl rfl ?_
    refine Wx.aload_n hC te_123_26 rfl ?_
    refine Wx.iconst hC te_123_27 rfl ?_
    refine Wx.putI hC te_123_28 rfl rfl rfl rfl ?_
    refine Wx.iconst hC te_123_31 rfl ?_
    refine Wx.istore hC te_123_32 rfl ?_
    exact H
  · replace H := H.2 q
    exact Wx.vret hC te_123_9 rfl H
theorem w_123_34 {C : CXW} (hC : Cmono C) {S : Nat × (Nat → Int32)} {K : WK} {mem : MM} {x4 x5 : Int} (H : ∀ v1 : Int, v1 = mem 1 0 → InI v1 → ((v1 ≤ x5 → ∀ v2 : Int, v2 = mem 1 0 → InI v2 → ∀ b3 : Int, b3 = ((fun (x y : Int32) => x <<< (y &&& 31)) (Int32.ofInt 1) (Int32.ofInt v2)).toInt → InI b3 → (InI (b3 - 1)) ∧ (Wx C S M_123 K 103 [some (.inr 129), some (.inr 1), some (.inr 9), some (.inr 19), some (.inl x4), some (.inl (b3 - 1))] [] mem)) ∧ (¬ (v1 ≤ x5) → ((0 : Int) ≤ x5 ∧ (x5 : Int) < 8) ∧ (CWI C 80 [.inr 19, .inl x5] (upm mem 131 (Int.toNat x5) (-1)) fun r5 m4 => InI r5 → ((0 : Int) ≤ x5 ∧ (x5 : Int) < 8) ∧ (CWI C 37 [.inr 1, .inl x5] (upm m4 133 (Int.toNat x5) r5) fun r7 m6 => InI r7 → (CWV C 124 [.inr 129, .inr 1, .inl r7] m6 fun m8 => (CWI C 126 [.inr 129, .inr 1, .inl x5, .inl 0] m8 fun r10 m9 => InI r10 → ((¬ r10 = 0 → (InI (x5 + 1)) ∧ (Wx C S M_123 K 34 [some (.inr 129), some (.inr 1), some (.inr 9), some (.inr 19), some (.inl x4), some (.inl (x5 + 1))] [] m9)) ∧ (¬ (¬ r10 = 0) → (K none m9)))))))))) : Wx C S M_123 K 34 [some (.inr 129), some (.inr 1), some (.inr 9), some (.inr 19), some (.inl x4), some (.inl x5)] [] mem := by
  refine Wx.iload hC te_123_34 rfl ?_
  refine Wx.aload_n hC te_123_36 rfl ?_
  refine Wx.getI hC te_123_37 rfl rfl rfl (fun v1 e1 e2 => ?_)
  replace H := H v1 e1 e2
  refine Wx.icmp hC (t := 93) te_123_40 (by decide) (fun q => ?_) (fun q => ?_)
  · replace H := H.1 q
    refine Wx.iconst hC te_123_93 rfl ?_
    refine Wx.aload_n hC te_123_94 rfl ?_
    refine Wx.getI hC te_123_95 rfl rfl rfl (fun v2 e1 e2 => ?_)
    replace H := H v2 e1 e2
    refine Wx.bits hC (f := (fun (x y : Int32) => x <<< (y &&& 31))) te_123_98 (fun _ _ _ _ => Iff.rfl) (fun b3 e1 e2 => ?_)
    replace H := H b3 e1 e2
    refine Wx.iconst hC te_123_99 rfl ?_
    refine Wx.isub hC te_123_100 H.1 ?_
    replace H := H.2
    refine Wx.istore hC te_123_101 rfl ?_
    exact H
  · replace H := H.2 q
    refine Wx.aload_n hC te_123_43 rfl ?_
    refine Wx.getR hC te_123_44 rfl rfl rfl ?_
    refine Wx.iload hC te_123_47 rfl ?_
    refine Wx.iconst hC te_123_49 rfl ?_
    refine Wx.iast hC te_123_50 rfl H.1 ?_
    replace H := H.2
    refine Wx.aload_n hC te_123_51 rfl ?_
    refine Wx.getR hC te_123_52 rfl rfl rfl ?_
    refine Wx.iload hC te_123_55 rfl ?_
    refine Wx.aload_n hC te_123_57 rfl ?_
    refine Wx.iload hC te_123_58 rfl ?_
    refine Wx.virtI hC te_123_60 mt_80 (args := [.inr 19, .inl x5]) (rest := [.inl x5, .inr 133]) rfl rfl rfl rfl rfl rfl rfl rfl ?_
    refine CWI.mono hC (fun r5 m4 H hy => ?_) H
    replace H := H hy
    refine Wx.iast hC te_123_63 rfl H.1 ?_
    replace H := H.2
    refine Wx.aload_n hC te_123_64 rfl ?_
    refine Wx.aload_n hC te_123_65 rfl ?_
    refine Wx.aload_n hC te_123_66 rfl ?_
    refine Wx.iload hC te_123_67 rfl ?_
    refine Wx.virtI hC te_123_69 mt_37 (args := [.inr 1, .inl x5]) (rest := [.inr 1, .inr 129]) rfl rfl rfl rfl rfl rfl rfl rfl ?_
    refine CWI.mono hC (fun r7 m6 H hy => ?_) H
    replace H := H hy
    refine Wx.virtV hC te_123_72 mt_124 (args := [.inr 129, .inr 1, .inl r7]) (rest := []) rfl rfl rfl rfl rfl rfl rfl rfl ?_
    refine CWV.mono hC (fun m8 H => ?_) H
    refine Wx.aload_n hC te_123_75 rfl ?_
    refine Wx.aload_n hC te_123_76 rfl ?_
    refine Wx.iload hC te_123_77 rfl ?_
    refine Wx.iconst hC te_123_79 rfl ?_
    refine Wx.virtI hC te_123_80 mt_126 (args := [.inr 129, .inr 1, .inl x5, .inl 0]) (rest := []) rfl rfl rfl rfl rfl rfl rfl rfl ?_
    refine CWI.mono hC (fun r10 m9 H hy => ?_) H
    replace H := H hy
    refine Wx.ifc hC (t := 87) te_123_83 (by decide) (fun q => ?_) (fun q => ?_)
    · replace H := H.1 q
      refine Wx.iinc hC te_123_87 rfl rfl H.1 ?_
      replace H := H.2
      refine Wx.goto hC (t := 34) te_123_90 (by decide) ?_
      exact H
    · replace H := H.2 q
      exact Wx.vret hC te_123_86 rfl H
theorem w_123_103 {C : CXW} (hC : Cmono C) {S : Nat × (Nat → Int32)} {K : WK} {mem : MM} {x4 x5 : Int} (H : ∀ v1 : Int, v1 = mem 129 2 → InI v1 → ∀ v2 : Int, v2 = mem 1 0 → InI v2 → (InI (6 * v2)) ∧ (((6 * v2) ≤ v1 → ∀ v3 : Int, v3 = mem 129 3 → InI v3 → ((¬ v3 = x5 → (K none (upm mem 129 1 0))) ∧ (¬ (¬ v3 = x5) → (K none (upm mem 129 1 1))))) ∧ (¬ ((6 * v2) ≤ v1) → ∀ v4 : Int, v4 = mem 129 3 → InI v4 → ((v4 = x5 → ∀ v5 : Int, v5 = mem 129 3 → InI v5 → ((¬ v5 = x5 → (K none (upm mem 129 1 0))) ∧ (¬ (¬ v5 = x5) → (K none (upm mem 129 1 1))))) ∧ (¬ (v4 = x5) → ∀ v6 : Int, v6 = mem 1 0 → InI v6 → (CWI C 128 [.inr 129, .inl v6] mem fun r8 m7 => InI r8 → (CWV C 129 [.inr 129, .inr 1, .inr 9, .inl r8] m7 fun m9 => ∀ v10 : Int, v10 = m9 129 2 → InI v10 → (InI (v10 + 1)) ∧ (Wx C S M_123 K 103 [some (.inr 129), some (.inr 1), some (.inr 9), some (.inr 19), some (.inl x4), some (.inl x5)] [] (upm m9 129 2 (v10 + 1)))))))))) : Wx C S M_123 K 103 [some (.inr 129), some (.inr 1), some (.inr 9), some (.inr 19), some (.inl x4), some (.inl x5)] [] mem := by
  refine Wx.aload_n hC te_123_103 rfl ?_
  refine Wx.getI hC te_123_104 rfl rfl rfl (fun v1 e1 e2 => ?_)
  replace H := H v1 e1 e2
  refine Wx.bipush hC te_123_107 rfl rfl ?_
  refine Wx.aload_n hC te_123_109 rfl ?_
  refine Wx.getI hC te_123_110 rfl rfl rfl (fun v2 e1 e2 => ?_)
  replace H := H v2 e1 e2
  refine Wx.imul hC te_123_113 H.1 ?_
  replace H := H.2
  refine Wx.icmp hC (t := 153) te_123_114 (by decide) (fun q => ?_) (fun q => ?_)
  · replace H := H.1 q
    refine Wx.aload_n hC te_123_153 rfl ?_
    refine Wx.aload_n hC te_123_154 rfl ?_
    refine Wx.getI hC te_123_155 rfl rfl rfl (fun v3 e1 e2 => ?_)
    replace H := H v3 e1 e2
    refine Wx.iload hC te_123_158 rfl ?_
    refine Wx.icmp hC (t := 167) te_123_160 (by decide) (fun q => ?_) (fun q => ?_)
    · replace H := H.1 q
      refine Wx.iconst hC te_123_167 rfl ?_
      refine Wx.putB hC te_123_168 rfl rfl rfl rfl (Or.inl rfl) ?_
      exact Wx.vret hC te_123_171 rfl H
    · replace H := H.2 q
      refine Wx.iconst hC te_123_163 rfl ?_
      refine Wx.goto hC (t := 168) te_123_164 (by decide) ?_
      refine Wx.putB hC te_123_168 rfl rfl rfl rfl (Or.inr rfl) ?_
      exact Wx.vret hC te_123_171 rfl H
  · replace H := H.2 q
    refine Wx.aload_n hC te_123_117 rfl ?_
    refine Wx.getI hC te_123_118 rfl rfl rfl (fun v4 e1 e2 => ?_)
    replace H := H v4 e1 e2
    refine Wx.iload hC te_123_121 rfl ?_
    refine Wx.icmp hC (t := 153) te_123_123 (by decide) (fun q => ?_) (fun q => ?_)
    · replace H := H.1 q
      refine Wx.aload_n hC te_123_153 rfl ?_
      refine Wx.aload_n hC te_123_154 rfl ?_
      refine Wx.getI hC te_123_155 rfl rfl rfl (fun v5 e1 e2 => ?_)
      replace H := H v5 e1 e2
      refine Wx.iload hC te_123_158 rfl ?_
      refine Wx.icmp hC (t := 167) te_123_160 (by decide) (fun q => ?_) (fun q => ?_)
      · replace H := H.1 q
        refine Wx.iconst hC te_123_167 rfl ?_
        refine Wx.putB hC te_123_168 rfl rfl rfl rfl (Or.inl rfl) ?_
        exact Wx.vret hC te_123_171 rfl H
      · replace H := H.2 q
        refine Wx.iconst hC te_123_163 rfl ?_
        refine Wx.goto hC (t := 168) te_123_164 (by decide) ?_
        refine Wx.putB hC te_123_168 rfl rfl rfl rfl (Or.inr rfl) ?_
        exact Wx.vret hC te_123_171 rfl H
    · replace H := H.2 q
      refine Wx.aload_n hC te_123_126 rfl ?_
      refine Wx.aload_n hC te_123_127 rfl ?_
      refine Wx.aload_n hC te_123_128 rfl ?_
      refine Wx.aload_n hC te_123_129 rfl ?_
      refine Wx.aload_n hC te_123_130 rfl ?_
      refine Wx.getI hC te_123_131 rfl rfl rfl (fun v6 e1 e2 => ?_)
      replace H := H v6 e1 e2
      refine Wx.virtI hC te_123_134 mt_128 (args := [.inr 129, .inl v6]) (rest := [.inr 9, .inr 1, .inr 129]) rfl rfl rfl rfl rfl rfl rfl rfl ?_
      refine CWI.mono hC (fun r8 m7 H hy => ?_) H
      replace H := H hy
      refine Wx.virtV hC te_123_137 mt_129 (args := [.inr 129, .inr 1, .inr 9, .inl r8]) (rest := []) rfl rfl rfl rfl rfl rfl rfl rfl ?_
      refine CWV.mono hC (fun m9 H => ?_) H
      refine Wx.aload_n hC te_123_140 rfl ?_
      refine Wx.dup hC te_123_141 ?_
      refine Wx.getI hC te_123_142 rfl rfl rfl (fun v10 e1 e2 => ?_)
      replace H := H v10 e1 e2
      refine Wx.iconst hC te_123_145 rfl ?_
      refine Wx.iadd hC te_123_146 H.1 ?_
      replace H := H.2
      refine Wx.putI hC te_123_147 rfl rfl rfl rfl ?_
      refine Wx.goto hC (t := 103) te_123_150 (by decide) ?_
      exact H
/-! the quick way of the class: its parts -/
/-- what stands around it: ops, needs, ways, the step -/
def HsA (m : MM) (d : Int) : Prop := BodyOK m ∧ WbOK m 9 ∧ (0 ≤ m 19 0 ∧ m 19 0 ≤ 8) ∧ m 129 0 = d ∧ 1 ≤ d ∧ d ≤ 12
def FrH (m m' : MM) : Prop := ∀ A i, ¬ (A = 129 ∧ ¬ i = 0) → ¬ (130 ≤ A ∧ A ≤ 133) → m' A i = m A i
theorem FrH.rf {m : MM} : FrH m m := fun _ _ _ _ => rfl
theorem FrH.tr {a b c : MM} (h1 : FrH a b) (h2 : FrH b c) : FrH a c := fun A i e1 e2 => (h2 A i e1 e2).trans (h1 A i e1 e2)
theorem FrH.hs {m m' : MM} {d : Int} (e : FrH m m') (h : HsA m d) : HsA m' d := by
  obtain ⟨h1, h2, h3, h4, h5⟩ := h
  refine ⟨h1.fr (fun A i a b => e A i (by omega) (by omega)), ⟨fun j hj => ?_, by rw [e 9 0 (by omega) (by omega)]; exact h2.2⟩, by rw [e 19 0 (by omega) (by omega)]; exact h3, by rw [e 129 0 (by omega) (by omega)]; exact h4, h5⟩
  rw [e _ _ (by omega) (by omega), e _ _ (by omega) (by omega), e _ _ (by omega) (by omega), e _ _ (by omega) (by omega)]; exact h2.1 j hj
theorem Fr1.h32 {m m' : MM} (e : Fr1 132 m m') : FrH m m' := fun A i _ e2 => e A i (by omega)
/-- all times are small -/
def HTm (m : MM) : Prop := ∀ o : Nat, o < 8 → (0 ≤ m 130 o ∧ m 130 o ≤ 900) ∧ -1 ≤ m 131 o ∧ m 131 o ≤ 900
/-- those of ops that have one are below c -/
def HCm (m : MM) (c : Int) : Prop := ∀ o : Nat, o < 8 → (tb (m 129 3) (o : Int) → m 130 o ≤ c) ∧ ((o : Int) < m 1 0 → m 131 o ≤ c)
theorem Fr1.ht {m m' : MM} (e : Fr1 132 m m') (h : HTm m) : HTm m' := fun o ho => by rw [e 130 o (by omega), e 131 o (by omega)]; exact h o ho
theorem Fr1.hc {m m' : MM} {c : Int} (e : Fr1 132 m m') (h : HCm m c) : HCm m' c := fun o ho => by rw [e 130 o (by omega), e 131 o (by omega), e 129 3 (by omega), e 1 0 (by omega)]; exact h o ho
section HASTY
variable {S : Nat × (Nat → Int32)} {n : Nat} {mem : MM} {K : Int → MM → Prop} {d c : Int}
theorem f_76 {K : MM → Prop} {Z zn : Nat} (hZ : shA Z = some (.inl zn)) (hz : zn ≤ 100000) {x : Int} (H : ∀ m', Fr1 Z mem m' → K m') : CWV (Ex S (n + 1)) 76 [.inr Z, .inl x] mem K := by
  have key : ∀ (N : Nat) (i : Int) (m : MM), 0 ≤ i → ((zn : Int) - i).toNat < N → Fr1 Z mem m → Wx (Ex S n) S M_76 (fun r m => r = none ∧ K m) 5 [some (.inr Z), some (.inl x), some (.inl i), some (.inl (zn : Int))] [] m := by
    intro N
    induction N with
    | zero => intros; omega
    | succ N ih =>
      intro i m hi hN hF
      exact w_76_5 (Ex.mono S n) hZ ⟨fun _ => ⟨rfl, H m hF⟩, fun q => ⟨⟨hi, by omega⟩, by unfold InI; omega, ih (i + 1) _ (by omega) (by omega) (hF.tr Fr1.up)⟩⟩
  exact CW.of (k := 2) mt_76 rfl rfl (w_76_0 (Ex.mono S n) hZ ⟨by unfold InI; omega, key _ 0 mem (by omega) (Nat.lt_succ_self _) Fr1.rf⟩)
theorem f_40 {a b : Int} (H : K (max a b) mem) : CWI (Ex S (n + 1)) 40 [.inl a, .inl b] mem K := by
  refine CW.of (k := 0) mt_40 rfl rfl (w_40_0 (Ex.mono S n) ⟨fun q _ => ⟨_, rfl, ?_⟩, fun q _ => ⟨_, rfl, ?_⟩⟩)
  · rw [show max a b = b by omega] at H; exact H
  · rw [show max a b = a by omega] at H; exact H
theorem f_80 (h : 0 ≤ mem 19 0 ∧ mem 19 0 ≤ 8) {o : Int} (ho : 0 ≤ o ∧ o < 8) (H : ∀ r, K r mem) : CWI (Ex S (n + 2)) 80 [.inr 19, .inl o] mem K := by
  have key : ∀ (N : Nat) (x i : Int), 0 ≤ i → (8 - i).toNat < N → Wx (Ex S (n + 1)) S M_80 (fun r m => ∃ y, r = some y ∧ K y m) 4 [some (.inr 19), some (.inl o), some (.inl x), some (.inl i)] [] mem := by
    intro N
    induction N with
    | zero => intros; omega
    | succ N ih =>
      intro x i hi hN
      exact w_80_4 (Ex.mono S (n + 1)) (fun v1 e1 _ => ⟨fun _ _ => ⟨_, rfl, H _⟩, fun q => ⟨by unfold InI; omega, by unfold InI; omega, by omega, fun v2 _ _ => f_40 (fun _ => ⟨by unfold InI; omega, ih _ (i + 1) (by omega) (by omega)⟩)⟩⟩)
  exact CW.of (k := 2) mt_80 rfl rfl (w_80_0 (Ex.mono S (n + 1)) (key 9 0 0 (by omega) (by omega)))
theorem f_125 {K : MM → Prop} (hs : mem 129 0 = d) (hd : 1 ≤ d ∧ d ≤ 12) {b t y : Int} (ht : 0 ≤ t ∧ t ≤ 100000) (H : ∀ m', Fr1 132 mem m' → K m') : CWV (Ex S (n + 1)) 125 [.inr 129, .inl b, .inl t, .inl y] mem K := by
  have key : ∀ (N : Nat) (i : Int) (m : MM), 0 ≤ i → (4 - i).toNat < N → Fr1 132 mem m → Wx (Ex S n) S M_125 (fun r m => r = none ∧ K m) 3 [some (.inr 129), some (.inl b), some (.inl t), some (.inl y), some (.inl i)] [] m := by
    intro N
    induction N with
    | zero => intros; omega
    | succ N ih =>
      intro i m hi hN hF
      have e0 : m 129 0 = d := by rw [hF 129 0 (by omega)]; exact hs
      refine w_125_3 (Ex.mono S n) ⟨fun _ => ⟨rfl, H m hF⟩, fun q b1 _ _ b2 _ _ => ⟨fun _ => ⟨by unfold InI; omega, ih (i + 1) m (by omega) (by omega) hF⟩, fun _ => ⟨by unfold InI; omega, fun v3 e3 _ => ?_⟩⟩⟩
      have r := tmod_r (show 0 ≤ t + i by omega) (show 0 < v3 by omega)
      exact ⟨by omega, by omega, fun v4 _ _ z _ _ => ⟨by omega, by unfold InI; omega, ih (i + 1) _ (by omega) (by omega) (hF.tr Fr1.up)⟩⟩
  exact CW.of (k := 1) mt_125 rfl rfl (w_125_0 (Ex.mono S n) (key 5 0 mem (by omega) (by omega) Fr1.rf))
theorem f_127 (hs : mem 129 0 = d) (hd : 1 ≤ d ∧ d ≤ 12) {b t y : Int} (ht : 0 ≤ t ∧ t ≤ 100000) (H : ∀ r, K r mem) : CWI (Ex S (n + 1)) 127 [.inr 129, .inl b, .inl t, .inl y] mem K := by
  have key : ∀ (N : Nat) (i : Int), 0 ≤ i → (4 - i).toNat < N → Wx (Ex S n) S M_127 (fun r m => ∃ y, r = some y ∧ K y m) 3 [some (.inr 129), some (.inl b), some (.inl t), some (.inl y), some (.inl i)] [] mem := by
    intro N
    induction N with
    | zero => intros; omega
    | succ N ih =>
      intro i hi hN
      refine w_127_3 (Ex.mono S n) ⟨fun _ => ⟨_, rfl, H _⟩, fun q b1 _ _ b2 _ _ => ⟨fun _ => ⟨by unfold InI; omega, ih (i + 1) (by omega) (by omega)⟩, fun _ => ⟨by unfold InI; omega, fun v3 e3 _ => ?_⟩⟩⟩
      have r := tmod_r (show 0 ≤ t + i by omega) (show 0 < v3 by omega)
      exact ⟨by omega, by omega, fun v4 _ _ => ⟨fun _ => ⟨by unfold InI; omega, ih (i + 1) (by omega) (by omega)⟩, fun _ => ⟨_, rfl, H _⟩⟩⟩
  exact CW.of (k := 1) mt_127 rfl rfl (w_127_0 (Ex.mono S n) (key 5 0 (by omega) (by omega)))
theorem f_124 {K : MM → Prop} (h : HsA mem d) (hT : HTm mem) {u : Int} (H : ∀ m', Fr1 132 mem m' → K m') : CWV (Ex S (n + 2)) 124 [.inr 129, .inr 1, .inl u] mem K := by
  have h8 := h.1.1
  have key : ∀ (N : Nat) (o : Int) (m : MM), 0 ≤ o → (8 - o).toNat < N → Fr1 132 mem m → Wx (Ex S (n + 1)) S M_124 (fun r m => r = none ∧ K m) 10 [some (.inr 129), some (.inr 1), some (.inl u), some (.inl o)] [] m := by
    intro N
    induction N with
    | zero => intros; omega
    | succ N ih =>
      intro o m ho hN hF
      have hs := hF.h32.hs h
      have e10 : m 1 0 = mem 1 0 := hF _ _ (by omega)
      have nx : ∀ m', Fr1 132 mem m' → o < 8 → InI (o + 1) ∧ Wx (Ex S (n + 1)) S M_124 (fun r m => r = none ∧ K m) 10 [some (.inr 129), some (.inr 1), some (.inl u), some (.inl (o + 1))] [] m' := fun m' z q => ⟨by unfold InI; omega, ih (o + 1) m' (by omega) (by omega) z⟩
      refine w_124_10 (Ex.mono S (n + 1)) (fun v1 e1 _ => ⟨fun _ => ⟨rfl, H m hF⟩, fun q v2 _ _ b3 _ _ b4 _ _ => ⟨fun _ => nx m hF (by omega), fun _ => f_37 hs.1 ⟨ho, by omega⟩ (fun w _ _ _ => ⟨fun _ => nx m hF (by omega), fun _ => f_38 hs.1 ⟨ho, by omega⟩ (fun y _ _ _ => ⟨by omega, fun v9 e9 _ => ?_⟩)⟩)⟩⟩)
      have := (hF.ht hT o.toNat (by omega)).1
      exact f_125 hs.2.2.2.1 hs.2.2.2.2 ⟨by omega, by omega⟩ (fun m' k => nx m' (hF.tr k) (by omega))
  exact CW.of (k := 1) mt_124 rfl rfl (w_124_0 (Ex.mono S (n + 1)) (f_76 (Z := 132) (zn := 12) rfl (by omega) (fun m1 k1 => key 9 0 m1 (by omega) (by omega) k1)))
theorem f_126 (h : HsA mem d) {o t : Int} (ho : 0 ≤ o ∧ o < 8) (ht : 0 ≤ t ∧ t ≤ 100000) (H : ∀ r m', Fr1 132 mem m' → K r m') : CWI (Ex S (n + 2)) 126 [.inr 129, .inr 1, .inl o, .inl t] mem K := by
  refine CW.of (k := 2) mt_126 rfl rfl (w_126_0 (Ex.mono S (n + 1)) (f_38 h.1 ho (fun b _ _ _ => f_125 h.2.2.2.1 h.2.2.2.2 ht (fun m1 k1 => ?_))))
  have hs := k1.h32.hs h
  exact f_37 hs.1 ho (fun u u1 u2 _ => ⟨by omega, fun v6 _ _ => f_127 hs.2.2.2.1 hs.2.2.2.2 ht (fun r _ => ⟨fun _ => f_125 hs.2.2.2.1 hs.2.2.2.2 ht (fun m2 k2 => ⟨_, rfl, H _ _ (k1.tr k2)⟩), fun _ => f_125 hs.2.2.2.1 hs.2.2.2.2 ht (fun m2 k2 => ⟨_, rfl, H _ _ (k1.tr k2)⟩)⟩)⟩)
theorem f_128 {s : Int} (hs : 0 ≤ s ∧ s ≤ 8) (H : ∀ r, 0 ≤ r → r < 8 → (r < s ∨ r = 0) → K r mem) : CWI (Ex S (n + 1)) 128 [.inr 129, .inl s] mem K := by
  have key : ∀ (N : Nat) (b x o : Int), 0 ≤ o → 0 ≤ b → b < 8 → (b < s ∨ b = 0) → (8 - o).toNat < N → Wx (Ex S n) S M_128 (fun r m => ∃ y, r = some y ∧ K y m) 7 [some (.inr 129), some (.inl s), some (.inl b), some (.inl x), some (.inl o)] [] mem := by
    intro N
    induction N with
    | zero => intros; omega
    | succ N ih =>
      intro b x o ho b1 b2 b3 hN
      exact w_128_7 (Ex.mono S n) ⟨fun _ _ => ⟨_, rfl, H _ b1 b2 b3⟩, fun q v1 _ _ b2' _ _ b3' _ _ => ⟨fun _ => ⟨by unfold InI; omega, ih b x (o + 1) (by omega) b1 b2 b3 (by omega)⟩, fun _ => ⟨by omega, fun v4 _ _ => ⟨fun _ => ⟨by unfold InI; omega, ih b x (o + 1) (by omega) b1 b2 b3 (by omega)⟩, fun _ => ⟨by omega, fun v5 _ _ => ⟨by unfold InI; omega, ih o v5 (o + 1) (by omega) (by omega) (by omega) (by omega) (by omega)⟩⟩⟩⟩⟩⟩
  exact CW.of (k := 3) mt_128 rfl rfl (w_128_0 (Ex.mono S n) (key 9 0 (-1) 0 (by omega) (by omega) (by omega) (by omega) (by omega)))
theorem f_130 (h : HsA mem d) (hT : HTm mem) (hC : HCm mem c) (hc : 0 ≤ c) {o : Int} (H : ∀ r, 0 ≤ r → r ≤ c + 6 → K r mem) : CWI (Ex S (n + 2)) 130 [.inr 129, .inr 9, .inl o] mem K := by
  obtain ⟨hB, hW, -, hs, hd⟩ := h
  have key : ∀ (N : Nat) (x : Int) (k : Nat), 0 ≤ x → x ≤ c + 6 → 64 - k < N → Wx (Ex S (n + 1)) S M_130 (fun r m => ∃ y, r = some y ∧ K y m) 5 [some (.inr 129), some (.inr 9), some (.inl o), some (.inl x), some (.inl (k : Int)), none] [] mem := by
    intro N
    induction N with
    | zero => intros; omega
    | succ N ih =>
      intro x k hx hx2 hN
      refine w_130_5 (Ex.mono S (n + 1)) (fun v1 e1 _ => ⟨fun _ _ => ⟨_, rfl, H _ hx hx2⟩, fun q => ?_⟩)
      have hk : 0 ≤ (k : Int) ∧ (k : Int) < 64 := by have := hW.2; omega
      obtain ⟨g1, g2, g3, g4⟩ : Rg (mem 10 k) (mem 11 k) (mem 12 k) (mem 13 k) := hW.1 k (by omega)
      have nx : ∀ x, 0 ≤ x → x ≤ c + 6 → InI ((k : Int) + 1) ∧ Wx (Ex S (n + 1)) S M_130 (fun r m => ∃ y, r = some y ∧ K y m) 5 [some (.inr 129), some (.inr 9), some (.inl o), some (.inl x), some (.inl ((k : Int) + 1)), none] [] mem := fun x z1 z2 => ⟨by unfold InI; omega, ih x (k + 1) z1 z2 (by omega)⟩
      rw [Int.toNat_natCast]
      refine ⟨hk, fun v2 e2 _ => ⟨hk, fun v3 e3 _ => ⟨fun _ => nx _ hx hx2, fun _ => ⟨fun _ => nx _ hx hx2, fun _ v4 e4 _ b5 e5 _ b6 e6 _ => ⟨fun _ => nx _ hx hx2, fun z => ⟨by omega, fun v7 e7 _ => ⟨hk, fun v8 e8 _ => ?_⟩⟩⟩⟩⟩⟩⟩
      have ht := hT v2.toNat (by omega)
      have hb : tb (mem 129 3) v2 := by
        rw [e4] at e6
        have := tb_of e5 e6
        exact Classical.not_not.mp (fun w => z (this.mpr w))
      have hcc := (hC v2.toNat (by omega)).1 (by rw [show ((v2.toNat : Nat) : Int) = v2 by omega]; exact hb)
      refine ⟨by unfold InI; omega, fun v9 e9 _ => ⟨hk, fun v10 e10 _ => ?_⟩⟩
      have := d7 (d := v9) (x := v10) (by omega) (by omega)
      exact ⟨by unfold InI; omega, by unfold InI; omega, f_40 (fun _ => nx _ (by omega) (by omega))⟩
  exact CW.of (k := 3) mt_130 rfl rfl (w_130_0 (Ex.mono S (n + 1)) (key 65 0 0 (by omega) (by omega) (by omega)))
theorem f_133 (h : HsA mem d) (hT : HTm mem) {o : Nat} (ho : o < 8) (H : ∀ r, K r mem) : CWI (Ex S (n + 2)) 133 [.inr 129, .inr 1, .inl (o : Int)] mem K := by
  obtain ⟨hB, hW, -, hs, hd⟩ := h
  have ht := hT o ho
  have key : ∀ (N : Nat) (x i : Int), 0 ≤ i → (4 - i).toNat < N → Wx (Ex S (n + 1)) S M_133 (fun r m => ∃ y, r = some y ∧ K y m) 5 [some (.inr 129), some (.inr 1), some (.inl (o : Int)), some (.inl x), some (.inl i)] [] mem := by
    intro N
    induction N with
    | zero => intros; omega
    | succ N ih =>
      intro x i hi hN
      refine w_133_5 (Ex.mono S (n + 1)) ⟨fun _ _ => ⟨_, rfl, H _⟩, fun q => f_38 hB ⟨by omega, by omega⟩ (fun b _ _ _ b3 _ _ b4 _ _ => ⟨fun _ => ⟨by unfold InI; omega, ih x (i + 1) (by omega) (by omega)⟩, fun _ => ⟨by omega, fun v5 e5 _ => ?_⟩⟩)⟩
      rw [Int.toNat_natCast] at e5
      exact ⟨by unfold InI; omega, fun v6 e6 _ => ⟨by omega, fun b7 _ _ b8 _ _ => ⟨by unfold InI; omega, ih b8 (i + 1) (by omega) (by omega)⟩⟩⟩
  exact CW.of (k := 2) mt_133 rfl rfl (w_133_0 (Ex.mono S (n + 1)) (key 5 0 0 (by omega) (by omega)))
theorem f_132 (h : HsA mem d) (hT : HTm mem) {o p : Nat} (ho : o < 8) (hp : p < 8) (H : ∀ r, K r mem) : CWI (Ex S (n + 3)) 132 [.inr 129, .inr 1, .inl (o : Int), .inl (p : Int)] mem K := by
  have hs := h.2.2.2.1
  have hd := h.2.2.2.2
  have key : ∀ (N : Nat) (x y i : Int), 0 ≤ i → (12 - i).toNat < N → Wx (Ex S (n + 2)) S M_132 (fun r m => ∃ y, r = some y ∧ K y m) 30 [some (.inr 129), some (.inr 1), some (.inl (o : Int)), some (.inl (p : Int)), some (.inl x), some (.inl y), some (.inl i)] [] mem := by
    intro N
    induction N with
    | zero => intros; omega
    | succ N ih =>
      intro x y i hi hN
      exact w_132_30 (Ex.mono S (n + 2)) (fun v1 e1 _ => ⟨fun _ => ⟨_, rfl, H _⟩, fun q b2 _ _ b3 _ _ => ⟨fun _ => ⟨by unfold InI; omega, ih x y (i + 1) (by omega) (by omega)⟩, fun _ => ⟨by omega, fun v4 _ _ => ⟨fun _ => ⟨by unfold InI; omega, ih x y (i + 1) (by omega) (by omega)⟩, fun _ => ⟨_, rfl, H _⟩⟩⟩⟩⟩)
  exact CW.of (k := 3) mt_132 rfl rfl (w_132_0 (Ex.mono S (n + 2)) (f_37 h.1 ⟨by omega, by omega⟩ (fun u u1 u2 _ => ⟨by omega, fun v3 _ _ => f_133 h hT ho (fun r _ => f_133 h hT hp (fun r2 _ b8 _ _ => key 13 v3 b8 0 (by omega) (by omega)))⟩)))
end HASTY
/-! the quick way of the class: an op is moved; seek -/
/-- only the set of ops with a time, and what is asked, may change; the set may lose some -/
def FrT (m m' : MM) : Prop := ∀ A i, ¬ A = 132 → ¬ (A = 129 ∧ i = 3) → m' A i = m A i
theorem FrT.rf {m : MM} : FrT m m := fun _ _ _ _ => rfl
theorem FrT.tr {a b c : MM} (h1 : FrT a b) (h2 : FrT b c) : FrT a c := fun A i e1 e2 => (h2 A i e1 e2).trans (h1 A i e1 e2)
theorem Fr1.t32 {m m' : MM} (e : Fr1 132 m m') : FrT m m' := fun A i e1 _ => e A i e1
theorem FrT.h {m m' : MM} (e : FrT m m') : FrH m m' := fun A i e1 e2 => e A i (by omega) (by omega)
theorem FrT.ht {m m' : MM} (e : FrT m m') (h : HTm m) : HTm m' := fun o ho => by rw [e 130 o (by omega) (by omega), e 131 o (by omega) (by omega)]; exact h o ho
theorem FrT.hc {m m' : MM} {c : Int} (e : FrT m m') (h : HCm m c) (s : ∀ p : Nat, p < 8 → tb (m' 129 3) (p : Int) → m 130 p ≤ c) : HCm m' c := fun o ho => by
  rw [e 130 o (by omega) (by omega), e 131 o (by omega) (by omega), e 1 0 (by omega) (by omega)]
  exact ⟨s o ho, (h o ho).2⟩
section SEEK
variable {S : Nat × (Nat → Int32)} {n : Nat} {mem : MM} {d c : Int}
theorem f_131 {K : MM → Prop} (h : HsA mem d) (hT : HTm mem) (hC : HCm mem c) {o : Nat} (ho : o < 8) (H : ∀ m', FrT mem m' → HCm m' c → K m') : CWV (Ex S (n + 4)) 131 [.inr 129, .inr 1, .inl (o : Int)] mem K := by
  have h8 := h.1.1
  refine CW.of (k := 3) mt_131 rfl rfl (w_131_0 (Ex.mono S (n + 3)) (f_37 h.1 ⟨by omega, by omega⟩ (fun u _ _ _ => f_124 h hT (fun m1 k1 => ?_))))
  have key : ∀ (N : Nat) (p : Nat) (m : MM), 8 - p < N → FrT mem m → HCm m c → Wx (Ex S (n + 3)) S M_131 (fun r m => r = none ∧ K m) 15 [some (.inr 129), some (.inr 1), some (.inl (o : Int)), some (.inl u), some (.inl (p : Int)), none] [] m := by
    intro N
    induction N with
    | zero => intros; omega
    | succ N ih =>
      intro p m hN hF hC'
      have hs := hF.h.hs h
      have e10 : m 1 0 = mem 1 0 := hF _ _ (by omega) (by omega)
      have nx : ∀ m', FrT mem m' → HCm m' c → p < 8 → InI ((p : Int) + 1) ∧ Wx (Ex S (n + 3)) S M_131 (fun r m => r = none ∧ K m) 15 [some (.inr 129), some (.inr 1), some (.inl (o : Int)), some (.inl u), some (.inl ((p : Int) + 1)), none] [] m' := fun m' z1 z2 q => ⟨by unfold InI; omega, ih (p + 1) m' (by omega) z1 z2⟩
      refine w_131_15 (Ex.mono S (n + 3)) (fun v1 e1 _ => ⟨fun _ => ⟨rfl, H m hF hC'⟩, fun q => ⟨fun _ => nx m hF hC' (by omega), fun _ => f_37 hs.1 ⟨by omega, by omega⟩ (fun w _ _ _ => ⟨fun _ => nx m hF hC' (by omega), fun _ v4 _ _ b5 _ _ b6 _ _ => ⟨fun _ => nx m hF hC' (by omega), fun _ => f_132 hs (hF.ht hT) ho (by omega) (fun r _ => ⟨fun _ => nx m hF hC' (by omega), fun _ v9 e9 _ b10 _ _ b11 _ _ b12 e12 _ => ?_⟩)⟩⟩)⟩⟩)
      have hF2 : FrT m (upm m 129 3 b12) := fun A i _ e2 => upm_ne e2
      have hs2 := hF2.h.hs hs
      have hC2 : HCm (upm m 129 3 b12) c := hF2.hc hC' (fun p hp z => by
        rw [upm_eq] at z
        rw [e9] at e12
        exact (hC' p hp).1 (tb_and e12 z))
      refine f_38 hs2.1 ⟨by omega, by omega⟩ (fun y _ _ _ => ⟨by omega, fun v15 e15 _ => ?_⟩)
      have ht := ((hF.tr hF2).ht hT p (by omega)).1
      rw [Int.toNat_natCast] at e15
      exact f_125 hs2.2.2.2.1 hs2.2.2.2.2 ⟨by omega, by omega⟩ (fun m' k => nx m' ((hF.tr hF2).tr k.t32) (k.hc hC2) (by omega))
  exact key 9 0 m1 (by omega) k1.t32 (k1.hc hC)
theorem f_134 {K : MM → Prop} (h : HsA mem d) (hT : HTm mem) (hC : HCm mem c) {o : Nat} (ho : o < 8) (hco : mem 130 o ≤ c) (H : ∀ m', FrT mem m' → HCm m' c → K m') : CWV (Ex S (n + 1)) 134 [.inr 129, .inr 9, .inl (o : Int)] mem K := by
  have key : ∀ (N : Nat) (k : Nat) (m : MM), 64 - k < N → FrT mem m → HCm m c → Wx (Ex S n) S M_134 (fun r m => r = none ∧ K m) 2 [some (.inr 129), some (.inr 9), some (.inl (o : Int)), some (.inl (k : Int)), none, none, none, none] [] m := by
    intro N
    induction N with
    | zero => intros; omega
    | succ N ih =>
      intro k m hN hF hC'
      obtain ⟨hB, hW, -, hs, hd⟩ := hF.h.hs h
      have hT' := hF.ht hT
      refine w_134_2 (Ex.mono S n) (fun v1 e1 _ => ⟨fun _ => ⟨rfl, H m hF hC'⟩, fun q => ?_⟩)
      have hk : 0 ≤ (k : Int) ∧ (k : Int) < 64 := by have := hW.2; omega
      obtain ⟨g1, g2, g3, g4⟩ : Rg (m 10 k) (m 11 k) (m 12 k) (m 13 k) := hW.1 k (by omega)
      have nx : ∀ m', FrT mem m' → HCm m' c → InI ((k : Int) + 1) ∧ Wx (Ex S n) S M_134 (fun r m => r = none ∧ K m) 2 [some (.inr 129), some (.inr 9), some (.inl (o : Int)), some (.inl ((k : Int) + 1)), none, none, none, none] [] m' := fun m' z1 z2 => ⟨by unfold InI; omega, ih (k + 1) m' (by omega) z1 z2⟩
      rw [Int.toNat_natCast]
      refine ⟨hk, fun v2 e2 _ => ⟨hk, fun v3 e3 _ b4 _ _ b5 _ _ b6 _ _ => ?_⟩⟩
      have t2 := (hT' v2.toNat (by omega)).1
      have upd : ∀ v14 b15 b16 v17 b18 b19 : Int, v14 = m 129 3 → b16 = ((fun (x y : Int32) => x &&& y) (Int32.ofInt v14) (Int32.ofInt b15)).toInt → v17 = (upm m 129 3 b16) 129 3 → b18 = ((fun (x y : Int32) => x <<< (y &&& 31)) (Int32.ofInt 1) (Int32.ofInt (o : Int))).toInt → b19 = ((fun (x y : Int32) => x ||| y) (Int32.ofInt v17) (Int32.ofInt b18)).toInt → InI ((k : Int) + 1) ∧ Wx (Ex S n) S M_134 (fun r m => r = none ∧ K m) 2 [some (.inr 129), some (.inr 9), some (.inl (o : Int)), some (.inl ((k : Int) + 1)), none, none, none, none] [] (upm (upm m 129 3 b16) 129 3 b19) := by
        intro v14 b15 b16 v17 b18 b19 f1 f2 f3 f4 f5
        have hF2 : FrT m (upm (upm m 129 3 b16) 129 3 b19) := fun A i _ e2 => by rw [upm_ne e2, upm_ne e2]
        refine nx _ (hF.tr hF2) (hF2.hc hC' (fun p hp z => ?_))
        rw [upm_eq] at z f3
        rw [f3] at f5
        rcases (tb_set (p := (p : Int)) f4 f5 ⟨by omega, by omega⟩ ⟨by omega, by omega⟩).mp z with z2 | z2
        · rw [f1] at f2
          exact (hC' p hp).1 (tb_and f2 z2)
        · have e : p = o := by omega
          subst e
          rw [hF 130 p (by omega) (by omega)]; exact hco
      have body : ∀ v7 b8 : Int, ((¬ b8 = b6 → (InI ((k : Int) + 1)) ∧ (Wx (Ex S n) S M_134 (fun r m => r = none ∧ K m) 2 [some (.inr 129), some (.inr 9), some (.inl (o : Int)), some (.inl ((k : Int) + 1)), none, none, none, none] [] m)) ∧ (¬ (¬ b8 = b6) → ((0 : Int) ≤ v3 ∧ (v3 : Int) < 8) ∧ ∀ v9 : Int, v9 = m 130 (Int.toNat v3) → InI v9 → ((0 : Int) ≤ v2 ∧ (v2 : Int) < 8) ∧ ∀ v10 : Int, v10 = m 130 (Int.toNat v2) → InI v10 → ((0 : Int) ≤ (k : Int) ∧ ((k : Int) : Int) < 64) ∧ ∀ v11 : Int, v11 = m 13 k → InI v11 → (InI (v10 + v11)) ∧ ∀ v12 : Int, v12 = m 129 0 → InI v12 → ((0 : Int) ≤ (k : Int) ∧ ((k : Int) : Int) < 64) ∧ ∀ v13 : Int, v13 = m 12 k → InI v13 → (InI (v12 * v13)) ∧ (InI ((v10 + v11) - (v12 * v13))) ∧ ((((v10 + v11) - (v12 * v13)) ≤ v9 → (InI ((k : Int) + 1)) ∧ (Wx (Ex S n) S M_134 (fun r m => r = none ∧ K m) 2 [some (.inr 129), some (.inr 9), some (.inl (o : Int)), some (.inl ((k : Int) + 1)), none, none, none, none] [] m)) ∧ (¬ (((v10 + v11) - (v12 * v13)) ≤ v9) → ∀ v14 : Int, v14 = m 129 3 → InI v14 → ∀ b15 : Int, b15 = ((fun (x y : Int32) => x ^^^ y) (Int32.ofInt b6) (Int32.ofInt (-1))).toInt → InI b15 → ∀ b16 : Int, b16 = ((fun (x y : Int32) => x &&& y) (Int32.ofInt v14) (Int32.ofInt b15)).toInt → InI b16 → ∀ v17 : Int, v17 = (upm m 129 3 b16) 129 3 → InI v17 → ∀ b18 : Int, b18 = ((fun (x y : Int32) => x <<< (y &&& 31)) (Int32.ofInt 1) (Int32.ofInt (o : Int))).toInt → InI b18 → ∀ b19 : Int, b19 = ((fun (x y : Int32) => x ||| y) (Int32.ofInt v17) (Int32.ofInt b18)).toInt → InI b19 → (InI ((k : Int) + 1)) ∧ (Wx (Ex S n) S M_134 (fun r m => r = none ∧ K m) 2 [some (.inr 129), some (.inr 9), some (.inl (o : Int)), some (.inl ((k : Int) + 1)), none, none, none, none] [] (upm (upm m 129 3 b16) 129 3 b19)))))) := by
        intro v7 b8
        refine ⟨fun _ => nx m hF hC', fun _ => ⟨by omega, fun v9 e9 _ => ⟨by omega, fun v10 e10 _ => ⟨hk, fun v11 e11 _ => ⟨by unfold InI; omega, fun v12 e12 _ => ⟨hk, fun v13 e13 _ => ?_⟩⟩⟩⟩⟩⟩
        have := d7 (d := v12) (x := v13) (by omega) (by omega)
        exact ⟨by unfold InI; omega, by unfold InI; omega, fun _ => nx m hF hC', fun _ v14 f1 _ b15 _ _ b16 f2 _ v17 f3 _ b18 f4 _ b19 f5 _ => upd v14 b15 b16 v17 b18 b19 f1 f2 f3 f4 f5⟩
      exact ⟨fun _ => ⟨fun _ => nx m hF hC', fun _ v7 _ _ b8 _ _ => body v7 b8⟩, fun _ => ⟨fun _ v7 _ _ b8 _ _ => body v7 b8, fun _ => nx m hF hC'⟩⟩
  exact CW.of (k := 5) mt_134 rfl rfl (w_134_0 (Ex.mono S n) (key 65 0 mem (by omega) FrT.rf hC))
/-- an op gets a time -/
theorem f_129 {K : MM → Prop} (h : HsA mem d) (hT : HTm mem) (hC : HCm mem c) (hc : 0 ≤ c ∧ c ≤ 846) {o : Nat} (ho : o < 8) (hos : (o : Int) < mem 1 0) (H : ∀ m', FrH mem m' → m' 129 2 = mem 129 2 → m' 129 1 = mem 129 1 → HTm m' → HCm m' (c + 18) → K m') : CWV (Ex S (n + 5)) 129 [.inr 129, .inr 1, .inr 9, .inl (o : Int)] mem K := by
  have hd := h.2.2.2.2
  have hlo := (hC o ho).2 hos
  have hl1 := (hT o ho).2.1
  have ho8 : 0 ≤ (o : Int) ∧ (o : Int) < 8 := by omega
  refine CW.of (k := 3) mt_129 rfl rfl (w_129_0 (Ex.mono S (n + 4)) (f_130 h hT hC hc.1 (fun r r1 r2 _ => f_37 h.1 ho8 (fun u _ _ _ => f_124 h hT (fun m1 k1 => ?_)))))
  have at90 : ∀ (t x : Int) (m : MM), 0 ≤ t → t ≤ c + 18 → Fr1 132 mem m → Wx (Ex S (n + 4)) S M_129 (fun r m => r = none ∧ K m) 90 [some (.inr 129), some (.inr 1), some (.inr 9), some (.inl (o : Int)), some (.inl r), some (.inl t), some (.inl x)] [] m := by
    intro t x m t1 t2 kF
    refine w_129_90 (Ex.mono S (n + 4)) ⟨ho8, ho8, fun v1 e1 _ b2 e2 _ b3 e3 _ => ?_⟩
    rw [Int.toNat_natCast] at e1 ⊢
    have e1 : v1 = m 129 3 := by rw [e1, upm_ne (by omega), upm_ne (by omega)]
    generalize hM : upm (upm (upm m 130 o t) 131 o t) 129 3 b3 = M
    have q : ∀ A i, ¬ (A = 130 ∧ i = o) → ¬ (A = 131 ∧ i = o) → ¬ (A = 129 ∧ i = 3) → M A i = m A i := fun A i z1 z2 z3 => by rw [← hM, upm_ne z3, upm_ne z2, upm_ne z1]
    have q0 : M 130 o = t := by rw [← hM, upm_ne (by omega), upm_ne (by omega), upm_eq]
    have q1 : M 131 o = t := by rw [← hM, upm_ne (by omega), upm_eq]
    have q3 : M 129 3 = b3 := by rw [← hM, upm_eq]
    have hFM : FrH mem M := kF.h32.tr (fun A i z1 z2 => q A i (by omega) (by omega) (by omega))
    have hTM : HTm M := fun p hp => by
      by_cases e : p = o
      · subst e; rw [q0, q1]; omega
      · rw [q 130 p (by omega) (by omega) (by omega), q 131 p (by omega) (by omega) (by omega)]; exact kF.ht hT p hp
    have hCM : HCm M (c + 18) := fun p hp => by
      have hcp := kF.hc hC p hp
      rw [q3, q 1 0 (by omega) (by omega) (by omega)]
      by_cases e : p = o
      · subst e; rw [q0, q1]; exact ⟨fun _ => t2, fun _ => t2⟩
      · rw [q 130 p (by omega) (by omega) (by omega), q 131 p (by omega) (by omega) (by omega)]
        refine ⟨fun z => ?_, fun z => by have := hcp.2 z; omega⟩
        rw [e1] at e3
        rcases (tb_set (p := (p : Int)) e2 e3 ho8 ⟨by omega, by omega⟩).mp z with z2 | z2
        · have := hcp.1 z2; omega
        · exact absurd (by omega) e
    have hsM := hFM.hs h
    have k2 : M 129 2 = mem 129 2 := by rw [q 129 2 (by omega) (by omega) (by omega)]; exact kF _ _ (by omega)
    have k3 : M 129 1 = mem 129 1 := by rw [q 129 1 (by omega) (by omega) (by omega)]; exact kF _ _ (by omega)
    have fin : ∀ m2, FrT M m2 → HCm m2 (c + 18) → none = (none : Option Int) ∧ K m2 := fun m2 g1 g2 => ⟨rfl, H m2 (hFM.tr g1.h) (by rw [g1 129 2 (by omega) (by omega)]; exact k2) (by rw [g1 129 1 (by omega) (by omega)]; exact k3) (g1.ht hTM) g2⟩
    refine ⟨fun _ => f_134 hsM hTM hCM ho (by rw [q0]; exact t2) fin, fun _ => f_131 hsM hTM hCM ho (fun m5 g1 g2 => f_134 (g1.h.hs hsM) (g1.ht hTM) g2 ho (by rw [g1 130 o (by omega) (by omega), q0]; exact t2) (fun m6 g3 g4 => fin m6 (g1.tr g3) g4))⟩
  have at51 : ∀ (t : Int) (m : MM), r ≤ t → t ≤ r + d → Fr1 132 mem m → Wx (Ex S (n + 4)) S M_129 (fun r m => r = none ∧ K m) 51 [some (.inr 129), some (.inr 1), some (.inr 9), some (.inl (o : Int)), some (.inl r), some (.inl t), none] [] m := by
    intro t m t1 t2 kF
    have e0 : m 129 0 = d := by rw [kF 129 0 (by omega)]; exact h.2.2.2.1
    refine w_129_51 (Ex.mono S (n + 4)) (fun v1 e1 _ => ⟨by unfold InI; omega, fun _ => at90 t 0 m (by omega) (by omega) kF, fun _ => ⟨ho8, fun v2 e2 _ => ?_⟩⟩)
    rw [Int.toNat_natCast, kF 131 o (by omega)] at e2
    exact ⟨by unfold InI; omega, f_40 (fun _ => at90 _ 1 m (by omega) (by omega) kF)⟩
  have key : ∀ (N : Nat) (t : Int) (m : MM), r ≤ t → t ≤ r + d → (r + d - t).toNat < N → Fr1 132 mem m → Wx (Ex S (n + 4)) S M_129 (fun r m => r = none ∧ K m) 22 [some (.inr 129), some (.inr 1), some (.inr 9), some (.inl (o : Int)), some (.inl r), some (.inl t), none] [] m := by
    intro N
    induction N with
    | zero => intros; omega
    | succ N ih =>
      intro t m t1 t2 hN kF
      have hs := kF.h32.hs h
      have e0 := hs.2.2.2.1
      exact w_129_22 (Ex.mono S (n + 4)) (fun v1 e1 _ => ⟨by unfold InI; omega, fun _ => at51 t m t1 t2 kF, fun q => f_126 hs ho8 ⟨by omega, by omega⟩ (fun r2 m2 k2 _ => ⟨fun _ => at51 t m2 t1 t2 (kF.tr k2), fun _ => ⟨by unfold InI; omega, ih (t + 1) m2 (by omega) (by omega) (by omega) (kF.tr k2)⟩⟩)⟩)
  exact key _ r m1 (by omega) (by omega) (Nat.lt_succ_self _) k1
def FrX (m m' : MM) : Prop := ∀ A i, ¬ (129 ≤ A ∧ A ≤ 133) → m' A i = m A i
/-- Hasty between its calls -/
def HsOK (m : MM) : Prop := HTm m ∧ (0 ≤ m 129 0 ∧ m 129 0 ≤ 12) ∧ (0 ≤ m 129 1 ∧ m 129 1 ≤ 1) ∧ 0 ≤ m 129 2 ∧ m 129 2 ≤ 48
theorem tb0 (p : Int) : ¬ tb 0 p := by
  unfold tb
  rw [show Int32.ofInt 0 = 0 from rfl, Int32.zero_and]
  exact fun h => h rfl
theorem f_123 {K : MM → Prop} (hB : BodyOK mem) (hW : WbOK mem 9) (hR : 0 ≤ mem 19 0 ∧ mem 19 0 ≤ 8) (hH : HsOK mem) (hd : 1 ≤ d ∧ d ≤ 12) (H : ∀ m', FrX mem m' → HsOK m' → K m') : CWV (Ex S (n + 6)) 123 [.inr 129, .inr 1, .inr 9, .inr 19, .inl d] mem K := by
  refine CW.of (k := 1) mt_123 rfl rfl (w_123_0 (Ex.mono S (n + 5)) (fun v1 e1 _ => ⟨fun q => ?_, fun _ => ⟨rfl, H mem (fun _ _ _ => rfl) hH⟩⟩))
  generalize hM : upm (upm (upm (upm mem 129 0 d) 129 1 0) 129 2 0) 129 3 0 = M
  have qM : ∀ A i, ¬ A = 129 → M A i = mem A i := fun A i z => by rw [← hM, upm_ne (by omega), upm_ne (by omega), upm_ne (by omega), upm_ne (by omega)]
  have m0 : M 129 0 = d := by rw [← hM, upm_ne (by omega), upm_ne (by omega), upm_ne (by omega), upm_eq]
  have m1 : M 129 1 = 0 := by rw [← hM, upm_ne (by omega), upm_ne (by omega), upm_eq]
  have m2 : M 129 2 = 0 := by rw [← hM, upm_ne (by omega), upm_eq]
  have m3 : M 129 3 = 0 := by rw [← hM, upm_eq]
  have hA : HsA M d := ⟨hB.fr (fun A i a b => qM A i (by omega)), ⟨fun j hj => by rw [qM _ _ (by omega), qM _ _ (by omega), qM _ _ (by omega), qM _ _ (by omega)]; exact hW.1 j hj, by rw [qM _ _ (by omega)]; exact hW.2⟩, by rw [qM _ _ (by omega)]; exact hR, m0, hd⟩
  have hT : HTm M := fun o ho => by rw [qM _ _ (by omega), qM _ _ (by omega)]; exact hH.1 o ho
  have hX : FrX mem M := fun A i z => qM A i (by omega)
  have h8 := hA.1.1
  have fin : ∀ m, FrH M m → HTm m → (0 ≤ m 129 1 ∧ m 129 1 ≤ 1) → (0 ≤ m 129 2 ∧ m 129 2 ≤ 48) → K m := fun m g1 g2 g3 g4 => H m (fun A i z => by rw [g1 A i (by omega) (by omega)]; exact hX A i z) ⟨g2, by rw [g1 129 0 (by omega) (by omega), m0]; omega, g3, g4⟩
  have l103 : ∀ (N : Nat) (x : Int) (m : MM), (48 - m 129 2).toNat < N → 0 ≤ m 129 2 → m 129 2 ≤ 48 → m 129 1 = 0 → FrH M m → HTm m → HCm m (18 * m 129 2) → Wx (Ex S (n + 5)) S M_123 (fun r m => r = none ∧ K m) 103 [some (.inr 129), some (.inr 1), some (.inr 9), some (.inr 19), some (.inl d), some (.inl x)] [] m := by
    intro N
    induction N with
    | zero => intros; omega
    | succ N ih =>
      intro x m hN c0 c1 f0 hF hT' hC
      have hs := hF.hs hA
      have e10 : m 1 0 = M 1 0 := hF _ _ (by omega) (by omega)
      have done : ∀ z : Int, z = 0 ∨ z = 1 → none = (none : Option Int) ∧ K (upm m 129 1 z) := fun z hz => by
        refine ⟨rfl, fin _ (hF.tr (fun A i z1 z2 => upm_ne (by omega))) (fun o ho => ?_) (by rw [upm_eq]; omega) (by rw [upm_ne (by omega)]; omega)⟩
        rw [upm_ne (by omega), upm_ne (by omega)]; exact hT' o ho
      refine w_123_103 (Ex.mono S (n + 5)) (fun v1 e1 _ v2 e2 _ => ⟨by unfold InI; omega, fun _ v3 _ _ => ⟨fun _ => done 0 (Or.inl rfl), fun _ => done 1 (Or.inr rfl)⟩, fun q2 v4 _ _ => ⟨fun _ v5 _ _ => ⟨fun _ => done 0 (Or.inl rfl), fun _ => done 1 (Or.inr rfl)⟩, fun _ v6 e6 _ => f_128 ⟨by omega, by omega⟩ (fun r r1 r2 r3 _ => ?_)⟩⟩)
      obtain ⟨o, rfl⟩ : ∃ o : Nat, r = (o : Int) := ⟨r.toNat, by omega⟩
      refine f_129 hs hT' hC ⟨by omega, by omega⟩ (by omega) (by omega) (fun m9 g1 g2 g3 g4 g5 v10 e10' _ => ⟨by unfold InI; omega, ?_⟩)
      have e25 : upm m9 129 2 (v10 + 1) 129 2 = v10 + 1 := upm_eq
      refine ih x _ (by rw [e25]; omega) (by rw [e25]; omega) (by rw [e25]; omega) (by rw [upm_ne (by omega)]; omega) ((hF.tr g1).tr (fun A i z1 z2 => upm_ne (by omega))) (fun p hp => by rw [upm_ne (by omega), upm_ne (by omega)]; exact g4 p hp) (fun p hp => ?_)
      rw [e25, upm_ne (A := 129) (B := 129) (by omega), upm_ne (A := 129) (B := 130) (by omega), upm_ne (A := 129) (B := 131) (by omega), upm_ne (A := 129) (B := 1) (by omega), show 18 * (v10 + 1) = 18 * m 129 2 + 18 by omega]
      exact g5 p hp
  have l34 : ∀ (N : Nat) (o : Nat) (m : MM), 8 - o < N → FrH M m → HTm m → m 129 1 = 0 → m 129 2 = 0 → m 129 3 = 0 → (∀ p : Nat, p < o → p < 8 → m 131 p = -1) → Wx (Ex S (n + 5)) S M_123 (fun r m => r = none ∧ K m) 34 [some (.inr 129), some (.inr 1), some (.inr 9), some (.inr 19), some (.inl d), some (.inl (o : Int))] [] m := by
    intro N
    induction N with
    | zero => intros; omega
    | succ N ih =>
      intro o m hN hF hT' f1 f2 f3 hL
      have hs := hF.hs hA
      have e10 : m 1 0 = M 1 0 := hF _ _ (by omega) (by omega)
      refine w_123_34 (Ex.mono S (n + 5)) (fun v1 e1 _ => ⟨fun z v2 e2 _ b3 e3 _ => ⟨?_, ?_⟩, fun z => ⟨by omega, ?_⟩⟩)
      · have a : v2 = 0 ∨ v2 = 1 ∨ v2 = 2 ∨ v2 = 3 ∨ v2 = 4 ∨ v2 = 5 ∨ v2 = 6 ∨ v2 = 7 ∨ v2 = 8 := by omega
        have : 1 ≤ b3 ∧ b3 ≤ 256 := by
          rw [e3]
          rcases a with a | a | a | a | a | a | a | a | a <;> rw [a] <;> decide
        unfold InI; omega
      · refine l103 49 _ m (by omega) (by omega) (by omega) f1 hF hT' (fun p hp => ⟨fun w => absurd w (by rw [f3]; exact tb0 _), fun w => ?_⟩)
        have := hL p (by omega) hp
        omega
      · rw [Int.toNat_natCast]
        have hF1 : FrH m (upm m 131 o (-1)) := fun A i z1 z2 => upm_ne (by omega)
        have hs1 := hF1.hs hs
        refine f_80 hs1.2.2.1 ⟨by omega, by omega⟩ (fun r _ => ⟨by omega, ?_⟩)
        generalize hM2 : upm (upm m 131 o (-1)) 133 o r = m4
        have q4 : ∀ A i, ¬ (A = 131 ∧ i = o) → ¬ A = 133 → m4 A i = m A i := fun A i z1 z2 => by rw [← hM2, upm_ne (by omega), upm_ne z1]
        have q41 : m4 131 o = -1 := by rw [← hM2, upm_ne (by omega), upm_eq]
        have hF4 : FrH M m4 := hF.tr (fun A i z1 z2 => q4 A i (by omega) (by omega))
        have hs4 := hF4.hs hA
        have hT4 : HTm m4 := fun p hp => by
          rw [q4 130 p (by omega) (by omega)]
          refine ⟨(hT' p hp).1, ?_⟩
          by_cases e : p = o
          · subst e; rw [q41]; omega
          · rw [q4 131 p (by omega) (by omega)]; exact (hT' p hp).2
        refine f_37 hs4.1 ⟨by omega, by omega⟩ (fun u _ _ _ => f_124 hs4 hT4 (fun m6 k6 => f_126 (k6.h32.hs hs4) ⟨by omega, by omega⟩ ⟨by omega, by omega⟩ (fun y m9 k9 _ => ?_)))
        have k := k6.tr k9
        have hF9 := hF4.tr k.h32
        have w1 : m9 129 1 = 0 := by rw [k 129 1 (by omega), q4 129 1 (by omega) (by omega)]; exact f1
        have w2 : m9 129 2 = 0 := by rw [k 129 2 (by omega), q4 129 2 (by omega) (by omega)]; exact f2
        have w3 : m9 129 3 = 0 := by rw [k 129 3 (by omega), q4 129 3 (by omega) (by omega)]; exact f3
        refine ⟨fun _ => ⟨by unfold InI; omega, ih (o + 1) m9 (by omega) hF9 (k.ht hT4) w1 w2 w3 (fun p hp hp8 => ?_)⟩, fun _ => ⟨rfl, fin m9 hF9 (k.ht hT4) (by omega) (by omega)⟩⟩
        rw [k 131 p (by omega)]
        by_cases e : p = o
        · subst e; exact q41
        · rw [q4 131 p (by omega) (by omega)]; exact hL p (by omega) hp8
  exact l34 9 0 M (by omega) FrH.rf hT m1 m2 m3 (fun p hp => by omega)
end SEEK
