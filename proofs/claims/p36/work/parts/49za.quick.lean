/-! the quick way of the reference -/
def FrK (m m' : MM) : Prop := ∀ A i, ¬ A = 159 → ¬ A = 163 → ¬ A = 164 → m' A i = m A i
theorem FrK.rf {m : MM} : FrK m m := fun _ _ _ _ _ => rfl
theorem FrK.tr {a b c : MM} (h1 : FrK a b) (h2 : FrK b c) : FrK a c := fun A i e1 e2 e3 => (h2 A i e1 e2 e3).trans (h1 A i e1 e2 e3)
theorem Fr1.k59 {a b : MM} (h : Fr1 159 a b) : FrK a b := fun A i e _ _ => h A i e
theorem FrK.up {m : MM} {A i : Nat} {x : Int} (h : A = 163 ∨ A = 164) : FrK m (upm m A i x) := fun B j _ e2 e3 => upm_ne (by omega)
theorem FrK.rest {m m' : MM} (e : FrK m m') (h : RefOK m) : RefOK m' :=
  Kp.rest (fun A i q => e A i (by omega) (by omega) (by omega)) h (fun o ho => by rw [e _ _ (by omega) (by omega) (by omega)]; exact h.sl o ho) (fun j hj => by rw [e _ _ (by omega) (by omega) (by omega), e _ _ (by omega) (by omega) (by omega), e _ _ (by omega) (by omega) (by omega), e _ _ (by omega) (by omega) (by omega)]; exact h.r48 j hj) (by rw [e _ _ (by omega) (by omega) (by omega)]; exact h.nd)
theorem FrK.q {m m' : MM} (e : FrK m m') : FrQ m m' := fun A i q => e A i (by omega) (by omega) (by omega)
theorem FrK.nds {m m' : MM} (h : FrK m m') (H : NdsOK m) : NdsOK m' := by
  have e : ∀ A i, (A = 143 ∧ (i = 1 ∨ i = 12)) ∨ (153 < A ∧ A < 158) → m' A i = m A i := fun A i q => h A i (by omega) (by omega) (by omega)
  refine ⟨by rw [e 143 1 (by omega)]; exact H.1, by rw [e 143 12 (by omega)]; exact H.2.1, fun j hj => ?_⟩
  rw [e 143 12 (by omega)] at hj
  rw [e 143 1 (by omega), e 154 j (by omega), e 155 j (by omega), e 156 j (by omega), e 157 j (by omega)]
  exact H.2.2 j hj
/-- times of the quick way so far -/
def QT (m : MM) (c : Int) : Prop := ∀ o : Nat, (o : Int) < m 143 1 → (-1 ≤ m 163 o ∧ m 163 o ≤ c) ∧ -1 ≤ m 164 o ∧ m 164 o ≤ c
theorem Fr1.qt {m m' : MM} {c : Int} (h : Fr1 159 m m') (H : QT m c) : QT m' c := fun o ho => by
  rw [h 143 1 (by omega)] at ho
  rw [h 163 o (by omega), h 164 o (by omega)]; exact H o ho
section QUICK
variable {S : Nat × (Nat → Int32)} {n : Nat} {mem : MM} {K : Int → MM → Prop} {d c : Int}
theorem f_283 (hO : OpsOK mem) (hU : UnOK mem) (hN : NdsOK mem) (hd : 1 ≤ d ∧ d ≤ 12) {o : Int} (ho : 0 ≤ o ∧ o < 8) (H : ∀ r m', Fr1 159 mem m' → K r m') : CWI (Ex S (n + 3)) 283 [.inr 143, .inl o, .inl d] mem K := by
  have h48 := hN.2.1
  have key : ∀ (N : Nat) (k : Nat), (k : Int) ≤ mem 143 12 → (mem 143 12 - k).toNat < N → Wx (Ex S (n + 2)) S M_283 (fun r m => ∃ y, r = some y ∧ K y m) 2 [some (.inr 143), some (.inl o), some (.inl d), some (.inl (k : Int))] [] mem := by
    intro N
    induction N with
    | zero => intros; omega
    | succ N ih =>
      intro k hk hNN
      refine w_283_2 (Ex.mono S (n + 2)) (fun v1 e1 _ => ⟨fun q => ?_, fun q => ?_⟩)
      · refine f_270 (fun m2 k2 => f_271 ?_ ?_ ho ⟨by omega, by omega⟩ hd (fun m3 k3 => f_264 ?_ ?_ ho (fun u u1 u2 _ => f_273 ⟨u1, u2⟩ hd (fun r _ _ => ⟨fun _ => ⟨_, rfl, H _ _ (k2.tr k3)⟩, fun _ => ⟨_, rfl, H _ _ (k2.tr k3)⟩⟩))))
        · exact (k2.f59).ops hO
        · exact (k2.f59).un hU
        · exact ((k2.tr k3).f59).ops hO
        · exact ((k2.tr k3).f59).un hU
      · have hk48 : 0 ≤ (k : Int) ∧ (k : Int) < 48 := by omega
        obtain ⟨p1, p2, p3, p4, p5, p6, p7, p8, p9⟩ := hN.2.2 k (by omega)
        have nx : InI ((k : Int) + 1) ∧ Wx (Ex S (n + 2)) S M_283 (fun r m => ∃ y, r = some y ∧ K y m) 2 [some (.inr 143), some (.inl o), some (.inl d), some (.inl ((k : Int) + 1))] [] mem := ⟨by unfold InI; omega, ih (k + 1) (by omega) (by omega)⟩
        rw [Int.toNat_natCast]
        refine ⟨hk48, fun v8 e8 _ => ⟨fun _ => nx, fun _ => ⟨hk48, fun v9 e9 _ => ⟨fun _ => nx, fun _ => ⟨hk48, fun v10 e10 _ => ⟨hk48, fun v11 e11 _ => ?_⟩⟩⟩⟩⟩⟩
        have := d7 (x := v11) hd (by omega)
        exact ⟨by unfold InI; omega, fun _ => nx, fun _ => ⟨_, rfl, H _ _ Fr1.rf⟩⟩
  exact CW.of (k := 1) mt_283 rfl rfl (w_283_0 (Ex.mono S (n + 2)) (key 49 0 (by omega) (by omega)))
theorem f_284 (h8 : 0 ≤ mem 143 1 ∧ mem 143 1 ≤ 8) (H : ∀ r, r = -1 ∨ (0 ≤ r ∧ r < mem 143 1) → K r mem) : CWI (Ex S (n + 3)) 284 [.inr 143] mem K := by
  have key : ∀ (N : Nat) (b o : Int), 0 ≤ o → (b = -1 ∨ (0 ≤ b ∧ b < mem 143 1)) → (8 - o).toNat < N → Wx (Ex S (n + 2)) S M_284 (fun r m => ∃ y, r = some y ∧ K y m) 4 [some (.inr 143), some (.inl b), some (.inl o)] [] mem := by
    intro N
    induction N with
    | zero => intros; omega
    | succ N ih =>
      intro b o ho hb hN
      exact w_284_4 (Ex.mono S (n + 2)) (fun v1 e1 _ => ⟨fun _ _ => ⟨_, rfl, H _ hb⟩, fun q => ⟨by omega, fun v2 _ _ => ⟨fun _ => ⟨by unfold InI; omega, ih b (o + 1) (by omega) hb (by omega)⟩, fun _ => ⟨fun _ => ⟨by unfold InI; omega, ih o (o + 1) (by omega) (by omega) (by omega)⟩, fun q2 => f_261 h8 ⟨ho, by omega⟩ (fun r _ => f_261 h8 ⟨by omega, by omega⟩ (fun r2 _ => ⟨fun _ => ⟨by unfold InI; omega, ih b (o + 1) (by omega) hb (by omega)⟩, fun _ => ⟨by unfold InI; omega, ih o (o + 1) (by omega) (by omega) (by omega)⟩⟩))⟩⟩⟩⟩)
  exact CW.of (k := 2) mt_284 rfl rfl (w_284_0 (Ex.mono S (n + 2)) (key 9 (-1) 0 (by omega) (by omega) (by omega)))
theorem f_286 (hN : NdsOK mem) (hd : 1 ≤ d ∧ d ≤ 12) (hc : 0 ≤ c ∧ c ≤ 100000) (hQ : QT mem c) {o : Int} (H : ∀ r, 0 ≤ r → r ≤ c + 6 → K r mem) : CWI (Ex S (n + 2)) 286 [.inr 143, .inl o, .inl d] mem K := by
  have h8 := hN.1
  have h48 := hN.2.1
  have key : ∀ (N : Nat) (x : Int) (k : Nat), 0 ≤ x → x ≤ c + 6 → (k : Int) ≤ mem 143 12 → (mem 143 12 - k).toNat < N → Wx (Ex S (n + 1)) S M_286 (fun r m => ∃ y, r = some y ∧ K y m) 5 [some (.inr 143), some (.inl o), some (.inl d), some (.inl x), some (.inl (k : Int))] [] mem := by
    intro N
    induction N with
    | zero => intros; omega
    | succ N ih =>
      intro x k hx hx2 hk hNN
      refine w_286_5 (Ex.mono S (n + 1)) (fun v1 e1 _ => ⟨fun q _ => ⟨_, rfl, H _ hx hx2⟩, fun q => ?_⟩)
      have hk48 : 0 ≤ (k : Int) ∧ (k : Int) < 48 := by omega
      obtain ⟨p1, p2, p3, p4, p5, p6, p7, p8, p9⟩ := hN.2.2 k (by omega)
      have nx : ∀ x, 0 ≤ x → x ≤ c + 6 → InI ((k : Int) + 1) ∧ Wx (Ex S (n + 1)) S M_286 (fun r m => ∃ y, r = some y ∧ K y m) 5 [some (.inr 143), some (.inl o), some (.inl d), some (.inl x), some (.inl ((k : Int) + 1))] [] mem := fun x z1 z2 => ⟨by unfold InI; omega, ih x (k + 1) z1 z2 (by omega) (by omega)⟩
      rw [Int.toNat_natCast]
      refine ⟨hk48, fun v2 e2 _ => ⟨fun _ => nx _ hx hx2, fun _ => ⟨hk48, fun v3 e3 _ => ⟨fun _ => nx _ hx hx2, fun _ => ⟨hk48, fun v4 e4 _ => ⟨by omega, fun v5 e5 _ => ⟨fun _ => nx _ hx hx2, fun _ => ⟨hk48, fun v6 e6 _ => ⟨by omega, fun v7 e7 _ => ⟨hk48, fun v8 e8 _ => ?_⟩⟩⟩⟩⟩⟩⟩⟩⟩⟩
      have hq := hQ v6.toNat (by omega)
      refine ⟨by unfold InI; omega, hk48, fun v9 e9 _ => ?_⟩
      have := d7 (x := v9) hd (by omega)
      exact ⟨by unfold InI; omega, by unfold InI; omega, f_257 (fun _ _ => nx _ (by omega) (by omega))⟩
  exact CW.of (k := 2) mt_286 rfl rfl (w_286_0 (Ex.mono S (n + 1)) (key 49 0 0 (by omega) (by omega) (by omega) (by omega)))
theorem f_287 (hO : OpsOK mem) (hU : UnOK mem) (hd : 1 ≤ d ∧ d ≤ 12) {o t : Int} (ho : 0 ≤ o ∧ o < 8) (ht : -1000000 ≤ t ∧ t ≤ 1000000) (H : ∀ r m', Fr1 159 mem m' → K r m') : CWI (Ex S (n + 3)) 287 [.inr 143, .inl o, .inl t, .inl d] mem K := by
  refine CW.of (k := 1) mt_287 rfl rfl (w_287_0 (Ex.mono S (n + 2)) (f_271 hO hU ho ht hd (fun m1 k1 => ?_)))
  have hO1 := (k1.f59).ops hO
  have hU1 := (k1.f59).un hU
  exact f_264 hO1 hU1 ho (fun u u1 u2 _ => f_273 ⟨u1, u2⟩ hd (fun r _ _ => ⟨fun _ => f_271 hO1 hU1 ho ht hd (fun m2 k2 => ⟨_, rfl, H _ _ (k1.tr k2)⟩), fun _ => f_271 hO1 hU1 ho ht hd (fun m2 k2 => ⟨_, rfl, H _ _ (k1.tr k2)⟩)⟩))
theorem f_289 (hO : OpsOK mem) (hd : 1 ≤ d ∧ d ≤ 12) (hc : c ≤ 100000) (hQ : QT mem c) {o : Nat} {s : Int} (ho : (o : Int) < mem 143 1) (H : ∀ r, K r mem) : CWI (Ex S (n + 2)) 289 [.inr 143, .inl (o : Int), .inl s, .inl d] mem K := by
  have h8 := hO.1
  have hq := hQ o ho
  have ho8 : 0 ≤ (o : Int) ∧ (o : Int) < 8 := by omega
  have key : ∀ (N : Nat) (b : Int), 0 ≤ b → (4 - b).toNat < N → Wx (Ex S (n + 1)) S M_289 (fun r m => ∃ y, r = some y ∧ K y m) 3 [some (.inr 143), some (.inl (o : Int)), some (.inl s), some (.inl d), some (.inl b)] [] mem := by
    intro N
    induction N with
    | zero => intros; omega
    | succ N ih =>
      intro b hb hN
      refine w_289_3 (Ex.mono S (n + 1)) ⟨fun _ => ⟨_, rfl, H _⟩, fun q => f_265 hO ho8 (fun u _ b3 _ _ b4 _ _ => ⟨fun _ => ⟨by unfold InI; omega, ih (b + 1) (by omega) (by omega)⟩, fun _ => ⟨ho8, fun v5 e5 _ => ?_⟩⟩)⟩
      rw [Int.toNat_natCast] at e5
      exact ⟨by unfold InI; omega, f_272 ⟨by omega, by omega⟩ (fun r _ _ _ => ⟨fun _ => ⟨by unfold InI; omega, ih (b + 1) (by omega) (by omega)⟩, fun _ => ⟨_, rfl, H _⟩⟩)⟩
  exact CW.of (k := 1) mt_289 rfl rfl (w_289_0 (Ex.mono S (n + 1)) (key 5 0 (by omega) (by omega)))
theorem f_288 (hO : OpsOK mem) (hU : UnOK mem) (hd : 1 ≤ d ∧ d ≤ 12) (hc : c ≤ 100000) (hQ : QT mem c) {o p : Nat} (ho : (o : Int) < mem 143 1) (hp : (p : Int) < mem 143 1) (H : ∀ r, K r mem) : CWI (Ex S (n + 3)) 288 [.inr 143, .inl (o : Int), .inl (p : Int), .inl d] mem K := by
  have h8 := hO.1
  have ho8 : 0 ≤ (o : Int) ∧ (o : Int) < 8 := by omega
  have hp8 : 0 ≤ (p : Int) ∧ (p : Int) < 8 := by omega
  have key : ∀ (N : Nat) (s : Int), 0 ≤ s → (12 - s).toNat < N → Wx (Ex S (n + 2)) S M_288 (fun r m => ∃ y, r = some y ∧ K y m) 18 [some (.inr 143), some (.inl (o : Int)), some (.inl (p : Int)), some (.inl d), some (.inl s)] [] mem := by
    intro N
    induction N with
    | zero => intros; omega
    | succ N ih =>
      intro s hs hN
      have nx : ¬ d ≤ s → InI (s + 1) ∧ Wx (Ex S (n + 2)) S M_288 (fun r m => ∃ y, r = some y ∧ K y m) 18 [some (.inr 143), some (.inl (o : Int)), some (.inl (p : Int)), some (.inl d), some (.inl (s + 1))] [] mem := fun z => ⟨by unfold InI; omega, ih (s + 1) (by omega) (by omega)⟩
      exact w_288_18 (Ex.mono S (n + 2)) ⟨fun _ => ⟨_, rfl, H _⟩, fun q => f_264 hO hU ho8 (fun u u1 u2 _ => ⟨by unfold InI; omega, by unfold InI; omega, by omega, fun v3 _ _ => f_264 hO hU ho8 (fun w w1 w2 _ => ⟨by omega, fun v6 _ _ => ⟨fun _ => nx q, fun _ => f_289 hO hd hc hQ ho (fun r _ => ⟨fun _ => nx q, fun _ => f_289 hO hd hc hQ hp (fun r2 _ => ⟨fun _ => nx q, fun _ => ⟨_, rfl, H _⟩⟩)⟩)⟩⟩)⟩)⟩
  exact CW.of (k := 1) mt_288 rfl rfl (w_288_0 (Ex.mono S (n + 2)) (f_264 hO hU ho8 (fun u _ _ _ => f_264 hO hU hp8 (fun w _ _ _ => ⟨fun _ => key 13 0 (by omega) (by omega), fun _ => ⟨_, rfl, H _⟩⟩))))
theorem f_290 {K : MM → Prop} (hO : OpsOK mem) (hU : UnOK mem) (hd : 1 ≤ d ∧ d ≤ 12) (hc : 0 ≤ c ∧ c ≤ 100000) (hQ : QT mem c) {o : Nat} (ho : (o : Int) < mem 143 1) (H : ∀ m', FrK mem m' → QT m' c → K m') : CWV (Ex S (n + 3)) 290 [.inr 143, .inl (o : Int), .inl d] mem K := by
  have h8 := hO.1
  have hq := hQ o ho
  have ho8 : 0 ≤ (o : Int) ∧ (o : Int) < 8 := by omega
  refine CW.of (k := 0) mt_290 rfl rfl (w_290_0 (Ex.mono S (n + 2)) ⟨ho8, fun v1 e1 _ => ?_⟩)
  rw [Int.toNat_natCast] at e1 ⊢
  refine f_271 hO hU ho8 ⟨by omega, by omega⟩ hd (fun m2 k2 => ⟨ho8, rfl, H _ (k2.k59.tr (FrK.up (by omega))) (fun u hu => ?_)⟩)
  have hu' := k2.qt hQ u (by rw [upm_ne (by omega)] at hu; exact hu)
  rw [upm_ne (A := 163) (B := 164) (by omega)]
  refine ⟨?_, hu'.2⟩
  by_cases e : u = o
  · subst e; rw [upm_eq]; omega
  · rw [upm_ne (fun z => e z.2)]; exact hu'.1
theorem f_291 (hN : NdsOK mem) (hd : 1 ≤ d ∧ d ≤ 12) (hc : c ≤ 100000) (hQ : QT mem c) {k : Nat} (hk : (k : Int) < mem 143 12) (H : ∀ r, K r mem) : CWI (Ex S (n + 1)) 291 [.inr 143, .inl (k : Int), .inl d] mem K := by
  have h8 := hN.1
  have h48 := hN.2.1
  have hk48 : 0 ≤ (k : Int) ∧ (k : Int) < 48 := by omega
  obtain ⟨p1, p2, p3, p4, p5, p6, p7, p8, p9⟩ := hN.2.2 k (by omega)
  have q1 := hQ (mem 154 k).toNat (by omega)
  refine CW.of (k := 0) mt_291 rfl rfl (w_291_0 (Ex.mono S n) ⟨hk48, fun v1 e1 _ => ⟨?_, fun v2 e2 _ => ⟨hk48, fun v3 e3 _ => ⟨?_, fun v4 e4 _ => ⟨hk48, fun v5 e5 _ => ?_⟩⟩⟩⟩⟩) <;> rw [Int.toNat_natCast] at *
  · omega
  · omega
  · have e4 : v4 = mem 163 (mem 154 k).toNat := by rw [e4, e3]
    refine ⟨by unfold InI; omega, hk48, fun v6 e6 _ => ?_⟩
    have := d7 (x := v6) hd (by omega)
    exact ⟨by unfold InI; omega, by unfold InI; omega, fun _ => ⟨_, rfl, H _⟩, fun _ => ⟨_, rfl, H _⟩⟩
end QUICK
