section
/-! the quick way of the class: its parts -/
def HsA (m : MM) (d : Int) : Prop := BodyOK m ∧ WbOK m 9 ∧ (0 ≤ m 19 0 ∧ m 19 0 ≤ 8) ∧ m 129 0 = d ∧ 1 ≤ d ∧ d ≤ 12
def FrH (m m' : MM) : Prop := ∀ A i, ¬ (A = 129 ∧ ¬ i = 0) → ¬ (130 ≤ A ∧ A ≤ 133) → m' A i = m A i
theorem FrH.rf {m : MM} : FrH m m := fun _ _ _ _ => rfl
theorem FrH.tr {a b c : MM} (h1 : FrH a b) (h2 : FrH b c) : FrH a c := fun A i e1 e2 => (h2 A i e1 e2).trans (h1 A i e1 e2)
theorem FrH.hs {m m' : MM} {d : Int} (e : FrH m m') (h : HsA m d) : HsA m' d := by
  obtain ⟨h1, h2, h3, h4, h5⟩ := h
  refine ⟨h1.fr (fun A i a b => e A i (by omega) (by omega)), ⟨fun j hj => ?_, by rw [e 9 0 (by omega) (by omega)]; exact h2.2⟩, by rw [e 19 0 (by omega) (by omega)]; exact h3, by rw [e 129 0 (by omega) (by omega)]; exact h4, h5⟩
  rw [e _ _ (by omega) (by omega), e _ _ (by omega) (by omega), e _ _ (by omega) (by omega), e _ _ (by omega) (by omega)]; exact h2.1 j hj
theorem Fr1.h32 {m m' : MM} (e : Fr1 132 m m') : FrH m m' := fun A i _ e2 => e A i (by omega)
def HTm (m : MM) : Prop := ∀ o : Nat, o < 8 → (0 ≤ m 130 o ∧ m 130 o ≤ 900) ∧ -1 ≤ m 131 o ∧ m 131 o ≤ 900
def HCm (m : MM) (c : Int) : Prop := ∀ o : Nat, o < 8 → (tb (m 129 3) (o : Int) → m 130 o ≤ c) ∧ ((o : Int) < m 1 0 → m 131 o ≤ c)
theorem Fr1.ht {m m' : MM} (e : Fr1 132 m m') (h : HTm m) : HTm m' := fun o ho => by rw [e 130 o (by omega), e 131 o (by omega)]; exact h o ho
theorem Fr1.hc {m m' : MM} {c : Int} (e : Fr1 132 m m') (h : HCm m c) : HCm m' c := fun o ho => by rw [e 130 o (by omega), e 131 o (by omega), e 129 3 (by omega), e 1 0 (by omega)]; exact h o ho
section HASTY
variable {S : Nat × (Nat → Int32)} {n : Nat} {mem : MM} {K : Int → MM → Prop} {d c : Int}
theorem f_76 {K : MM → Prop} {Z zn : Nat} (hZ : shA Z = some (.inl zn)) (hz : zn ≤ 100000) {x : Int} (H : ∀ m', Fr1 Z mem m' → K m') : CWV (Ex S (n + 1)) 76 [.inr Z, .inl x] mem K := by
  have key : ∀ (N : Nat) (i : Int) (m : MM), 0 ≤ i → ((zn : Int) - i).toNat < N → Fr1 Z mem m → Wx (Ex S n) S M_76 (fun r m => r = none ∧ K m) 5 [some (.inr Z), some (.inl x), some (.inl i), some (.inl (zn : Int))] [] m := by
    intro N
    induction N with
    | zero => intros; omega
    | succ N ih =>
      intro i m hi hN hF
      exact w_76_5 (Ex.mono S n) hZ ⟨fun _ => ⟨rfl, H m hF⟩, fun q => ⟨⟨hi, by omega⟩, by unfold InI; omega, ih (i + 1) _ (by omega) (by omega) (hF.tr Fr1.up)⟩⟩
  exact CW.of (k := 2) mt_76 rfl rfl (w_76_0 (Ex.mono S n) hZ ⟨by unfold InI; omega, key _ 0 mem (by omega) (Nat.lt_succ_self _) Fr1.rf⟩)
theorem f_40 {a b : Int} (H : K (max a b) mem) : CWI (Ex S (n + 1)) 40 [.inl a, .inl b] mem K := by
  refine CW.of (k := 0) mt_40 rfl rfl (w_40_0 (Ex.mono S n) ⟨fun q _ => ⟨_, rfl, ?_⟩, fun q _ => ⟨_, rfl, ?_⟩⟩)
  · rw [show max a b = b by omega] at H; exact H
  · rw [show max a b = a by omega] at H; exact H
theorem f_80 (h : 0 ≤ mem 19 0 ∧ mem 19 0 ≤ 8) {o : Int} (ho : 0 ≤ o ∧ o < 8) (H : ∀ r, K r mem) : CWI (Ex S (n + 2)) 80 [.inr 19, .inl o] mem K := by
  have key : ∀ (N : Nat) (x i : Int), 0 ≤ i → (8 - i).toNat < N → Wx (Ex S (n + 1)) S M_80 (fun r m => ∃ y, r = some y ∧ K y m) 4 [some (.inr 19), some (.inl o), some (.inl x), some (.inl i)] [] mem := by
    intro N
    induction N with
    | zero => intros; omega
    | succ N ih =>
      intro x i hi hN
      exact w_80_4 (Ex.mono S (n + 1)) (fun v1 e1 _ => ⟨fun _ _ => ⟨_, rfl, H _⟩, fun q => ⟨by unfold InI; omega, by unfold InI; omega, by omega, fun v2 _ _ => f_40 (fun _ => ⟨by unfold InI; omega, ih _ (i + 1) (by omega) (by omega)⟩)⟩⟩)
  exact CW.of (k := 2) mt_80 rfl rfl (w_80_0 (Ex.mono S (n + 1)) (key 9 0 0 (by omega) (by omega)))
theorem f_125 {K : MM → Prop} (hs : mem 129 0 = d) (hd : 1 ≤ d ∧ d ≤ 12) {b t y : Int} (ht : 0 ≤ t ∧ t ≤ 100000) (H : ∀ m', Fr1 132 mem m' → K m') : CWV (Ex S (n + 1)) 125 [.inr 129, .inl b, .inl t, .inl y] mem K := by
  have key : ∀ (N : Nat) (i : Int) (m : MM), 0 ≤ i → (4 - i).toNat < N → Fr1 132 mem m → Wx (Ex S n) S M_125 (fun r m => r = none ∧ K m) 3 [some (.inr 129), some (.inl b), some (.inl t), some (.inl y), some (.inl i)] [] m := by
    intro N
    induction N with
    | zero => intros; omega
    | succ N ih =>
      intro i m hi hN hF
      have e0 : m 129 0 = d := by rw [hF 129 0 (by omega)]; exact hs
      refine w_125_3 (Ex.mono S n) ⟨fun _ => ⟨rfl, H m hF⟩, fun q b1 _ _ b2 _ _ => ⟨fun _ => ⟨by unfold InI; omega, ih (i + 1) m (by omega) (by omega) hF⟩, fun _ => ⟨by unfold InI; omega, fun v3 e3 _ => ?_⟩⟩⟩
      have r := tmod_r (show 0 ≤ t + i by omega) (show 0 < v3 by omega)
      exact ⟨by omega, by omega, fun v4 _ _ z _ _ => ⟨by omega, by unfold InI; omega, ih (i + 1) _ (by omega) (by omega) (hF.tr Fr1.up)⟩⟩
  exact CW.of (k := 1) mt_125 rfl rfl (w_125_0 (Ex.mono S n) (key 5 0 mem (by omega) (by omega) Fr1.rf))
theorem f_127 (hs : mem 129 0 = d) (hd : 1 ≤ d ∧ d ≤ 12) {b t y : Int} (ht : 0 ≤ t ∧ t ≤ 100000) (H : ∀ r, K r mem) : CWI (Ex S (n + 1)) 127 [.inr 129, .inl b, .inl t, .inl y] mem K := by
  have key : ∀ (N : Nat) (i : Int), 0 ≤ i → (4 - i).toNat < N → Wx (Ex S n) S M_127 (fun r m => ∃ y, r = some y ∧ K y m) 3 [some (.inr 129), some (.inl b), some (.inl t), some (.inl y), some (.inl i)] [] mem := by
    intro N
    induction N with
    | zero => intros; omega
    | succ N ih =>
      intro i hi hN
      refine w_127_3 (Ex.mono S n) ⟨fun _ => ⟨_, rfl, H _⟩, fun q b1 _ _ b2 _ _ => ⟨fun _ => ⟨by unfold InI; omega, ih (i + 1) (by omega) (by omega)⟩, fun _ => ⟨by unfold InI; omega, fun v3 e3 _ => ?_⟩⟩⟩
      have r := tmod_r (show 0 ≤ t + i by omega) (show 0 < v3 by omega)
      exact ⟨by omega, by omega, fun v4 _ _ => ⟨fun _ => ⟨by unfold InI; omega, ih (i + 1) (by omega) (by omega)⟩, fun _ => ⟨_, rfl, H _⟩⟩⟩
  exact CW.of (k := 1) mt_127 rfl rfl (w_127_0 (Ex.mono S n) (key 5 0 (by omega) (by omega)))
theorem f_124 {K : MM → Prop} (h : HsA mem d) (hT : HTm mem) {u : Int} (H : ∀ m', Fr1 132 mem m' → K m') : CWV (Ex S (n + 2)) 124 [.inr 129, .inr 1, .inl u] mem K := by
  have h8 := h.1.1
  have key : ∀ (N : Nat) (o : Int) (m : MM), 0 ≤ o → (8 - o).toNat < N → Fr1 132 mem m → Wx (Ex S (n + 1)) S M_124 (fun r m => r = none ∧ K m) 10 [some (.inr 129), some (.inr 1), some (.inl u), some (.inl o)] [] m := by
    intro N
    induction N with
    | zero => intros; omega
    | succ N ih =>
      intro o m ho hN hF
      have hs := hF.h32.hs h
      have e10 : m 1 0 = mem 1 0 := hF _ _ (by omega)
      have nx : ∀ m', Fr1 132 mem m' → o < 8 → InI (o + 1) ∧ Wx (Ex S (n + 1)) S M_124 (fun r m => r = none ∧ K m) 10 [some (.inr 129), some (.inr 1), some (.inl u), some (.inl (o + 1))] [] m' := fun m' z q => ⟨by unfold InI; omega, ih (o + 1) m' (by omega) (by omega) z⟩
      refine w_124_10 (Ex.mono S (n + 1)) (fun v1 e1 _ => ⟨fun _ => ⟨rfl, H m hF⟩, fun q v2 _ _ b3 _ _ b4 _ _ => ⟨fun _ => nx m hF (by omega), fun _ => f_37 hs.1 ⟨ho, by omega⟩ (fun w _ _ _ => ⟨fun _ => nx m hF (by omega), fun _ => f_38 hs.1 ⟨ho, by omega⟩ (fun y _ _ _ => ⟨by omega, fun v9 e9 _ => ?_⟩)⟩)⟩⟩)
      have := (hF.ht hT o.toNat (by omega)).1
      exact f_125 hs.2.2.2.1 hs.2.2.2.2 ⟨by omega, by omega⟩ (fun m' k => nx m' (hF.tr k) (by omega))
  exact CW.of (k := 1) mt_124 rfl rfl (w_124_0 (Ex.mono S (n + 1)) (f_76 (Z := 132) (zn := 12) rfl (by omega) (fun m1 k1 => key 9 0 m1 (by omega) (by omega) k1)))
theorem f_126 (h : HsA mem d) {o t : Int} (ho : 0 ≤ o ∧ o < 8) (ht : 0 ≤ t ∧ t ≤ 100000) (H : ∀ r m', Fr1 132 mem m' → K r m') : CWI (Ex S (n + 2)) 126 [.inr 129, .inr 1, .inl o, .inl t] mem K := by
  refine CW.of (k := 2) mt_126 rfl rfl (w_126_0 (Ex.mono S (n + 1)) (f_38 h.1 ho (fun b _ _ _ => f_125 h.2.2.2.1 h.2.2.2.2 ht (fun m1 k1 => ?_))))
  have hs := k1.h32.hs h
  exact f_37 hs.1 ho (fun u u1 u2 _ => ⟨by omega, fun v6 _ _ => f_127 hs.2.2.2.1 hs.2.2.2.2 ht (fun r _ => ⟨fun _ => f_125 hs.2.2.2.1 hs.2.2.2.2 ht (fun m2 k2 => ⟨_, rfl, H _ _ (k1.tr k2)⟩), fun _ => f_125 hs.2.2.2.1 hs.2.2.2.2 ht (fun m2 k2 => ⟨_, rfl, H _ _ (k1.tr k2)⟩)⟩)⟩)
theorem f_128 {s : Int} (hs : 0 ≤ s ∧ s ≤ 8) (H : ∀ r, 0 ≤ r → r < 8 → (r < s ∨ r = 0) → K r mem) : CWI (Ex S (n + 1)) 128 [.inr 129, .inl s] mem K := by
  have key : ∀ (N : Nat) (b x o : Int), 0 ≤ o → 0 ≤ b → b < 8 → (b < s ∨ b = 0) → (8 - o).toNat < N → Wx (Ex S n) S M_128 (fun r m => ∃ y, r = some y ∧ K y m) 7 [some (.inr 129), some (.inl s), some (.inl b), some (.inl x), some (.inl o)] [] mem := by
    intro N
    induction N with
    | zero => intros; omega
    | succ N ih =>
      intro b x o ho b1 b2 b3 hN
      exact w_128_7 (Ex.mono S n) ⟨fun _ _ => ⟨_, rfl, H _ b1 b2 b3⟩, fun q v1 _ _ b2' _ _ b3' _ _ => ⟨fun _ => ⟨by unfold InI; omega, ih b x (o + 1) (by omega) b1 b2 b3 (by omega)⟩, fun _ => ⟨by omega, fun v4 _ _ => ⟨fun _ => ⟨by unfold InI; omega, ih b x (o + 1) (by omega) b1 b2 b3 (by omega)⟩, fun _ => ⟨by omega, fun v5 _ _ => ⟨by unfold InI; omega, ih o v5 (o + 1) (by omega) (by omega) (by omega) (by omega) (by omega)⟩⟩⟩⟩⟩⟩
  exact CW.of (k := 3) mt_128 rfl rfl (w_128_0 (Ex.mono S n) (key 9 0 (-1) 0 (by omega) (by omega) (by omega) (by omega) (by omega)))
theorem f_130 (h : HsA mem d) (hT : HTm mem) (hC : HCm mem c) (hc : 0 ≤ c) {o : Int} (H : ∀ r, 0 ≤ r → r ≤ c + 6 → K r mem) : CWI (Ex S (n + 2)) 130 [.inr 129, .inr 9, .inl o] mem K := by
  obtain ⟨hB, hW, -, hs, hd⟩ := h
  have key : ∀ (N : Nat) (x : Int) (k : Nat), 0 ≤ x → x ≤ c + 6 → 64 - k < N → Wx (Ex S (n + 1)) S M_130 (fun r m => ∃ y, r = some y ∧ K y m) 5 [some (.inr 129), some (.inr 9), some (.inl o), some (.inl x), some (.inl (k : Int)), none] [] mem := by
    intro N
    induction N with
    | zero => intros; omega
    | succ N ih =>
      intro x k hx hx2 hN
      refine w_130_5 (Ex.mono S (n + 1)) (fun v1 e1 _ => ⟨fun _ _ => ⟨_, rfl, H _ hx hx2⟩, fun q => ?_⟩)
      have hk : 0 ≤ (k : Int) ∧ (k : Int) < 64 := by have := hW.2; omega
      obtain ⟨g1, g2, g3, g4⟩ : Rg (mem 10 k) (mem 11 k) (mem 12 k) (mem 13 k) := hW.1 k (by omega)
      have nx : ∀ x, 0 ≤ x → x ≤ c + 6 → InI ((k : Int) + 1) ∧ Wx (Ex S (n + 1)) S M_130 (fun r m => ∃ y, r = some y ∧ K y m) 5 [some (.inr 129), some (.inr 9), some (.inl o), some (.inl x), some (.inl ((k : Int) + 1)), none] [] mem := fun x z1 z2 => ⟨by unfold InI; omega, ih x (k + 1) z1 z2 (by omega)⟩
      rw [Int.toNat_natCast]
      refine ⟨hk, fun v2 e2 _ => ⟨hk, fun v3 e3 _ => ⟨fun _ => nx _ hx hx2, fun _ => ⟨fun _ => nx _ hx hx2, fun _ v4 e4 _ b5 e5 _ b6 e6 _ => ⟨fun _ => nx _ hx hx2, fun z => ⟨by omega, fun v7 e7 _ => ⟨hk, fun v8 e8 _ => ?_⟩⟩⟩⟩⟩⟩⟩
      have ht := hT v2.toNat (by omega)
      have hb : tb (mem 129 3) v2 := by
        rw [e4] at e6
        have := tb_of e5 e6
        exact Classical.not_not.mp (fun w => z (this.mpr w))
      have hcc := (hC v2.toNat (by omega)).1 (by rw [show ((v2.toNat : Nat) : Int) = v2 by omega]; exact hb)
      refine ⟨by unfold InI; omega, fun v9 e9 _ => ⟨hk, fun v10 e10 _ => ?_⟩⟩
      have := d7 (d := v9) (x := v10) (by omega) (by omega)
      exact ⟨by unfold InI; omega, by unfold InI; omega, f_40 (fun _ => nx _ (by omega) (by omega))⟩
  exact CW.of (k := 3) mt_130 rfl rfl (w_130_0 (Ex.mono S (n + 1)) (key 65 0 0 (by omega) (by omega) (by omega)))
theorem f_133 (h : HsA mem d) (hT : HTm mem) {o : Nat} (ho : o < 8) (H : ∀ r, K r mem) : CWI (Ex S (n + 2)) 133 [.inr 129, .inr 1, .inl (o : Int)] mem K := by
  obtain ⟨hB, hW, -, hs, hd⟩ := h
  have ht := hT o ho
  have key : ∀ (N : Nat) (x i : Int), 0 ≤ i → (4 - i).toNat < N → Wx (Ex S (n + 1)) S M_133 (fun r m => ∃ y, r = some y ∧ K y m) 5 [some (.inr 129), some (.inr 1), some (.inl (o : Int)), some (.inl x), some (.inl i)] [] mem := by
    intro N
    induction N with
    | zero => intros; omega
    | succ N ih =>
      intro x i hi hN
      refine w_133_5 (Ex.mono S (n + 1)) ⟨fun _ _ => ⟨_, rfl, H _⟩, fun q => f_38 hB ⟨by omega, by omega⟩ (fun b _ _ _ b3 _ _ b4 _ _ => ⟨fun _ => ⟨by unfold InI; omega, ih x (i + 1) (by omega) (by omega)⟩, fun _ => ⟨by omega, fun v5 e5 _ => ?_⟩⟩)⟩
      rw [Int.toNat_natCast] at e5
      exact ⟨by unfold InI; omega, fun v6 e6 _ => ⟨by omega, fun b7 _ _ b8 _ _ => ⟨by unfold InI; omega, ih b8 (i + 1) (by omega) (by omega)⟩⟩⟩
  exact CW.of (k := 2) mt_133 rfl rfl (w_133_0 (Ex.mono S (n + 1)) (key 5 0 0 (by omega) (by omega)))
theorem f_132 (h : HsA mem d) (hT : HTm mem) {o p : Nat} (ho : o < 8) (hp : p < 8) (H : ∀ r, K r mem) : CWI (Ex S (n + 3)) 132 [.inr 129, .inr 1, .inl (o : Int), .inl (p : Int)] mem K := by
  have hs := h.2.2.2.1
  have hd := h.2.2.2.2
  have key : ∀ (N : Nat) (x y i : Int), 0 ≤ i → (12 - i).toNat < N → Wx (Ex S (n + 2)) S M_132 (fun r m => ∃ y, r = some y ∧ K y m) 30 [some (.inr 129), some (.inr 1), some (.inl (o : Int)), some (.inl (p : Int)), some (.inl x), some (.inl y), some (.inl i)] [] mem := by
    intro N
    induction N with
    | zero => intros; omega
    | succ N ih =>
      intro x y i hi hN
      exact w_132_30 (Ex.mono S (n + 2)) (fun v1 e1 _ => ⟨fun _ => ⟨_, rfl, H _⟩, fun q b2 _ _ b3 _ _ => ⟨fun _ => ⟨by unfold InI; omega, ih x y (i + 1) (by omega) (by omega)⟩, fun _ => ⟨by omega, fun v4 _ _ => ⟨fun _ => ⟨by unfold InI; omega, ih x y (i + 1) (by omega) (by omega)⟩, fun _ => ⟨_, rfl, H _⟩⟩⟩⟩⟩)
  exact CW.of (k := 3) mt_132 rfl rfl (w_132_0 (Ex.mono S (n + 2)) (f_37 h.1 ⟨by omega, by omega⟩ (fun u u1 u2 _ => ⟨by omega, fun v3 _ _ => f_133 h hT ho (fun r _ => f_133 h hT hp (fun r2 _ b8 _ _ => key 13 v3 b8 0 (by omega) (by omega)))⟩)))
end HASTY
end
section
/-! the quick way of the class: an op is moved; seek -/
def FrT (m m' : MM) : Prop := ∀ A i, ¬ A = 132 → ¬ (A = 129 ∧ i = 3) → m' A i = m A i
theorem FrT.rf {m : MM} : FrT m m := fun _ _ _ _ => rfl
theorem FrT.tr {a b c : MM} (h1 : FrT a b) (h2 : FrT b c) : FrT a c := fun A i e1 e2 => (h2 A i e1 e2).trans (h1 A i e1 e2)
theorem Fr1.t32 {m m' : MM} (e : Fr1 132 m m') : FrT m m' := fun A i e1 _ => e A i e1
theorem FrT.h {m m' : MM} (e : FrT m m') : FrH m m' := fun A i e1 e2 => e A i (by omega) (by omega)
theorem FrT.ht {m m' : MM} (e : FrT m m') (h : HTm m) : HTm m' := fun o ho => by rw [e 130 o (by omega) (by omega), e 131 o (by omega) (by omega)]; exact h o ho
theorem FrT.hc {m m' : MM} {c : Int} (e : FrT m m') (h : HCm m c) (s : ∀ p : Nat, p < 8 → tb (m' 129 3) (p : Int) → m 130 p ≤ c) : HCm m' c := fun o ho => by
  rw [e 130 o (by omega) (by omega), e 131 o (by omega) (by omega), e 1 0 (by omega) (by omega)]
  exact ⟨s o ho, (h o ho).2⟩
section SEEK
variable {S : Nat × (Nat → Int32)} {n : Nat} {mem : MM} {d c : Int}
theorem f_131 {K : MM → Prop} (h : HsA mem d) (hT : HTm mem) (hC : HCm mem c) {o : Nat} (ho : o < 8) (H : ∀ m', FrT mem m' → HCm m' c → K m') : CWV (Ex S (n + 4)) 131 [.inr 129, .inr 1, .inl (o : Int)] mem K := by
  have h8 := h.1.1
  refine CW.of (k := 3) mt_131 rfl rfl (w_131_0 (Ex.mono S (n + 3)) (f_37 h.1 ⟨by omega, by omega⟩ (fun u _ _ _ => f_124 h hT (fun m1 k1 => ?_))))
  have key : ∀ (N : Nat) (p : Nat) (m : MM), 8 - p < N → FrT mem m → HCm m c → Wx (Ex S (n + 3)) S M_131 (fun r m => r = none ∧ K m) 15 [some (.inr 129), some (.inr 1), some (.inl (o : Int)), some (.inl u), some (.inl (p : Int)), none] [] m := by
    intro N
    induction N with
    | zero => intros; omega
    | succ N ih =>
      intro p m hN hF hC'
      have hs := hF.h.hs h
      have e10 : m 1 0 = mem 1 0 := hF _ _ (by omega) (by omega)
      have nx : ∀ m', FrT mem m' → HCm m' c → p < 8 → InI ((p : Int) + 1) ∧ Wx (Ex S (n + 3)) S M_131 (fun r m => r = none ∧ K m) 15 [some (.inr 129), some (.inr 1), some (.inl (o : Int)), some (.inl u), some (.inl ((p : Int) + 1)), none] [] m' := fun m' z1 z2 q => ⟨by unfold InI; omega, ih (p + 1) m' (by omega) z1 z2⟩
      refine w_131_15 (Ex.mono S (n + 3)) (fun v1 e1 _ => ⟨fun _ => ⟨rfl, H m hF hC'⟩, fun q => ⟨fun _ => nx m hF hC' (by omega), fun _ => f_37 hs.1 ⟨by omega, by omega⟩ (fun w _ _ _ => ⟨fun _ => nx m hF hC' (by omega), fun _ v4 _ _ b5 _ _ b6 _ _ => ⟨fun _ => nx m hF hC' (by omega), fun _ => f_132 hs (hF.ht hT) ho (by omega) (fun r _ => ⟨fun _ => nx m hF hC' (by omega), fun _ v9 e9 _ b10 _ _ b11 _ _ b12 e12 _ => ?_⟩)⟩⟩)⟩⟩)
      have hF2 : FrT m (upm m 129 3 b12) := fun A i _ e2 => upm_ne e2
      have hs2 := hF2.h.hs hs
      have hC2 : HCm (upm m 129 3 b12) c := hF2.hc hC' (fun p hp z => by
        rw [upm_eq] at z
        rw [e9] at e12
        exact (hC' p hp).1 (tb_and e12 z))
      refine f_38 hs2.1 ⟨by omega, by omega⟩ (fun y _ _ _ => ⟨by omega, fun v15 e15 _ => ?_⟩)
      have ht := ((hF.tr hF2).ht hT p (by omega)).1
      rw [Int.toNat_natCast] at e15
      exact f_125 hs2.2.2.2.1 hs2.2.2.2.2 ⟨by omega, by omega⟩ (fun m' k => nx m' ((hF.tr hF2).tr k.t32) (k.hc hC2) (by omega))
  exact key 9 0 m1 (by omega) k1.t32 (k1.hc hC)
theorem f_134 {K : MM → Prop} (h : HsA mem d) (hT : HTm mem) (hC : HCm mem c) {o : Nat} (ho : o < 8) (hco : mem 130 o ≤ c) (H : ∀ m', FrT mem m' → HCm m' c → K m') : CWV (Ex S (n + 1)) 134 [.inr 129, .inr 9, .inl (o : Int)] mem K := by
  have key : ∀ (N : Nat) (k : Nat) (m : MM), 64 - k < N → FrT mem m → HCm m c → Wx (Ex S n) S M_134 (fun r m => r = none ∧ K m) 2 [some (.inr 129), some (.inr 9), some (.inl (o : Int)), some (.inl (k : Int)), none, none, none, none] [] m := by
    intro N
    induction N with
    | zero => intros; omega
    | succ N ih =>
      intro k m hN hF hC'
      obtain ⟨hB, hW, -, hs, hd⟩ := hF.h.hs h
      have hT' := hF.ht hT
      refine w_134_2 (Ex.mono S n) (fun v1 e1 _ => ⟨fun _ => ⟨rfl, H m hF hC'⟩, fun q => ?_⟩)
      have hk : 0 ≤ (k : Int) ∧ (k : Int) < 64 := by have := hW.2; omega
      obtain ⟨g1, g2, g3, g4⟩ : Rg (m 10 k) (m 11 k) (m 12 k) (m 13 k) := hW.1 k (by omega)
      have nx : ∀ m', FrT mem m' → HCm m' c → InI ((k : Int) + 1) ∧ Wx (Ex S n) S M_134 (fun r m => r = none ∧ K m) 2 [some (.inr 129), some (.inr 9), some (.inl (o : Int)), some (.inl ((k : Int) + 1)), none, none, none, none] [] m' := fun m' z1 z2 => ⟨by unfold InI; omega, ih (k + 1) m' (by omega) z1 z2⟩
      rw [Int.toNat_natCast]
      refine ⟨hk, fun v2 e2 _ => ⟨hk, fun v3 e3 _ b4 _ _ b5 _ _ b6 _ _ => ?_⟩⟩
      have t2 := (hT' v2.toNat (by omega)).1
      have upd : ∀ v14 b15 b16 v17 b18 b19 : Int, v14 = m 129 3 → b16 = ((fun (x y : Int32) => x &&& y) (Int32.ofInt v14) (Int32.ofInt b15)).toInt → v17 = (upm m 129 3 b16) 129 3 → b18 = ((fun (x y : Int32) => x <<< (y &&& 31)) (Int32.ofInt 1) (Int32.ofInt (o : Int))).toInt → b19 = ((fun (x y : Int32) => x ||| y) (Int32.ofInt v17) (Int32.ofInt b18)).toInt → InI ((k : Int) + 1) ∧ Wx (Ex S n) S M_134 (fun r m => r = none ∧ K m) 2 [some (.inr 129), some (.inr 9), some (.inl (o : Int)), some (.inl ((k : Int) + 1)), none, none, none, none] [] (upm (upm m 129 3 b16) 129 3 b19) := by
        intro v14 b15 b16 v17 b18 b19 f1 f2 f3 f4 f5
        have hF2 : FrT m (upm (upm m 129 3 b16) 129 3 b19) := fun A i _ e2 => by rw [upm_ne e2, upm_ne e2]
        refine nx _ (hF.tr hF2) (hF2.hc hC' (fun p hp z => ?_))
        rw [upm_eq] at z f3
        rw [f3] at f5
        rcases (tb_set (p := (p : Int)) f4 f5 ⟨by omega, by omega⟩ ⟨by omega, by omega⟩).mp z with z2 | z2
        · rw [f1] at f2
          exact (hC' p hp).1 (tb_and f2 z2)
        · have e : p = o := by omega
          subst e
          rw [hF 130 p (by omega) (by omega)]; exact hco
      have body : ∀ v7 b8 : Int, ((¬ b8 = b6 → (InI ((k : Int) + 1)) ∧ (Wx (Ex S n) S M_134 (fun r m => r = none ∧ K m) 2 [some (.inr 129), some (.inr 9), some (.inl (o : Int)), some (.inl ((k : Int) + 1)), none, none, none, none] [] m)) ∧ (¬ (¬ b8 = b6) → ((0 : Int) ≤ v3 ∧ (v3 : Int) < 8) ∧ ∀ v9 : Int, v9 = m 130 (Int.toNat v3) → InI v9 → ((0 : Int) ≤ v2 ∧ (v2 : Int) < 8) ∧ ∀ v10 : Int, v10 = m 130 (Int.toNat v2) → InI v10 → ((0 : Int) ≤ (k : Int) ∧ ((k : Int) : Int) < 64) ∧ ∀ v11 : Int, v11 = m 13 k → InI v11 → (InI (v10 + v11)) ∧ ∀ v12 : Int, v12 = m 129 0 → InI v12 → ((0 : Int) ≤ (k : Int) ∧ ((k : Int) : Int) < 64) ∧ ∀ v13 : Int, v13 = m 12 k → InI v13 → (InI (v12 * v13)) ∧ (InI ((v10 + v11) - (v12 * v13))) ∧ ((((v10 + v11) - (v12 * v13)) ≤ v9 → (InI ((k : Int) + 1)) ∧ (Wx (Ex S n) S M_134 (fun r m => r = none ∧ K m) 2 [some (.inr 129), some (.inr 9), some (.inl (o : Int)), some (.inl ((k : Int) + 1)), none, none, none, none] [] m)) ∧ (¬ (((v10 + v11) - (v12 * v13)) ≤ v9) → ∀ v14 : Int, v14 = m 129 3 → InI v14 → ∀ b15 : Int, b15 = ((fun (x y : Int32) => x ^^^ y) (Int32.ofInt b6) (Int32.ofInt (-1))).toInt → InI b15 → ∀ b16 : Int, b16 = ((fun (x y : Int32) => x &&& y) (Int32.ofInt v14) (Int32.ofInt b15)).toInt → InI b16 → ∀ v17 : Int, v17 = (upm m 129 3 b16) 129 3 → InI v17 → ∀ b18 : Int, b18 = ((fun (x y : Int32) => x <<< (y &&& 31)) (Int32.ofInt 1) (Int32.ofInt (o : Int))).toInt → InI b18 → ∀ b19 : Int, b19 = ((fun (x y : Int32) => x ||| y) (Int32.ofInt v17) (Int32.ofInt b18)).toInt → InI b19 → (InI ((k : Int) + 1)) ∧ (Wx (Ex S n) S M_134 (fun r m => r = none ∧ K m) 2 [some (.inr 129), some (.inr 9), some (.inl (o : Int)), some (.inl ((k : Int) + 1)), none, none, none, none] [] (upm (upm m 129 3 b16) 129 3 b19)))))) := by
        intro v7 b8
        refine ⟨fun _ => nx m hF hC', fun _ => ⟨by omega, fun v9 e9 _ => ⟨by omega, fun v10 e10 _ => ⟨hk, fun v11 e11 _ => ⟨by unfold InI; omega, fun v12 e12 _ => ⟨hk, fun v13 e13 _ => ?_⟩⟩⟩⟩⟩⟩
        have := d7 (d := v12) (x := v13) (by omega) (by omega)
        exact ⟨by unfold InI; omega, by unfold InI; omega, fun _ => nx m hF hC', fun _ v14 f1 _ b15 _ _ b16 f2 _ v17 f3 _ b18 f4 _ b19 f5 _ => upd v14 b15 b16 v17 b18 b19 f1 f2 f3 f4 f5⟩
      exact ⟨fun _ => ⟨fun _ => nx m hF hC', fun _ v7 _ _ b8 _ _ => body v7 b8⟩, fun _ => ⟨fun _ v7 _ _ b8 _ _ => body v7 b8, fun _ => nx m hF hC'⟩⟩
  exact CW.of (k := 5) mt_134 rfl rfl (w_134_0 (Ex.mono S n) (key 65 0 mem (by omega) FrT.rf hC))
theorem f_129 {K : MM → Prop} (h : HsA mem d) (hT : HTm mem) (hC : HCm mem c) (hc : 0 ≤ c ∧ c ≤ 846) {o : Nat} (ho : o < 8) (hos : (o : Int) < mem 1 0) (H : ∀ m', FrH mem m' → m' 129 2 = mem 129 2 → m' 129 1 = mem 129 1 → HTm m' → HCm m' (c + 18) → K m') : CWV (Ex S (n + 5)) 129 [.inr 129, .inr 1, .inr 9, .inl (o : Int)] mem K := by
  have hd := h.2.2.2.2
  have hlo := (hC o ho).2 hos
  have hl1 := (hT o ho).2.1
  have ho8 : 0 ≤ (o : Int) ∧ (o : Int) < 8 := by omega
  refine CW.of (k := 3) mt_129 rfl rfl (w_129_0 (Ex.mono S (n + 4)) (f_130 h hT hC hc.1 (fun r r1 r2 _ => f_37 h.1 ho8 (fun u _ _ _ => f_124 h hT (fun m1 k1 => ?_)))))
  have at90 : ∀ (t x : Int) (m : MM), 0 ≤ t → t ≤ c + 18 → Fr1 132 mem m → Wx (Ex S (n + 4)) S M_129 (fun r m => r = none ∧ K m) 90 [some (.inr 129), some (.inr 1), some (.inr 9), some (.inl (o : Int)), some (.inl r), some (.inl t), some (.inl x)] [] m := by
    intro t x m t1 t2 kF
    refine w_129_90 (Ex.mono S (n + 4)) ⟨ho8, ho8, fun v1 e1 _ b2 e2 _ b3 e3 _ => ?_⟩
    rw [Int.toNat_natCast] at e1 ⊢
    have e1 : v1 = m 129 3 := by rw [e1, upm_ne (by omega), upm_ne (by omega)]
    generalize hM : upm (upm (upm m 130 o t) 131 o t) 129 3 b3 = M
    have q : ∀ A i, ¬ (A = 130 ∧ i = o) → ¬ (A = 131 ∧ i = o) → ¬ (A = 129 ∧ i = 3) → M A i = m A i := fun A i z1 z2 z3 => by rw [← hM, upm_ne z3, upm_ne z2, upm_ne z1]
    have q0 : M 130 o = t := by rw [← hM, upm_ne (by omega), upm_ne (by omega), upm_eq]
    have q1 : M 131 o = t := by rw [← hM, upm_ne (by omega), upm_eq]
    have q3 : M 129 3 = b3 := by rw [← hM, upm_eq]
    have hFM : FrH mem M := kF.h32.tr (fun A i z1 z2 => q A i (by omega) (by omega) (by omega))
    have hTM : HTm M := fun p hp => by
      by_cases e : p = o
      · subst e; rw [q0, q1]; omega
      · rw [q 130 p (by omega) (by omega) (by omega), q 131 p (by omega) (by omega) (by omega)]; exact kF.ht hT p hp
    have hCM : HCm M (c + 18) := fun p hp => by
      have hcp := kF.hc hC p hp
      rw [q3, q 1 0 (by omega) (by omega) (by omega)]
      by_cases e : p = o
      · subst e; rw [q0, q1]; exact ⟨fun _ => t2, fun _ => t2⟩
      · rw [q 130 p (by omega) (by omega) (by omega), q 131 p (by omega) (by omega) (by omega)]
        refine ⟨fun z => ?_, fun z => by have := hcp.2 z; omega⟩
        rw [e1] at e3
        rcases (tb_set (p := (p : Int)) e2 e3 ho8 ⟨by omega, by omega⟩).mp z with z2 | z2
        · have := hcp.1 z2; omega
        · exact absurd (by omega) e
    have hsM := hFM.hs h
    have k2 : M 129 2 = mem 129 2 := by rw [q 129 2 (by omega) (by omega) (by omega)]; exact kF _ _ (by omega)
    have k3 : M 129 1 = mem 129 1 := by rw [q 129 1 (by omega) (by omega) (by omega)]; exact kF _ _ (by omega)
    have fin : ∀ m2, FrT M m2 → HCm m2 (c + 18) → none = (none : Option Int) ∧ K m2 := fun m2 g1 g2 => ⟨rfl, H m2 (hFM.tr g1.h) (by rw [g1 129 2 (by omega) (by omega)]; exact k2) (by rw [g1 129 1 (by omega) (by omega)]; exact k3) (g1.ht hTM) g2⟩
    refine ⟨fun _ => f_134 hsM hTM hCM ho (by rw [q0]; exact t2) fin, fun _ => f_131 hsM hTM hCM ho (fun m5 g1 g2 => f_134 (g1.h.hs hsM) (g1.ht hTM) g2 ho (by rw [g1 130 o (by omega) (by omega), q0]; exact t2) (fun m6 g3 g4 => fin m6 (g1.tr g3) g4))⟩
  have at51 : ∀ (t : Int) (m : MM), r ≤ t → t ≤ r + d → Fr1 132 mem m → Wx (Ex S (n + 4)) S M_129 (fun r m => r = none ∧ K m) 51 [some (.inr 129), some (.inr 1), some (.inr 9), some (.inl (o : Int)), some (.inl r), some (.inl t), none] [] m := by
    intro t m t1 t2 kF
    have e0 : m 129 0 = d := by rw [kF 129 0 (by omega)]; exact h.2.2.2.1
    refine w_129_51 (Ex.mono S (n + 4)) (fun v1 e1 _ => ⟨by unfold InI; omega, fun _ => at90 t 0 m (by omega) (by omega) kF, fun _ => ⟨ho8, fun v2 e2 _ => ?_⟩⟩)
    rw [Int.toNat_natCast, kF 131 o (by omega)] at e2
    exact ⟨by unfold InI; omega, f_40 (fun _ => at90 _ 1 m (by omega) (by omega) kF)⟩
  have key : ∀ (N : Nat) (t : Int) (m : MM), r ≤ t → t ≤ r + d → (r + d - t).toNat < N → Fr1 132 mem m → Wx (Ex S (n + 4)) S M_129 (fun r m => r = none ∧ K m) 22 [some (.inr 129), some (.inr 1), some (.inr 9), some (.inl (o : Int)), some (.inl r), some (.inl t), none] [] m := by
    intro N
    induction N with
    | zero => intros; omega
    | succ N ih =>
      intro t m t1 t2 hN kF
      have hs := kF.h32.hs h
      have e0 := hs.2.2.2.1
      exact w_129_22 (Ex.mono S (n + 4)) (fun v1 e1 _ => ⟨by unfold InI; omega, fun _ => at51 t m t1 t2 kF, fun q => f_126 hs ho8 ⟨by omega, by omega⟩ (fun r2 m2 k2 _ => ⟨fun _ => at51 t m2 t1 t2 (kF.tr k2), fun _ => ⟨by unfold InI; omega, ih (t + 1) m2 (by omega) (by omega) (by omega) (kF.tr k2)⟩⟩)⟩)
  exact key _ r m1 (by omega) (by omega) (Nat.lt_succ_self _) k1
def FrX (m m' : MM) : Prop := ∀ A i, ¬ (129 ≤ A ∧ A ≤ 133) → m' A i = m A i
def HsOK (m : MM) : Prop := HTm m ∧ (0 ≤ m 129 0 ∧ m 129 0 ≤ 12) ∧ (0 ≤ m 129 1 ∧ m 129 1 ≤ 1) ∧ 0 ≤ m 129 2 ∧ m 129 2 ≤ 48
theorem tb0 (p : Int) : ¬ tb 0 p := by
  unfold tb
  rw [show Int32.ofInt 0 = 0 from rfl, Int32.zero_and]
  exact fun h => h rfl
theorem f_123 {K : MM → Prop} (hB : BodyOK mem) (hW : WbOK mem 9) (hR : 0 ≤ mem 19 0 ∧ mem 19 0 ≤ 8) (hH : HsOK mem) (hd : 1 ≤ d ∧ d ≤ 12) (H : ∀ m', FrX mem m' → HsOK m' → K m') : CWV (Ex S (n + 6)) 123 [.inr 129, .inr 1, .inr 9, .inr 19, .inl d] mem K := by
  refine CW.of (k := 1) mt_123 rfl rfl (w_123_0 (Ex.mono S (n + 5)) (fun v1 e1 _ => ⟨fun q => ?_, fun _ => ⟨rfl, H mem (fun _ _ _ => rfl) hH⟩⟩))
  generalize hM : upm (upm (upm (upm mem 129 0 d) 129 1 0) 129 2 0) 129 3 0 = M
  have qM : ∀ A i, ¬ A = 129 → M A i = mem A i := fun A i z => by rw [← hM, upm_ne (by omega), upm_ne (by omega), upm_ne (by omega), upm_ne (by omega)]
  have m0 : M 129 0 = d := by rw [← hM, upm_ne (by omega), upm_ne (by omega), upm_ne (by omega), upm_eq]
  have m1 : M 129 1 = 0 := by rw [← hM, upm_ne (by omega), upm_ne (by omega), upm_eq]
  have m2 : M 129 2 = 0 := by rw [← hM, upm_ne (by omega), upm_eq]
  have m3 : M 129 3 = 0 := by rw [← hM, upm_eq]
  have hA : HsA M d := ⟨hB.fr (fun A i a b => qM A i (by omega)), ⟨fun j hj => by rw [qM _ _ (by omega), qM _ _ (by omega), qM _ _ (by omega), qM _ _ (by omega)]; exact hW.1 j hj, by rw [qM _ _ (by omega)]; exact hW.2⟩, by rw [qM _ _ (by omega)]; exact hR, m0, hd⟩
  have hT : HTm M := fun o ho => by rw [qM _ _ (by omega), qM _ _ (by omega)]; exact hH.1 o ho
  have hX : FrX mem M := fun A i z => qM A i (by omega)
  have h8 := hA.1.1
  have fin : ∀ m, FrH M m → HTm m → (0 ≤ m 129 1 ∧ m 129 1 ≤ 1) → (0 ≤ m 129 2 ∧ m 129 2 ≤ 48) → K m := fun m g1 g2 g3 g4 => H m (fun A i z => by rw [g1 A i (by omega) (by omega)]; exact hX A i z) ⟨g2, by rw [g1 129 0 (by omega) (by omega), m0]; omega, g3, g4⟩
  have l103 : ∀ (N : Nat) (x : Int) (m : MM), (48 - m 129 2).toNat < N → 0 ≤ m 129 2 → m 129 2 ≤ 48 → m 129 1 = 0 → FrH M m → HTm m → HCm m (18 * m 129 2) → Wx (Ex S (n + 5)) S M_123 (fun r m => r = none ∧ K m) 103 [some (.inr 129), some (.inr 1), some (.inr 9), some (.inr 19), some (.inl d), some (.inl x)] [] m := by
    intro N
    induction N with
    | zero => intros; omega
    | succ N ih =>
      intro x m hN c0 c1 f0 hF hT' hC
      have hs := hF.hs hA
      have e10 : m 1 0 = M 1 0 := hF _ _ (by omega) (by omega)
      have done : ∀ z : Int, z = 0 ∨ z = 1 → none = (none : Option Int) ∧ K (upm m 129 1 z) := fun z hz => by
        refine ⟨rfl, fin _ (hF.tr (fun A i z1 z2 => upm_ne (by omega))) (fun o ho => ?_) (by rw [upm_eq]; omega) (by rw [upm_ne (by omega)]; omega)⟩
        rw [upm_ne (by omega), upm_ne (by omega)]; exact hT' o ho
      refine w_123_103 (Ex.mono S (n + 5)) (fun v1 e1 _ v2 e2 _ => ⟨by unfold InI; omega, fun _ v3 _ _ => ⟨fun _ => done 0 (Or.inl rfl), fun _ => done 1 (Or.inr rfl)⟩, fun q2 v4 _ _ => ⟨fun _ v5 _ _ => ⟨fun _ => done 0 (Or.inl rfl), fun _ => done 1 (Or.inr rfl)⟩, fun _ v6 e6 _ => f_128 ⟨by omega, by omega⟩ (fun r r1 r2 r3 _ => ?_)⟩⟩)
      obtain ⟨o, rfl⟩ : ∃ o : Nat, r = (o : Int) := ⟨r.toNat, by omega⟩
      refine f_129 hs hT' hC ⟨by omega, by omega⟩ (by omega) (by omega) (fun m9 g1 g2 g3 g4 g5 v10 e10' _ => ⟨by unfold InI; omega, ?_⟩)
      have e25 : upm m9 129 2 (v10 + 1) 129 2 = v10 + 1 := upm_eq
      refine ih x _ (by rw [e25]; omega) (by rw [e25]; omega) (by rw [e25]; omega) (by rw [upm_ne (by omega)]; omega) ((hF.tr g1).tr (fun A i z1 z2 => upm_ne (by omega))) (fun p hp => by rw [upm_ne (by omega), upm_ne (by omega)]; exact g4 p hp) (fun p hp => ?_)
      rw [e25, upm_ne (A := 129) (B := 129) (by omega), upm_ne (A := 129) (B := 130) (by omega), upm_ne (A := 129) (B := 131) (by omega), upm_ne (A := 129) (B := 1) (by omega), show 18 * (v10 + 1) = 18 * m 129 2 + 18 by omega]
      exact g5 p hp
  have l34 : ∀ (N : Nat) (o : Nat) (m : MM), 8 - o < N → FrH M m → HTm m → m 129 1 = 0 → m 129 2 = 0 → m 129 3 = 0 → (∀ p : Nat, p < o → p < 8 → m 131 p = -1) → Wx (Ex S (n + 5)) S M_123 (fun r m => r = none ∧ K m) 34 [some (.inr 129), some (.inr 1), some (.inr 9), some (.inr 19), some (.inl d), some (.inl (o : Int))] [] m := by
    intro N
    induction N with
    | zero => intros; omega
    | succ N ih =>
      intro o m hN hF hT' f1 f2 f3 hL
      have hs := hF.hs hA
      have e10 : m 1 0 = M 1 0 := hF _ _ (by omega) (by omega)
      refine w_123_34 (Ex.mono S (n + 5)) (fun v1 e1 _ => ⟨fun z v2 e2 _ b3 e3 _ => ⟨?_, ?_⟩, fun z => ⟨by omega, ?_⟩⟩)
      · have a : v2 = 0 ∨ v2 = 1 ∨ v2 = 2 ∨ v2 = 3 ∨ v2 = 4 ∨ v2 = 5 ∨ v2 = 6 ∨ v2 = 7 ∨ v2 = 8 := by omega
        have : 1 ≤ b3 ∧ b3 ≤ 256 := by
          rw [e3]
          rcases a with a | a | a | a | a | a | a | a | a <;> rw [a] <;> decide
        unfold InI; omega
      · refine l103 49 _ m (by omega) (by omega) (by omega) f1 hF hT' (fun p hp => ⟨fun w => absurd w (by rw [f3]; exact tb0 _), fun w => ?_⟩)
        have := hL p (by omega) hp
        omega
      · rw [Int.toNat_natCast]
        have hF1 : FrH m (upm m 131 o (-1)) := fun A i z1 z2 => upm_ne (by omega)
        have hs1 := hF1.hs hs
        refine f_80 hs1.2.2.1 ⟨by omega, by omega⟩ (fun r _ => ⟨by omega, ?_⟩)
        generalize hM2 : upm (upm m 131 o (-1)) 133 o r = m4
        have q4 : ∀ A i, ¬ (A = 131 ∧ i = o) → ¬ A = 133 → m4 A i = m A i := fun A i z1 z2 => by rw [← hM2, upm_ne (by omega), upm_ne z1]
        have q41 : m4 131 o = -1 := by rw [← hM2, upm_ne (by omega), upm_eq]
        have hF4 : FrH M m4 := hF.tr (fun A i z1 z2 => q4 A i (by omega) (by omega))
        have hs4 := hF4.hs hA
        have hT4 : HTm m4 := fun p hp => by
          rw [q4 130 p (by omega) (by omega)]
          refine ⟨(hT' p hp).1, ?_⟩
          by_cases e : p = o
          · subst e; rw [q41]; omega
          · rw [q4 131 p (by omega) (by omega)]; exact (hT' p hp).2
        refine f_37 hs4.1 ⟨by omega, by omega⟩ (fun u _ _ _ => f_124 hs4 hT4 (fun m6 k6 => f_126 (k6.h32.hs hs4) ⟨by omega, by omega⟩ ⟨by omega, by omega⟩ (fun y m9 k9 _ => ?_)))
        have k := k6.tr k9
        have hF9 := hF4.tr k.h32
        have w1 : m9 129 1 = 0 := by rw [k 129 1 (by omega), q4 129 1 (by omega) (by omega)]; exact f1
        have w2 : m9 129 2 = 0 := by rw [k 129 2 (by omega), q4 129 2 (by omega) (by omega)]; exact f2
        have w3 : m9 129 3 = 0 := by rw [k 129 3 (by omega), q4 129 3 (by omega) (by omega)]; exact f3
        refine ⟨fun _ => ⟨by unfold InI; omega, ih (o + 1) m9 (by omega) hF9 (k.ht hT4) w1 w2 w3 (fun p hp hp8 => ?_)⟩, fun _ => ⟨rfl, fin m9 hF9 (k.ht hT4) (by omega) (by omega)⟩⟩
        rw [k 131 p (by omega)]
        by_cases e : p = o
        · subst e; exact q41
        · rw [q4 131 p (by omega) (by omega)]; exact hL p (by omega) hp8
  exact l34 9 0 M (by omega) FrH.rf hT m1 m2 m3 (fun p hp => by omega)
end SEEK
end
section
/-! the machine by hand, once more: calls may throw, give a reference, cost cells; rows of references are known; sums may go round -/
def RA (h : PH) : Prop := (∃ g : Nat → Option Nat, h[37]? = some (.inl (2, 13, .inr (.inr (.inr (.inr g))))) ∧ ∀ k, k < 13 → g k = some (38 + 7 * k)) ∧ ∃ g : Nat → Option Nat, h[135]? = some (.inl (3, 2, .inr (.inr (.inr (.inr g))))) ∧ ∀ k, k < 2 → g k = some (136 + k)
abbrev TR : Type := Option WV ⊕ Nat
abbrev TK : Type := TR → MM → Prop
def rsT : TR → Rs
  | .inl o => .inl (o.map wv)
  | .inr e => .inr e
def rOK : TR → Prop
  | .inl (some v) => vOK v
  | _ => True
def QX (h0 : PH) (K : TK) : Rs → PH → Prop := fun r h => ∃ (x : TR) (mem : MM), r = rsT x ∧ rOK x ∧ RH h0 h mem ∧ K x mem
def Tx (C : CXW) (S : Nat × (Nat → Int32)) (M : PM) (K : TK) (c s : Nat) (pc : Nat) (L : List (Option WV)) (st : List WV) (mem : MM) : Prop := ∀ (h0 : PH) (lv : LV) (h : PH), RA h0 → LkW lv L → (∀ v ∈ st, vOK v) → RH h0 h mem → Vx C S M [] (QX h0 K) pc lv (st.map wv) h c s
def CY (C : CXW) (μ : Nat) (args : List WV) (mem : MM) (K : TK) : Prop := (∀ v ∈ args, vOK v) → ∀ h0 h, RA h0 → RH h0 h mem → C μ (args.map wv) h (QX h0 K)
def kI (K : Int → MM → Prop) (E : Nat → MM → Prop) : TK := fun r m => match r with
  | .inl (some (.inl y)) => K y m
  | .inr e => E e m
  | _ => False
def kV (K : MM → Prop) (E : Nat → MM → Prop) : TK := fun r m => match r with
  | .inl none => K m
  | .inr e => E e m
  | _ => False
def kR (K : Nat → MM → Prop) (E : Nat → MM → Prop) : TK := fun r m => match r with
  | .inl (some (.inr A)) => K A m
  | .inr e => E e m
  | _ => False
def CQI (C : CXW) (μ : Nat) (args : List WV) (mem : MM) (K : Int → MM → Prop) (E : Nat → MM → Prop) : Prop := CY C μ args mem (kI K E)
def CQV (C : CXW) (μ : Nat) (args : List WV) (mem : MM) (K : MM → Prop) (E : Nat → MM → Prop) : Prop := CY C μ args mem (kV K E)
def CQR (C : CXW) (μ : Nat) (args : List WV) (mem : MM) (K : Nat → MM → Prop) (E : Nat → MM → Prop) : Prop := CY C μ args mem (kR K E)
theorem CY.mono {C : CXW} (hC : Cmono C) {μ : Nat} {args : List WV} {mem : MM} {K K' : TK} (h : ∀ r m, K r m → K' r m) (H : CY C μ args mem K) : CY C μ args mem K' := fun h1 h0 h2 h9 h3 => hC _ _ _ _ _ (fun _ _ ⟨x, m, e1, e2, e3, e4⟩ => ⟨x, m, e1, e2, e3, h _ _ e4⟩) (H h1 h0 h2 h9 h3)
theorem CWI.q {C : CXW} (hC : Cmono C) {μ : Nat} {args : List WV} {mem : MM} {K : Int → MM → Prop} {E : Nat → MM → Prop} (H : CWI C μ args mem K) : CQI C μ args mem K E := fun h1 h0 h2 _ h3 => hC _ _ _ _ _ (fun r h ⟨x, m, e1, e2, e3, y, e4, e5⟩ => by
  subst e4
  exact ⟨.inl (some (.inl y)), m, e1, e2 y rfl, e3, e5⟩) (H h1 h0 h2 h3)
theorem CWV.q {C : CXW} (hC : Cmono C) {μ : Nat} {args : List WV} {mem : MM} {K : MM → Prop} {E : Nat → MM → Prop} (H : CWV C μ args mem K) : CQV C μ args mem K E := fun h1 h0 h2 _ h3 => hC _ _ _ _ _ (fun r h ⟨x, m, e1, e2, e3, e4, e5⟩ => by
  subst e4
  exact ⟨.inl none, m, e1, trivial, e3, e5⟩) (H h1 h0 h2 h3)
section TX
variable {C : CXW} {S : Nat × (Nat → Int32)} {M : PM} {K : TK} {c s : Nat} {pc : Nat} {L : List (Option WV)} {st : List WV} {mem : MM}
theorem Tx.go (hC : Cmono C) {te : TE} (ht : (pT M).find? (fun e => e.1 == pc) = some te) (H : ∀ (h0 : PH) (lv : LV) (h : PH), RA h0 → LkW lv L → (∀ v ∈ st, vOK v) → RH h0 h mem → pmI C S M [] (QX h0 K) (Vx C S M [] (QX h0 K)) te lv (st.map wv) h c s) : Tx C S M K c s pc L st mem := fun h0 lv h h9 h1 h2 h3 => Vx.go hC ht (H h0 lv h h9 h1 h2 h3)
theorem Tx.iconst (hC : Cmono C) {z : Int} {a b : Nat} (ht : (pT M).find? (fun e => e.1 == pc) = some (pc, .iconst z, a, b)) (hz : inI z z = true) (H : Tx C S M K c s (pc + 1) L (.inl z :: st) mem) : Tx C S M K c s pc L st mem :=
  Tx.go hC ht fun h0 lv h h9 h1 h2 h3 => H h0 lv h h9 h1 (stc (inI_iff.mp hz) h2) h3
theorem Tx.bipush (hC : Cmono C) {z : Int} {a b : Nat} (ht : (pT M).find? (fun e => e.1 == pc) = some (pc, .bipush z, a, b)) (hz : inI z z = true) (e : (Int8.ofInt z).toInt32 = Int32.ofInt z) (H : Tx C S M K c s (pc + 2) L (.inl z :: st) mem) : Tx C S M K c s pc L st mem :=
  Tx.go hC ht fun h0 lv h h9 h1 h2 h3 => by
    have := H h0 lv h h9 h1 (stc (inI_iff.mp hz) h2) h3
    show Vx C S M [] (QX h0 K) (pc + 2) lv (.int (Int8.ofInt z).toInt32 :: st.map wv) h c s
    rw [e]; exact this
theorem Tx.sipush (hC : Cmono C) {z : Int} {a b : Nat} (ht : (pT M).find? (fun e => e.1 == pc) = some (pc, .sipush z, a, b)) (hz : inI z z = true) (e : (Int16.ofInt z).toInt32 = Int32.ofInt z) (H : Tx C S M K c s (pc + 3) L (.inl z :: st) mem) : Tx C S M K c s pc L st mem :=
  Tx.go hC ht fun h0 lv h h9 h1 h2 h3 => by
    have := H h0 lv h h9 h1 (stc (inI_iff.mp hz) h2) h3
    show Vx C S M [] (QX h0 K) (pc + 3) lv (.int (Int16.ofInt z).toInt32 :: st.map wv) h c s
    rw [e]; exact this
theorem Tx.iload (hC : Cmono C) {i a b : Nat} {x : Int} (ht : (pT M).find? (fun e => e.1 == pc) = some (pc, .iload i, a, b)) (hl : L[i]? = some (some (.inl x))) (H : Tx C S M K c s (pc + 2) L (.inl x :: st) mem) : Tx C S M K c s pc L st mem :=
  Tx.go hC ht fun h0 lv h h9 h1 h2 h3 => ⟨_, (h1 i _ hl).1, H h0 lv h h9 h1 (stc (h1 i _ hl).2 h2) h3⟩
theorem Tx.iload_n (hC : Cmono C) {i : _root_.Fin 4} {a b : Nat} {x : Int} (ht : (pT M).find? (fun e => e.1 == pc) = some (pc, .iload_n i, a, b)) (hl : L[i.val]? = some (some (.inl x))) (H : Tx C S M K c s (pc + 1) L (.inl x :: st) mem) : Tx C S M K c s pc L st mem :=
  Tx.go hC ht fun h0 lv h h9 h1 h2 h3 => ⟨_, (h1 i _ hl).1, H h0 lv h h9 h1 (stc (h1 i _ hl).2 h2) h3⟩
theorem Tx.aload (hC : Cmono C) {i a b A : Nat} (ht : (pT M).find? (fun e => e.1 == pc) = some (pc, .aload i, a, b)) (hl : L[i]? = some (some (.inr A))) (H : Tx C S M K c s (pc + 2) L (.inr A :: st) mem) : Tx C S M K c s pc L st mem :=
  Tx.go hC ht fun h0 lv h h9 h1 h2 h3 => ⟨_, (h1 i _ hl).1, ⟨A, Or.inl rfl⟩, H h0 lv h h9 h1 (stc trivial h2) h3⟩
theorem Tx.aload_n (hC : Cmono C) {i : _root_.Fin 4} {a b A : Nat} (ht : (pT M).find? (fun e => e.1 == pc) = some (pc, .aload_n i, a, b)) (hl : L[i.val]? = some (some (.inr A))) (H : Tx C S M K c s (pc + 1) L (.inr A :: st) mem) : Tx C S M K c s pc L st mem :=
  Tx.go hC ht fun h0 lv h h9 h1 h2 h3 => ⟨_, (h1 i _ hl).1, ⟨A, Or.inl rfl⟩, H h0 lv h h9 h1 (stc trivial h2) h3⟩
theorem Tx.istore (hC : Cmono C) {i a b : Nat} {x : Int} (ht : (pT M).find? (fun e => e.1 == pc) = some (pc, .istore i, a, b)) (hi : Nat.blt i (pL M) = true) (H : Tx C S M K c s (pc + 2) (L.set i (some (.inl x))) st mem) : Tx C S M K c s pc L (.inl x :: st) mem :=
  Tx.go hC ht fun h0 lv h h9 h1 h2 h3 => ⟨blt_iff.mp hi, H h0 _ h h9 (h1.set (h2 _ List.mem_cons_self)) (fun u hu => h2 u (List.mem_cons_of_mem _ hu)) h3⟩
theorem Tx.istore_n (hC : Cmono C) {i : _root_.Fin 4} {a b : Nat} {x : Int} (ht : (pT M).find? (fun e => e.1 == pc) = some (pc, .istore_n i, a, b)) (hi : Nat.blt i.val (pL M) = true) (H : Tx C S M K c s (pc + 1) (L.set i.val (some (.inl x))) st mem) : Tx C S M K c s pc L (.inl x :: st) mem :=
  Tx.go hC ht fun h0 lv h h9 h1 h2 h3 => ⟨blt_iff.mp hi, H h0 _ h h9 (h1.set (h2 _ List.mem_cons_self)) (fun u hu => h2 u (List.mem_cons_of_mem _ hu)) h3⟩
theorem Tx.iaddW (hC : Cmono C) {a b : Nat} {x y : Int} (ht : (pT M).find? (fun e => e.1 == pc) = some (pc, .iadd, a, b)) (H : ∀ z, InI z → (InI (x + y) → z = x + y) → Tx C S M K c s (pc + 1) L (.inl z :: st) mem) : Tx C S M K c s pc L (.inl y :: .inl x :: st) mem :=
  Tx.go hC ht fun h0 lv h h9 h1 h2 h3 => by
    have hx := wi (h2 _ (List.mem_cons_of_mem _ List.mem_cons_self))
    have hy := wi (h2 _ List.mem_cons_self)
    have := H (Int32.ofInt x + Int32.ofInt y).toInt (wiI _) (fun q => by rw [← Int32.ofInt_add, wi q]) h0 lv h h9 h1 (stc (wiI _) (fun u hu => h2 u (List.mem_cons_of_mem _ (List.mem_cons_of_mem _ hu)))) h3
    rw [List.map_cons, show wv (.inl (Int32.ofInt x + Int32.ofInt y).toInt) = .int (Int32.ofInt x + Int32.ofInt y) from by show Value.int (Int32.ofInt _) = _; rw [Int32.ofInt_toInt]] at this
    exact this
theorem Tx.idiv (hC : Cmono C) {a b : Nat} {x y : Int} (ht : (pT M).find? (fun e => e.1 == pc) = some (pc, .idiv, a, b)) (hy : 0 < y) (H : Tx C S M K c s (pc + 1) L (.inl (x.tdiv y) :: st) mem) : Tx C S M K c s pc L (.inl y :: .inl x :: st) mem :=
  Tx.go hC ht fun h0 lv h h9 h1 h2 h3 => by
    have hy1 := wi (h2 _ List.mem_cons_self)
    have hx1 := wi (h2 _ (List.mem_cons_of_mem _ List.mem_cons_self))
    have e := dv_toInt (x := Int32.ofInt x) (y := Int32.ofInt y) (by rw [hy1]; exact hy)
    rw [hx1, hy1] at e
    have hr : InI (x.tdiv y) := by rw [← e]; exact wiI _
    have := H h0 lv h h9 h1 (stc hr (fun u hu => h2 u (List.mem_cons_of_mem _ (List.mem_cons_of_mem _ hu)))) h3
    rw [List.map_cons, show wv (.inl (x.tdiv y)) = .int (Int32.ofInt x / Int32.ofInt y) from by rw [ofI_eq e]; rfl] at this
    exact ⟨nz_of (by rw [hy1]; omega), this⟩
theorem Tx.irem (hC : Cmono C) {a b : Nat} {x y : Int} (ht : (pT M).find? (fun e => e.1 == pc) = some (pc, .irem, a, b)) (hy : 0 < y) (H : Tx C S M K c s (pc + 1) L (.inl (x.tmod y) :: st) mem) : Tx C S M K c s pc L (.inl y :: .inl x :: st) mem :=
  Tx.go hC ht fun h0 lv h h9 h1 h2 h3 => by
    have hy1 := wi (h2 _ List.mem_cons_self)
    have hx1 := wi (h2 _ (List.mem_cons_of_mem _ List.mem_cons_self))
    have e := dv_toInt (x := Int32.ofInt x) (y := Int32.ofInt y) (by rw [hy1]; exact hy)
    rw [hx1, hy1] at e
    have e2 : Int32.ofInt x - Int32.ofInt x / Int32.ofInt y * Int32.ofInt y = Int32.ofInt (x.tmod y) := by
      rw [ofI_eq e, ← Int32.ofInt_mul, ← Int32.ofInt_sub, Int.tmod_def, Int.mul_comm]
    have hr : InI (x.tmod y) := by
      have a1 : InI y := h2 _ List.mem_cons_self
      have a2 : InI x := h2 _ (List.mem_cons_of_mem _ List.mem_cons_self)
      have l1 := Int.tmod_lt_of_pos x hy
      have l2 : -y < x.tmod y := by
        rcases Int.le_total 0 x with h | h
        · have := Int.tmod_nonneg y h; omega
        · have := Int.tmod_lt_of_pos (-x) hy
          rw [Int.neg_tmod] at this; omega
      unfold InI at a1 ⊢
      omega
    have := H h0 lv h h9 h1 (stc hr (fun u hu => h2 u (List.mem_cons_of_mem _ (List.mem_cons_of_mem _ hu)))) h3
    rw [List.map_cons, show wv (.inl (x.tmod y)) = .int (Int32.ofInt x - Int32.ofInt x / Int32.ofInt y * Int32.ofInt y) from by rw [e2]; rfl] at this
    exact ⟨nz_of (by rw [hy1]; omega), this⟩
theorem Tx.bits (hC : Cmono C) {ins : Instr} {a b : Nat} {x y : Int} {f : Int32 → Int32 → Int32} (ht : (pT M).find? (fun e => e.1 == pc) = some (pc, ins, a, b)) (hi : ∀ h0 lv r h, pmI C S M [] (QX h0 K) (Vx C S M [] (QX h0 K)) (pc, ins, a, b) lv (.int (Int32.ofInt y) :: .int (Int32.ofInt x) :: r) h c s ↔ Vx C S M [] (QX h0 K) (pc + 1) lv (.int (f (Int32.ofInt x) (Int32.ofInt y)) :: r) h c s) (H : ∀ z, z = (f (Int32.ofInt x) (Int32.ofInt y)).toInt → InI z → Tx C S M K c s (pc + 1) L (.inl z :: st) mem) : Tx C S M K c s pc L (.inl y :: .inl x :: st) mem :=
  Tx.go hC ht fun h0 lv h h9 h1 h2 h3 => by
    have := H _ rfl (wiI _) h0 lv h h9 h1 (stc (wiI _) (fun u hu => h2 u (List.mem_cons_of_mem _ (List.mem_cons_of_mem _ hu)))) h3
    rw [List.map_cons, show wv (.inl (f (Int32.ofInt x) (Int32.ofInt y)).toInt) = .int (f (Int32.ofInt x) (Int32.ofInt y)) from by show Value.int (Int32.ofInt _) = _; rw [Int32.ofInt_toInt]] at this
    exact (hi h0 lv _ h).mpr this
theorem Tx.dup (hC : Cmono C) {a b : Nat} {v : WV} (ht : (pT M).find? (fun e => e.1 == pc) = some (pc, .dup, a, b)) (H : Tx C S M K c s (pc + 1) L (v :: v :: st) mem) : Tx C S M K c s pc L (v :: st) mem :=
  Tx.go hC ht fun h0 lv h h9 h1 h2 h3 => ⟨wv v, st.map wv, rfl, wv_cat v, H h0 lv h h9 h1 (stc (h2 _ List.mem_cons_self) h2) h3⟩
theorem Tx.dup2 (hC : Cmono C) {a b : Nat} {v w : WV} (ht : (pT M).find? (fun e => e.1 == pc) = some (pc, .dup2, a, b)) (H : Tx C S M K c s (pc + 1) L (v :: w :: v :: w :: st) mem) : Tx C S M K c s pc L (v :: w :: st) mem :=
  Tx.go hC ht fun h0 lv h h9 h1 h2 h3 => ⟨wv v, wv w, st.map wv, rfl, wv_cat v, wv_cat w, H h0 lv h h9 h1 (stc (h2 _ List.mem_cons_self) (stc (h2 _ (List.mem_cons_of_mem _ List.mem_cons_self)) h2)) h3⟩
theorem Tx.goto (hC : Cmono C) {a b t : Nat} {z : Int} (ht : (pT M).find? (fun e => e.1 == pc) = some (pc, .goto z, a, b)) (hz : (pc : Int) + z = t) (H : Tx C S M K c s t L st mem) : Tx C S M K c s pc L st mem :=
  Tx.go hC ht fun h0 lv h h9 h1 h2 h3 => ⟨by show 0 ≤ (pc : Int) + z; omega, by
    show Vx C S M [] (QX h0 K) ((pc : Int) + z).toNat _ _ _ _ _
    rw [show ((pc : Int) + z).toNat = t by omega]; exact H h0 lv h h9 h1 h2 h3⟩
theorem Tx.ifc (hC : Cmono C) {cc : ClassFile.Cond} {a b t : Nat} {z x : Int} (ht : (pT M).find? (fun e => e.1 == pc) = some (pc, .ifCond cc z, a, b)) (hz : (pc : Int) + z = t) (H1 : ccZ cc x 0 → Tx C S M K c s t L st mem) (H2 : ¬ ccZ cc x 0 → Tx C S M K c s (pc + 3) L st mem) : Tx C S M K c s pc L (.inl x :: st) mem :=
  Tx.go hC ht fun h0 lv h h9 h1 h2 h3 => by
    have hx := wi (h2 _ List.mem_cons_self)
    have hst : ∀ u ∈ st, vOK u := fun u hu => h2 u (List.mem_cons_of_mem _ hu)
    have e : ccI cc (Int32.ofInt x) 0 ↔ ccZ cc x 0 := by rw [ccI_iff, hx]; exact Iff.rfl
    refine ⟨by show 0 ≤ (pc : Int) + z; omega, fun q => ?_, fun q => ?_⟩
    · show Vx C S M [] (QX h0 K) ((pc : Int) + z).toNat _ _ _ _ _
      rw [show ((pc : Int) + z).toNat = t by omega]; exact H1 (e.mp q) h0 lv h h9 h1 hst h3
    · exact H2 (fun w => q (e.mpr w)) h0 lv h h9 h1 hst h3
theorem Tx.icmp (hC : Cmono C) {cc : ClassFile.Cond} {a b t : Nat} {z x y : Int} (ht : (pT M).find? (fun e => e.1 == pc) = some (pc, .if_icmp cc z, a, b)) (hz : (pc : Int) + z = t) (H1 : ccZ cc x y → Tx C S M K c s t L st mem) (H2 : ¬ ccZ cc x y → Tx C S M K c s (pc + 3) L st mem) : Tx C S M K c s pc L (.inl y :: .inl x :: st) mem :=
  Tx.go hC ht fun h0 lv h h9 h1 h2 h3 => by
    have hy := wi (h2 _ List.mem_cons_self)
    have hx := wi (h2 _ (List.mem_cons_of_mem _ List.mem_cons_self))
    have hst : ∀ u ∈ st, vOK u := fun u hu => h2 u (List.mem_cons_of_mem _ (List.mem_cons_of_mem _ hu))
    have e : ccI cc (Int32.ofInt x) (Int32.ofInt y) ↔ ccZ cc x y := by rw [ccI_iff, hx, hy]
    refine ⟨by show 0 ≤ (pc : Int) + z; omega, fun q => ?_, fun q => ?_⟩
    · show Vx C S M [] (QX h0 K) ((pc : Int) + z).toNat _ _ _ _ _
      rw [show ((pc : Int) + z).toNat = t by omega]; exact H1 (e.mp q) h0 lv h h9 h1 hst h3
    · exact H2 (fun w => q (e.mpr w)) h0 lv h h9 h1 hst h3
theorem Tx.iald (hC : Cmono C) {a b A n : Nat} {i : Int} (ht : (pT M).find? (fun e => e.1 == pc) = some (pc, .iaload, a, b)) (hA : shA A = some (.inl n)) (hi : 0 ≤ i ∧ i < n) (H : ∀ v, v = mem A i.toNat → InI v → Tx C S M K c s (pc + 1) L (.inl v :: st) mem) : Tx C S M K c s pc L (.inl i :: .inr A :: st) mem :=
  Tx.go hC ht fun h0 lv h h9 h1 h2 h3 => by
    obtain ⟨g, e1, e2⟩ := h3.row hA
    have hI : InI i := h2 _ List.mem_cons_self
    have hv : InI (mem A i.toNat) := h3.rowI hA _
    show p_iald S h (.int (Int32.ofInt i) :: .ref A :: st.map wv) fun st => Vx C S M [] (QX h0 K) (pc + 1) lv st h c s
    refine iald_mk e1 (vp_in_iff.mpr (by rw [wi hI]; exact hi)) ?_
    rw [clampN hI hi.1, show g i.toNat = Int32.ofInt (mem A i.toNat) from ofI_eq (e2 _).symm]
    exact H _ rfl hv h0 lv h h9 h1 (stc hv (fun u hu => h2 u (List.mem_cons_of_mem _ (List.mem_cons_of_mem _ hu)))) h3
theorem Tx.iast (hC : Cmono C) {a b A n : Nat} {i x : Int} (ht : (pT M).find? (fun e => e.1 == pc) = some (pc, .iastore, a, b)) (hA : shA A = some (.inl n)) (hi : 0 ≤ i ∧ i < n) (H : Tx C S M K c s (pc + 1) L st (upm mem A i.toNat x)) : Tx C S M K c s pc L (.inl x :: .inl i :: .inr A :: st) mem :=
  Tx.go hC ht fun h0 lv h h9 h1 h2 h3 => by
    obtain ⟨g, e1, e2⟩ := h3.row hA
    have hx : InI x := h2 _ List.mem_cons_self
    have hI : InI i := h2 _ (List.mem_cons_of_mem _ List.mem_cons_self)
    show p_iast h (.int (Int32.ofInt x) :: .int (Int32.ofInt i) :: .ref A :: st.map wv) fun st h => Vx C S M [] (QX h0 K) (pc + 1) lv st h c s
    refine iast_mk e1 (vp_in_iff.mpr (by rw [wi hI]; exact hi)) ?_
    have := h3.setRow (i := i.toNat) (x := Int32.ofInt x) hA e1
    rw [wi hx] at this
    rw [clampN hI hi.1]
    exact H h0 lv _ h9 h1 (fun u hu => h2 u (List.mem_cons_of_mem _ (List.mem_cons_of_mem _ (List.mem_cons_of_mem _ hu)))) this
theorem Tx.getI (hC : Cmono C) {p A ci f : Nat} {fs : List (Option Nat)} (ht : (pT M).find? (fun e => e.1 == pc) = some (pc, .getfield p, ci, f)) (hA : shA A = some (.inr (ci, fs))) (hf : fs[f]? = some none) (hn : Nat.blt f (fnum ci) = true) (H : ∀ v, v = mem A f → InI v → Tx C S M K c s (pc + 3) L (.inl v :: st) mem) : Tx C S M K c s pc L (.inr A :: st) mem :=
  Tx.go hC ht fun h0 lv h h9 h1 h2 h3 => by
    obtain ⟨gs, e1, -, e2⟩ := h3.obj hA
    have e3 := e2 f
    rw [hf] at e3
    obtain ⟨z, e4, e5⟩ := e3
    have hv : InI (mem A f) := h3.fldI hA hf
    show p_get h ci f (.ref A :: st.map wv) fun st => Vx C S M [] (QX h0 K) (pc + 3) lv st h c s
    refine get_mk (v := .int z) e1 (blt_iff.mp hn) e4 ?_
    rw [show z = Int32.ofInt (mem A f) from ofI_eq e5.symm]
    exact H _ rfl hv h0 lv h h9 h1 (stc hv (fun u hu => h2 u (List.mem_cons_of_mem _ hu))) h3
theorem Tx.getR (hC : Cmono C) {p A B ci f : Nat} {fs : List (Option Nat)} (ht : (pT M).find? (fun e => e.1 == pc) = some (pc, .getfield p, ci, f)) (hA : shA A = some (.inr (ci, fs))) (hf : fs[f]? = some (some B)) (hn : Nat.blt f (fnum ci) = true) (H : Tx C S M K c s (pc + 3) L (.inr B :: st) mem) : Tx C S M K c s pc L (.inr A :: st) mem :=
  Tx.go hC ht fun h0 lv h h9 h1 h2 h3 => by
    obtain ⟨gs, e1, -, e2⟩ := h3.obj hA
    have e3 := e2 f
    rw [hf] at e3
    show p_get h ci f (.ref A :: st.map wv) fun st => Vx C S M [] (QX h0 K) (pc + 3) lv st h c s
    exact get_mk (v := .ref B) e1 (blt_iff.mp hn) e3 (H h0 lv h h9 h1 (stc trivial (fun u hu => h2 u (List.mem_cons_of_mem _ hu))) h3)
theorem Tx.putI (hC : Cmono C) {p A ci f : Nat} {fs : List (Option Nat)} {x : Int} (ht : (pT M).find? (fun e => e.1 == pc) = some (pc, .putfield p, ci, f)) (hA : shA A = some (.inr (ci, fs))) (hf : fs[f]? = some none) (hn : Nat.blt f (fnum ci) = true) (hy : ftyX ci f = .int) (H : Tx C S M K c s (pc + 3) L st (upm mem A f x)) : Tx C S M K c s pc L (.inl x :: .inr A :: st) mem :=
  Tx.go hC ht fun h0 lv h h9 h1 h2 h3 => by
    obtain ⟨gs, e1, e0, e2⟩ := h3.obj hA
    have hx : InI x := h2 _ List.mem_cons_self
    have hfl : f < gs.length := by rw [e0]; exact (List.getElem?_eq_some_iff.mp hf).1
    show p_put h ci f (.int (Int32.ofInt x) :: .ref A :: st.map wv) fun st h => Vx C S M [] (QX h0 K) (pc + 3) lv st h c s
    refine put_mk e1 (blt_iff.mp hn) hfl (by rw [hy]; rfl) (by rw [hy]; rfl) ?_
    have := h3.setObj (x := Int32.ofInt x) hA hf e1
    rw [wi hx] at this
    exact H h0 lv _ h9 h1 (fun u hu => h2 u (List.mem_cons_of_mem _ (List.mem_cons_of_mem _ hu))) this
theorem Tx.putB (hC : Cmono C) {p A ci f : Nat} {fs : List (Option Nat)} {x : Int} (ht : (pT M).find? (fun e => e.1 == pc) = some (pc, .putfield p, ci, f)) (hA : shA A = some (.inr (ci, fs))) (hf : fs[f]? = some none) (hn : Nat.blt f (fnum ci) = true) (hy : ftyX ci f = .boolean) (hx : x = 0 ∨ x = 1) (H : Tx C S M K c s (pc + 3) L st (upm mem A f x)) : Tx C S M K c s pc L (.inl x :: .inr A :: st) mem :=
  Tx.go hC ht fun h0 lv h h9 h1 h2 h3 => by
    obtain ⟨gs, e1, e0, e2⟩ := h3.obj hA
    have hfl : f < gs.length := by rw [e0]; exact (List.getElem?_eq_some_iff.mp hf).1
    have hI : InI x := h2 _ List.mem_cons_self
    show p_put h ci f (.int (Int32.ofInt x) :: .ref A :: st.map wv) fun st h => Vx C S M [] (QX h0 K) (pc + 3) lv st h c s
    refine put_mk e1 (blt_iff.mp hn) hfl (by rw [hy]; rcases hx with e | e <;> subst e <;> rfl) (by rw [hy]; rcases hx with e | e <;> subst e <;> rfl) ?_
    have := h3.setObj (x := Int32.ofInt x) hA hf e1
    rw [wi hI] at this
    exact H h0 lv _ h9 h1 (fun u hu => h2 u (List.mem_cons_of_mem _ (List.mem_cons_of_mem _ hu))) this
theorem Tx.tsw (hC : Cmono C) {d lo hi x : Int} {offs : Array Int} {a b t : Nat} {ts : List Nat} (ht : (pT M).find? (fun e => e.1 == pc) = some (pc, .tableswitch d lo hi offs, a, b)) (hn : hi - lo + 1 = offs.size) (hz : (pc : Int) + d = t) (hts : offs.toList.map (fun o => (pc : Int) + o) = ts.map fun (n : Nat) => (n : Int)) (H1 : x < lo ∨ hi < x → Tx C S M K c s t L st mem) (H2 : ∀ (i t' : Nat), ts[i]? = some t' → x = lo + i → Tx C S M K c s t' L st mem) : Tx C S M K c s pc L (.inl x :: st) mem :=
  Tx.go hC ht fun h0 lv h h9 h1 h2 h3 => by
    have hx := wi (h2 _ List.mem_cons_self)
    have hst : ∀ u ∈ st, vOK u := fun u hu => h2 u (List.mem_cons_of_mem _ hu)
    refine ⟨?_, ?_⟩
    · intro q
      rw [hx] at q
      refine ⟨by show 0 ≤ (pc : Int) + d; omega, ?_⟩
      show Vx C S M [] (QX h0 K) ((pc : Int) + d).toNat _ _ _ _ _
      rw [show ((pc : Int) + d).toNat = t by omega]; exact H1 q h0 lv h h9 h1 hst h3
    · intro q1 q2
      rw [hx] at q1 q2 ⊢
      have hl : (x - lo).toNat < offs.size := by omega
      have e1 : offs.toList[(x - lo).toNat]? = some (offs[(x - lo).toNat]'hl) := by simp
      have e2 : (offs.toList.map (fun o => (pc : Int) + o))[(x - lo).toNat]? = some ((pc : Int) + offs[(x - lo).toNat]'hl) := by rw [List.getElem?_map, e1]; rfl
      rw [hts, List.getElem?_map] at e2
      cases ht' : ts[(x - lo).toNat]? with
      | none => rw [ht'] at e2; cases e2
      | some t' =>
        rw [ht'] at e2
        have e3 : (t' : Int) = (pc : Int) + offs[(x - lo).toNat]'hl := Option.some.inj e2
        refine ⟨offs[(x - lo).toNat]'hl, by simp [hl], by show 0 ≤ (pc : Int) + _; omega, ?_⟩
        show Vx C S M [] (QX h0 K) ((pc : Int) + _).toNat _ _ _ _ _
        rw [show ((pc : Int) + offs[(x - lo).toNat]'hl).toNat = t' by omega]
        exact H2 _ t' ht' (by omega) h0 lv h h9 h1 hst h3
theorem Tx.isubW (hC : Cmono C) {a b : Nat} {x y : Int} (ht : (pT M).find? (fun e => e.1 == pc) = some (pc, .isub, a, b)) (H : ∀ z, InI z → (InI (x - y) → z = x - y) → Tx C S M K c s (pc + 1) L (.inl z :: st) mem) : Tx C S M K c s pc L (.inl y :: .inl x :: st) mem :=
  Tx.go hC ht fun h0 lv h h9 h1 h2 h3 => by
    have := H (Int32.ofInt x - Int32.ofInt y).toInt (wiI _) (fun q => by rw [← Int32.ofInt_sub, wi q]) h0 lv h h9 h1 (stc (wiI _) (fun u hu => h2 u (List.mem_cons_of_mem _ (List.mem_cons_of_mem _ hu)))) h3
    rw [List.map_cons, show wv (.inl (Int32.ofInt x - Int32.ofInt y).toInt) = .int (Int32.ofInt x - Int32.ofInt y) from by show Value.int (Int32.ofInt _) = _; rw [Int32.ofInt_toInt]] at this
    exact this
theorem Tx.imulW (hC : Cmono C) {a b : Nat} {x y : Int} (ht : (pT M).find? (fun e => e.1 == pc) = some (pc, .imul, a, b)) (H : ∀ z, InI z → (InI (x * y) → z = x * y) → Tx C S M K c s (pc + 1) L (.inl z :: st) mem) : Tx C S M K c s pc L (.inl y :: .inl x :: st) mem :=
  Tx.go hC ht fun h0 lv h h9 h1 h2 h3 => by
    have := H (Int32.ofInt x * Int32.ofInt y).toInt (wiI _) (fun q => by rw [← Int32.ofInt_mul, wi q]) h0 lv h h9 h1 (stc (wiI _) (fun u hu => h2 u (List.mem_cons_of_mem _ (List.mem_cons_of_mem _ hu)))) h3
    rw [List.map_cons, show wv (.inl (Int32.ofInt x * Int32.ofInt y).toInt) = .int (Int32.ofInt x * Int32.ofInt y) from by show Value.int (Int32.ofInt _) = _; rw [Int32.ofInt_toInt]] at this
    exact this
theorem Tx.inegW (hC : Cmono C) {a b : Nat} {x : Int} (ht : (pT M).find? (fun e => e.1 == pc) = some (pc, .ineg, a, b)) (H : ∀ z, InI z → (InI (-x) → z = -x) → Tx C S M K c s (pc + 1) L (.inl z :: st) mem) : Tx C S M K c s pc L (.inl x :: st) mem :=
  Tx.go hC ht fun h0 lv h h9 h1 h2 h3 => by
    have := H (-Int32.ofInt x).toInt (wiI _) (fun q => by rw [← Int32.ofInt_neg, wi q]) h0 lv h h9 h1 (stc (wiI _) (fun u hu => h2 u (List.mem_cons_of_mem _ hu))) h3
    rw [List.map_cons, show wv (.inl (-Int32.ofInt x).toInt) = .int (-Int32.ofInt x) from by show Value.int (Int32.ofInt _) = _; rw [Int32.ofInt_toInt]] at this
    exact this
theorem Tx.iincW (hC : Cmono C) {i a b : Nat} {z x : Int} (ht : (pT M).find? (fun e => e.1 == pc) = some (pc, .iinc i z, a, b)) (hi : Nat.blt i (pL M) = true) (hl : L[i]? = some (some (.inl x))) (H : ∀ y, InI y → (InI (x + z) → y = x + z) → Tx C S M K c s (pc + 3) (L.set i (some (.inl y))) st mem) : Tx C S M K c s pc L st mem :=
  Tx.go hC ht fun h0 lv h h9 h1 h2 h3 => ⟨blt_iff.mp hi, _, (h1 i _ hl).1, by
    have := H (Int32.ofInt x + Int32.ofInt z).toInt (wiI _) (fun q => by rw [← Int32.ofInt_add, wi q]) h0 _ h h9 (h1.set (i := i) (v := .inl (Int32.ofInt x + Int32.ofInt z).toInt) (wiI _)) h2 h3
    rw [show wv (.inl (Int32.ofInt x + Int32.ofInt z).toInt) = .int (Int32.ofInt x + Int32.ofInt z) from by show Value.int (Int32.ofInt _) = _; rw [Int32.ofInt_toInt]] at this
    exact this⟩
theorem Tx.pop (hC : Cmono C) {a b : Nat} {v : WV} (ht : (pT M).find? (fun e => e.1 == pc) = some (pc, .pop, a, b)) (H : Tx C S M K c s (pc + 1) L st mem) : Tx C S M K c s pc L (v :: st) mem :=
  Tx.go hC ht fun h0 lv h h9 h1 h2 h3 => ⟨wv v, st.map wv, rfl, wv_cat v, H h0 lv h h9 h1 (fun u hu => h2 u (List.mem_cons_of_mem _ hu)) h3⟩
theorem Tx.ldc (hC : Cmono C) {p a b : Nat} {z : Int} {q : Nat × Nat × Int32} (ht : (pT M).find? (fun e => e.1 == pc) = some (pc, .ldc p, a, b)) (hb : b = 0) (hk : KLs[a]? = some q) (hz : Int32.ofInt z = q.2.2) (hI : inI z z = true) (H : Tx C S M K c s (pc + 2) L (.inl z :: st) mem) : Tx C S M K c s pc L st mem :=
  Tx.go hC ht fun h0 lv h h9 h1 h2 h3 => ⟨q, hk, hb, by
    have := H h0 lv h h9 h1 (stc (inI_iff.mp hI) h2) h3
    rw [List.map_cons, show wv (.inl z) = .int q.2.2 from by show Value.int (Int32.ofInt z) = _; rw [hz]] at this
    exact this⟩
theorem Tx.ldc_w (hC : Cmono C) {p a b : Nat} {z : Int} {q : Nat × Nat × Int32} (ht : (pT M).find? (fun e => e.1 == pc) = some (pc, .ldc_w p, a, b)) (hb : b = 0) (hk : KLs[a]? = some q) (hz : Int32.ofInt z = q.2.2) (hI : inI z z = true) (H : Tx C S M K c s (pc + 3) L (.inl z :: st) mem) : Tx C S M K c s pc L st mem :=
  Tx.go hC ht fun h0 lv h h9 h1 h2 h3 => ⟨q, hk, hb, by
    have := H h0 lv h h9 h1 (stc (inI_iff.mp hI) h2) h3
    rw [List.map_cons, show wv (.inl z) = .int q.2.2 from by show Value.int (Int32.ofInt z) = _; rw [hz]] at this
    exact this⟩
theorem Tx.astore (hC : Cmono C) {i a b A : Nat} (ht : (pT M).find? (fun e => e.1 == pc) = some (pc, .astore i, a, b)) (hi : Nat.blt i (pL M) = true) (H : Tx C S M K c s (pc + 2) (L.set i (some (.inr A))) st mem) : Tx C S M K c s pc L (.inr A :: st) mem :=
  Tx.go hC ht fun h0 lv h h9 h1 h2 h3 => ⟨blt_iff.mp hi, H h0 _ h h9 (h1.set (h2 _ List.mem_cons_self)) (fun u hu => h2 u (List.mem_cons_of_mem _ hu)) h3⟩
theorem Tx.astore_n (hC : Cmono C) {i : _root_.Fin 4} {a b A : Nat} (ht : (pT M).find? (fun e => e.1 == pc) = some (pc, .astore_n i, a, b)) (hi : Nat.blt i.val (pL M) = true) (H : Tx C S M K c s (pc + 1) (L.set i.val (some (.inr A))) st mem) : Tx C S M K c s pc L (.inr A :: st) mem :=
  Tx.go hC ht fun h0 lv h h9 h1 h2 h3 => ⟨blt_iff.mp hi, H h0 _ h h9 (h1.set (h2 _ List.mem_cons_self)) (fun u hu => h2 u (List.mem_cons_of_mem _ hu)) h3⟩
theorem RA.at {h0 h : PH} (h9 : RA h0) (h3 : RH h0 h mem) : RA h := by
  unfold RA
  rw [h3.1 37 rfl, h3.1 135 rfl]
  exact h9
theorem Tx.aaldC (hC : Cmono C) {a b : Nat} {i : Int} (ht : (pT M).find? (fun e => e.1 == pc) = some (pc, .aaload, a, b)) (hi : 0 ≤ i ∧ i < 13) (H : ∀ A, A = 38 + 7 * i.toNat → Tx C S M K c s (pc + 1) L (.inr A :: st) mem) : Tx C S M K c s pc L (.inl i :: .inr 37 :: st) mem :=
  Tx.go hC ht fun h0 lv h h9 h1 h2 h3 => by
    obtain ⟨g, e1, e2⟩ := (h9.at h3).1
    have hI : InI i := h2 _ List.mem_cons_self
    show p_aald h (.int (Int32.ofInt i) :: .ref 37 :: st.map wv) fun st => Vx C S M [] (QX h0 K) (pc + 1) lv st h c s
    refine aald_mk e1 (Or.inl rfl) (vp_in_iff.mpr (by rw [wi hI]; exact hi)) (q := 38 + 7 * i.toNat) (by rw [clampN hI hi.1]; exact e2 _ (by omega)) ?_
    exact H _ rfl h0 lv h h9 h1 (stc trivial (fun u hu => h2 u (List.mem_cons_of_mem _ (List.mem_cons_of_mem _ hu)))) h3
theorem Tx.aaldP (hC : Cmono C) {a b : Nat} {i : Int} (ht : (pT M).find? (fun e => e.1 == pc) = some (pc, .aaload, a, b)) (hi : 0 ≤ i ∧ i < 2) (H : ∀ A, A = 136 + i.toNat → Tx C S M K c s (pc + 1) L (.inr A :: st) mem) : Tx C S M K c s pc L (.inl i :: .inr 135 :: st) mem :=
  Tx.go hC ht fun h0 lv h h9 h1 h2 h3 => by
    obtain ⟨g, e1, e2⟩ := (h9.at h3).2
    have hI : InI i := h2 _ List.mem_cons_self
    show p_aald h (.int (Int32.ofInt i) :: .ref 135 :: st.map wv) fun st => Vx C S M [] (QX h0 K) (pc + 1) lv st h c s
    refine aald_mk e1 (Or.inr rfl) (vp_in_iff.mpr (by rw [wi hI]; exact hi)) (q := 136 + i.toNat) (by rw [clampN hI hi.1]; exact e2 _ (by omega)) ?_
    exact H _ rfl h0 lv h h9 h1 (stc trivial (fun u hu => h2 u (List.mem_cons_of_mem _ (List.mem_cons_of_mem _ hu)))) h3
/-! ends -/
theorem Tx.ireturn (hC : Cmono C) {a b : Nat} {x : Int} (ht : (pT M).find? (fun e => e.1 == pc) = some (pc, .ireturn, a, b)) (hR : pR M = some .int) (H : InI x → K (.inl (some (.inl x))) mem) : Tx C S M K c s pc L [.inl x] mem :=
  Tx.go hC ht fun h0 lv h h9 h1 h2 h3 => ⟨_, rfl, ⟨_, hR, rfl⟩, .inl (some (.inl x)), mem, rfl, h2 _ List.mem_cons_self, h3, H (h2 _ List.mem_cons_self)⟩
theorem Tx.bret (hC : Cmono C) {a b : Nat} {x : Int} (ht : (pT M).find? (fun e => e.1 == pc) = some (pc, .ireturn, a, b)) (hR : pR M = some .boolean) (hx : x = 0 ∨ x = 1) (H : K (.inl (some (.inl x))) mem) : Tx C S M K c s pc L [.inl x] mem :=
  Tx.go hC ht fun h0 lv h h9 h1 h2 h3 => ⟨_, rfl, ⟨_, hR, by rcases hx with rfl | rfl <;> rfl⟩, .inl (some (.inl x)), mem, rfl, h2 _ List.mem_cons_self, h3, H⟩
theorem Tx.vret (hC : Cmono C) {a b : Nat} (ht : (pT M).find? (fun e => e.1 == pc) = some (pc, .return_, a, b)) (hR : pR M = none) (H : K (.inl none) mem) : Tx C S M K c s pc L [] mem :=
  Tx.go hC ht fun h0 lv h h9 h1 h2 h3 => ⟨rfl, hR, .inl none, mem, rfl, trivial, h3, H⟩
theorem Tx.aret (hC : Cmono C) {a b A : Nat} {t : String} (ht : (pT M).find? (fun e => e.1 == pc) = some (pc, .areturn, a, b)) (hR : pR M = some (.object t)) (H : K (.inl (some (.inr A))) mem) : Tx C S M K c s pc L [.inr A] mem :=
  Tx.go hC ht fun h0 lv h h9 h1 h2 h3 => ⟨A, rfl, ⟨t, hR⟩, .inl (some (.inr A)), mem, rfl, trivial, h3, H⟩
theorem Tx.thr (hC : Cmono C) {p a b : Nat} {x : Nat × Nat × Nat × Nat × Nat × Nat} (ht : (pT M).find? (fun e => e.1 == pc) = some (pc, .new p, a, b)) (hb : b = 1) (hc : Nat.ble (c + 1) (pC M) = true) (hs : Nat.ble (s + 6) (pS M) = true) (hst : Nat.ble st.length 8 = true) (hx : XLs[a]? = some x) (H : K (.inr x.2.2.1) mem) : Tx C S M K c s pc L st mem :=
  Tx.go hC ht fun h0 lv h h9 h1 h2 h3 => Or.inr ⟨hb, rfl, Nat.le_of_ble_eq_true hc, Nat.le_of_ble_eq_true hs, by rw [cats1]; exact Nat.le_of_ble_eq_true hst, x, hx, .inr x.2.2.1, mem, rfl, trivial, h3, H⟩
/-! calls -/
theorem Tx.call (hC : Cmono C) {N : PM} {μ : Nat} {virt : Bool} {args rest : List WV} {c' s' : Nat} (hN : MT[μ]? = some N) (hl : args.length = pN N) (hr : Nat.ble rest.length 8 = true) (hc1 : Nat.ble c' (pC M) = true) (hs1 : Nat.ble s' (pS M) = true) (hc : c + pC N = c') (hs : s + pS N = s') (hv : virt = true → ∃ A ci fs, args[0]? = some (.inr A) ∧ shA A = some (.inr (ci, fs)) ∧ ci = pO N) {K2 : TK} (H : CY C μ args mem K2) (Hk : ∀ o m, K2 (.inl o) m → rOK (.inl o) → Tx C S M K c' s' (pc + 3) L (o.toList ++ rest) m) (He : ∀ e m, K2 (.inr e) m → K (.inr e) m) {h0 : PH} {lv : LV} {h : PH} (h9 : RA h0) (h1 : LkW lv L) (h2 : ∀ v ∈ args.reverse ++ rest, vOK v) (h3 : RH h0 h mem) : p_call C M [] (QX h0 K) (Vx C S M [] (QX h0 K)) pc μ virt lv ((args.reverse ++ rest).map wv) h c s := by
  subst hc
  subst hs
  unfold p_call
  rw [hN]
  have el : (args.reverse.map wv).length = pN N := by simp [hl]
  have e1 : ((args.reverse ++ rest).map wv).take (pN N) = args.reverse.map wv := by rw [List.map_append, ← el, List.take_left]
  have e2 : ((args.reverse ++ rest).map wv).drop (pN N) = rest.map wv := by rw [List.map_append, ← el, List.drop_left]
  simp only [e1, e2]
  refine ⟨by simp [hl], by rw [cats1]; exact Nat.le_of_ble_eq_true hr, Nat.le_of_ble_eq_true hc1, Nat.le_of_ble_eq_true hs1, ?_, ?_⟩
  · intro q
    obtain ⟨A, ci, fs, g1, g2, g3⟩ := hv q
    obtain ⟨gs, g4, -⟩ := h3.obj g2
    refine ⟨A, gs, ?_, by rw [← g3]; exact g4⟩
    rw [List.getLast?_eq_head?_reverse, ← List.map_reverse, List.reverse_reverse, List.head?_eq_getElem?, List.getElem?_map, g1]
    rfl
  · rw [← List.map_reverse, List.reverse_reverse]
    refine hC _ _ _ _ _ ?_ (H (fun v hv => h2 v (List.mem_append_left _ (List.mem_reverse.mpr hv))) h0 h h9 h3)
    rintro r h' ⟨x, m, rfl, k2, k3, k4⟩
    cases x with
    | inr e => exact ⟨.inr e, m, rfl, trivial, k3, He e m k4⟩
    | inl o =>
      show Vx C S M [] (QX h0 K) (pc + 3) lv _ h' _ _
      have := Hk o m k4 k2 h0 lv h' h9 h1 (fun u hu => ?_) k3
      · cases o with
        | none => exact this
        | some y => exact this
      · rcases List.mem_append.mp hu with hu | hu
        · cases o with
          | none => cases hu
          | some y =>
            have : u = y := by simpa using hu
            subst this
            exact k2
        · exact h2 u (List.mem_append_right _ hu)
theorem Tx.virtI (hC : Cmono C) {p μ b ci A : Nat} {N : PM} {args rest : List WV} {c' s' : Nat} {fs : List (Option Nat)} (ht : (pT M).find? (fun e => e.1 == pc) = some (pc, .invokevirtual p, μ, b)) (hN : MT[μ]? = some N) (hst : st = args.reverse ++ rest) (hl : args.length = pN N) (hr : Nat.ble rest.length 8 = true) (hc1 : Nat.ble c' (pC M) = true) (hs1 : Nat.ble s' (pS M) = true) (hc : c + pC N = c') (hs : s + pS N = s') (ha : args[0]? = some (.inr A)) (hA : shA A = some (.inr (ci, fs))) (ho : ci = pO N) (H : CQI C μ args mem (fun y m => InI y → Tx C S M K c' s' (pc + 3) L (.inl y :: rest) m) (fun e m => K (.inr e) m)) : Tx C S M K c s pc L st mem := by
  subst hst
  exact Tx.go hC ht fun h0 lv h h9 h1 h2 h3 => Tx.call (K := K) (S := S) (pc := pc) hC hN hl hr hc1 hs1 hc hs (fun _ => ⟨A, ci, fs, ha, hA, ho⟩) H (fun o m q hy => by
    cases o with
    | none => exact False.elim q
    | some v => cases v with
      | inl y => exact q hy
      | inr A => exact False.elim q) (fun e m q => q) h9 h1 h2 h3
theorem Tx.virtV (hC : Cmono C) {p μ b ci A : Nat} {N : PM} {args rest : List WV} {c' s' : Nat} {fs : List (Option Nat)} (ht : (pT M).find? (fun e => e.1 == pc) = some (pc, .invokevirtual p, μ, b)) (hN : MT[μ]? = some N) (hst : st = args.reverse ++ rest) (hl : args.length = pN N) (hr : Nat.ble rest.length 8 = true) (hc1 : Nat.ble c' (pC M) = true) (hs1 : Nat.ble s' (pS M) = true) (hc : c + pC N = c') (hs : s + pS N = s') (ha : args[0]? = some (.inr A)) (hA : shA A = some (.inr (ci, fs))) (ho : ci = pO N) (H : CQV C μ args mem (fun m => Tx C S M K c' s' (pc + 3) L rest m) (fun e m => K (.inr e) m)) : Tx C S M K c s pc L st mem := by
  subst hst
  exact Tx.go hC ht fun h0 lv h h9 h1 h2 h3 => Tx.call (K := K) (S := S) (pc := pc) hC hN hl hr hc1 hs1 hc hs (fun _ => ⟨A, ci, fs, ha, hA, ho⟩) H (fun o m q hy => by
    cases o with
    | none => exact q
    | some v => cases v <;> exact False.elim q) (fun e m q => q) h9 h1 h2 h3
theorem Tx.virtR (hC : Cmono C) {p μ b ci A : Nat} {N : PM} {args rest : List WV} {c' s' : Nat} {fs : List (Option Nat)} (ht : (pT M).find? (fun e => e.1 == pc) = some (pc, .invokevirtual p, μ, b)) (hN : MT[μ]? = some N) (hst : st = args.reverse ++ rest) (hl : args.length = pN N) (hr : Nat.ble rest.length 8 = true) (hc1 : Nat.ble c' (pC M) = true) (hs1 : Nat.ble s' (pS M) = true) (hc : c + pC N = c') (hs : s + pS N = s') (ha : args[0]? = some (.inr A)) (hA : shA A = some (.inr (ci, fs))) (ho : ci = pO N) (H : CQR C μ args mem (fun y m => Tx C S M K c' s' (pc + 3) L (.inr y :: rest) m) (fun e m => K (.inr e) m)) : Tx C S M K c s pc L st mem := by
  subst hst
  exact Tx.go hC ht fun h0 lv h h9 h1 h2 h3 => Tx.call (K := K) (S := S) (pc := pc) hC hN hl hr hc1 hs1 hc hs (fun _ => ⟨A, ci, fs, ha, hA, ho⟩) H (fun o m q hy => by
    cases o with
    | none => exact False.elim q
    | some v => cases v with
      | inl y => exact False.elim q
      | inr A => exact q) (fun e m q => q) h9 h1 h2 h3
theorem Tx.statI (hC : Cmono C) {p μ b : Nat} {N : PM} {args rest : List WV} {c' s' : Nat} (ht : (pT M).find? (fun e => e.1 == pc) = some (pc, .invokestatic p, μ, b)) (hb : b ≠ 7) (hN : MT[μ]? = some N) (hst : st = args.reverse ++ rest) (hl : args.length = pN N) (hr : Nat.ble rest.length 8 = true) (hc1 : Nat.ble c' (pC M) = true) (hs1 : Nat.ble s' (pS M) = true) (hc : c + pC N = c') (hs : s + pS N = s') (H : CQI C μ args mem (fun y m => InI y → Tx C S M K c' s' (pc + 3) L (.inl y :: rest) m) (fun e m => K (.inr e) m)) : Tx C S M K c s pc L st mem := by
  subst hst
  exact Tx.go hC ht fun h0 lv h h9 h1 h2 h3 => Or.inr ⟨hb, Tx.call (K := K) (S := S) (pc := pc) hC hN hl hr hc1 hs1 hc hs (fun q => by cases q) H (fun o m q hy => by
    cases o with
    | none => exact False.elim q
    | some v => cases v with
      | inl y => exact q hy
      | inr A => exact False.elim q) (fun e m q => q) h9 h1 h2 h3⟩
theorem Tx.statV (hC : Cmono C) {p μ b : Nat} {N : PM} {args rest : List WV} {c' s' : Nat} (ht : (pT M).find? (fun e => e.1 == pc) = some (pc, .invokestatic p, μ, b)) (hb : b ≠ 7) (hN : MT[μ]? = some N) (hst : st = args.reverse ++ rest) (hl : args.length = pN N) (hr : Nat.ble rest.length 8 = true) (hc1 : Nat.ble c' (pC M) = true) (hs1 : Nat.ble s' (pS M) = true) (hc : c + pC N = c') (hs : s + pS N = s') (H : CQV C μ args mem (fun m => Tx C S M K c' s' (pc + 3) L rest m) (fun e m => K (.inr e) m)) : Tx C S M K c s pc L st mem := by
  subst hst
  exact Tx.go hC ht fun h0 lv h h9 h1 h2 h3 => Or.inr ⟨hb, Tx.call (K := K) (S := S) (pc := pc) hC hN hl hr hc1 hs1 hc hs (fun q => by cases q) H (fun o m q hy => by
    cases o with
    | none => exact q
    | some v => cases v <;> exact False.elim q) (fun e m q => q) h9 h1 h2 h3⟩
theorem Tx.copy (hC : Cmono C) {p a A0 A1 n0 n1 : Nat} {sp dp n : Int} (ht : (pT M).find? (fun e => e.1 == pc) = some (pc, .invokestatic p, a, 7)) (hA0 : shA A0 = some (.inl n0)) (hA1 : shA A1 = some (.inl n1)) (h1a : 0 ≤ sp ∧ 0 ≤ dp ∧ 0 ≤ n ∧ sp + n ≤ n0 ∧ dp + n ≤ n1) (hr : Nat.ble st.length 8 = true) (H : ∀ m', (∀ A i, ¬ A = A1 → m' A i = mem A i) → (∀ i, m' A1 i = if dp.toNat ≤ i ∧ i < dp.toNat + n.toNat then mem A0 (sp.toNat + (i - dp.toNat)) else mem A1 i) → Tx C S M K c s (pc + 3) L st m') : Tx C S M K c s pc L (.inl n :: .inl dp :: .inr A1 :: .inl sp :: .inr A0 :: st) mem :=
  Tx.go hC ht fun h0 lv h h9 h1 h2 h3 => by
    obtain ⟨f, e1, e2⟩ := h3.row hA0
    obtain ⟨g, g1, g2⟩ := h3.row hA1
    have i1 : InI n := h2 (.inl n) (by simp)
    have i2 : InI dp := h2 (.inl dp) (by simp)
    have i3 : InI sp := h2 (.inl sp) (by simp)
    have ng : ∀ x : Int, InI x → 0 ≤ x → ¬ Int32.ofInt x < 0 := fun x hx h0 q => by
      rw [Int32.lt_iff_toInt_lt, wi hx] at q
      have : (0 : Int32).toInt = 0 := rfl
      omega
    refine Or.inl ⟨rfl, ?_⟩
    show p_copy h (.int (Int32.ofInt n) :: .int (Int32.ofInt dp) :: .ref A1 :: .int (Int32.ofInt sp) :: .ref A0 :: st.map wv) _
    refine copy_mk e1 g1 (ng _ i3 h1a.1) (ng _ i2 h1a.2.1) (ng _ i1 h1a.2.2.1) (by rw [clampN i3 h1a.1, clampN i1 h1a.2.2.1]; omega) (by rw [clampN i2 h1a.2.1, clampN i1 h1a.2.2.1]; omega) ⟨by rw [cats1]; exact Nat.le_of_ble_eq_true hr, ?_⟩
    rw [clampN i3 h1a.1, clampN i1 h1a.2.2.1, clampN i2 h1a.2.1]
    refine H (fun A i => if A = A1 then (va_cpy f g sp.toNat dp.toNat n.toNat i).toInt else mem A i) (fun A i q => if_neg q) (fun i => ?_) h0 lv _ h9 h1 (fun u hu => h2 u (by simp [hu])) ?_
    · rw [if_pos rfl]
      unfold va_cpy
      split
      · rw [e2]
      · rw [g2]
    · have hl := (List.getElem?_eq_some_iff.mp g1).1
      refine ⟨fun B hB => by
        rw [List.getElem?_set_ne (fun q => by rw [← q, hA1] at hB; cases hB)]
        exact h3.1 B hB, ?_⟩
      intro B t hB
      by_cases hAB : A1 = B
      · subst hAB
        rw [hA1] at hB
        cases hB
        exact ⟨_, List.getElem?_set_self hl, _, rfl, fun j => if_pos rfl⟩
      · obtain ⟨y, k1, k2⟩ := h3.2 B t hB
        refine ⟨y, by rw [List.getElem?_set_ne hAB]; exact k1, ?_⟩
        have : (fun i => if B = A1 then (va_cpy f g sp.toNat dp.toNat n.toNat i).toInt else mem B i) = mem B := by
          funext j
          exact if_neg (fun q => hAB q.symm)
        show shR t (fun i => if B = A1 then (va_cpy f g sp.toNat dp.toNat n.toNat i).toInt else mem B i) y
        rw [this]; exact k2
end TX
theorem Tx.weak {C : CXW} {S : Nat × (Nat → Int32)} {M : PM} {K : TK} {c s pc : Nat} {L' L : List (Option WV)} {st : List WV} {mem : MM} (h : subL L' L) (H : Tx C S M K c s pc L' st mem) : Tx C S M K c s pc L st mem := fun h0 lv hh h9 h1 h2 h3 => H h0 lv hh h9 (fun i v hv => h1 i v (h.at hv)) h2 h3
theorem CY.of {S : Nat × (Nat → Int32)} {n μ : Nat} {M : PM} {args : List WV} {mem : MM} {K : TK} (hM : MT[μ]? = some M) (hk : (pK M == 3) = false) (hl : Nat.ble args.length (pL M) = true) {k : Nat} (H : (∀ v ∈ args, vOK v) → Tx (Ex S n) S M K 0 0 0 (args.map some ++ List.replicate k none) [] mem) : CY (Ex S (n + 1)) μ args mem K := by
  intro ha h0 h h9 hh
  refine ⟨M, hM, by rw [cats1]; exact Nat.le_of_ble_eq_true hl, ?_⟩
  rw [if_neg (by simpa using hk)]
  refine H ha h0 _ h h9 ?_ (fun v hv => by cases hv) hh
  intro i v hv
  have hv : (args.map some)[i]? = some (some v) := by
    rw [List.getElem?_append] at hv
    split at hv
    · exact hv
    · rw [List.getElem?_replicate] at hv
      split at hv <;> cases hv
  rw [List.getElem?_map] at hv
  cases hv2 : args[i]? with
  | none => rw [hv2] at hv; cases hv
  | some u =>
    rw [hv2] at hv
    have hv : u = v := by cases hv; rfl
    subst hv
    refine ⟨?_, ha _ (List.mem_of_getElem? hv2)⟩
    have := pg_args (l := args.map wv) (k := 0) (i := i) (w := wv u) (fun w hw => by obtain ⟨z, -, rfl⟩ := List.mem_map.mp hw; exact wv_cat z) (by rw [List.getElem?_map, hv2]; rfl)
    rwa [Nat.zero_add] at this
end
section
/-! what the class's methods need: frames, charts, what holds of the class between calls -/
theorem tmo_b {x y : Int} (hy : 0 < y) : ((0 ≤ x → 0 ≤ x.tmod y ∧ x.tmod y < y ∧ x.tmod y ≤ x) ∧ (x ≤ 0 → x.tmod y ≤ 0)) ∧ -y < x.tmod y ∧ x.tmod y < y := by
  have a := Int.tmod_lt_of_pos x hy
  have b : -y < x.tmod y := by
    rcases Int.le_total 0 x with h | h
    · have := Int.tmod_nonneg y h; omega
    · have := Int.tmod_lt_of_pos (-x) hy
      rw [Int.neg_tmod] at this; omega
  refine ⟨⟨fun h => ?_, fun h => ?_⟩, b, a⟩
  · have h1 := Int.tmod_nonneg y h
    refine ⟨h1, a, ?_⟩
    have h2 := Int.tmod_def x y
    have h3 : 0 ≤ x.tdiv y := Int.tdiv_nonneg h (by omega)
    have h4 : 0 ≤ y * x.tdiv y := Int.mul_nonneg (by omega) h3
    omega
  · have h1 := Int.tmod_nonneg y (show 0 ≤ -x by omega)
    rw [Int.neg_tmod] at h1; omega
theorem tdv_b {x y z : Int} (hy : 0 < y) (e : z = x.tdiv y) : (0 ≤ x → 0 ≤ z ∧ z ≤ x ∧ 0 ≤ y * z ∧ y * z ≤ x ∧ x < y * z + y) ∧ (x ≤ 0 → z ≤ 0 ∧ x ≤ z ∧ x ≤ y * z ∧ y * z ≤ 0 ∧ y * z - y < x) := by
  have h := Int.tmod_def x y
  rw [← e] at h
  have b := tmo_b (x := x) hy
  refine ⟨fun h0 => ?_, fun h0 => ?_⟩
  · have h3 : 0 ≤ z := by rw [e]; exact Int.tdiv_nonneg h0 (by omega)
    have h4 : 0 ≤ y * z := Int.mul_nonneg (by omega) h3
    have h5 : z ≤ y * z := by
      have : 1 * z ≤ y * z := Int.mul_le_mul_of_nonneg_right (by omega) h3
      omega
    have := b.1.1 h0
    omega
  · have h3 : 0 ≤ -z := by rw [e, ← Int.neg_tdiv]; exact Int.tdiv_nonneg (by omega) (by omega)
    have h4 : 0 ≤ y * -z := Int.mul_nonneg (by omega) h3
    rw [Int.mul_neg] at h4
    have h5 : -z ≤ y * -z := by
      have : 1 * -z ≤ y * -z := Int.mul_le_mul_of_nonneg_right (by omega) h3
      omega
    rw [Int.mul_neg] at h5
    have := b.1.2 h0
    omega
theorem Tx.iremW {C : CXW} {S : Nat × (Nat → Int32)} {M : PM} {K : TK} {c s pc : Nat} {L : List (Option WV)} {st : List WV} {mem : MM} (hC : Cmono C) {a b : Nat} {x y : Int} (ht : (pT M).find? (fun e => e.1 == pc) = some (pc, .irem, a, b)) (hy : 0 < y) (H : ∀ z, InI z → z = x.tmod y → (((0 ≤ x → 0 ≤ z ∧ z < y ∧ z ≤ x) ∧ (x ≤ 0 → z ≤ 0)) ∧ -y < z ∧ z < y) → Tx C S M K c s (pc + 1) L (.inl z :: st) mem) : Tx C S M K c s pc L (.inl y :: .inl x :: st) mem := fun h0 lv h h9 h1 h2 h3 => by
  have hb := tmo_b (x := x) hy
  have iy : InI y := h2 _ List.mem_cons_self
  exact Tx.irem hC ht hy (H _ (by unfold InI at iy ⊢; omega) rfl hb) h0 lv h h9 h1 h2 h3
theorem Tx.idivW {C : CXW} {S : Nat × (Nat → Int32)} {M : PM} {K : TK} {c s pc : Nat} {L : List (Option WV)} {st : List WV} {mem : MM} (hC : Cmono C) {a b : Nat} {x y : Int} (ht : (pT M).find? (fun e => e.1 == pc) = some (pc, .idiv, a, b)) (hy : 0 < y) (H : ∀ z, InI z → z = x.tdiv y → ((0 ≤ x → 0 ≤ z ∧ z ≤ x) ∧ (x ≤ 0 → z ≤ 0 ∧ x ≤ z)) → Tx C S M K c s (pc + 1) L (.inl z :: st) mem) : Tx C S M K c s pc L (.inl y :: .inl x :: st) mem := fun h0 lv h h9 h1 h2 h3 => by
  have hb := tdv_b (x := x) hy rfl
  have ix : InI x := h2 _ (List.mem_cons_of_mem _ List.mem_cons_self)
  exact Tx.idiv hC ht hy (H _ (by unfold InI at ix ⊢; omega) rfl ⟨fun q => ⟨(hb.1 q).1, (hb.1 q).2.1⟩, fun q => ⟨(hb.2 q).1, (hb.2 q).2.1⟩⟩) h0 lv h h9 h1 h2 h3
theorem neg_msb (w : Int32) : w.toInt < 0 ↔ w.toBitVec.msb = true := by
  rw [BitVec.msb_eq_toInt, decide_eq_true_iff]
  exact Iff.rfl
theorem xor_neg {x y z : Int} (hx : InI x) (hy : InI y) (h0 : 0 < y) (e : z = ((fun (x y : Int32) => x ^^^ y) (Int32.ofInt x) (Int32.ofInt y)).toInt) : z < 0 ↔ x < 0 := by
  have hy2 : (Int32.ofInt y).toBitVec.msb = false := by
    cases q : (Int32.ofInt y).toBitVec.msb with
    | false => rfl
    | true =>
      have := (neg_msb _).mpr q
      rw [wi hy] at this
      omega
  rw [e, neg_msb]
  show ((Int32.ofInt x).toBitVec ^^^ (Int32.ofInt y).toBitVec).msb = true ↔ _
  rw [BitVec.msb_xor, hy2, Bool.xor_false, ← neg_msb, wi hx]
def Frm (P : Nat → Nat → Prop) (m m' : MM) : Prop := ∀ A i, ¬ P A i → m' A i = m A i
theorem Frm.rf {P : Nat → Nat → Prop} {m : MM} : Frm P m m := fun _ _ _ => rfl
theorem Frm.tr {P : Nat → Nat → Prop} {a b c : MM} (h1 : Frm P a b) (h2 : Frm P b c) : Frm P a c := fun A i e => (h2 A i e).trans (h1 A i e)
theorem Frm.up {P : Nat → Nat → Prop} {m m1 : MM} {A i : Nat} {x : Int} (h : Frm P m m1) (q : P A i) : Frm P m (upm m1 A i x) := fun B j e => by
  rw [upm_ne (fun w => e (by rw [w.1, w.2]; exact q))]; exact h B j e
theorem Frm.mono {P P' : Nat → Nat → Prop} {m m' : MM} (h : Frm P m m') (q : ∀ A i, P A i → P' A i) : Frm P' m m' := fun A i e => h A i (fun w => e (q A i w))
def ChSh (Q : Nat) : Prop := (∃ k, k < 13 ∧ Q = 38 + 7 * k) ∧ shA Q = some (.inr (1, [none, none, none, none, none, none, none, none, some (Q + 1), some (Q + 2), some (Q + 3), some (Q + 4), some (Q + 5), some (Q + 6)])) ∧ shA (Q + 1) = some (.inl 8) ∧ shA (Q + 2) = some (.inl 8) ∧ shA (Q + 3) = some (.inl 8) ∧ shA (Q + 4) = some (.inl 8) ∧ shA (Q + 5) = some (.inl 8) ∧ shA (Q + 6) = some (.inl 8)
theorem ChSh.of {k : Nat} (h : k < 13) : ChSh (38 + 7 * k) := by
  refine ⟨⟨k, h, rfl⟩, ?_⟩
  have a : k = 0 ∨ k = 1 ∨ k = 2 ∨ k = 3 ∨ k = 4 ∨ k = 5 ∨ k = 6 ∨ k = 7 ∨ k = 8 ∨ k = 9 ∨ k = 10 ∨ k = 11 ∨ k = 12 := by omega
  rcases a with a | a | a | a | a | a | a | a | a | a | a | a | a <;> subst a <;> exact ⟨rfl, rfl, rfl, rfl, rfl, rfl, rfl⟩
theorem ChSh.mk {Q : Nat} {i : Int} (e : Q = 38 + 7 * i.toNat) (h : 0 ≤ i ∧ i < 13) : ChSh Q := by
  rw [e]; exact ChSh.of (by omega)
theorem ChSh.s0 {Q : Nat} (h : ChSh Q) : shA Q = some (.inr (1, [none, none, none, none, none, none, none, none, some (Q + 1), some (Q + 2), some (Q + 3), some (Q + 4), some (Q + 5), some (Q + 6)])) := h.2.1
theorem ChSh.s1 {Q : Nat} (h : ChSh Q) : shA (Q + 1) = some (.inl 8) := h.2.2.1
theorem ChSh.s2 {Q : Nat} (h : ChSh Q) : shA (Q + 2) = some (.inl 8) := h.2.2.2.1
theorem ChSh.s3 {Q : Nat} (h : ChSh Q) : shA (Q + 3) = some (.inl 8) := h.2.2.2.2.1
theorem ChSh.s4 {Q : Nat} (h : ChSh Q) : shA (Q + 4) = some (.inl 8) := h.2.2.2.2.2.1
theorem ChSh.s5 {Q : Nat} (h : ChSh Q) : shA (Q + 5) = some (.inl 8) := h.2.2.2.2.2.2.1
theorem ChSh.s6 {Q : Nat} (h : ChSh Q) : shA (Q + 6) = some (.inl 8) := h.2.2.2.2.2.2.2
theorem rowP {R : Nat} {i : Int} (e : R = 136 + i.toNat) (h : 0 ≤ i ∧ i < 2) : shA R = some (.inl 64) := by
  have a : i.toNat = 0 ∨ i.toNat = 1 := by omega
  rcases a with a | a <;> rw [e, a] <;> rfl
def ChtOK (m : MM) (Q : Nat) : Prop := ((0 ≤ m Q 2 ∧ m Q 2 ≤ 8) ∧ (1 ≤ m Q 3 ∧ m Q 3 ≤ 12) ∧ 0 ≤ m Q 1 ∧ m Q 1 ≤ 1) ∧ ∀ o, o < 8 → (0 ≤ m (Q + 1) o ∧ m (Q + 1) o ≤ 11) ∧ (0 ≤ m (Q + 2) o ∧ m (Q + 2) o ≤ 11000) ∧ 0 ≤ m (Q + 3) o ∧ m (Q + 3) o ≤ 11010
theorem ChtOK.fr {m m' : MM} {Q : Nat} (h : ChtOK m Q) (e : ∀ A i, Q ≤ A → A ≤ Q + 3 → m' A i = m A i) : ChtOK m' Q := by
  refine ⟨?_, fun o ho => ?_⟩
  · rw [e Q 1 (by omega) (by omega), e Q 2 (by omega) (by omega), e Q 3 (by omega) (by omega)]; exact h.1
  · rw [e (Q + 1) o (by omega) (by omega), e (Q + 2) o (by omega) (by omega), e (Q + 3) o (by omega) (by omega)]; exact h.2 o ho
theorem BodyOK.kd {m : MM} (h : BodyOK m) {o : Nat} (ho : o < 8) : 0 ≤ m 2 o ∧ m 2 o ≤ 5 := (h.2.1 o ho).1
theorem BodyOK.un {m : MM} (h : BodyOK m) {o : Nat} (ho : o < 6) : 0 ≤ m 5 o ∧ m 5 o ≤ 2 := h.2.2.1 o ho
theorem BodyOK.la {m : MM} (h : BodyOK m) {o : Nat} (ho : o < 6) : 1 ≤ m 6 o ∧ m 6 o ≤ 6 := h.2.2.2.1 o ho
theorem BodyOK.bu {m : MM} (h : BodyOK m) {o : Nat} (ho : o < 6) : 1 ≤ m 7 o ∧ m 7 o ≤ 15 := h.2.2.2.2.1 o ho
theorem BodyOK.cn {m : MM} (h : BodyOK m) {o : Nat} (ho : o < 3) : 1 ≤ m 8 o ∧ m 8 o ≤ 3 := h.2.2.2.2.2 o ho
def WbS (m : MM) : Prop := ∀ j : Nat, (j : Int) < m 9 0 → m 10 j < m 1 0 ∧ m 11 j < m 1 0
def CI (m : MM) : Prop := BodyOK m ∧ WbOK m 9 ∧ WbOK m 14 ∧ (0 ≤ m 19 0 ∧ m 19 0 ≤ 8) ∧ HsOK m ∧ (∀ o, o < 8 → 0 ≤ m 24 o ∧ m 24 o ≤ 2) ∧ (∀ Q, ChSh Q → ChtOK m Q) ∧ (0 ≤ m 0 10 ∧ m 0 10 ≤ 1) ∧ (0 ≤ m 0 11 ∧ m 0 11 ≤ 1) ∧ (m 0 11 = 0 → m 0 10 = 1 → WbS m)
abbrev FrC (m m' : MM) : Prop := ∀ A i, 143 ≤ A → m' A i = m A i
theorem CI.b {m : MM} (h : CI m) : BodyOK m := h.1
theorem CI.w {m : MM} (h : CI m) : WbOK m 9 := h.2.1
theorem CI.w2 {m : MM} (h : CI m) : WbOK m 14 := h.2.2.1
theorem CI.r {m : MM} (h : CI m) : 0 ≤ m 19 0 ∧ m 19 0 ≤ 8 := h.2.2.2.1
theorem CI.hs {m : MM} (h : CI m) : HsOK m := h.2.2.2.2.1
theorem CI.un {m : MM} (h : CI m) : ∀ o, o < 8 → 0 ≤ m 24 o ∧ m 24 o ≤ 2 := h.2.2.2.2.2.1
theorem CI.ch {m : MM} (h : CI m) : ∀ Q, ChSh Q → ChtOK m Q := h.2.2.2.2.2.2.1
theorem CI.so {m : MM} (h : CI m) : 0 ≤ m 0 10 ∧ m 0 10 ≤ 1 := h.2.2.2.2.2.2.2.1
theorem CI.st {m : MM} (h : CI m) : 0 ≤ m 0 11 ∧ m 0 11 ≤ 1 := h.2.2.2.2.2.2.2.2.1
theorem FrC.rf {m : MM} : FrC m m := fun _ _ _ => rfl
theorem FrC.tr {a b c : MM} (h1 : FrC a b) (h2 : FrC b c) : FrC a c := fun A i e => (h2 A i e).trans (h1 A i e)
end
section
/-! methods known by hand, for Tx -/
section QQ
variable {S : Nat × (Nat → Int32)} {n : Nat} {mem : MM} {K : Int → MM → Prop} {E : Nat → MM → Prop}
theorem f_40q {a b : Int} (H : ∀ r, a ≤ r → b ≤ r → (r = a ∨ r = b) → K r mem) : CQI (Ex S (n + 1)) 40 [.inl a, .inl b] mem K E := CWI.q (Ex.mono S (n + 1)) (f_40 (H _ (by omega) (by omega) (by omega)))
theorem f_29q {a b : Int} (H : ∀ r, r ≤ a → r ≤ b → (r = a ∨ r = b) → K r mem) : CQI (Ex S (n + 1)) 29 [.inl a, .inl b] mem K E := CWI.q (Ex.mono S (n + 1)) (f_29 (H _ (by omega) (by omega) (by omega)))
theorem f_13q {o : Int} (h : 0 ≤ o ∧ o < 8) (H : ∀ r, r = csN mem o.toNat → 0 ≤ r → r ≤ 2 → K r mem) : CQI (Ex S (n + 1)) 13 [.inr 1, .inl o] mem K E := CWI.q (Ex.mono S (n + 1)) (f_13 h (H _ rfl (csN_le _ _).1 (csN_le _ _).2))
theorem f_14q {o k : Int} (ho : 0 ≤ o ∧ o < 8) (hk : 0 ≤ k ∧ k < 2) (H : ∀ r, r = mem 3 (4 * o.toNat + 2 * k.toNat) → K r mem) : CQI (Ex S (n + 1)) 14 [.inr 1, .inl o, .inl k] mem K E := by
  obtain ⟨a, rfl⟩ : ∃ a : Nat, o = a := ⟨o.toNat, by omega⟩
  obtain ⟨b, rfl⟩ : ∃ b : Nat, k = b := ⟨k.toNat, by omega⟩
  exact CWI.q (Ex.mono S (n + 1)) (f_14 (by omega) (by omega) (H _ (by rw [Int.toNat_natCast, Int.toNat_natCast])))
theorem f_15q {o k : Int} (ho : 0 ≤ o ∧ o < 8) (hk : 0 ≤ k ∧ k < 2) (H : ∀ r, r = mem 3 (4 * o.toNat + 2 * k.toNat + 1) → K r mem) : CQI (Ex S (n + 1)) 15 [.inr 1, .inl o, .inl k] mem K E := by
  obtain ⟨a, rfl⟩ : ∃ a : Nat, o = a := ⟨o.toNat, by omega⟩
  obtain ⟨b, rfl⟩ : ∃ b : Nat, k = b := ⟨k.toNat, by omega⟩
  exact CWI.q (Ex.mono S (n + 1)) (f_15 (by omega) (by omega) (H _ (by rw [Int.toNat_natCast, Int.toNat_natCast])))
theorem f_24q {o : Int} (ho : 0 ≤ o ∧ o < 8) (H : ∀ r, r = rowB mem o.toNat → K r mem) : CQI (Ex S (n + 1)) 24 [.inr 1, .inl o] mem K E := by
  obtain ⟨a, rfl⟩ : ∃ a : Nat, o = a := ⟨o.toNat, by omega⟩
  exact CWI.q (Ex.mono S (n + 1)) (f_24 (by omega) (H _ (by rw [Int.toNat_natCast])))
theorem f_25q {o : Int} (ho : 0 ≤ o ∧ o < 8) (H : ∀ r, r = plcB mem o.toNat → K r mem) : CQI (Ex S (n + 1)) 25 [.inr 1, .inl o] mem K E := by
  obtain ⟨a, rfl⟩ : ∃ a : Nat, o = a := ⟨o.toNat, by omega⟩
  exact CWI.q (Ex.mono S (n + 1)) (f_25 (by omega) (H _ (by rw [Int.toNat_natCast])))
theorem f_14s (hB : BodyOK mem) {o k : Int} (ho : 0 ≤ o ∧ o < 8) (hk : 0 ≤ k ∧ k < csN mem o.toNat) (H : ∀ r, r = mem 3 (4 * o.toNat + 2 * k.toNat) → -2 ≤ r → r ≤ 7 → K r mem) : CQI (Ex S (n + 1)) 14 [.inr 1, .inl o, .inl k] mem K E := by
  have hs := hB.src (o := o.toNat) (k := k.toNat) (by omega) (by omega)
  have := csN_le mem o.toNat
  unfold srcOK at hs
  exact f_14q ho (by omega) (fun r e => H r e (by omega) (by omega))
theorem f_15s (hB : BodyOK mem) {o k : Int} (ho : 0 ≤ o ∧ o < 8) (hk : 0 ≤ k ∧ k < csN mem o.toNat) (H : ∀ r, (0 ≤ mem 3 (4 * o.toNat + 2 * k.toNat) → 0 ≤ r ∧ r ≤ 3) → K r mem) : CQI (Ex S (n + 1)) 15 [.inr 1, .inl o, .inl k] mem K E := by
  have hs := hB.src (o := o.toNat) (k := k.toNat) (by omega) (by omega)
  have := csN_le mem o.toNat
  unfold srcOK at hs
  exact f_15q ho (by omega) (fun r e => H r (fun q => by omega))
end QQ
theorem ru_fin {a b z r w : Int} (h1 : 0 < b) (h2 : 0 < a) (e : z = -a) (hz : -2147483647 ≤ z) (ra : b * r ≤ z) (rb : z < b * r + b) (r1 : -2147483648 ≤ r) (r2 : r ≤ 2147483647) (we : -2147483648 ≤ -r ∧ -r ≤ 2147483647 → w = -r) : b * (w - 1) < a ∧ a ≤ b * w ∧ 0 < w := by
  have q : ¬ r = -2147483648 := by
    intro q
    subst q
    omega
  have hw : w = -r := we ⟨by omega, by omega⟩
  subst hw
  have e1 : b * (-r - 1) = -(b * r) - b := by rw [Int.mul_sub, Int.mul_neg, Int.mul_one]
  have e2 : b * -r = -(b * r) := Int.mul_neg _ _
  refine ⟨by omega, by omega, ?_⟩
  rcases Int.le_total (-r) 0 with h | h
  · have : b * -r ≤ b * 0 := Int.mul_le_mul_of_nonneg_left h (by omega)
    omega
  · by_cases z0 : r = 0
    · subst z0; omega
    · omega
end
