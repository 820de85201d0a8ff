/-! the quick way of the class: its parts -/
/-- what stands around it: ops, needs, ways, the step -/
def HsA (m : MM) (d : Int) : Prop := BodyOK m ∧ WbOK m 9 ∧ (0 ≤ m 19 0 ∧ m 19 0 ≤ 8) ∧ m 129 0 = d ∧ 1 ≤ d ∧ d ≤ 12
def FrH (m m' : MM) : Prop := ∀ A i, ¬ (A = 129 ∧ ¬ i = 0) → ¬ (130 ≤ A ∧ A ≤ 133) → m' A i = m A i
theorem FrH.rf {m : MM} : FrH m m := fun _ _ _ _ => rfl
theorem FrH.tr {a b c : MM} (h1 : FrH a b) (h2 : FrH b c) : FrH a c := fun A i e1 e2 => (h2 A i e1 e2).trans (h1 A i e1 e2)
theorem FrH.hs {m m' : MM} {d : Int} (e : FrH m m') (h : HsA m d) : HsA m' d := by
  obtain ⟨h1, h2, h3, h4, h5⟩ := h
  refine ⟨h1.fr (fun A i a b => e A i (by omega) (by omega)), ⟨fun j hj => ?_, by rw [e 9 0 (by omega) (by omega)]; exact h2.2⟩, by rw [e 19 0 (by omega) (by omega)]; exact h3, by rw [e 129 0 (by omega) (by omega)]; exact h4, h5⟩
  rw [e _ _ (by omega) (by omega), e _ _ (by omega) (by omega), e _ _ (by omega) (by omega), e _ _ (by omega) (by omega)]; exact h2.1 j hj
theorem Fr1.h32 {m m' : MM} (e : Fr1 132 m m') : FrH m m' := fun A i _ e2 => e A i (by omega)
/-- all times are small -/
def HTm (m : MM) : Prop := ∀ o : Nat, o < 8 → (0 ≤ m 130 o ∧ m 130 o ≤ 900) ∧ -1 ≤ m 131 o ∧ m 131 o ≤ 900
/-- those of ops that have one are below c -/
def HCm (m : MM) (c : Int) : Prop := ∀ o : Nat, o < 8 → (tb (m 129 3) (o : Int) → m 130 o ≤ c) ∧ ((o : Int) < m 1 0 → m 131 o ≤ c)
theorem Fr1.ht {m m' : MM} (e : Fr1 132 m m') (h : HTm m) : HTm m' := fun o ho => by rw [e 130 o (by omega), e 131 o (by omega)]; exact h o ho
theorem Fr1.hc {m m' : MM} {c : Int} (e : Fr1 132 m m') (h : HCm m c) : HCm m' c := fun o ho => by rw [e 130 o (by omega), e 131 o (by omega), e 129 3 (by omega), e 1 0 (by omega)]; exact h o ho
section HASTY
variable {S : Nat × (Nat → Int32)} {n : Nat} {mem : MM} {K : Int → MM → Prop} {d c : Int}
theorem f_76 {K : MM → Prop} {Z zn : Nat} (hZ : shA Z = some (.inl zn)) (hz : zn ≤ 100000) {x : Int} (H : ∀ m', Fr1 Z mem m' → K m') : CWV (Ex S (n + 1)) 76 [.inr Z, .inl x] mem K := by
  have key : ∀ (N : Nat) (i : Int) (m : MM), 0 ≤ i → ((zn : Int) - i).toNat < N → Fr1 Z mem m → Wx (Ex S n) S M_76 (fun r m => r = none ∧ K m) 5 [some (.inr Z), some (.inl x), some (.inl i), some (.inl (zn : Int))] [] m := by
    intro N
    induction N with
    | zero => intros; omega
    | succ N ih =>
      intro i m hi hN hF
      exact w_76_5 (Ex.mono S n) hZ ⟨fun _ => ⟨rfl, H m hF⟩, fun q => ⟨⟨hi, by omega⟩, by unfold InI; omega, ih (i + 1) _ (by omega) (by omega) (hF.tr Fr1.up)⟩⟩
  exact CW.of (k := 2) mt_76 rfl rfl (w_76_0 (Ex.mono S n) hZ ⟨by unfold InI; omega, key _ 0 mem (by omega) (Nat.lt_succ_self _) Fr1.rf⟩)
theorem f_40 {a b : Int} (H : K (max a b) mem) : CWI (Ex S (n + 1)) 40 [.inl a, .inl b] mem K := by
  refine CW.of (k := 0) mt_40 rfl rfl (w_40_0 (Ex.mono S n) ⟨fun q _ => ⟨_, rfl, ?_⟩, fun q _ => ⟨_, rfl, ?_⟩⟩)
  · rw [show max a b = b by omega] at H; exact H
  · rw [show max a b = a by omega] at H; exact H
theorem f_80 (h : 0 ≤ mem 19 0 ∧ mem 19 0 ≤ 8) {o : Int} (ho : 0 ≤ o ∧ o < 8) (H : ∀ r, K r mem) : CWI (Ex S (n + 2)) 80 [.inr 19, .inl o] mem K := by
  have key : ∀ (N : Nat) (x i : Int), 0 ≤ i → (8 - i).toNat < N → Wx (Ex S (n + 1)) S M_80 (fun r m => ∃ y, r = some y ∧ K y m) 4 [some (.inr 19), some (.inl o), some (.inl x), some (.inl i)] [] mem := by
    intro N
    induction N with
    | zero => intros; omega
    | succ N ih =>
      intro x i hi hN
      exact w_80_4 (Ex.mono S (n + 1)) (fun v1 e1 _ => ⟨fun _ _ => ⟨_, rfl, H _⟩, fun q => ⟨by unfold InI; omega, by unfold InI; omega, by omega, fun v2 _ _ => f_40 (fun _ => ⟨by unfold InI; omega, ih _ (i + 1) (by omega) (by omega)⟩)⟩⟩)
  exact CW.of (k := 2) mt_80 rfl rfl (w_80_0 (Ex.mono S (n + 1)) (key 9 0 0 (by omega) (by omega)))
theorem f_125 {K : MM → Prop} (hs : mem 129 0 = d) (hd : 1 ≤ d ∧ d ≤ 12) {b t y : Int} (ht : 0 ≤ t ∧ t ≤ 100000) (H : ∀ m', Fr1 132 mem m' → K m') : CWV (Ex S (n + 1)) 125 [.inr 129, .inl b, .inl t, .inl y] mem K := by
  have key : ∀ (N : Nat) (i : Int) (m : MM), 0 ≤ i → (4 - i).toNat < N → Fr1 132 mem m → Wx (Ex S n) S M_125 (fun r m => r = none ∧ K m) 3 [some (.inr 129), some (.inl b), some (.inl t), some (.inl y), some (.inl i)] [] m := by
    intro N
    induction N with
    | zero => intros; omega
    | succ N ih =>
      intro i m hi hN hF
      have e0 : m 129 0 = d := by rw [hF 129 0 (by omega)]; exact hs
      refine w_125_3 (Ex.mono S n) ⟨fun _ => ⟨rfl, H m hF⟩, fun q b1 _ _ b2 _ _ => ⟨fun _ => ⟨by unfold InI; omega, ih (i + 1) m (by omega) (by omega) hF⟩, fun _ => ⟨by unfold InI; omega, fun v3 e3 _ => ?_⟩⟩⟩
      have r := tmod_r (show 0 ≤ t + i by omega) (show 0 < v3 by omega)
      exact ⟨by omega, by omega, fun v4 _ _ z _ _ => ⟨by omega, by unfold InI; omega, ih (i + 1) _ (by omega) (by omega) (hF.tr Fr1.up)⟩⟩
  exact CW.of (k := 1) mt_125 rfl rfl (w_125_0 (Ex.mono S n) (key 5 0 mem (by omega) (by omega) Fr1.rf))
theorem f_127 (hs : mem 129 0 = d) (hd : 1 ≤ d ∧ d ≤ 12) {b t y : Int} (ht : 0 ≤ t ∧ t ≤ 100000) (H : ∀ r, K r mem) : CWI (Ex S (n + 1)) 127 [.inr 129, .inl b, .inl t, .inl y] mem K := by
  have key : ∀ (N : Nat) (i : Int), 0 ≤ i → (4 - i).toNat < N → Wx (Ex S n) S M_127 (fun r m => ∃ y, r = some y ∧ K y m) 3 [some (.inr 129), some (.inl b), some (.inl t), some (.inl y), some (.inl i)] [] mem := by
    intro N
    induction N with
    | zero => intros; omega
    | succ N ih =>
      intro i hi hN
      refine w_127_3 (Ex.mono S n) ⟨fun _ => ⟨_, rfl, H _⟩, fun q b1 _ _ b2 _ _ => ⟨fun _ => ⟨by unfold InI; omega, ih (i + 1) (by omega) (by omega)⟩, fun _ => ⟨by unfold InI; omega, fun v3 e3 _ => ?_⟩⟩⟩
      have r := tmod_r (show 0 ≤ t + i by omega) (show 0 < v3 by omega)
      exact ⟨by omega, by omega, fun v4 _ _ => ⟨fun _ => ⟨by unfold InI; omega, ih (i + 1) (by omega) (by omega)⟩, fun _ => ⟨_, rfl, H _⟩⟩⟩
  exact CW.of (k := 1) mt_127 rfl rfl (w_127_0 (Ex.mono S n) (key 5 0 (by omega) (by omega)))
theorem f_124 {K : MM → Prop} (h : HsA mem d) (hT : HTm mem) {u : Int} (H : ∀ m', Fr1 132 mem m' → K m') : CWV (Ex S (n + 2)) 124 [.inr 129, .inr 1, .inl u] mem K := by
  have h8 := h.1.1
  have key : ∀ (N : Nat) (o : Int) (m : MM), 0 ≤ o → (8 - o).toNat < N → Fr1 132 mem m → Wx (Ex S (n + 1)) S M_124 (fun r m => r = none ∧ K m) 10 [some (.inr 129), some (.inr 1), some (.inl u), some (.inl o)] [] m := by
    intro N
    induction N with
    | zero => intros; omega
    | succ N ih =>
      intro o m ho hN hF
      have hs := hF.h32.hs h
      have e10 : m 1 0 = mem 1 0 := hF _ _ (by omega)
      have nx : ∀ m', Fr1 132 mem m' → o < 8 → InI (o + 1) ∧ Wx (Ex S (n + 1)) S M_124 (fun r m => r = none ∧ K m) 10 [some (.inr 129), some (.inr 1), some (.inl u), some (.inl (o + 1))] [] m' := fun m' z q => ⟨by unfold InI; omega, ih (o + 1) m' (by omega) (by omega) z⟩
      refine w_124_10 (Ex.mono S (n + 1)) (fun v1 e1 _ => ⟨fun _ => ⟨rfl, H m hF⟩, fun q v2 _ _ b3 _ _ b4 _ _ => ⟨fun _ => nx m hF (by omega), fun _ => f_37 hs.1 ⟨ho, by omega⟩ (fun w _ _ _ => ⟨fun _ => nx m hF (by omega), fun _ => f_38 hs.1 ⟨ho, by omega⟩ (fun y _ _ _ => ⟨by omega, fun v9 e9 _ => ?_⟩)⟩)⟩⟩)
      have := (hF.ht hT o.toNat (by omega)).1
      exact f_125 hs.2.2.2.1 hs.2.2.2.2 ⟨by omega, by omega⟩ (fun m' k => nx m' (hF.tr k) (by omega))
  exact CW.of (k := 1) mt_124 rfl rfl (w_124_0 (Ex.mono S (n + 1)) (f_76 (Z := 132) (zn := 12) rfl (by omega) (fun m1 k1 => key 9 0 m1 (by omega) (by omega) k1)))
theorem f_126 (h : HsA mem d) {o t : Int} (ho : 0 ≤ o ∧ o < 8) (ht : 0 ≤ t ∧ t ≤ 100000) (H : ∀ r m', Fr1 132 mem m' → K r m') : CWI (Ex S (n + 2)) 126 [.inr 129, .inr 1, .inl o, .inl t] mem K := by
  refine CW.of (k := 2) mt_126 rfl rfl (w_126_0 (Ex.mono S (n + 1)) (f_38 h.1 ho (fun b _ _ _ => f_125 h.2.2.2.1 h.2.2.2.2 ht (fun m1 k1 => ?_))))
  have hs := k1.h32.hs h
  exact f_37 hs.1 ho (fun u u1 u2 _ => ⟨by omega, fun v6 _ _ => f_127 hs.2.2.2.1 hs.2.2.2.2 ht (fun r _ => ⟨fun _ => f_125 hs.2.2.2.1 hs.2.2.2.2 ht (fun m2 k2 => ⟨_, rfl, H _ _ (k1.tr k2)⟩), fun _ => f_125 hs.2.2.2.1 hs.2.2.2.2 ht (fun m2 k2 => ⟨_, rfl, H _ _ (k1.tr k2)⟩)⟩)⟩)
theorem f_128 {s : Int} (hs : 0 ≤ s ∧ s ≤ 8) (H : ∀ r, 0 ≤ r → r < 8 → (r < s ∨ r = 0) → K r mem) : CWI (Ex S (n + 1)) 128 [.inr 129, .inl s] mem K := by
  have key : ∀ (N : Nat) (b x o : Int), 0 ≤ o → 0 ≤ b → b < 8 → (b < s ∨ b = 0) → (8 - o).toNat < N → Wx (Ex S n) S M_128 (fun r m => ∃ y, r = some y ∧ K y m) 7 [some (.inr 129), some (.inl s), some (.inl b), some (.inl x), some (.inl o)] [] mem := by
    intro N
    induction N with
    | zero => intros; omega
    | succ N ih =>
      intro b x o ho b1 b2 b3 hN
      exact w_128_7 (Ex.mono S n) ⟨fun _ _ => ⟨_, rfl, H _ b1 b2 b3⟩, fun q v1 _ _ b2' _ _ b3' _ _ => ⟨fun _ => ⟨by unfold InI; omega, ih b x (o + 1) (by omega) b1 b2 b3 (by omega)⟩, fun _ => ⟨by omega, fun v4 _ _ => ⟨fun _ => ⟨by unfold InI; omega, ih b x (o + 1) (by omega) b1 b2 b3 (by omega)⟩, fun _ => ⟨by omega, fun v5 _ _ => ⟨by unfold InI; omega, ih o v5 (o + 1) (by omega) (by omega) (by omega) (by omega) (by omega)⟩⟩⟩⟩⟩⟩
  exact CW.of (k := 3) mt_128 rfl rfl (w_128_0 (Ex.mono S n) (key 9 0 (-1) 0 (by omega) (by omega) (by omega) (by omega) (by omega)))
theorem f_130 (h : HsA mem d) (hT : HTm mem) (hC : HCm mem c) (hc : 0 ≤ c) {o : Int} (H : ∀ r, 0 ≤ r → r ≤ c + 6 → K r mem) : CWI (Ex S (n + 2)) 130 [.inr 129, .inr 9, .inl o] mem K := by
  obtain ⟨hB, hW, -, hs, hd⟩ := h
  have key : ∀ (N : Nat) (x : Int) (k : Nat), 0 ≤ x → x ≤ c + 6 → 64 - k < N → Wx (Ex S (n + 1)) S M_130 (fun r m => ∃ y, r = some y ∧ K y m) 5 [some (.inr 129), some (.inr 9), some (.inl o), some (.inl x), some (.inl (k : Int)), none] [] mem := by
    intro N
    induction N with
    | zero => intros; omega
    | succ N ih =>
      intro x k hx hx2 hN
      refine w_130_5 (Ex.mono S (n + 1)) (fun v1 e1 _ => ⟨fun _ _ => ⟨_, rfl, H _ hx hx2⟩, fun q => ?_⟩)
      have hk : 0 ≤ (k : Int) ∧ (k : Int) < 64 := by have := hW.2; omega
      obtain ⟨g1, g2, g3, g4⟩ : Rg (mem 10 k) (mem 11 k) (mem 12 k) (mem 13 k) := hW.1 k (by omega)
      have nx : ∀ x, 0 ≤ x → x ≤ c + 6 → InI ((k : Int) + 1) ∧ Wx (Ex S (n + 1)) S M_130 (fun r m => ∃ y, r = some y ∧ K y m) 5 [some (.inr 129), some (.inr 9), some (.inl o), some (.inl x), some (.inl ((k : Int) + 1)), none] [] mem := fun x z1 z2 => ⟨by unfold InI; omega, ih x (k + 1) z1 z2 (by omega)⟩
      rw [Int.toNat_natCast]
      refine ⟨hk, fun v2 e2 _ => ⟨hk, fun v3 e3 _ => ⟨fun _ => nx _ hx hx2, fun _ => ⟨fun _ => nx _ hx hx2, fun _ v4 e4 _ b5 e5 _ b6 e6 _ => ⟨fun _ => nx _ hx hx2, fun z => ⟨by omega, fun v7 e7 _ => ⟨hk, fun v8 e8 _ => ?_⟩⟩⟩⟩⟩⟩⟩
      have ht := hT v2.toNat (by omega)
      have hb : tb (mem 129 3) v2 := by
        rw [e4] at e6
        have := tb_of e5 e6
        exact Classical.not_not.mp (fun w => z (this.mpr w))
      have hcc := (hC v2.toNat (by omega)).1 (by rw [show ((v2.toNat : Nat) : Int) = v2 by omega]; exact hb)
      refine ⟨by unfold InI; omega, fun v9 e9 _ => ⟨hk, fun v10 e10 _ => ?_⟩⟩
      have := d7 (d := v9) (x := v10) (by omega) (by omega)
      exact ⟨by unfold InI; omega, by unfold InI; omega, f_40 (fun _ => nx _ (by omega) (by omega))⟩
  exact CW.of (k := 3) mt_130 rfl rfl (w_130_0 (Ex.mono S (n + 1)) (key 65 0 0 (by omega) (by omega) (by omega)))
theorem f_133 (h : HsA mem d) (hT : HTm mem) {o : Nat} (ho : o < 8) (H : ∀ r, K r mem) : CWI (Ex S (n + 2)) 133 [.inr 129, .inr 1, .inl (o : Int)] mem K := by
  obtain ⟨hB, hW, -, hs, hd⟩ := h
  have ht := hT o ho
  have key : ∀ (N : Nat) (x i : Int), 0 ≤ i → (4 - i).toNat < N → Wx (Ex S (n + 1)) S M_133 (fun r m => ∃ y, r = some y ∧ K y m) 5 [some (.inr 129), some (.inr 1), some (.inl (o : Int)), some (.inl x), some (.inl i)] [] mem := by
    intro N
    induction N with
    | zero => intros; omega
    | succ N ih =>
      intro x i hi hN
      refine w_133_5 (Ex.mono S (n + 1)) ⟨fun _ _ => ⟨_, rfl, H _⟩, fun q => f_38 hB ⟨by omega, by omega⟩ (fun b _ _ _ b3 _ _ b4 _ _ => ⟨fun _ => ⟨by unfold InI; omega, ih x (i + 1) (by omega) (by omega)⟩, fun _ => ⟨by omega, fun v5 e5 _ => ?_⟩⟩)⟩
      rw [Int.toNat_natCast] at e5
      exact ⟨by unfold InI; omega, fun v6 e6 _ => ⟨by omega, fun b7 _ _ b8 _ _ => ⟨by unfold InI; omega, ih b8 (i + 1) (by omega) (by omega)⟩⟩⟩
  exact CW.of (k := 2) mt_133 rfl rfl (w_133_0 (Ex.mono S (n + 1)) (key 5 0 0 (by omega) (by omega)))
theorem f_132 (h : HsA mem d) (hT : HTm mem) {o p : Nat} (ho : o < 8) (hp : p < 8) (H : ∀ r, K r mem) : CWI (Ex S (n + 3)) 132 [.inr 129, .inr 1, .inl (o : Int), .inl (p : Int)] mem K := by
  have hs := h.2.2.2.1
  have hd := h.2.2.2.2
  have key : ∀ (N : Nat) (x y i : Int), 0 ≤ i → (12 - i).toNat < N → Wx (Ex S (n + 2)) S M_132 (fun r m => ∃ y, r = some y ∧ K y m) 30 [some (.inr 129), some (.inr 1), some (.inl (o : Int)), some (.inl (p : Int)), some (.inl x), some (.inl y), some (.inl i)] [] mem := by
    intro N
    induction N with
    | zero => intros; omega
    | succ N ih =>
      intro x y i hi hN
      exact w_132_30 (Ex.mono S (n + 2)) (fun v1 e1 _ => ⟨fun _ => ⟨_, rfl, H _⟩, fun q b2 _ _ b3 _ _ => ⟨fun _ => ⟨by unfold InI; omega, ih x y (i + 1) (by omega) (by omega)⟩, fun _ => ⟨by omega, fun v4 _ _ => ⟨fun _ => ⟨by unfold InI; omega, ih x y (i + 1) (by omega) (by omega)⟩, fun _ => ⟨_, rfl, H _⟩⟩⟩⟩⟩)
  exact CW.of (k := 3) mt_132 rfl rfl (w_132_0 (Ex.mono S (n + 2)) (f_37 h.1 ⟨by omega, by omega⟩ (fun u u1 u2 _ => ⟨by omega, fun v3 _ _ => f_133 h hT ho (fun r _ => f_133 h hT hp (fun r2 _ b8 _ _ => key 13 v3 b8 0 (by omega) (by omega)))⟩)))
end HASTY
