/-! the quick way of the class: an op is moved; seek -/
/-- only the set of ops with a time, and what is asked, may change; the set may lose some -/
def FrT (m m' : MM) : Prop := ∀ A i, ¬ A = 132 → ¬ (A = 129 ∧ i = 3) → m' A i = m A i
theorem FrT.rf {m : MM} : FrT m m := fun _ _ _ _ => rfl
theorem FrT.tr {a b c : MM} (h1 : FrT a b) (h2 : FrT b c) : FrT a c := fun A i e1 e2 => (h2 A i e1 e2).trans (h1 A i e1 e2)
theorem Fr1.t32 {m m' : MM} (e : Fr1 132 m m') : FrT m m' := fun A i e1 _ => e A i e1
theorem FrT.h {m m' : MM} (e : FrT m m') : FrH m m' := fun A i e1 e2 => e A i (by omega) (by omega)
theorem FrT.ht {m m' : MM} (e : FrT m m') (h : HTm m) : HTm m' := fun o ho => by rw [e 130 o (by omega) (by omega), e 131 o (by omega) (by omega)]; exact h o ho
theorem FrT.hc {m m' : MM} {c : Int} (e : FrT m m') (h : HCm m c) (s : ∀ p : Nat, p < 8 → tb (m' 129 3) (p : Int) → m 130 p ≤ c) : HCm m' c := fun o ho => by
  rw [e 130 o (by omega) (by omega), e 131 o (by omega) (by omega), e 1 0 (by omega) (by omega)]
  exact ⟨s o ho, (h o ho).2⟩
section SEEK
variable {S : Nat × (Nat → Int32)} {n : Nat} {mem : MM} {d c : Int}
theorem f_131 {K : MM → Prop} (h : HsA mem d) (hT : HTm mem) (hC : HCm mem c) {o : Nat} (ho : o < 8) (H : ∀ m', FrT mem m' → HCm m' c → K m') : CWV (Ex S (n + 4)) 131 [.inr 129, .inr 1, .inl (o : Int)] mem K := by
  have h8 := h.1.1
  refine CW.of (k := 3) mt_131 rfl rfl (w_131_0 (Ex.mono S (n + 3)) (f_37 h.1 ⟨by omega, by omega⟩ (fun u _ _ _ => f_124 h hT (fun m1 k1 => ?_))))
  have key : ∀ (N : Nat) (p : Nat) (m : MM), 8 - p < N → FrT mem m → HCm m c → Wx (Ex S (n + 3)) S M_131 (fun r m => r = none ∧ K m) 15 [some (.inr 129), some (.inr 1), some (.inl (o : Int)), some (.inl u), some (.inl (p : Int)), none] [] m := by
    intro N
    induction N with
    | zero => intros; omega
    | succ N ih =>
      intro p m hN hF hC'
      have hs := hF.h.hs h
      have e10 : m 1 0 = mem 1 0 := hF _ _ (by omega) (by omega)
      have nx : ∀ m', FrT mem m' → HCm m' c → p < 8 → InI ((p : Int) + 1) ∧ Wx (Ex S (n + 3)) S M_131 (fun r m => r = none ∧ K m) 15 [some (.inr 129), some (.inr 1), some (.inl (o : Int)), some (.inl u), some (.inl ((p : Int) + 1)), none] [] m' := fun m' z1 z2 q => ⟨by unfold InI; omega, ih (p + 1) m' (by omega) z1 z2⟩
      refine w_131_15 (Ex.mono S (n + 3)) (fun v1 e1 _ => ⟨fun _ => ⟨rfl, H m hF hC'⟩, fun q => ⟨fun _ => nx m hF hC' (by omega), fun _ => f_37 hs.1 ⟨by omega, by omega⟩ (fun w _ _ _ => ⟨fun _ => nx m hF hC' (by omega), fun _ v4 _ _ b5 _ _ b6 _ _ => ⟨fun _ => nx m hF hC' (by omega), fun _ => f_132 hs (hF.ht hT) ho (by omega) (fun r _ => ⟨fun _ => nx m hF hC' (by omega), fun _ v9 e9 _ b10 _ _ b11 _ _ b12 e12 _ => ?_⟩)⟩⟩)⟩⟩)
      have hF2 : FrT m (upm m 129 3 b12) := fun A i _ e2 => upm_ne e2
      have hs2 := hF2.h.hs hs
      have hC2 : HCm (upm m 129 3 b12) c := hF2.hc hC' (fun p hp z => by
        rw [upm_eq] at z
        rw [e9] at e12
        exact (hC' p hp).1 (tb_and e12 z))
      refine f_38 hs2.1 ⟨by omega, by omega⟩ (fun y _ _ _ => ⟨by omega, fun v15 e15 _ => ?_⟩)
      have ht := ((hF.tr hF2).ht hT p (by omega)).1
      rw [Int.toNat_natCast] at e15
      exact f_125 hs2.2.2.2.1 hs2.2.2.2.2 ⟨by omega, by omega⟩ (fun m' k => nx m' ((hF.tr hF2).tr k.t32) (k.hc hC2) (by omega))
  exact key 9 0 m1 (by omega) k1.t32 (k1.hc hC)
theorem f_134 {K : MM → Prop} (h : HsA mem d) (hT : HTm mem) (hC : HCm mem c) {o : Nat} (ho : o < 8) (hco : mem 130 o ≤ c) (H : ∀ m', FrT mem m' → HCm m' c → K m') : CWV (Ex S (n + 1)) 134 [.inr 129, .inr 9, .inl (o : Int)] mem K := by
  have key : ∀ (N : Nat) (k : Nat) (m : MM), 64 - k < N → FrT mem m → HCm m c → Wx (Ex S n) S M_134 (fun r m => r = none ∧ K m) 2 [some (.inr 129), some (.inr 9), some (.inl (o : Int)), some (.inl (k : Int)), none, none, none, none] [] m := by
    intro N
    induction N with
    | zero => intros; omega
    | succ N ih =>
      intro k m hN hF hC'
      obtain ⟨hB, hW, -, hs, hd⟩ := hF.h.hs h
      have hT' := hF.ht hT
      refine w_134_2 (Ex.mono S n) (fun v1 e1 _ => ⟨fun _ => ⟨rfl, H m hF hC'⟩, fun q => ?_⟩)
      have hk : 0 ≤ (k : Int) ∧ (k : Int) < 64 := by have := hW.2; omega
      obtain ⟨g1, g2, g3, g4⟩ : Rg (m 10 k) (m 11 k) (m 12 k) (m 13 k) := hW.1 k (by omega)
      have nx : ∀ m', FrT mem m' → HCm m' c → InI ((k : Int) + 1) ∧ Wx (Ex S n) S M_134 (fun r m => r = none ∧ K m) 2 [some (.inr 129), some (.inr 9), some (.inl (o : Int)), some (.inl ((k : Int) + 1)), none, none, none, none] [] m' := fun m' z1 z2 => ⟨by unfold InI; omega, ih (k + 1) m' (by omega) z1 z2⟩
      rw [Int.toNat_natCast]
      refine ⟨hk, fun v2 e2 _ => ⟨hk, fun v3 e3 _ b4 _ _ b5 _ _ b6 _ _ => ?_⟩⟩
      have t2 := (hT' v2.toNat (by omega)).1
      have upd : ∀ v14 b15 b16 v17 b18 b19 : Int, v14 = m 129 3 → b16 = ((fun (x y : Int32) => x &&& y) (Int32.ofInt v14) (Int32.ofInt b15)).toInt → v17 = (upm m 129 3 b16) 129 3 → b18 = ((fun (x y : Int32) => x <<< (y &&& 31)) (Int32.ofInt 1) (Int32.ofInt (o : Int))).toInt → b19 = ((fun (x y : Int32) => x ||| y) (Int32.ofInt v17) (Int32.ofInt b18)).toInt → InI ((k : Int) + 1) ∧ Wx (Ex S n) S M_134 (fun r m => r = none ∧ K m) 2 [some (.inr 129), some (.inr 9), some (.inl (o : Int)), some (.inl ((k : Int) + 1)), none, none, none, none] [] (upm (upm m 129 3 b16) 129 3 b19) := by
        intro v14 b15 b16 v17 b18 b19 f1 f2 f3 f4 f5
        have hF2 : FrT m (upm (upm m 129 3 b16) 129 3 b19) := fun A i _ e2 => by rw [upm_ne e2, upm_ne e2]
        refine nx _ (hF.tr hF2) (hF2.hc hC' (fun p hp z => ?_))
        rw [upm_eq] at z f3
        rw [f3] at f5
        rcases (tb_set (p := (p : Int)) f4 f5 ⟨by omega, by omega⟩ ⟨by omega, by omega⟩).mp z with z2 | z2
        · rw [f1] at f2
          exact (hC' p hp).1 (tb_and f2 z2)
        · have e : p = o := by omega
          subst e
          rw [hF 130 p (by omega) (by omega)]; exact hco
      have body : ∀ v7 b8 : Int, ((¬ b8 = b6 → (InI ((k : Int) + 1)) ∧ (Wx (Ex S n) S M_134 (fun r m => r = none ∧ K m) 2 [some (.inr 129), some (.inr 9), some (.inl (o : Int)), some (.inl ((k : Int) + 1)), none, none, none, none] [] m)) ∧ (¬ (¬ b8 = b6) → ((0 : Int) ≤ v3 ∧ (v3 : Int) < 8) ∧ ∀ v9 : Int, v9 = m 130 (Int.toNat v3) → InI v9 → ((0 : Int) ≤ v2 ∧ (v2 : Int) < 8) ∧ ∀ v10 : Int, v10 = m 130 (Int.toNat v2) → InI v10 → ((0 : Int) ≤ (k : Int) ∧ ((k : Int) : Int) < 64) ∧ ∀ v11 : Int, v11 = m 13 k → InI v11 → (InI (v10 + v11)) ∧ ∀ v12 : Int, v12 = m 129 0 → InI v12 → ((0 : Int) ≤ (k : Int) ∧ ((k : Int) : Int) < 64) ∧ ∀ v13 : Int, v13 = m 12 k → InI v13 → (InI (v12 * v13)) ∧ (InI ((v10 + v11) - (v12 * v13))) ∧ ((((v10 + v11) - (v12 * v13)) ≤ v9 → (InI ((k : Int) + 1)) ∧ (Wx (Ex S n) S M_134 (fun r m => r = none ∧ K m) 2 [some (.inr 129), some (.inr 9), some (.inl (o : Int)), some (.inl ((k : Int) + 1)), none, none, none, none] [] m)) ∧ (¬ (((v10 + v11) - (v12 * v13)) ≤ v9) → ∀ v14 : Int, v14 = m 129 3 → InI v14 → ∀ b15 : Int, b15 = ((fun (x y : Int32) => x ^^^ y) (Int32.ofInt b6) (Int32.ofInt (-1))).toInt → InI b15 → ∀ b16 : Int, b16 = ((fun (x y : Int32) => x &&& y) (Int32.ofInt v14) (Int32.ofInt b15)).toInt → InI b16 → ∀ v17 : Int, v17 = (upm m 129 3 b16) 129 3 → InI v17 → ∀ b18 : Int, b18 = ((fun (x y : Int32) => x <<< (y &&& 31)) (Int32.ofInt 1) (Int32.ofInt (o : Int))).toInt → InI b18 → ∀ b19 : Int, b19 = ((fun (x y : Int32) => x ||| y) (Int32.ofInt v17) (Int32.ofInt b18)).toInt → InI b19 → (InI ((k : Int) + 1)) ∧ (Wx (Ex S n) S M_134 (fun r m => r = none ∧ K m) 2 [some (.inr 129), some (.inr 9), some (.inl (o : Int)), some (.inl ((k : Int) + 1)), none, none, none, none] [] (upm (upm m 129 3 b16) 129 3 b19)))))) := by
        intro v7 b8
        refine ⟨fun _ => nx m hF hC', fun _ => ⟨by omega, fun v9 e9 _ => ⟨by omega, fun v10 e10 _ => ⟨hk, fun v11 e11 _ => ⟨by unfold InI; omega, fun v12 e12 _ => ⟨hk, fun v13 e13 _ => ?_⟩⟩⟩⟩⟩⟩
        have := d7 (d := v12) (x := v13) (by omega) (by omega)
        exact ⟨by unfold InI; omega, by unfold InI; omega, fun _ => nx m hF hC', fun _ v14 f1 _ b15 _ _ b16 f2 _ v17 f3 _ b18 f4 _ b19 f5 _ => upd v14 b15 b16 v17 b18 b19 f1 f2 f3 f4 f5⟩
      exact ⟨fun _ => ⟨fun _ => nx m hF hC', fun _ v7 _ _ b8 _ _ => body v7 b8⟩, fun _ => ⟨fun _ v7 _ _ b8 _ _ => body v7 b8, fun _ => nx m hF hC'⟩⟩
  exact CW.of (k := 5) mt_134 rfl rfl (w_134_0 (Ex.mono S n) (key 65 0 mem (by omega) FrT.rf hC))
/-- an op gets a time -/
theorem f_129 {K : MM → Prop} (h : HsA mem d) (hT : HTm mem) (hC : HCm mem c) (hc : 0 ≤ c ∧ c ≤ 846) {o : Nat} (ho : o < 8) (hos : (o : Int) < mem 1 0) (H : ∀ m', FrH mem m' → m' 129 2 = mem 129 2 → m' 129 1 = mem 129 1 → HTm m' → HCm m' (c + 18) → K m') : CWV (Ex S (n + 5)) 129 [.inr 129, .inr 1, .inr 9, .inl (o : Int)] mem K := by
  have hd := h.2.2.2.2
  have hlo := (hC o ho).2 hos
  have hl1 := (hT o ho).2.1
  have ho8 : 0 ≤ (o : Int) ∧ (o : Int) < 8 := by omega
  refine CW.of (k := 3) mt_129 rfl rfl (w_129_0 (Ex.mono S (n + 4)) (f_130 h hT hC hc.1 (fun r r1 r2 _ => f_37 h.1 ho8 (fun u _ _ _ => f_124 h hT (fun m1 k1 => ?_)))))
  have at90 : ∀ (t x : Int) (m : MM), 0 ≤ t → t ≤ c + 18 → Fr1 132 mem m → Wx (Ex S (n + 4)) S M_129 (fun r m => r = none ∧ K m) 90 [some (.inr 129), some (.inr 1), some (.inr 9), some (.inl (o : Int)), some (.inl r), some (.inl t), some (.inl x)] [] m := by
    intro t x m t1 t2 kF
    refine w_129_90 (Ex.mono S (n + 4)) ⟨ho8, ho8, fun v1 e1 _ b2 e2 _ b3 e3 _ => ?_⟩
    rw [Int.toNat_natCast] at e1 ⊢
    have e1 : v1 = m 129 3 := by rw [e1, upm_ne (by omega), upm_ne (by omega)]
    generalize hM : upm (upm (upm m 130 o t) 131 o t) 129 3 b3 = M
    have q : ∀ A i, ¬ (A = 130 ∧ i = o) → ¬ (A = 131 ∧ i = o) → ¬ (A = 129 ∧ i = 3) → M A i = m A i := fun A i z1 z2 z3 => by rw [← hM, upm_ne z3, upm_ne z2, upm_ne z1]
    have q0 : M 130 o = t := by rw [← hM, upm_ne (by omega), upm_ne (by omega), upm_eq]
    have q1 : M 131 o = t := by rw [← hM, upm_ne (by omega), upm_eq]
    have q3 : M 129 3 = b3 := by rw [← hM, upm_eq]
    have hFM : FrH mem M := kF.h32.tr (fun A i z1 z2 => q A i (by omega) (by omega) (by omega))
    have hTM : HTm M := fun p hp => by
      by_cases e : p = o
      · subst e; rw [q0, q1]; omega
      · rw [q 130 p (by omega) (by omega) (by omega), q 131 p (by omega) (by omega) (by omega)]; exact kF.ht hT p hp
    have hCM : HCm M (c + 18) := fun p hp => by
      have hcp := kF.hc hC p hp
      rw [q3, q 1 0 (by omega) (by omega) (by omega)]
      by_cases e : p = o
      · subst e; rw [q0, q1]; exact ⟨fun _ => t2, fun _ => t2⟩
      · rw [q 130 p (by omega) (by omega) (by omega), q 131 p (by omega) (by omega) (by omega)]
        refine ⟨fun z => ?_, fun z => by have := hcp.2 z; omega⟩
        rw [e1] at e3
        rcases (tb_set (p := (p : Int)) e2 e3 ho8 ⟨by omega, by omega⟩).mp z with z2 | z2
        · have := hcp.1 z2; omega
        · exact absurd (by omega) e
    have hsM := hFM.hs h
    have k2 : M 129 2 = mem 129 2 := by rw [q 129 2 (by omega) (by omega) (by omega)]; exact kF _ _ (by omega)
    have k3 : M 129 1 = mem 129 1 := by rw [q 129 1 (by omega) (by omega) (by omega)]; exact kF _ _ (by omega)
    have fin : ∀ m2, FrT M m2 → HCm m2 (c + 18) → none = (none : Option Int) ∧ K m2 := fun m2 g1 g2 => ⟨rfl, H m2 (hFM.tr g1.h) (by rw [g1 129 2 (by omega) (by omega)]; exact k2) (by rw [g1 129 1 (by omega) (by omega)]; exact k3) (g1.ht hTM) g2⟩
    refine ⟨fun _ => f_134 hsM hTM hCM ho (by rw [q0]; exact t2) fin, fun _ => f_131 hsM hTM hCM ho (fun m5 g1 g2 => f_134 (g1.h.hs hsM) (g1.ht hTM) g2 ho (by rw [g1 130 o (by omega) (by omega), q0]; exact t2) (fun m6 g3 g4 => fin m6 (g1.tr g3) g4))⟩
  have at51 : ∀ (t : Int) (m : MM), r ≤ t → t ≤ r + d → Fr1 132 mem m → Wx (Ex S (n + 4)) S M_129 (fun r m => r = none ∧ K m) 51 [some (.inr 129), some (.inr 1), some (.inr 9), some (.inl (o : Int)), some (.inl r), some (.inl t), none] [] m := by
    intro t m t1 t2 kF
    have e0 : m 129 0 = d := by rw [kF 129 0 (by omega)]; exact h.2.2.2.1
    refine w_129_51 (Ex.mono S (n + 4)) (fun v1 e1 _ => ⟨by unfold InI; omega, fun _ => at90 t 0 m (by omega) (by omega) kF, fun _ => ⟨ho8, fun v2 e2 _ => ?_⟩⟩)
    rw [Int.toNat_natCast, kF 131 o (by omega)] at e2
    exact ⟨by unfold InI; omega, f_40 (fun _ => at90 _ 1 m (by omega) (by omega) kF)⟩
  have key : ∀ (N : Nat) (t : Int) (m : MM), r ≤ t → t ≤ r + d → (r + d - t).toNat < N → Fr1 132 mem m → Wx (Ex S (n + 4)) S M_129 (fun r m => r = none ∧ K m) 22 [some (.inr 129), some (.inr 1), some (.inr 9), some (.inl (o : Int)), some (.inl r), some (.inl t), none] [] m := by
    intro N
    induction N with
    | zero => intros; omega
    | succ N ih =>
      intro t m t1 t2 hN kF
      have hs := kF.h32.hs h
      have e0 := hs.2.2.2.1
      exact w_129_22 (Ex.mono S (n + 4)) (fun v1 e1 _ => ⟨by unfold InI; omega, fun _ => at51 t m t1 t2 kF, fun q => f_126 hs ho8 ⟨by omega, by omega⟩ (fun r2 m2 k2 _ => ⟨fun _ => at51 t m2 t1 t2 (kF.tr k2), fun _ => ⟨by unfold InI; omega, ih (t + 1) m2 (by omega) (by omega) (by omega) (kF.tr k2)⟩⟩)⟩)
  exact key _ r m1 (by omega) (by omega) (Nat.lt_succ_self _) k1
end SEEK
