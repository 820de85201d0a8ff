/-! the quick way of the class: an op is moved; seek -/
/-- only the set of ops with a time, and what is asked, may change; the set may lose some -/
def FrT (m m' : MM) : Prop := ∀ A i, ¬ A = 132 → ¬ (A = 129 ∧ i = 3) → m' A i = m A i
theorem FrT.rf {m : MM} : FrT m m := fun _ _ _ _ => rfl
theorem FrT.tr {a b c : MM} (h1 : FrT a b) (h2 : FrT b c) : FrT a c := fun A i e1 e2 => (h2 A i e1 e2).trans (h1 A i e1 e2)
theorem Fr1.t32 {m m' : MM} (e : Fr1 132 m m') : FrT m m' := fun A i e1 _ => e A i e1
theorem FrT.h {m m' : MM} (e : FrT m m') : FrH m m' := fun A i e1 e2 => e A i (by omega) (by omega)
theorem FrT.ht {m m' : MM} (e : FrT m m') (h : HTm m) : HTm m' := fun o ho => by rw [e 130 o (by omega) (by omega), e 131 o (by omega) (by omega)]; exact h o ho
theorem FrT.hc {m m' : MM} {c : Int} (e : FrT m m') (h : HCm m c) (s : ∀ p : Nat, p < 8 → tb (m' 129 3) (p : Int) → m 130 p ≤ c) : HCm m' c := fun o ho => by
  rw [e 130 o (by omega) (by omega), e 131 o (by omega) (by omega), e 1 0 (by omega) (by omega)]
  exact ⟨s o ho, (h o ho).2⟩
section SEEK
variable {S : Nat × (Nat → Int32)} {n : Nat} {mem : MM} {d c : Int}
theorem f_131 {K : MM → Prop} (h : HsA mem d) (hT : HTm mem) (hC : HCm mem c) {o : Nat} (ho : o < 8) (H : ∀ m', FrT mem m' → HCm m' c → K m') : CWV (Ex S (n + 4)) 131 [.inr 129, .inr 1, .inl (o : Int)] mem K := by
  have h8 := h.1.1
  refine CW.of (k := 3) mt_131 rfl rfl (w_131_0 (Ex.mono S (n + 3)) (f_37 h.1 ⟨by omega, by omega⟩ (fun u _ _ _ => f_124 h hT (fun m1 k1 => ?_))))
  have key : ∀ (N : Nat) (p : Nat) (m : MM), 8 - p < N → FrT mem m → HCm m c → Wx (Ex S (n + 3)) S M_131 (fun r m => r = none ∧ K m) 15 [some (.inr 129), some (.inr 1), some (.inl (o : Int)), some (.inl u), some (.inl (p : Int)), none] [] m := by
    intro N
    induction N with
    | zero => intros; omega
    | succ N ih =>
      intro p m hN hF hC'
      have hs := hF.h.hs h
      have e10 : m 1 0 = mem 1 0 := hF _ _ (by omega) (by omega)
      have nx : ∀ m', FrT mem m' → HCm m' c → p < 8 → InI ((p : Int) + 1) ∧ Wx (Ex S (n + 3)) S M_131 (fun r m => r = none ∧ K m) 15 [some (.inr 129), some (.inr 1), some (.inl (o : Int)), some (.inl u), some (.inl ((p : Int) + 1)), none] [] m' := fun m' z1 z2 q => ⟨by unfold InI; omega, ih (p + 1) m' (by omega) z1 z2⟩
      refine w_131_15 (Ex.mono S (n + 3)) (fun v1 e1 _ => ⟨fun _ => ⟨rfl, H m hF hC'⟩, fun q => ⟨fun _ => nx m hF hC' (by omega), fun _ => f_37 hs.1 ⟨by omega, by omega⟩ (fun w _ _ _ => ⟨fun _ => nx m hF hC' (by omega), fun _ v4 _ _ b5 _ _ b6 _ _ => ⟨fun _ => nx m hF hC' (by omega), fun _ => f_132 hs (hF.ht hT) ho (by omega) (fun r _ => ⟨fun _ => nx m hF hC' (by omega), fun _ v9 e9 _ b10 _ _ b11 _ _ b12 e12 _ => ?_⟩)⟩⟩)⟩⟩)
      have hF2 : FrT m (upm m 129 3 b12) := fun A i _ e2 => upm_ne e2
      have hs2 := hF2.h.hs hs
      have hC2 : HCm (upm m 129 3 b12) c := hF2.hc hC' (fun p hp z => by
        rw [upm_eq] at z
        rw [e9] at e12
        exact (hC' p hp).1 (tb_and e12 z))
      refine f_38 hs2.1 ⟨by omega, by omega⟩ (fun y _ _ _ => ⟨by omega, fun v15 e15 _ => ?_⟩)
      have ht := ((hF.tr hF2).ht hT p (by omega)).1
      rw [Int.toNat_natCast] at e15
      exact f_125 hs2.2.2.2.1 hs2.2.2.2.2 ⟨by omega, by omega⟩ (fun m' k => nx m' ((hF.tr hF2).tr k.t32) (k.hc hC2) (by omega))
  exact key 9 0 m1 (by omega) k1.t32 (k1.hc hC)
theorem f_134 {K : MM → Prop} (h : HsA mem d) (hT : HTm mem) (hC : HCm mem c) {o : Nat} (ho : o < 8) (hco : mem 130 o ≤ c) (H : ∀ m', FrT mem m' → HCm m' c → K m') : CWV (Ex S (n + 1)) 134 [.inr 129, .inr 9, .inl (o : Int)] mem K := by
  have key : ∀ (N : Nat) (k : Nat) (m : MM), 64 - k < N → FrT mem m → HCm m c → Wx (Ex S n) S M_134 (fun r m => r = none ∧ K m) 2 [some (.inr 129), some (.inr 9), some (.inl (o : Int)), some (.inl (k : Int)), none, none, none, none] [] m := by
    intro N
    induction N with
    | zero => intros; omega
    | succ N ih =>
      intro k m hN hF hC'
      obtain ⟨hB, hW, -, hs, hd⟩ := hF.h.hs h
      have hT' := hF.ht hT
      refine w_134_2 (Ex.mono S n) (fun v1 e1 _ => ⟨fun _ => ⟨rfl, H m hF hC'⟩, fun q => ?_⟩)
      have hk : 0 ≤ (k : Int) ∧ (k : Int) < 64 := by have := hW.2; omega
      obtain ⟨g1, g2, g3, g4⟩ : Rg (m 10 k) (m 11 k) (m 12 k) (m 13 k) := hW.1 k (by omega)
      have nx : ∀ m', FrT mem m' → HCm m' c → InI ((k : Int) + 1) ∧ Wx (Ex S n) S M_134 (fun r m => r = none ∧ K m) 2 [some (.inr 129), some (.inr 9), some (.inl (o : Int)), some (.inl ((k : Int) + 1)), none, none, none, none] [] m' := fun m' z1 z2 => ⟨by unfold InI; omega, ih (k + 1) m' (by omega) z1 z2⟩
      rw [Int.toNat_natCast]
      refine ⟨hk, fun v2 e2 _ => ⟨hk, fun v3 e3 _ b4 _ _ b5 _ _ b6 _ _ => ?_⟩⟩
      have t2 := (hT' v2.toNat (by omega)).1
      have upd : ∀ v14 b15 b16 v17 b18 b19 : Int, v14 = m 129 3 → b16 = ((fun (x y : Int32) => x &&& y) (Int32.ofInt v14) (Int32.ofInt b15)).toInt → v17 = (upm m 129 3 b16) 129 3 → b18 = ((fun (x y : Int32) => x <<< (y &&& 31)) (Int32.ofInt 1) (Int32.ofInt (o : Int))).toInt → b19 = ((fun (x y : Int32) => x ||| y) (Int32.ofInt v17) (Int32.ofInt b18)).toInt → InI ((k : Int) + 1) ∧ Wx (Ex S n) S M_134 (fun r m => r = none ∧ K m) 2 [some (.inr 129), some (.inr 9), some (.inl (o : Int)), some (.inl ((k : Int) + 1)), none, none, none, none] [] (upm (upm m 129 3 b16) 129 3 b19) := by
        intro v14 b15 b16 v17 b18 b19 f1 f2 f3 f4 f5
        have hF2 : FrT m (upm (upm m 129 3 b16) 129 3 b19) := fun A i _ e2 => by rw [upm_ne e2, upm_ne e2]
        refine nx _ (hF.tr hF2) (hF2.hc hC' (fun p hp z => ?_))
        rw [upm_eq] at z f3
        rw [f3] at f5
        rcases (tb_set (p := (p : Int)) f4 f5 ⟨by omega, by omega⟩ ⟨by omega, by omega⟩).mp z with z2 | z2
        · rw [f1] at f2
          exact (hC' p hp).1 (tb_and f2 z2)
        · have e : p = o := by omega
          subst e
          rw [hF 130 p (by omega) (by omega)]; exact hco
      have body : ∀ v7 b8 : Int, ((¬ b8 = b6 → (InI ((k : Int) + 1)) ∧ (Wx (Ex S n) S M_134 (fun r m => r = none ∧ K m) 2 [some (.inr 129), some (.inr 9), some (.inl (o : Int)), some (.inl ((k : Int) + 1)), none, none, none, none] [] m)) ∧ (¬ (¬ b8 = b6) → ((0 : Int) ≤ v3 ∧ (v3 : Int) < 8) ∧ ∀ v9 : Int, v9 = m 130 (Int.toNat v3) → InI v9 → ((0 : Int) ≤ v2 ∧ (v2 : Int) < 8) ∧ ∀ v10 : Int, v10 = m 130 (Int.toNat v2) → InI v10 → ((0 : Int) ≤ (k : Int) ∧ ((k : Int) : Int) < 64) ∧ ∀ v11 : Int, v11 = m 13 k → InI v11 → (InI (v10 + v11)) ∧ ∀ v12 : Int, v12 = m 129 0 → InI v12 → ((0 : Int) ≤ (k : Int) ∧ ((k : Int) : Int) < 64) ∧ ∀ v13 : Int, v13 = m 12 k → InI v13 → (InI (v12 * v13)) ∧ (InI ((v10 + v11) - (v12 * v13))) ∧ ((((v10 + v11) - (v12 * v13)) ≤ v9 → (InI ((k : Int) + 1)) ∧ (Wx (Ex S n) S M_134 (fun r m => r = none ∧ K m) 2 [some (.inr 129), some (.inr 9), some (.inl (o : Int)), some (.inl ((k : Int) + 1)), none, none, none, none] [] m)) ∧ (¬ (((v10 + v11) - (v12 * v13)) ≤ v9) → ∀ v14 : Int, v14 = m 129 3 → InI v14 → ∀ b15 : Int, b15 = ((fun (x y : Int32) => x ^^^ y) (Int32.ofInt b6) (Int32.ofInt (-1))).toInt → InI b15 → ∀ b16 : Int, b16 = ((fun (x y : Int32) => x &&& y) (Int32.ofInt v14) (Int32.ofInt b15)).toInt → InI b16 → ∀ v17 : Int, v17 = (upm m 129 3 b16) 129 3 → InI v17 → ∀ b18 : Int, b18 = ((fun (x y : Int32) => x <<< (y &&& 31)) (Int32.ofInt 1) (Int32.ofInt (o : Int))).toInt → InI b18 → ∀ b19 : Int, b19 = ((fun (x y : Int32) => x ||| y) (Int32.ofInt v17) (Int32.ofInt b18)).toInt → InI b19 → (InI ((k : Int) + 1)) ∧ (Wx (Ex S n) S M_134 (fun r m => r = none ∧ K m) 2 [some (.inr 129), some (.inr 9), some (.inl (o : Int)), some (.inl ((k : Int) + 1)), none, none, none, none] [] (upm (upm m 129 3 b16) 129 3 b19)))))) := by
        intro v7 b8
        refine ⟨fun _ => nx m hF hC', fun _ => ⟨by omega, fun v9 e9 _ => ⟨by omega, fun v10 e10 _ => ⟨hk, fun v11 e11 _ => ⟨by unfold InI; omega, fun v12 e12 _ => ⟨hk, fun v13 e13 _ => ?_⟩⟩⟩⟩⟩⟩
        have := d7 (d := v12) (x := v13) (by omega) (by omega)
        exact ⟨by unfold InI; omega, by unfold InI; omega, fun _ => nx m hF hC', fun _ v14 f1 _ b15 _ _ b16 f2 _ v17 f3 _ b18 f4 _ b19 f5 _ => upd v14 b15 b16 v17 b18 b19 f1 f2 f3 f4 f5⟩
      exact ⟨fun _ => ⟨fun _ => nx m hF hC', fun _ v7 _ _ b8 _ _ => body v7 b8⟩, fun _ => ⟨fun _ v7 _ _ b8 _ _ => body v7 b8, fun _ => nx m hF hC'⟩⟩
  exact CW.of (k := 5) mt_134 rfl rfl (w_134_0 (Ex.mono S n) (key 65 0 mem (by omega) FrT.rf hC))
/-- an op gets a time -/
theorem f_129 {K : MM → Prop} (h : HsA mem d) (hT : HTm mem) (hC : HCm mem c) (hc : 0 ≤ c ∧ c ≤ 846) {o : Nat} (ho : o < 8) (hos : (o : Int) < mem 1 0) (H : ∀ m', FrH mem m' → m' 129 2 = mem 129 2 → m' 129 1 = mem 129 1 → HTm m' → HCm m' (c + 18) → K m') : CWV (Ex S (n + 5)) 129 [.inr 129, .inr 1, .inr 9, .inl (o : Int)] mem K := by
  have hd := h.2.2.2.2
  have hlo := (hC o ho).2 hos
  have hl1 := (hT o ho).2.1
  have ho8 : 0 ≤ (o : Int) ∧ (o : Int) < 8 := by omega
  refine CW.of (k := 3) mt_129 rfl rfl (w_129_0 (Ex.mono S (n + 4)) (f_130 h hT hC hc.1 (fun r r1 r2 _ => f_37 h.1 ho8 (fun u _ _ _ => f_124 h hT (fun m1 k1 => ?_)))))
  have at90 : ∀ (t x : Int) (m : MM), 0 ≤ t → t ≤ c + 18 → Fr1 132 mem m → Wx (Ex S (n + 4)) S M_129 (fun r m => r = none ∧ K m) 90 [some (.inr 129), some (.inr 1), some (.inr 9), some (.inl (o : Int)), some (.inl r), some (.inl t), some (.inl x)] [] m := by
    intro t x m t1 t2 kF
    refine w_129_90 (Ex.mono S (n + 4)) ⟨ho8, ho8, fun v1 e1 _ b2 e2 _ b3 e3 _ => ?_⟩
    rw [Int.toNat_natCast] at e1 ⊢
    have e1 : v1 = m 129 3 := by rw [e1, upm_ne (by omega), upm_ne (by omega)]
    generalize hM : upm (upm (upm m 130 o t) 131 o t) 129 3 b3 = M
    have q : ∀ A i, ¬ (A = 130 ∧ i = o) → ¬ (A = 131 ∧ i = o) → ¬ (A = 129 ∧ i = 3) → M A i = m A i := fun A i z1 z2 z3 => by rw [← hM, upm_ne z3, upm_ne z2, upm_ne z1]
    have q0 : M 130 o = t := by rw [← hM, upm_ne (by omega), upm_ne (by omega), upm_eq]
    have q1 : M 131 o = t := by rw [← hM, upm_ne (by omega), upm_eq]
    have q3 : M 129 3 = b3 := by rw [← hM, upm_eq]
    have hFM : FrH mem M := kF.h32.tr (fun A i z1 z2 => q A i (by omega) (by omega) (by omega))
    have hTM : HTm M := fun p hp => by
      by_cases e : p = o
      · subst e; rw [q0, q1]; omega
      · rw [q 130 p (by omega) (by omega) (by omega), q 131 p (by omega) (by omega) (by omega)]; exact kF.ht hT p hp
    have hCM : HCm M (c + 18) := fun p hp => by
      have hcp := kF.hc hC p hp
      rw [q3, q 1 0 (by omega) (by omega) (by omega)]
      by_cases e : p = o
      · subst e; rw [q0, q1]; exact ⟨fun _ => t2, fun _ => t2⟩
      · rw [q 130 p (by omega) (by omega) (by omega), q 131 p (by omega) (by omega) (by omega)]
        refine ⟨fun z => ?_, fun z => by have := hcp.2 z; omega⟩
        rw [e1] at e3
        rcases (tb_set (p := (p : Int)) e2 e3 ho8 ⟨by omega, by omega⟩).mp z with z2 | z2
        · have := hcp.1 z2; omega
        · exact absurd (by omega) e
    have hsM := hFM.hs h
    have k2 : M 129 2 = mem 129 2 := by rw [q 129 2 (by omega) (by omega) (by omega)]; exact kF _ _ (by omega)
    have k3 : M 129 1 = mem 129 1 := by rw [q 129 1 (by omega) (by omega) (by omega)]; exact kF _ _ (by omega)
    have fin : ∀ m2, FrT M m2 → HCm m2 (c + 18) → none = (none : Option Int) ∧ K m2 := fun m2 g1 g2 => ⟨rfl, H m2 (hFM.tr g1.h) (by rw [g1 129 2 (by omega) (by omega)]; exact k2) (by rw [g1 129 1 (by omega) (by omega)]; exact k3) (g1.ht hTM) g2⟩
    refine ⟨fun _ => f_134 hsM hTM hCM ho (by rw [q0]; exact t2) fin, fun _ => f_131 hsM hTM hCM ho (fun m5 g1 g2 => f_134 (g1.h.hs hsM) (g1.ht hTM) g2 ho (by rw [g1 130 o (by omega) (by omega), q0]; exact t2) (fun m6 g3 g4 => fin m6 (g1.tr g3) g4))⟩
  have at51 : ∀ (t : Int) (m : MM), r ≤ t → t ≤ r + d → Fr1 132 mem m → Wx (Ex S (n + 4)) S M_129 (fun r m => r = none ∧ K m) 51 [some (.inr 129), some (.inr 1), some (.inr 9), some (.inl (o : Int)), some (.inl r), some (.inl t), none] [] m := by
    intro t m t1 t2 kF
    have e0 : m 129 0 = d := by rw [kF 129 0 (by omega)]; exact h.2.2.2.1
    refine w_129_51 (Ex.mono S (n + 4)) (fun v1 e1 _ => ⟨by unfold InI; omega, fun _ => at90 t 0 m (by omega) (by omega) kF, fun _ => ⟨ho8, fun v2 e2 _ => ?_⟩⟩)
    rw [Int.toNat_natCast, kF 131 o (by omega)] at e2
    exact ⟨by unfold InI; omega, f_40 (fun _ => at90 _ 1 m (by omega) (by omega) kF)⟩
  have key : ∀ (N : Nat) (t : Int) (m : MM), r ≤ t → t ≤ r + d → (r + d - t).toNat < N → Fr1 132 mem m → Wx (Ex S (n + 4)) S M_129 (fun r m => r = none ∧ K m) 22 [some (.inr 129), some (.inr 1), some (.inr 9), some (.inl (o : Int)), some (.inl r), some (.inl t), none] [] m := by
    intro N
    induction N with
    | zero => intros; omega
    | succ N ih =>
      intro t m t1 t2 hN kF
      have hs := kF.h32.hs h
      have e0 := hs.2.2.2.1
      exact w_129_22 (Ex.mono S (n + 4)) (fun v1 e1 _ => ⟨by unfold InI; omega, fun _ => at51 t m t1 t2 kF, fun q => f_126 hs ho8 ⟨by omega, by omega⟩ (fun r2 m2 k2 _ => ⟨fun _ => at51 t m2 t1 t2 (kF.tr k2), fun _ => ⟨by unfold InI; omega, ih (t + 1) m2 (by omega) (by omega) (by omega) (kF.tr k2)⟩⟩)⟩)
  exact key _ r m1 (by omega) (by omega) (Nat.lt_succ_self _) k1
def FrX (m m' : MM) : Prop := ∀ A i, ¬ (129 ≤ A ∧ A ≤ 133) → m' A i = m A i
/-- Hasty between its calls -/
def HsOK (m : MM) : Prop := HTm m ∧ (0 ≤ m 129 0 ∧ m 129 0 ≤ 12) ∧ (0 ≤ m 129 1 ∧ m 129 1 ≤ 1) ∧ 0 ≤ m 129 2 ∧ m 129 2 ≤ 48
theorem tb0 (p : Int) : ¬ tb 0 p := by
  unfold tb
  rw [show Int32.ofInt 0 = 0 from rfl, Int32.zero_and]
  exact fun h => h rfl
theorem f_123 {K : MM → Prop} (hB : BodyOK mem) (hW : WbOK mem 9) (hR : 0 ≤ mem 19 0 ∧ mem 19 0 ≤ 8) (hH : HsOK mem) (hd : 1 ≤ d ∧ d ≤ 12) (H : ∀ m', FrX mem m' → HsOK m' → K m') : CWV (Ex S (n + 6)) 123 [.inr 129, .inr 1, .inr 9, .inr 19, .inl d] mem K := by
  refine CW.of (k := 1) mt_123 rfl rfl (w_123_0 (Ex.mono S (n + 5)) (fun v1 e1 _ => ⟨fun q => ?_, fun _ => ⟨rfl, H mem (fun _ _ _ => rfl) hH⟩⟩))
  generalize hM : upm (upm (upm (upm mem 129 0 d) 129 1 0) 129 2 0) 129 3 0 = M
  have qM : ∀ A i, ¬ A = 129 → M A i = mem A i := fun A i z => by rw [← hM, upm_ne (by omega), upm_ne (by omega), upm_ne (by omega), upm_ne (by omega)]
  have m0 : M 129 0 = d := by rw [← hM, upm_ne (by omega), upm_ne (by omega), upm_ne (by omega), upm_eq]
  have m1 : M 129 1 = 0 := by rw [← hM, upm_ne (by omega), upm_ne (by omega), upm_eq]
  have m2 : M 129 2 = 0 := by rw [← hM, upm_ne (by omega), upm_eq]
  have m3 : M 129 3 = 0 := by rw [← hM, upm_eq]
  have hA : HsA M d := ⟨hB.fr (fun A i a b => qM A i (by omega)), ⟨fun j hj => by rw [qM _ _ (by omega), qM _ _ (by omega), qM _ _ (by omega), qM _ _ (by omega)]; exact hW.1 j hj, by rw [qM _ _ (by omega)]; exact hW.2⟩, by rw [qM _ _ (by omega)]; exact hR, m0, hd⟩
  have hT : HTm M := fun o ho => by rw [qM _ _ (by omega), qM _ _ (by omega)]; exact hH.1 o ho
  have hX : FrX mem M := fun A i z => qM A i (by omega)
  have h8 := hA.1.1
  have fin : ∀ m, FrH M m → HTm m → (0 ≤ m 129 1 ∧ m 129 1 ≤ 1) → (0 ≤ m 129 2 ∧ m 129 2 ≤ 48) → K m := fun m g1 g2 g3 g4 => H m (fun A i z => by rw [g1 A i (by omega) (by omega)]; exact hX A i z) ⟨g2, by rw [g1 129 0 (by omega) (by omega), m0]; omega, g3, g4⟩
  have l103 : ∀ (N : Nat) (x : Int) (m : MM), (48 - m 129 2).toNat < N → 0 ≤ m 129 2 → m 129 2 ≤ 48 → m 129 1 = 0 → FrH M m → HTm m → HCm m (18 * m 129 2) → Wx (Ex S (n + 5)) S M_123 (fun r m => r = none ∧ K m) 103 [some (.inr 129), some (.inr 1), some (.inr 9), some (.inr 19), some (.inl d), some (.inl x)] [] m := by
    intro N
    induction N with
    | zero => intros; omega
    | succ N ih =>
      intro x m hN c0 c1 f0 hF hT' hC
      have hs := hF.hs hA
      have e10 : m 1 0 = M 1 0 := hF _ _ (by omega) (by omega)
      have done : ∀ z : Int, z = 0 ∨ z = 1 → none = (none : Option Int) ∧ K (upm m 129 1 z) := fun z hz => by
        refine ⟨rfl, fin _ (hF.tr (fun A i z1 z2 => upm_ne (by omega))) (fun o ho => ?_) (by rw [upm_eq]; omega) (by rw [upm_ne (by omega)]; omega)⟩
        rw [upm_ne (by omega), upm_ne (by omega)]; exact hT' o ho
      refine w_123_103 (Ex.mono S (n + 5)) (fun v1 e1 _ v2 e2 _ => ⟨by unfold InI; omega, fun _ v3 _ _ => ⟨fun _ => done 0 (Or.inl rfl), fun _ => done 1 (Or.inr rfl)⟩, fun q2 v4 _ _ => ⟨fun _ v5 _ _ => ⟨fun _ => done 0 (Or.inl rfl), fun _ => done 1 (Or.inr rfl)⟩, fun _ v6 e6 _ => f_128 ⟨by omega, by omega⟩ (fun r r1 r2 r3 _ => ?_)⟩⟩)
      obtain ⟨o, rfl⟩ : ∃ o : Nat, r = (o : Int) := ⟨r.toNat, by omega⟩
      refine f_129 hs hT' hC ⟨by omega, by omega⟩ (by omega) (by omega) (fun m9 g1 g2 g3 g4 g5 v10 e10' _ => ⟨by unfold InI; omega, ?_⟩)
      have e25 : upm m9 129 2 (v10 + 1) 129 2 = v10 + 1 := upm_eq
      refine ih x _ (by rw [e25]; omega) (by rw [e25]; omega) (by rw [e25]; omega) (by rw [upm_ne (by omega)]; omega) ((hF.tr g1).tr (fun A i z1 z2 => upm_ne (by omega))) (fun p hp => by rw [upm_ne (by omega), upm_ne (by omega)]; exact g4 p hp) (fun p hp => ?_)
      rw [e25, upm_ne (A := 129) (B := 129) (by omega), upm_ne (A := 129) (B := 130) (by omega), upm_ne (A := 129) (B := 131) (by omega), upm_ne (A := 129) (B := 1) (by omega), show 18 * (v10 + 1) = 18 * m 129 2 + 18 by omega]
      exact g5 p hp
  have l34 : ∀ (N : Nat) (o : Nat) (m : MM), 8 - o < N → FrH M m → HTm m → m 129 1 = 0 → m 129 2 = 0 → m 129 3 = 0 → (∀ p : Nat, p < o → p < 8 → m 131 p = -1) → Wx (Ex S (n + 5)) S M_123 (fun r m => r = none ∧ K m) 34 [some (.inr 129), some (.inr 1), some (.inr 9), some (.inr 19), some (.inl d), some (.inl (o : Int))] [] m := by
    intro N
    induction N with
    | zero => intros; omega
    | succ N ih =>
      intro o m hN hF hT' f1 f2 f3 hL
      have hs := hF.hs hA
      have e10 : m 1 0 = M 1 0 := hF _ _ (by omega) (by omega)
      refine w_123_34 (Ex.mono S (n + 5)) (fun v1 e1 _ => ⟨fun z v2 e2 _ b3 e3 _ => ⟨?_, ?_⟩, fun z => ⟨by omega, ?_⟩⟩)
      · have a : v2 = 0 ∨ v2 = 1 ∨ v2 = 2 ∨ v2 = 3 ∨ v2 = 4 ∨ v2 = 5 ∨ v2 = 6 ∨ v2 = 7 ∨ v2 = 8 := by omega
        have : 1 ≤ b3 ∧ b3 ≤ 256 := by
          rw [e3]
          rcases a with a | a | a | a | a | a | a | a | a <;> rw [a] <;> decide
        unfold InI; omega
      · refine l103 49 _ m (by omega) (by omega) (by omega) f1 hF hT' (fun p hp => ⟨fun w => absurd w (by rw [f3]; exact tb0 _), fun w => ?_⟩)
        have := hL p (by omega) hp
        omega
      · rw [Int.toNat_natCast]
        have hF1 : FrH m (upm m 131 o (-1)) := fun A i z1 z2 => upm_ne (by omega)
        have hs1 := hF1.hs hs
        refine f_80 hs1.2.2.1 ⟨by omega, by omega⟩ (fun r _ => ⟨by omega, ?_⟩)
        generalize hM2 : upm (upm m 131 o (-1)) 133 o r = m4
        have q4 : ∀ A i, ¬ (A = 131 ∧ i = o) → ¬ A = 133 → m4 A i = m A i := fun A i z1 z2 => by rw [← hM2, upm_ne (by omega), upm_ne z1]
        have q41 : m4 131 o = -1 := by rw [← hM2, upm_ne (by omega), upm_eq]
        have hF4 : FrH M m4 := hF.tr (fun A i z1 z2 => q4 A i (by omega) (by omega))
        have hs4 := hF4.hs hA
        have hT4 : HTm m4 := fun p hp => by
          rw [q4 130 p (by omega) (by omega)]
          refine ⟨(hT' p hp).1, ?_⟩
          by_cases e : p = o
          · subst e; rw [q41]; omega
          · rw [q4 131 p (by omega) (by omega)]; exact (hT' p hp).2
        refine f_37 hs4.1 ⟨by omega, by omega⟩ (fun u _ _ _ => f_124 hs4 hT4 (fun m6 k6 => f_126 (k6.h32.hs hs4) ⟨by omega, by omega⟩ ⟨by omega, by omega⟩ (fun y m9 k9 _ => ?_)))
        have k := k6.tr k9
        have hF9 := hF4.tr k.h32
        have w1 : m9 129 1 = 0 := by rw [k 129 1 (by omega), q4 129 1 (by omega) (by omega)]; exact f1
        have w2 : m9 129 2 = 0 := by rw [k 129 2 (by omega), q4 129 2 (by omega) (by omega)]; exact f2
        have w3 : m9 129 3 = 0 := by rw [k 129 3 (by omega), q4 129 3 (by omega) (by omega)]; exact f3
        refine ⟨fun _ => ⟨by unfold InI; omega, ih (o + 1) m9 (by omega) hF9 (k.ht hT4) w1 w2 w3 (fun p hp hp8 => ?_)⟩, fun _ => ⟨rfl, fin m9 hF9 (k.ht hT4) (by omega) (by omega)⟩⟩
        rw [k 131 p (by omega)]
        by_cases e : p = o
        · subst e; exact q41
        · rw [q4 131 p (by omega) (by omega)]; exact hL p (by omega) hp8
  exact l34 9 0 M (by omega) FrH.rf hT m1 m2 m3 (fun p hp => by omega)
end SEEK
