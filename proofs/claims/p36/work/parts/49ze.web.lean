/-! the class: its ops, and the web of needs -/
def BOp (m : MM) (o : Nat) : Prop := (0 ≤ m 2 o ∧ m 2 o ≤ 5) ∧ (m 2 o ≤ 3 → srcOK (m 3 (4 * o)) (m 3 (4 * o + 1)) ∧ srcOK (m 3 (4 * o + 2)) (m 3 (4 * o + 3))) ∧ (m 2 o = 4 → 0 ≤ m 3 (4 * o) ∧ m 3 (4 * o) ≤ 1 ∧ 0 ≤ m 3 (4 * o + 1) ∧ m 3 (4 * o + 1) ≤ 7) ∧ (m 2 o = 5 → srcOK (m 3 (4 * o)) (m 3 (4 * o + 1)) ∧ 0 ≤ m 3 (4 * o + 2) ∧ m 3 (4 * o + 2) ≤ 1 ∧ 0 ≤ m 3 (4 * o + 3) ∧ m 3 (4 * o + 3) ≤ 7)
def BodyOK (m : MM) : Prop := (0 ≤ m 1 0 ∧ m 1 0 ≤ 8) ∧ (∀ o, o < 8 → BOp m o) ∧ (∀ k, k < 6 → 0 ≤ m 5 k ∧ m 5 k ≤ 2) ∧ (∀ k, k < 6 → 1 ≤ m 6 k ∧ m 6 k ≤ 6) ∧ (∀ k, k < 6 → 1 ≤ m 7 k ∧ m 7 k ≤ 15) ∧ (∀ k, k < 3 → 1 ≤ m 8 k ∧ m 8 k ≤ 3)
def csN (m : MM) (o : Nat) : Int := if m 2 o = 4 then 0 else if m 2 o = 5 then 1 else 2
def rowB (m : MM) (o : Nat) : Int := if m 2 o = 5 then m 3 (4 * o + 2) else m 3 (4 * o)
def plcB (m : MM) (o : Nat) : Int := if m 2 o = 5 then m 3 (4 * o + 3) else m 3 (4 * o + 1)
theorem csN_le (m : MM) (o : Nat) : 0 ≤ csN m o ∧ csN m o ≤ 2 := by unfold csN; split <;> (try split) <;> omega
theorem BodyOK.src {m : MM} (h : BodyOK m) {o k : Nat} (ho : o < 8) (hk : (k : Int) < csN m o) : srcOK (m 3 (4 * o + 2 * k)) (m 3 (4 * o + 2 * k + 1)) := by
  obtain ⟨h1, h3, h4, h5⟩ := h.2.1 o ho
  unfold csN at hk
  split at hk
  · omega
  · split at hk
    · have e : k = 0 := by omega
      subst e
      exact (h5 (by assumption)).1
    · have : k = 0 ∨ k = 1 := by omega
      rcases this with e | e <;> subst e
      · exact (h3 (by omega)).1
      · exact (h3 (by omega)).2
theorem BodyOK.row {m : MM} (h : BodyOK m) {o : Nat} (ho : o < 8) (q : 4 ≤ m 2 o) : (0 ≤ rowB m o ∧ rowB m o ≤ 1) ∧ 0 ≤ plcB m o ∧ plcB m o ≤ 7 := by
  obtain ⟨h1, h3, h4, h5⟩ := h.2.1 o ho
  unfold rowB plcB
  by_cases e : m 2 o = 5
  · rw [if_pos e, if_pos e]; have := h5 e; omega
  · rw [if_neg e, if_neg e]; have := h4 (by omega); omega
def R64 (m : MM) (W : Nat) : Prop := ∀ j, j < 64 → Rg (m (W + 1) j) (m (W + 2) j) (m (W + 3) j) (m (W + 4) j)
def FrWb (W : Nat) (m m' : MM) : Prop := ∀ A i, ¬ (W < A ∧ A ≤ W + 4) → ¬ (A = W ∧ i = 0) → m' A i = m A i
theorem FrWb.rf {W : Nat} {m : MM} : FrWb W m m := fun _ _ _ _ => rfl
theorem FrWb.tr {W : Nat} {a b c : MM} (h1 : FrWb W a b) (h2 : FrWb W b c) : FrWb W a c := fun A i e1 e2 => (h2 A i e1 e2).trans (h1 A i e1 e2)
theorem BodyOK.fr {m m' : MM} (h : BodyOK m) (e : ∀ A i, 0 < A → A < 9 → m' A i = m A i) : BodyOK m' := by
  refine ⟨by rw [e _ _ (by omega) (by omega)]; exact h.1, fun o ho => ?_, fun k hk => ?_, fun k hk => ?_, fun k hk => ?_, fun k hk => ?_⟩
  · unfold BOp
    rw [e 2 o (by omega) (by omega), e 3 (4 * o) (by omega) (by omega), e 3 (4 * o + 1) (by omega) (by omega), e 3 (4 * o + 2) (by omega) (by omega), e 3 (4 * o + 3) (by omega) (by omega)]
    exact h.2.1 o ho
  · rw [e _ _ (by omega) (by omega)]; exact h.2.2.1 k hk
  · rw [e _ _ (by omega) (by omega)]; exact h.2.2.2.1 k hk
  · rw [e _ _ (by omega) (by omega)]; exact h.2.2.2.2.1 k hk
  · rw [e _ _ (by omega) (by omega)]; exact h.2.2.2.2.2 k hk
/-- a web between its calls -/
def WbOK (m : MM) (W : Nat) : Prop := R64 m W ∧ 0 ≤ m W 0 ∧ m W 0 ≤ 64
section WEB
variable {S : Nat × (Nat → Int32)} {n : Nat} {mem : MM} {K : Int → MM → Prop}
theorem f_13 {o : Int} (h : 0 ≤ o ∧ o < 8) (H : K (csN mem o.toNat) mem) : CWI (Ex S (n + 1)) 13 [.inr 1, .inl o] mem K := by
  refine CW.of (k := 0) mt_13 rfl rfl (w_13_0 (Ex.mono S n) ⟨h, fun v e _ => ⟨fun q => ⟨h, fun v2 e2 _ => ⟨fun q2 _ => ⟨_, rfl, ?_⟩, fun q2 _ => ⟨_, rfl, ?_⟩⟩⟩, fun q _ => ⟨_, rfl, ?_⟩⟩⟩)
  · unfold csN at H; rw [if_neg (by omega), if_neg (by omega)] at H; exact H
  · unfold csN at H; rw [if_neg (by omega), if_pos (by omega)] at H; exact H
  · unfold csN at H; rw [if_pos (by omega)] at H; exact H
theorem f_14 {o k : Nat} (ho : o < 8) (hk : k < 2) (H : K (mem 3 (4 * o + 2 * k)) mem) : CWI (Ex S (n + 1)) 14 [.inr 1, .inl (o : Int), .inl (k : Int)] mem K := by
  refine CW.of (k := 0) mt_14 rfl rfl (w_14_0 (Ex.mono S n) ⟨by unfold InI; omega, by unfold InI; omega, by unfold InI; omega, by omega, fun v e _ _ => ⟨_, rfl, ?_⟩⟩)
  rw [show ((o : Int) * 4 + (k : Int) * 2).toNat = 4 * o + 2 * k by omega] at e
  rw [e]; exact H
theorem f_15 {o k : Nat} (ho : o < 8) (hk : k < 2) (H : K (mem 3 (4 * o + 2 * k + 1)) mem) : CWI (Ex S (n + 1)) 15 [.inr 1, .inl (o : Int), .inl (k : Int)] mem K := by
  refine CW.of (k := 0) mt_15 rfl rfl (w_15_0 (Ex.mono S n) ⟨by unfold InI; omega, by unfold InI; omega, by unfold InI; omega, by unfold InI; omega, by omega, fun v e _ _ => ⟨_, rfl, ?_⟩⟩)
  rw [show ((o : Int) * 4 + (k : Int) * 2 + 1).toNat = 4 * o + 2 * k + 1 by omega] at e
  rw [e]; exact H
theorem f_24 {o : Nat} (ho : o < 8) (H : K (rowB mem o) mem) : CWI (Ex S (n + 1)) 24 [.inr 1, .inl (o : Int)] mem K := by
  refine CW.of (k := 0) mt_24 rfl rfl (w_24_0 (Ex.mono S n) ⟨by omega, fun v e _ => ⟨fun q => ⟨by unfold InI; omega, by omega, fun v2 e2 _ _ => ⟨_, rfl, ?_⟩⟩, fun q => ⟨by unfold InI; omega, by unfold InI; omega, by omega, fun v2 e2 _ _ => ⟨_, rfl, ?_⟩⟩⟩⟩) <;> rw [Int.toNat_natCast] at e
  · rw [show ((o : Int) * 4).toNat = 4 * o by omega] at e2
    unfold rowB at H; rw [if_neg (by omega)] at H; rw [e2]; exact H
  · rw [show ((o : Int) * 4 + 2).toNat = 4 * o + 2 by omega] at e2
    unfold rowB at H; rw [if_pos (by omega)] at H; rw [e2]; exact H
theorem f_25 {o : Nat} (ho : o < 8) (H : K (plcB mem o) mem) : CWI (Ex S (n + 1)) 25 [.inr 1, .inl (o : Int)] mem K := by
  refine CW.of (k := 0) mt_25 rfl rfl (w_25_0 (Ex.mono S n) ⟨by omega, fun v e _ => ⟨fun q => ⟨by unfold InI; omega, by unfold InI; omega, by omega, fun v2 e2 _ _ => ⟨_, rfl, ?_⟩⟩, fun q => ⟨by unfold InI; omega, by unfold InI; omega, by omega, fun v2 e2 _ _ => ⟨_, rfl, ?_⟩⟩⟩⟩) <;> rw [Int.toNat_natCast] at e
  · rw [show ((o : Int) * 4 + 1).toNat = 4 * o + 1 by omega] at e2
    unfold plcB at H; rw [if_neg (by omega)] at H; rw [e2]; exact H
  · rw [show ((o : Int) * 4 + 3).toNat = 4 * o + 3 by omega] at e2
    unfold plcB at H; rw [if_pos (by omega)] at H; rw [e2]; exact H
theorem f_19 (hB : BodyOK mem) {o : Int} (h : 0 ≤ o ∧ o < 8) (H : ∀ u, 1 ≤ u → u ≤ 6 → K u mem) : CWI (Ex S (n + 1)) 19 [.inr 1, .inl o] mem K := by
  obtain ⟨h1, -⟩ := hB.2.1 o.toNat (by omega)
  refine CW.of (k := 0) mt_19 rfl rfl (w_19_0 (Ex.mono S n) ⟨h, fun v e _ => ⟨by omega, fun v2 e2 _ _ => ⟨_, rfl, ?_⟩⟩⟩)
  have := hB.2.2.2.1 v.toNat (by omega)
  exact H v2 (by omega) (by omega)
theorem f_37 (hB : BodyOK mem) {o : Int} (h : 0 ≤ o ∧ o < 8) (H : ∀ u, 0 ≤ u → u ≤ 2 → K u mem) : CWI (Ex S (n + 1)) 37 [.inr 1, .inl o] mem K := by
  obtain ⟨h1, -⟩ := hB.2.1 o.toNat (by omega)
  refine CW.of (k := 0) mt_37 rfl rfl (w_37_0 (Ex.mono S n) ⟨h, fun v e _ => ⟨by omega, fun v2 e2 _ _ => ⟨_, rfl, ?_⟩⟩⟩)
  have := hB.2.2.1 v.toNat (by omega)
  exact H v2 (by omega) (by omega)
theorem f_38 (hB : BodyOK mem) {o : Int} (h : 0 ≤ o ∧ o < 8) (H : ∀ u, 1 ≤ u → u ≤ 15 → K u mem) : CWI (Ex S (n + 1)) 38 [.inr 1, .inl o] mem K := by
  obtain ⟨h1, -⟩ := hB.2.1 o.toNat (by omega)
  refine CW.of (k := 0) mt_38 rfl rfl (w_38_0 (Ex.mono S n) ⟨h, fun v e _ => ⟨by omega, fun v2 e2 _ _ => ⟨_, rfl, ?_⟩⟩⟩)
  have := hB.2.2.2.2.1 v.toNat (by omega)
  exact H v2 (by omega) (by omega)
theorem f_18 (hB : BodyOK mem) {o q : Int} (h : 0 ≤ o ∧ o < 8) (H : ∀ u, 0 ≤ u → u ≤ 6 → K u mem) : CWI (Ex S (n + 2)) 18 [.inr 1, .inl o, .inl q] mem K :=
  CW.of (k := 1) mt_18 rfl rfl (w_18_0 (Ex.mono S (n + 1)) (f_19 hB h (fun u u1 u2 _ => ⟨h, fun v _ _ => ⟨fun _ _ => ⟨_, rfl, H u (by omega) u2⟩, fun _ => ⟨by unfold InI; omega, fun _ => ⟨_, rfl, H _ (by omega) (by omega)⟩⟩⟩⟩)))
theorem f_21 {W : Nat} (hW : WebSh W) (hR : R64 mem W) {j a b d l : Int} (hj : 0 ≤ j ∧ j < 64) (hr : Rg a b d l) (H : ∀ r, K r mem) : CWI (Ex S (n + 1)) 21 [.inr W, .inl j, .inl a, .inl b, .inl d, .inl l] mem K := by
  obtain ⟨r1, r2, r3, r4⟩ := hR j.toNat (by omega)
  obtain ⟨s1, s2, s3, s4⟩ := hr
  refine CW.of (k := 0) mt_21 rfl rfl (w_21_0 (Ex.mono S n) hW ⟨hj, fun v1 e1 _ => ⟨fun _ => ⟨hj, fun v2 e2 _ => ⟨fun _ => ⟨hj, fun v3 e3 _ => ⟨fun _ => ⟨hj, fun v4 e4 _ => ⟨by unfold InI; omega, fun _ => ⟨_, rfl, H _⟩⟩⟩, fun _ => ⟨hj, fun v5 e5 _ => ⟨by unfold InI; omega, fun _ => ⟨_, rfl, H _⟩⟩⟩⟩⟩, fun _ => ⟨hj, fun v5 e5 _ => ⟨by unfold InI; omega, fun _ => ⟨_, rfl, H _⟩⟩⟩⟩⟩, fun _ => ⟨hj, fun v5 e5 _ => ⟨by unfold InI; omega, fun _ => ⟨_, rfl, H _⟩⟩⟩⟩⟩)
theorem f_22 {K : MM → Prop} {W : Nat} (hW : WebSh W) (hR : R64 mem W) {j a b d l : Int} (hj : 0 ≤ j ∧ j < 64) (hr : Rg a b d l) (H : ∀ m', FrWb W mem m' → m' W 0 = mem W 0 → R64 m' W → K m') : CWV (Ex S (n + 1)) 22 [.inr W, .inl j, .inl a, .inl b, .inl d, .inl l] mem K := by
  refine CW.of (k := 0) mt_22 rfl rfl (w_22_0 (Ex.mono S n) hW ⟨hj, hj, hj, hj, rfl, H _ (fun A i e1 e2 => ?_) ?_ (fun i hi => ?_)⟩)
  · rw [upm_ne (by omega), upm_ne (by omega), upm_ne (by omega), upm_ne (by omega)]
  · rw [upm_ne (by omega), upm_ne (by omega), upm_ne (by omega), upm_ne (by omega)]
  · by_cases e : i = j.toNat
    · subst e
      rw [upm_ne (A := W + 4) (B := W + 1) (by omega), upm_ne (A := W + 3) (B := W + 1) (by omega), upm_ne (A := W + 2) (B := W + 1) (by omega), upm_eq, upm_ne (A := W + 4) (B := W + 2) (by omega), upm_ne (A := W + 3) (B := W + 2) (by omega), upm_eq, upm_ne (A := W + 4) (B := W + 3) (by omega), upm_eq, upm_eq]
      exact hr
    · rw [upm_ne (A := W + 4) (B := W + 1) (by omega), upm_ne (A := W + 3) (B := W + 1) (by omega), upm_ne (A := W + 2) (B := W + 1) (by omega), upm_ne (A := W + 1) (B := W + 1) (by omega), upm_ne (A := W + 4) (B := W + 2) (by omega), upm_ne (A := W + 3) (B := W + 2) (by omega), upm_ne (A := W + 2) (B := W + 2) (by omega), upm_ne (A := W + 1) (B := W + 2) (by omega), upm_ne (A := W + 4) (B := W + 3) (by omega), upm_ne (A := W + 3) (B := W + 3) (by omega), upm_ne (A := W + 2) (B := W + 3) (by omega), upm_ne (A := W + 1) (B := W + 3) (by omega), upm_ne (A := W + 4) (B := W + 4) (by omega), upm_ne (A := W + 3) (B := W + 4) (by omega), upm_ne (A := W + 2) (B := W + 4) (by omega), upm_ne (A := W + 1) (B := W + 4) (by omega)]
      exact hR i hi
theorem f_20 {K : MM → Prop} {W : Nat} (hW : WebSh W) (hO : WbOK mem W) {a b d l : Int} (hr : Rg a b d l) (H : ∀ m', FrWb W mem m' → WbOK m' W → K m') : CWV (Ex S (n + 2)) 20 [.inr W, .inl a, .inl b, .inl d, .inl l] mem K := by
  obtain ⟨hR, h0, h64⟩ := hO
  have at72 : ∀ (N : Nat) (p x i : Int) (m : MM), 0 ≤ p → p ≤ i → i < 64 → (i - p).toNat < N → FrWb W mem m → m W 0 = mem W 0 → R64 m W → mem W 0 < 64 → Wx (Ex S (n + 1)) S M_20 (fun r m => r = none ∧ K m) 72 [some (.inr W), some (.inl a), some (.inl b), some (.inl d), some (.inl l), some (.inl p), some (.inl x), some (.inl i)] [] m := by
    intro N
    induction N with
    | zero => intros; omega
    | succ N ih =>
      intro p x i m hp hpi hi hN hF e0 hRm h63
      refine w_20_72 (Ex.mono S (n + 1)) hW ⟨fun q => f_22 hW hRm ⟨hp, by omega⟩ hr (fun m1 k1 k2 k3 v2 e2 _ => ⟨by unfold InI; omega, rfl, H _ (fun A i e1 e2 => ?_) ⟨fun j hj => ?_, ?_⟩⟩), fun q => ?_⟩
      · rw [upm_ne e2]; exact (hF.tr k1) A i e1 e2
      · rw [upm_ne (by omega), upm_ne (by omega), upm_ne (by omega), upm_ne (by omega)]; exact k3 j hj
      · rw [upm_eq]; omega
      · have hi1 : 0 ≤ i - 1 ∧ i - 1 < 64 := by omega
        have hI : InI (i - 1) := by unfold InI; omega
        refine ⟨hI, hi1, fun v3 e3 _ => ⟨hI, hi1, fun v4 e4 _ => ⟨hI, hi1, fun v5 e5 _ => ⟨hI, hi1, fun v6 e6 _ => ?_⟩⟩⟩⟩
        have hg := hRm (i - 1).toNat (by omega)
        rw [← e3, ← e4, ← e5, ← e6] at hg
        refine f_22 hW hRm ⟨by omega, hi⟩ hg (fun m7 k1 k2 k3 => ⟨by unfold InI; omega, ?_⟩)
        rw [show i + -1 = i - 1 by omega]
        exact ih p x (i - 1) m7 hp (by omega) (by omega) (by omega) (hF.tr k1) (k2.trans e0) k3 h63
  have key : ∀ (N : Nat) (p x : Int), 0 ≤ p → p ≤ mem W 0 → (mem W 0 - p).toNat < N → Wx (Ex S (n + 1)) S M_20 (fun r m => r = none ∧ K m) 6 [some (.inr W), some (.inl a), some (.inl b), some (.inl d), some (.inl l), some (.inl p), some (.inl x), none] [] mem := by
    intro N
    induction N with
    | zero => intros; omega
    | succ N ih =>
      intro p x hp hp2 hN
      have fin : ∃ z : Option Int, z = none ∧ K mem := ⟨none, rfl, H mem FrWb.rf ⟨hR, h0, h64⟩⟩
      have fk : K mem := H mem FrWb.rf ⟨hR, h0, h64⟩
      have go : ∀ x v : Int, v = mem W 0 → v < 64 → Wx (Ex S (n + 1)) S M_20 (fun r m => r = none ∧ K m) 72 [some (.inr W), some (.inl a), some (.inl b), some (.inl d), some (.inl l), some (.inl p), some (.inl x), some (.inl v)] [] mem := fun x v e z => at72 _ p x v mem hp (by omega) (by omega) (Nat.lt_succ_self _) FrWb.rf rfl hR (by omega)
      refine w_20_6 (Ex.mono S (n + 1)) hW (fun v1 e1 _ => ⟨fun q v2 e2 _ => ⟨fun _ v3 e3 _ => ⟨fun z v4 e4 _ => go _ _ e4 (by omega), fun _ => ⟨rfl, fk⟩⟩, fun z => ⟨fun _ => ⟨rfl, fk⟩, fun _ v5 e5 _ => ⟨fun z v6 e6 _ => go _ _ e6 (by omega), fun _ => ⟨rfl, fk⟩⟩⟩⟩, fun q => ?_⟩)
      exact f_21 hW hR ⟨hp, by omega⟩ hr (fun r _ => ⟨fun _ => ⟨by unfold InI; omega, ih (p + 1) r (by omega) (by omega) (by omega)⟩, fun _ v9 e9 _ => ⟨fun _ v10 e10 _ => ⟨fun z v11 e11 _ => go _ _ e11 (by omega), fun _ => ⟨rfl, fk⟩⟩, fun _ => ⟨fun _ => ⟨rfl, fk⟩, fun _ v12 e12 _ => ⟨fun z v13 e13 _ => go _ _ e13 (by omega), fun _ => ⟨rfl, fk⟩⟩⟩⟩⟩)
  exact CW.of (k := 3) mt_20 rfl rfl (w_20_0 (Ex.mono S (n + 1)) hW (key _ 0 (-1) (by omega) h0 (Nat.lt_succ_self _)))
theorem f_23 {K : MM → Prop} {W : Nat} (hW : WebSh W) (hB : BodyOK mem) (hO : WbOK mem W) {o p : Nat} {q : Int} (ho : o < 8) (hp : p < 8) (H : ∀ m', FrWb W mem m' → WbOK m' W → K m') : CWV (Ex S (n + 3)) 23 [.inr W, .inr 1, .inl (o : Int), .inl (p : Int), .inl q] mem K := by
  have same : none = (none : Option Int) ∧ K mem := ⟨rfl, H mem FrWb.rf hO⟩
  have ko : 0 ≤ (o : Int) ∧ (o : Int) < 8 := by omega
  have kp : 0 ≤ (p : Int) ∧ (p : Int) < 8 := by omega
  refine CW.of (k := 6) mt_23 rfl rfl (w_23_0 (Ex.mono S (n + 2)) hW ⟨ko, fun v1 e1 _ => ⟨fun _ => same, fun q1 => ⟨kp, fun v2 e2 _ => ⟨fun q2 => f_24 ho (fun _ => f_24 hp (fun _ => ⟨fun _ => f_25 ho (fun _ => f_25 hp (fun _ => ?_)), fun _ => same⟩)), fun _ => same⟩⟩⟩⟩)
  rw [Int.toNat_natCast] at e1 e2
  have ro := hB.row ho (by omega)
  have rp := hB.row hp (by omega)
  have put : ∀ a b d l : Int, Rg a b d l → CWV (Ex S (n + 2)) 20 [.inr W, .inl a, .inl b, .inl d, .inl l] mem fun m' => none = (none : Option Int) ∧ K m' := fun a b d l hg => f_20 hW hO hg (fun m' k1 k2 => ⟨rfl, H m' k1 k2⟩)
  refine ⟨fun z => f_25 hp (fun _ => f_25 ho (fun _ => ⟨by unfold InI; omega, kp, fun v15 _ _ => ⟨fun _ => ⟨ko, fun v16 _ _ => ⟨fun _ => same, fun _ => f_18 hB ko (fun u u1 u2 _ => ⟨by unfold InI; omega, put p o (plcB mem p - plcB mem o) (1 - u) (by unfold Rg; omega)⟩)⟩⟩, fun _ => ⟨ko, fun v20 _ _ => ⟨fun _ => f_18 hB kp (fun u u1 u2 _ => put p o (plcB mem p - plcB mem o) u (by unfold Rg; omega)), fun _ => put p o (plcB mem p - plcB mem o) 1 (by unfold Rg; omega)⟩⟩⟩⟩)), fun z => f_25 ho (fun _ => f_25 hp (fun _ => ⟨by unfold InI; omega, ko, fun v15 _ _ => ⟨fun _ => ⟨kp, fun v16 _ _ => ⟨fun _ => same, fun _ => f_18 hB kp (fun u u1 u2 _ => ⟨by unfold InI; omega, put o p (plcB mem o - plcB mem p) (1 - u) (by unfold Rg; omega)⟩)⟩⟩, fun _ => ⟨kp, fun v20 _ _ => ⟨fun _ => f_18 hB ko (fun u u1 u2 _ => put o p (plcB mem o - plcB mem p) u (by unfold Rg; omega)), fun _ => put o p (plcB mem o - plcB mem p) 1 (by unfold Rg; omega)⟩⟩⟩⟩))⟩
theorem f_17 {K : MM → Prop} {W : Nat} (hW : WebSh W) (hWv : W = 9 ∨ W = 14) (hB : BodyOK mem) (hO : R64 mem W) {q : Int} (H : ∀ m', FrWb W mem m' → WbOK m' W → K m') : CWV (Ex S (n + 4)) 17 [.inr W, .inr 1, .inl q] mem K := by
  have h8 := hB.1
  have bF : ∀ m, FrWb W mem m → BodyOK m := fun m hF => hB.fr (fun A i e1 e2 => hF A i (by omega) (by omega))
  have sz : ∀ m, FrWb W mem m → m 1 0 = mem 1 0 := fun m hF => hF _ _ (by omega) (by omega)
  have l77 : ∀ (N : Nat) (o : Nat) (m : MM), (mem 1 0 - o).toNat < N → FrWb W mem m → WbOK m W → Wx (Ex S (n + 3)) S M_17 (fun r m => r = none ∧ K m) 77 [some (.inr W), some (.inr 1), some (.inl q), some (.inl (o : Int)), none, none] [] m := by
    intro N
    induction N with
    | zero => intros; omega
    | succ N ih =>
      intro o m hN hF hO'
      have es := sz m hF
      refine w_17_77 (Ex.mono S (n + 3)) hW (fun v1 e1 _ => ⟨fun _ => ⟨rfl, H m hF hO'⟩, fun z => ⟨by unfold InI; omega, ?_⟩⟩)
      have inner : ∀ (N' : Nat) (p : Nat) (m : MM), (mem 1 0 - p).toNat < N' → FrWb W mem m → WbOK m W → Wx (Ex S (n + 3)) S M_17 (fun r m => r = none ∧ K m) 90 [some (.inr W), some (.inr 1), some (.inl q), some (.inl (o : Int)), some (.inl (p : Int)), none] [] m := by
        intro N'
        induction N' with
        | zero => intros; omega
        | succ N' ih2 =>
          intro p m hN' hF hO'
          have es := sz m hF
          exact w_17_90 (Ex.mono S (n + 3)) hW (fun v1 e1 _ => ⟨fun _ => ⟨by unfold InI; omega, ih (o + 1) m (by omega) hF hO'⟩, fun z2 => f_23 hW (bF m hF) hO' (by omega) (by omega) (fun m' k1 k2 => ⟨by unfold InI; omega, ih2 (p + 1) m' (by omega) (hF.tr k1) k2⟩)⟩)
      exact inner _ (o + 1) m (Nat.lt_succ_self _) hF hO'
  have l7 : ∀ (N : Nat) (o : Nat) (m : MM), (mem 1 0 - o).toNat < N → FrWb W mem m → WbOK m W → Wx (Ex S (n + 3)) S M_17 (fun r m => r = none ∧ K m) 7 [some (.inr W), some (.inr 1), some (.inl q), some (.inl (o : Int)), none, none] [] m := by
    intro N
    induction N with
    | zero => intros; omega
    | succ N ih =>
      intro o m hN hF hO'
      have es := sz m hF
      refine w_17_7 (Ex.mono S (n + 3)) hW (fun v1 e1 _ => ⟨fun _ => l77 _ 0 m (Nat.lt_succ_self _) hF hO', fun z => ?_⟩)
      have inner : ∀ (N' : Nat) (k : Nat) (m : MM), k ≤ 2 → 3 - k < N' → FrWb W mem m → WbOK m W → Wx (Ex S (n + 3)) S M_17 (fun r m => r = none ∧ K m) 18 [some (.inr W), some (.inr 1), some (.inl q), some (.inl (o : Int)), some (.inl (k : Int)), none] [] m := by
        intro N'
        induction N' with
        | zero => intros; omega
        | succ N' ih2 =>
          intro k m hk hN' hF hO'
          have es := sz m hF
          have hcs := csN_le m o
          refine w_17_18 (Ex.mono S (n + 3)) hW (f_13 ⟨by omega, by omega⟩ (fun _ => ⟨fun _ => ⟨by unfold InI; omega, ih (o + 1) m (by omega) hF hO'⟩, fun z2 => ?_⟩))
          rw [Int.toNat_natCast] at z2
          have hs := (bF m hF).src (o := o) (k := k) (by omega) (by omega)
          refine f_14 (by omega) (by omega) (fun _ => ⟨fun _ => ⟨by unfold InI; omega, ih2 (k + 1) m (by omega) (by omega) hF hO'⟩, fun z3 => f_15 (by omega) (by omega) (fun _ => ?_)⟩)
          unfold srcOK at hs
          exact f_18 (bF m hF) ⟨by omega, by omega⟩ (fun u u1 u2 _ => f_20 hW hO' (by unfold Rg; omega) (fun m' k1 k2 => ⟨by unfold InI; omega, ih2 (k + 1) m' (by omega) (by omega) (hF.tr k1) k2⟩))
      exact inner 4 0 m (by omega) (by omega) hF hO'
  refine CW.of (k := 3) mt_17 rfl rfl (w_17_0 (Ex.mono S (n + 3)) hW (l7 _ 0 _ (Nat.lt_succ_self _) (fun A i e1 e2 => upm_ne e2) ⟨fun j hj => ?_, by rw [upm_eq]; omega⟩))
  rw [upm_ne (by omega), upm_ne (by omega), upm_ne (by omega), upm_ne (by omega)]; exact hO j hj
end WEB
