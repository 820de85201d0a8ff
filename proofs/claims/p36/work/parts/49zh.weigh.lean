/-! rings of the class's web -/
def FrWc (W : Nat) (m m' : MM) : Prop := ∀ A i, ¬ (A = W ∧ (i = 5 ∨ i = 6 ∨ i = 7)) → m' A i = m A i
theorem FrWc.rf {W : Nat} {m : MM} : FrWc W m m := fun _ _ _ => rfl
theorem FrWc.tr {W : Nat} {a b c : MM} (h1 : FrWc W a b) (h2 : FrWc W b c) : FrWc W a c := fun A i e => (h2 A i e).trans (h1 A i e)
def WtOK (m : MM) (W : Nat) : Prop := (0 ≤ m W 5 ∧ m W 5 ≤ 80) ∧ 1 ≤ m W 6 ∧ m W 6 ≤ 80
theorem FrWc.wb {W : Nat} {m m' : MM} (e : FrWc W m m') (h : WbOK m W) : WbOK m' W := by
  refine ⟨fun j hj => ?_, by rw [e W 0 (by omega)]; exact h.2⟩
  rw [e _ _ (by omega), e _ _ (by omega), e _ _ (by omega), e _ _ (by omega)]; exact h.1 j hj
section WEIGH
variable {S : Nat × (Nat → Int32)} {n : Nat} {mem : MM}
theorem f_29 {K : Int → MM → Prop} {a b : Int} (H : K (min a b) mem) : CWI (Ex S (n + 1)) 29 [.inl a, .inl b] mem K := by
  refine CW.of (k := 0) mt_29 rfl rfl (w_29_0 (Ex.mono S n) ⟨fun q _ => ⟨_, rfl, ?_⟩, fun q _ => ⟨_, rfl, ?_⟩⟩)
  · rw [show min a b = b by omega] at H; exact H
  · rw [show min a b = a by omega] at H; exact H
theorem f_28 {K : MM → Prop} {W : Nat} (hW : WebSh W) (hT : WtOK mem W) {b x y : Int} (hx : x ≤ 80) (hy : y ≤ 80) (H : ∀ m', FrWc W mem m' → WtOK m' W → K m') : CWV (Ex S (n + 2)) 28 [.inr W, .inl b, .inl x, .inl y] mem K := by
  have same : none = (none : Option Int) ∧ K mem := ⟨rfl, H mem FrWc.rf hT⟩
  obtain ⟨h5, h6⟩ := hT
  refine CW.of (k := 1) mt_28 rfl rfl (w_28_0 (Ex.mono S (n + 1)) hW ⟨fun _ => same, fun q => ⟨fun q2 v1 e1 _ => ?_, fun _ => same⟩⟩)
  have p1 : 0 ≤ x * v1 ∧ x * v1 ≤ 6400 := by
    have a1 : 0 ≤ x * v1 := Int.mul_nonneg (by omega) (by omega)
    have a2 : x * v1 ≤ 80 * v1 := Int.mul_le_mul_of_nonneg_right hx (by omega)
    omega
  refine ⟨by unfold InI; omega, fun v3 e3 _ => ?_⟩
  have p2 : 0 ≤ v3 * y ∧ v3 * y ≤ 6400 := by
    have a1 : 0 ≤ v3 * y := Int.mul_nonneg (by omega) (by omega)
    have a2 : v3 * y ≤ v3 * 80 := Int.mul_le_mul_of_nonneg_left hy (by omega)
    omega
  refine ⟨by unfold InI; omega, by unfold InI; omega, fun _ => ⟨fun _ => same, fun _ v5 _ _ => f_29 (fun _ => ⟨rfl, H _ (fun A i e => upm_ne (by omega)) ⟨?_, ?_⟩⟩)⟩, fun _ => ⟨rfl, H _ (fun A i e => ?_) ⟨?_, ?_⟩⟩⟩
  · rw [upm_ne (by omega)]; exact h5
  · rw [upm_ne (by omega)]; exact h6
  · rw [upm_ne (by omega), upm_ne (by omega), upm_ne (by omega)]
  · rw [upm_ne (by omega), upm_ne (by omega), upm_eq]; omega
  · rw [upm_ne (by omega), upm_eq]; omega
/-- the loop of goOn, with what a call one deeper comes to -/
theorem go_3 {W : Nat} (hW : WebSh W) {s a b x y : Int} {m0 : MM} {K : MM → Prop} {E : Nat} (hO : WbOK m0 W) (x1 : -74 ≤ x) (x2 : x ≤ 74) (y1 : 0 ≤ y) (y2 : y ≤ 73) (H : ∀ m', FrWc W m0 m' → WtOK m' W → K m') (rec : ∀ (m : MM) (K : MM → Prop) (v b7 b' l e : Int), FrWc W m0 m → WtOK m W → 0 ≤ v → v ≤ 7 → -5 ≤ l → l ≤ 6 → 0 ≤ e → e ≤ 7 → ¬ tb b v → b7 = ((fun (x y : Int32) => x <<< (y &&& 31)) (Int32.ofInt 1) (Int32.ofInt v)).toInt → b' = ((fun (x y : Int32) => x ||| y) (Int32.ofInt b) (Int32.ofInt b7)).toInt → (∀ m', FrWc W m m' → WtOK m' W → K m') → CWV (Ex S (E + 2)) 27 [.inr W, .inl s, .inl v, .inl b', .inl (x + l), .inl (y + e)] m K) : ∀ (N : Nat) (i : Nat) (m : MM), 64 - i < N → FrWc W m0 m → WtOK m W → Wx (Ex S (E + 2)) S M_27 (fun r m => r = none ∧ K m) 3 [some (.inr W), some (.inl s), some (.inl a), some (.inl b), some (.inl x), some (.inl y), some (.inl (i : Int))] [] m := by
  intro N
  induction N with
  | zero => intros; omega
  | succ N ih =>
    intro i m hN hF hT
    have hO' := hF.wb hO
    refine w_27_3 (Ex.mono S (E + 2)) hW (fun v1 e1 _ => ⟨fun _ => ⟨rfl, H m hF hT⟩, fun q => ?_⟩)
    have hi : 0 ≤ (i : Int) ∧ (i : Int) < 64 := by have := hO'.2; omega
    obtain ⟨g1, g2, g3, g4⟩ := hO'.1 i (by omega)
    have nx : ∀ m', FrWc W m0 m' → WtOK m' W → InI ((i : Int) + 1) ∧ Wx (Ex S (E + 2)) S M_27 (fun r m => r = none ∧ K m) 3 [some (.inr W), some (.inl s), some (.inl a), some (.inl b), some (.inl x), some (.inl y), some (.inl ((i : Int) + 1))] [] m' := fun m' z1 z2 => ⟨by unfold InI; omega, ih (i + 1) m' (by omega) z1 z2⟩
    rw [Int.toNat_natCast]
    refine ⟨hi, fun v2 e2 _ => ⟨fun _ => nx m hF hT, fun _ => ⟨hi, fun v3 e3 _ => ⟨fun _ => ⟨hi, fun v4 e4 _ => ⟨fun _ => ⟨hi, fun v5 e5 _ b6 e6 _ b7 e7 _ => ⟨fun _ => nx m hF hT, fun z => ⟨hi, fun v8 e8 _ => ⟨hi, fun v9 e9 _ b10 e10 _ b11 e11 _ => ⟨hi, fun v12 e12 _ => ⟨by unfold InI; omega, hi, fun v13 e13 _ => ⟨by unfold InI; omega, ?_⟩⟩⟩⟩⟩⟩⟩, fun _ => ⟨hi, fun v15 e15 _ => ⟨by unfold InI; omega, hi, fun v16 e16 _ => ⟨by unfold InI; omega, f_28 hW hT (by omega) (by omega) (fun m' k1 k2 => nx m' (hF.tr k1) k2)⟩⟩⟩⟩⟩, fun _ => nx m hF hT⟩⟩⟩⟩
    have h59 : v9 = v8 := by rw [e9, e8]
    have h58 : v5 = v8 := by rw [e5, e8]
    subst h59
    rw [h58] at e6
    have hnt : ¬ tb b v9 := by
      have := tb_of e6 e7
      exact this.mp (Classical.not_not.mp z)
    exact rec m _ v9 b10 b11 v12 v13 hF hT (by omega) (by omega) (by omega) (by omega) (by omega) (by omega) hnt e10 e11 (fun m' k1 k2 => nx m' (hF.tr k1) k2)
/-- goOn: been grows -/
theorem f_27 {W : Nat} (hW : WebSh W) {s : Int} : ∀ (c : Nat) (mem : MM) (K : MM → Prop) (a b x y : Int), WbOK mem W → WtOK mem W → cnt b ≤ c → c ≤ 8 → -6 * (9 - (c : Int)) ≤ x → x ≤ 6 * (9 - (c : Int)) → 0 ≤ y → y ≤ 7 * (9 - (c : Int)) → (∀ m', FrWc W mem m' → WtOK m' W → K m') → CWV (Ex S (n + c + 3)) 27 [.inr W, .inl s, .inl a, .inl b, .inl x, .inl y] mem K := by
  intro c
  induction c with
  | zero =>
    intro mem K a b x y hO hT hc hc8 x1 x2 y1 y2 H
    refine CW.of (k := 1) mt_27 rfl rfl (w_27_0 (Ex.mono S (n + 0 + 2)) hW (go_3 hW hO (by omega) (by omega) y1 (by omega) H (fun m K v b7 b' l e _ _ v1 v2 _ _ _ _ hb e1 e2 _ => ?_) 65 0 mem (by omega) FrWc.rf hT))
    have := cnt_set e1 e2 ⟨v1, by omega⟩ hb
    omega
  | succ c ihc =>
    intro mem K a b x y hO hT hc hc8 x1 x2 y1 y2 H
    refine CW.of (k := 1) mt_27 rfl rfl (w_27_0 (Ex.mono S (n + (c + 1) + 2)) hW (go_3 hW hO (by omega) (by omega) y1 (by omega) H (fun m K v b7 b' l e hF hT' v1 v2 l1 l2 d1 d2 hb e1 e2 H' => ?_) 65 0 mem (by omega) FrWc.rf hT))
    have := cnt_set e1 e2 ⟨v1, by omega⟩ hb
    exact ihc m K v b' (x + l) (y + e) (hF.wb hO) hT' (by omega) (by omega) (by omega) (by omega) (by omega) (by omega) H'
theorem f_30 {K : Int → MM → Prop} {a b : Int} (ha : 0 ≤ a ∧ a ≤ 80) (hb : 1 ≤ b ∧ b ≤ 80) (H : ∀ r, 0 < r → r ∣ b → K r mem) : CWI (Ex S (n + 1)) 30 [.inl a, .inl b] mem K := by
  have key : ∀ (N : Nat) (x y i : Int), 0 < x ∨ (x = 0 ∧ 0 < y) → 0 ≤ y → 0 ≤ x → 0 ≤ i → y ≤ 80 - i → (100 - i).toNat < N → (∀ d : Int, d ∣ x → d ∣ y → d ∣ b) → Wx (Ex S n) S M_30 (fun r m => ∃ y, r = some y ∧ K y m) 7 [some (.inl a), some (.inl b), some (.inl x), some (.inl y), some (.inl i), none] [] mem := by
    intro N
    induction N with
    | zero => intros; omega
    | succ N ih =>
      intro x y i h0 hy hx hi hyi hN hd
      refine w_30_7 (Ex.mono S n) ⟨fun q _ => by omega, fun q => ⟨fun q2 _ => ⟨_, rfl, H x (by omega) (hd x (Int.dvd_refl _) (by rw [q2]; exact Int.dvd_zero _))⟩, fun q2 => ⟨by omega, by unfold InI; omega, ?_⟩⟩⟩
      have r := tmod_r hx (show 0 < y by omega)
      refine ih y _ (i + 1) (by omega) r.1 hy (by omega) (by omega) (by omega) (fun d d1 d2 => hd d ?_ d1)
      have e := Int.mul_tdiv_add_tmod x y
      rw [← e]
      exact Int.dvd_add (Int.dvd_mul_of_dvd_left d1) d2
  refine CW.of (k := 4) mt_30 rfl rfl (w_30_0 (Ex.mono S n) (key 101 a b 0 (by omega) (by omega) ha.1 (by omega) (by omega) (by omega) (fun d _ d2 => d2)))
theorem f_26 {K : MM → Prop} {W : Nat} (hW : WebSh W) (hO : WbOK mem W) {c : Int} (hc : 0 ≤ c ∧ c ≤ 8) (H : ∀ m', FrWc W mem m' → WtOK m' W → K m') : CWV (Ex S (n + 12)) 26 [.inr W, .inl c] mem K := by
  have key : ∀ (N : Nat) (o : Int) (m : MM), 0 ≤ o → (8 - o).toNat < N → FrWc W mem m → WtOK m W → Wx (Ex S (n + 11)) S M_26 (fun r m => r = none ∧ K m) 17 [some (.inr W), some (.inl c), some (.inl o)] [] m := by
    intro N
    induction N with
    | zero => intros; omega
    | succ N ih =>
      intro o m ho hN hF hT
      refine w_26_17 (Ex.mono S (n + 11)) hW ⟨fun q v1 e1 _ v2 e2 _ => ?_, fun q b7 e7 _ => ?_⟩
      · obtain ⟨h5, h6⟩ := hT
        refine f_30 ⟨by omega, by omega⟩ ⟨by omega, by omega⟩ (fun r r1 r2 _ => ⟨fun _ => ⟨rfl, H m hF ⟨h5, h6⟩⟩, fun _ v5 e5 _ => ⟨r1, fun v6 e6 _ => ⟨r1, rfl, H _ (fun A i e => ?_) ⟨?_, ?_⟩⟩⟩⟩)
        · rw [upm_ne (by omega), upm_ne (by omega)]; exact hF A i e
        · rw [upm_ne (by omega), upm_eq]
          have := tdiv_r (show 0 ≤ v5 by omega) r1
          omega
        · rw [upm_ne (by omega)] at e6
          obtain ⟨k, hk⟩ := r2
          have hkp : 0 < k := by
            rcases Int.lt_or_le 0 k with z | z
            · exact z
            · have := Int.mul_nonpos_of_nonneg_of_nonpos (Int.le_of_lt r1) z
              omega
          have e : v6.tdiv r = k := by rw [show v6 = r * k by omega]; exact Int.mul_tdiv_cancel_left _ (by omega)
          have := tdiv_r (show 0 ≤ v6 by omega) r1
          rw [upm_eq]; omega
      · refine f_27 hW 8 m _ o b7 0 0 (hF.wb hO) hT (cnt_le _) (by omega) (by omega) (by omega) (by omega) (by omega) (fun m' k1 k2 => ⟨by unfold InI; omega, ih (o + 1) m' (by omega) (by omega) (hF.tr k1) k2⟩)
  refine CW.of (k := 1) mt_26 rfl rfl (w_26_0 (Ex.mono S (n + 11)) hW (key 9 0 _ (by omega) (by omega) (fun A i e => ?_) ⟨?_, ?_⟩))
  · rw [upm_ne (by omega), upm_ne (by omega), upm_ne (by omega)]
  · rw [upm_ne (by omega), upm_ne (by omega), upm_eq]; omega
  · rw [upm_ne (by omega), upm_eq]; omega
end WEIGH
