/-! the rate of rings, reduced, as both sides come to it -/
def GcD (r a b : Int) : Prop := 0 < r ∧ r ∣ a ∧ r ∣ b ∧ ∀ d : Int, d ∣ a → d ∣ b → d ∣ r
theorem eu_step {x y : Int} (d : Int) : (d ∣ y ∧ d ∣ x.tmod y) ↔ (d ∣ x ∧ d ∣ y) := by
  constructor
  · rintro ⟨h1, h2⟩
    refine ⟨?_, h1⟩
    have k := Int.dvd_add (Int.dvd_mul_of_dvd_left (c := x.tdiv y) h1) h2
    rw [Int.mul_tdiv_add_tmod] at k
    exact k
  · rintro ⟨h1, h2⟩
    refine ⟨h2, ?_⟩
    rw [Int.tmod_def]
    exact Int.dvd_sub h1 (Int.dvd_mul_of_dvd_left h2)
theorem GcD.fin {a b x : Int} (hx : 0 < x) (h : ∀ d : Int, (d ∣ x ∧ d ∣ 0) ↔ (d ∣ a ∧ d ∣ b)) : GcD x a b := ⟨hx, ((h x).mp ⟨Int.dvd_refl _, Int.dvd_zero _⟩).1, ((h x).mp ⟨Int.dvd_refl _, Int.dvd_zero _⟩).2, fun d h1 h2 => ((h d).mpr ⟨h1, h2⟩).1⟩
theorem GcD.red {r a b : Int} (h : GcD r a b) (ha : 0 ≤ a) (hb : 0 < b) : a = r * a.tdiv r ∧ b = r * b.tdiv r ∧ 0 ≤ a.tdiv r ∧ 1 ≤ b.tdiv r ∧ GcD 1 (a.tdiv r) (b.tdiv r) ∧ (0 < a → 0 < a.tdiv r) := by
  obtain ⟨h1, h2, h3, h4⟩ := h
  have ea := Int.mul_tdiv_cancel' h2
  have eb := Int.mul_tdiv_cancel' h3
  have pa := (tdiv_r ha h1).1
  have pb := (tdiv_r (Int.le_of_lt hb) h1).1
  have nb : ¬ b.tdiv r = 0 := fun z => by
    rw [z, Int.mul_zero] at eb
    omega
  refine ⟨ea.symm, eb.symm, pa, by omega, ⟨by omega, ⟨_, (Int.one_mul _).symm⟩, ⟨_, (Int.one_mul _).symm⟩, fun d d1 d2 => ?_⟩, fun z => ?_⟩
  · have k1 := Int.mul_dvd_mul_left r d1
    have k2 := Int.mul_dvd_mul_left r d2
    rw [ea] at k1
    rw [eb] at k2
    have k := h4 (r * d) k1 k2
    exact Int.dvd_of_mul_dvd_mul_left (a := r) (by omega) (by rw [Int.mul_one]; exact k)
  · have na : ¬ a.tdiv r = 0 := fun w => by
      rw [w, Int.mul_zero] at ea
      omega
    omega
theorem GcD.uq {g r u l : Int} (hg : 0 < g) (h1 : GcD 1 u l) (h : GcD r (g * u) (g * l)) : r = g := by
  obtain ⟨r0, r1, r2, r3⟩ := h
  obtain ⟨k, ek⟩ := r3 g (Int.dvd_mul_right _ _) (Int.dvd_mul_right _ _)
  subst ek
  have k1 : k ∣ u := Int.dvd_of_mul_dvd_mul_left (a := g) (by omega) r1
  have k2 : k ∣ l := Int.dvd_of_mul_dvd_mul_left (a := g) (by omega) r2
  have kd := h1.2.2.2 k k1 k2
  have kp : 0 ≤ k := by
    rcases Int.lt_or_le k 0 with z | z
    · have := Int.mul_nonpos_of_nonneg_of_nonpos (Int.le_of_lt hg) (Int.le_of_lt z)
      omega
    · exact z
  rw [Int.eq_one_of_dvd_one kp kd, Int.mul_one]
theorem GcD.gs {u l p : Int} (h : GcD 1 u l) (hd : u ∣ p * l) : u ∣ p := by
  have g : Int.gcd u l = 1 := Int.gcd_eq_one_iff.mpr h.2.2.2
  have k := Int.dvd_mul_gcd_iff_dvd_mul.mpr hd
  rw [g] at k
  have e : p * ((1 : Nat) : Int) = p := Int.mul_one p
  rw [e] at k
  exact k
theorem GcD.same {u l p q : Int} (hu : 0 ≤ u) (hp : 0 < p) (h1 : GcD 1 u l) (h2 : GcD 1 p q) (e : p * l = u * q) : u = p ∧ l = q := by
  have c := Int.dvd_antisymm hu (Int.le_of_lt hp) (h1.gs ⟨q, e⟩) (h2.gs ⟨l, e.symm⟩)
  refine ⟨c, ?_⟩
  rw [c] at e
  exact Int.eq_of_mul_eq_mul_left (by omega) e
/-- what the reference holds (reduced) stands for what the class holds (not yet) -/
def RtR (s : Int × Int × Int) (u l c : Int) : Prop := (∃ g : Int, 0 < g ∧ s.1 = g * u ∧ s.2.1 = g * l ∧ GcD 1 u l) ∧ 0 ≤ u ∧ 1 ≤ l ∧ s.2.2 = c ∧ (0 < u → 1 ≤ c)
theorem RtR.ini : RtR (0, 1, 0) 0 1 0 := ⟨⟨1, by omega, rfl, rfl, by omega, ⟨0, rfl⟩, ⟨1, rfl⟩, fun _ _ h => h⟩, by omega, by omega, rfl, fun h => by omega⟩
theorem RtR.step {s : Int × Int × Int} {u l c D W : Int} {M : Int32} (h : RtR s u l c) (hW : 1 ≤ W) (hM : 1 ≤ M.toInt) : (D ≤ 0 ∨ D * l - u * W < 0 → RtR (wRg s (D, W, M)) u l c) ∧ (0 < D → 0 ≤ D * l - u * W → ∀ r, GcD r D W → ∀ c', (0 < D * l - u * W → c' = M.toInt) → (D * l - u * W = 0 → (c = 0 → c' = M.toInt) ∧ (¬ c = 0 → c' = min c M.toInt)) → RtR (wRg s (D, W, M)) (D.tdiv r) (W.tdiv r) c') := by
  obtain ⟨s1, s2, s3⟩ := s
  obtain ⟨⟨g, g0, g1, g2, g3⟩, hu, hl, hc, h1⟩ := h
  have g1 : s1 = g * u := g1
  have g2 : s2 = g * l := g2
  have hc : s3 = c := hc
  subst g1
  subst g2
  subst hc
  have e1 : D * (g * l) = g * (D * l) := Int.mul_left_comm D g l
  have e2 : g * u * W = g * (u * W) := Int.mul_assoc g u W
  have em : D * (g * l) - g * u * W = g * (D * l - u * W) := by rw [e1, e2, Int.mul_sub]
  have ew : wRg (g * u, g * l, s3) (D, W, M) = if D ≤ 0 ∨ W ≤ 0 then (g * u, g * l, s3) else if 0 < D * (g * l) - g * u * W then (D, W, M.toInt) else if D * (g * l) - g * u * W = 0 then (g * u, g * l, min s3 M.toInt) else (g * u, g * l, s3) := rfl
  rw [ew, em]
  have same : RtR (g * u, g * l, s3) u l s3 := ⟨⟨g, g0, rfl, rfl, g3⟩, hu, hl, rfl, h1⟩
  generalize hz : D * l - u * W = z
  refine ⟨fun q => ?_, fun hD hz0 r hr c' k1 k2 => ?_⟩
  · by_cases q2 : D ≤ 0
    · rw [if_pos (Or.inl q2)]; exact same
    · have gz : g * z < 0 := Int.mul_neg_of_pos_of_neg g0 (by omega)
      rw [if_neg (by omega), if_neg (by omega), if_neg (by omega)]; exact same
  · obtain ⟨ea, eb, pa, pb, gc, pp⟩ := hr.red (by omega) (by omega)
    rw [if_neg (by omega)]
    by_cases q : 0 < z
    · have gz : 0 < g * z := Int.mul_pos g0 q
      rw [if_pos gz]
      exact ⟨⟨r, hr.1, ea, eb, gc⟩, pa, pb, (k1 q).symm, fun _ => by rw [k1 q]; exact hM⟩
    · have z0 : z = 0 := by omega
      have gz : g * z = 0 := by rw [z0]; exact Int.mul_zero _
      rw [if_neg (by omega), if_pos gz]
      have up : 0 < u := by
        have d1 : 0 < D * l := Int.mul_pos hD (by omega)
        by_cases w : u = 0
        · rw [w, Int.zero_mul] at hz
          omega
        · omega
      have c1 := h1 up
      have e : D.tdiv r * l = u * W.tdiv r := Int.eq_of_mul_eq_mul_left (a := r) (by have := hr.1; omega) (by
        have a1 : r * (D.tdiv r * l) = D * l := by rw [← Int.mul_assoc, ← ea]
        have a2 : r * (u * W.tdiv r) = u * W := by rw [Int.mul_left_comm, ← eb]
        rw [a1, a2]
        omega)
      obtain ⟨x1, x2⟩ := GcD.same hu (pp hD) g3 gc e
      rw [← x1, ← x2]
      have ck := (k2 z0).2 (by omega)
      exact ⟨⟨g, g0, rfl, rfl, g3⟩, hu, hl, ck.symm, fun _ => by omega⟩
/-- what the class holds of a row of rings, in the end -/
def RtL (L : List Rg3) (m : MM) (W : Nat) : Prop := ∃ r, GcD r (L.foldl wRg (0, 1, 0)).1 (L.foldl wRg (0, 1, 0)).2.1 ∧ m W 5 = (L.foldl wRg (0, 1, 0)).1.tdiv r ∧ m W 6 = (L.foldl wRg (0, 1, 0)).2.1.tdiv r ∧ m W 7 = (L.foldl wRg (0, 1, 0)).2.2
theorem RtL.eq {L : List Rg3} {m : MM} {W : Nat} {u l c : Int} (h : RtL L m W) (h2 : RtR (L.foldl wRg (0, 1, 0)) u l c) : m W 5 = u ∧ m W 6 = l ∧ m W 7 = c := by
  obtain ⟨r, h3, h4, h5, h6⟩ := h
  obtain ⟨⟨g, g0, g1, g2, g3⟩, -, -, g4, -⟩ := h2
  rw [g1, g2] at h3
  have e := GcD.uq g0 g3 h3
  subst e
  rw [h4, h5, h6, g1, g2, g4]
  exact ⟨Int.mul_tdiv_cancel_left _ (by omega), Int.mul_tdiv_cancel_left _ (by omega), rfl⟩
section RTW
variable {S : Nat × (Nat → Int32)} {n : Nat} {mem : MM}
theorem f_30e {K : Int → MM → Prop} {a b : Int} (ha : 0 ≤ a ∧ a ≤ 80) (hb : 1 ≤ b ∧ b ≤ 80) (H : ∀ r, GcD r a b → K r mem) : CWI (Ex S (n + 1)) 30 [.inl a, .inl b] mem K := by
  have key : ∀ (N : Nat) (x y i : Int), 0 < x ∨ (x = 0 ∧ 0 < y) → 0 ≤ y → 0 ≤ x → 0 ≤ i → y ≤ 80 - i → (100 - i).toNat < N → (∀ d : Int, (d ∣ x ∧ d ∣ y) ↔ (d ∣ a ∧ d ∣ b)) → Wx (Ex S n) S M_30 (fun r m => ∃ y, r = some y ∧ K y m) 7 [some (.inl a), some (.inl b), some (.inl x), some (.inl y), some (.inl i), none] [] mem := by
    intro N
    induction N with
    | zero => intros; omega
    | succ N ih =>
      intro x y i h0 hy hx hi hyi hN hd
      refine w_30_7 (Ex.mono S n) ⟨fun q _ => by omega, fun q => ⟨fun q2 _ => ⟨_, rfl, H x (GcD.fin (by omega) (by subst q2; exact hd))⟩, fun q2 => ⟨by omega, by unfold InI; omega, ?_⟩⟩⟩
      have r := tmod_r hx (show 0 < y by omega)
      exact ih y _ (i + 1) (by omega) r.1 hy (by omega) (by omega) (by omega) (fun d => (eu_step d).trans (hd d))
  exact CW.of (k := 4) mt_30 rfl rfl (w_30_0 (Ex.mono S n) (key 101 a b 0 (by omega) (by omega) ha.1 (by omega) (by omega) (by omega) (fun d => Iff.rfl)))
theorem f_26e {K : MM → Prop} {W : Nat} (hW : WebSh W) (hO : WbOK mem W) {c : Int} (hc : 0 ≤ c ∧ c ≤ 8) (H : ∀ m', FrWc W mem m' → WtOK m' W → RtL (ringsAll (cwq mem W) (mem W 0).toNat c.toNat) m' W → K m') : CWV (Ex S (n + 12)) 26 [.inr W, .inl c] mem K := by
  have key : ∀ (N : Nat) (o : Nat) (m : MM), 8 - o < N → (o : Int) ≤ c → FrWc W mem m → WtOK m W → wst m W = (ringsAll (cwq mem W) (mem W 0).toNat o).foldl wRg (0, 1, 0) → Wx (Ex S (n + 11)) S M_26 (fun r m => r = none ∧ K m) 17 [some (.inr W), some (.inl c), some (.inl (o : Int))] [] m := by
    intro N
    induction N with
    | zero => intros; omega
    | succ N ih =>
      intro o m hN hoc hF hT hE
      refine w_26_17 (Ex.mono S (n + 11)) hW ⟨fun q v1 e1 _ v2 e2 _ => ?_, fun q b7 e7 _ => ?_⟩
      · have eo : o = c.toNat := by omega
        subst eo
        obtain ⟨h5, h6⟩ := hT
        generalize hL : ringsAll (cwq mem W) (mem W 0).toNat c.toNat = L at H hE
        unfold RtL at H
        generalize hs : L.foldl wRg (0, 1, 0) = s at H hE
        subst hE
        have hv1 : v1 = (wst m W).1 := e1
        have hv2 : v2 = (wst m W).2.1 := e2
        refine f_30e ⟨by omega, by omega⟩ ⟨by omega, by omega⟩ (fun r hr _ => ?_)
        rw [hv1, hv2] at hr
        refine ⟨fun q1 => ⟨rfl, H m hF ⟨h5, h6⟩ ⟨r, hr, ?_, ?_, rfl⟩⟩, fun _ v5 e5 _ => ⟨hr.1, fun v6 e6 _ => ⟨hr.1, rfl, H _ (fun A i e => ?_) ⟨?_, ?_⟩ ⟨r, hr, ?_, ?_, ?_⟩⟩⟩⟩
        · have r1 : r = 1 := by have := hr.1; omega
          rw [r1, Int.tdiv_one]; rfl
        · have r1 : r = 1 := by have := hr.1; omega
          rw [r1, Int.tdiv_one]; rfl
        · rw [upm_ne (by omega), upm_ne (by omega)]; exact hF A i e
        · rw [upm_ne (by omega), upm_eq]
          have := tdiv_r (show 0 ≤ v5 by omega) hr.1
          omega
        · rw [upm_ne (by omega)] at e6
          have g := hr.red (show 0 ≤ (wst m W).1 from h5.1) (show 0 < (wst m W).2.1 from by show 0 < m W 6; omega)
          have g1 : 1 ≤ (m W 6).tdiv r := g.2.2.2.1
          have := tdiv_r (show 0 ≤ m W 6 by omega) hr.1
          rw [upm_eq, e6]; omega
        · rw [upm_ne (by omega), upm_eq, e5]; rfl
        · rw [upm_ne (by omega)] at e6
          rw [upm_eq, e6]; rfl
        · rw [upm_ne (by omega), upm_ne (by omega)]; rfl
      · have e0 : m W 0 = mem W 0 := hF W 0 (by omega)
        have ec : cwq m W = cwq mem W := funext fun i => by
          unfold cwq
          rw [hF (W + 1) i (by omega), hF (W + 2) i (by omega), hF (W + 3) i (by omega), hF (W + 4) i (by omega)]
        have eb : b7 = beenI (o : Int) [] := by
          have e7 : b7 = (X1 (o : Int)).toInt := e7
          rw [e7]
          show (X1 (o : Int)).toInt = (X1 (o : Int) ||| 0).toInt
          rw [Int32.or_zero]
        rw [eb]
        refine f_27e hW (s := (o : Int)) ⟨by omega, by omega⟩ 8 m _ (o : Int) 0 0 [] (fun _ h => absurd h List.not_mem_nil) (hF.wb hO) hT (cnt_le _) (by omega) (by omega) (by omega) (by omega) (by omega) (fun m' k1 k2 k3 => ⟨by unfold InI; omega, ih (o + 1) m' (by omega) (by omega) (hF.tr k1) k2 ?_⟩)
        rw [k3, hE, ec, e0, ← List.foldl_append]
        rfl
  refine CW.of (k := 1) mt_26 rfl rfl (w_26_0 (Ex.mono S (n + 11)) hW (key 9 0 _ (by omega) (by omega) (fun A i e => ?_) ⟨?_, ?_⟩ ?_))
  · rw [upm_ne (by omega), upm_ne (by omega), upm_ne (by omega)]
  · rw [upm_ne (by omega), upm_ne (by omega), upm_eq]; omega
  · rw [upm_ne (by omega), upm_eq]; omega
  · unfold wst
    rw [upm_ne (by omega), upm_ne (by omega), upm_eq, upm_ne (by omega), upm_eq, upm_eq]
    rfl
end RTW
/-- the rate of the class's web -/
def RtX (m : MM) : Prop := WtOK m 9 ∧ RtL (ringsAll (cwq m 9) (m 9 0).toNat (m 1 0).toNat) m 9
theorem RtX.fr {m m' : MM} (h : RtX m) (e : ∀ A i, (A = 9 ∧ (i = 0 ∨ i = 5 ∨ i = 6 ∨ i = 7)) ∨ (10 ≤ A ∧ A ≤ 13) ∨ (A = 1 ∧ i = 0) → m' A i = m A i) : RtX m' := by
  have ec : cwq m' 9 = cwq m 9 := funext fun i => by
    unfold cwq
    rw [e (9 + 1) i (by omega), e (9 + 2) i (by omega), e (9 + 3) i (by omega), e (9 + 4) i (by omega)]
  unfold RtX RtL WtOK
  rw [ec, e 9 0 (by omega), e 1 0 (by omega), e 9 5 (by omega), e 9 6 (by omega), e 9 7 (by omega)]
  exact h
/-- a web that holds just the needs, and their rate -/
def WbX (m : MM) : Prop := WbS m ∧ Enum (cwq m 9) (m 9 0).toNat (NdC m (-1)) ∧ RtX m
theorem WbX.fr {m m' : MM} (h : WbX m) (e : ∀ A i, (A = 9 ∧ (i = 0 ∨ i = 5 ∨ i = 6 ∨ i = 7)) ∨ (10 ≤ A ∧ A ≤ 13) ∨ (0 < A ∧ A < 9 ∧ ¬ A = 4) → m' A i = m A i) : WbX m' := by
  have y := WbY.fr ⟨h.1, h.2.1⟩ (fun A i q => e A i (by omega))
  exact ⟨y.1, y.2, h.2.2.fr (fun A i q => e A i (by omega))⟩
