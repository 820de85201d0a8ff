section
/-! rings of needs, in the order in which both sides go round them -/
def pmK : List Int → Int32
  | [] => 0
  | o :: l => pmK l ||| X1 o
theorem pmK_mem {p : Int} (hp : 0 ≤ p ∧ p < 8) : ∀ l : List Int, (∀ o ∈ l, 0 ≤ o ∧ o < 8) → (¬ pmK l &&& X1 p = 0 ↔ p ∈ l)
  | [], _ => by
    show ¬ (0 : Int32) &&& X1 p = 0 ↔ p ∈ []
    rw [Int32.zero_and]
    exact ⟨fun h => absurd rfl h, fun h => absurd h List.not_mem_nil⟩
  | o :: l, h => by
    have ih := pmK_mem hp l (fun q hq => h q (List.mem_cons_of_mem _ hq))
    have ho := h o List.mem_cons_self
    show ¬ (pmK l ||| X1 o) &&& X1 p = 0 ↔ p ∈ o :: l
    rw [i32_dist, List.mem_cons]
    by_cases e : p = o
    · subst e
      rw [Int32.and_self]
      exact ⟨fun _ => Or.inl rfl, fun _ q => X1_on ho (Int32.or_eq_zero_iff.mp q).2⟩
    · rw [X1_off ho hp (fun z => e z.symm), Int32.or_zero, ih]
      exact ⟨Or.inr, fun q => q.resolve_left e⟩
abbrev Rg3 : Type := Int × Int × Int32
def dfE (st at_ : Int) (vis : List Int) (D W : Int) (rec : Int → List Int → Int → Int → List Rg3) (x : Q4) : List Rg3 := if ¬ x.1 = at_ ∨ x.2.1 < st then [] else if x.2.1 = st then [(D + x.2.2.2, W + x.2.2.1, X1 st ||| pmK vis)] else if x.2.1 ∈ vis then [] else rec x.2.1 (x.2.1 :: vis) (D + x.2.2.2) (W + x.2.2.1)
def fmN (f : Nat → List Rg3) : Nat → List Rg3
  | 0 => []
  | i + 1 => fmN f i ++ f i
def dfs (c : Nat → Q4) (n : Nat) (st : Int) : Nat → Int → List Int → Int → Int → List Rg3
  | 0, _, _, _, _ => []
  | f + 1, at_, vis, D, W => fmN (fun i => dfE st at_ vis D W (dfs c n st f) (c i)) n
def ringsAll (c : Nat → Q4) (n : Nat) : Nat → List Rg3
  | 0 => []
  | o + 1 => ringsAll c n o ++ dfs c n (o : Int) 9 (o : Int) [] 0 0
def wRg (s : Int × Int × Int) (r : Rg3) : Int × Int × Int := if r.1 ≤ 0 ∨ r.2.1 ≤ 0 then s else if 0 < r.1 * s.2.1 - s.1 * r.2.1 then (r.1, r.2.1, r.2.2.toInt) else if r.1 * s.2.1 - s.1 * r.2.1 = 0 then (s.1, s.2.1, min s.2.2 r.2.2.toInt) else s
def wst (m : MM) (W : Nat) : Int × Int × Int := (m W 5, m W 6, m W 7)
section RTE
variable {S : Nat × (Nat → Int32)} {n : Nat} {mem : MM}
theorem f_28e {K : MM → Prop} {W : Nat} (hW : WebSh W) (hT : WtOK mem W) {x y : Int} {k : Int32} (hx : x ≤ 80) (hy : y ≤ 80) (H : ∀ m', FrWc W mem m' → WtOK m' W → wst m' W = wRg (wst mem W) (x, y, k) → K m') : CWV (Ex S (n + 2)) 28 [.inr W, .inl k.toInt, .inl x, .inl y] mem K := by
  have same : wRg (wst mem W) (x, y, k) = wst mem W → none = (none : Option Int) ∧ K mem := fun e => ⟨rfl, H mem FrWc.rf hT e.symm⟩
  obtain ⟨h5, h6⟩ := hT
  refine CW.of (k := 1) mt_28 rfl rfl (w_28_0 (Ex.mono S (n + 1)) hW ⟨fun q => same (if_pos (Or.inl q)), fun q => ⟨fun q2 v1 e1 _ => ?_, fun q2 => same (if_pos (Or.inr (show y ≤ 0 by omega)))⟩⟩)
  have p1 : 0 ≤ x * v1 ∧ x * v1 ≤ 6400 := by
    have a1 : 0 ≤ x * v1 := Int.mul_nonneg (by omega) (by omega)
    have a2 : x * v1 ≤ 80 * v1 := Int.mul_le_mul_of_nonneg_right hx (by omega)
    omega
  refine ⟨by unfold InI; omega, fun v3 e3 _ => ?_⟩
  have p2 : 0 ≤ v3 * y ∧ v3 * y ≤ 6400 := by
    have a1 : 0 ≤ v3 * y := Int.mul_nonneg (by omega) (by omega)
    have a2 : v3 * y ≤ v3 * 80 := Int.mul_le_mul_of_nonneg_left hy (by omega)
    omega
  have ew : wRg (wst mem W) (x, y, k) = if 0 < x * v1 - v3 * y then (x, y, k.toInt) else if x * v1 - v3 * y = 0 then (v3, v1, min (mem W 7) k.toInt) else wst mem W := by
    unfold wRg wst
    rw [if_neg (show ¬ (x ≤ 0 ∨ y ≤ 0) by omega), e1, e3]
  refine ⟨by unfold InI; omega, by unfold InI; omega, fun z => ⟨fun z2 => same ?_, fun z2 v5 e5 _ => f_29 (fun _ => ⟨rfl, H _ (fun A i e => upm_ne (by omega)) ⟨?_, ?_⟩ ?_⟩)⟩, fun z => ⟨rfl, H _ (fun A i e => ?_) ⟨?_, ?_⟩ ?_⟩⟩
  · rw [ew, if_neg (by omega), if_neg z2]
  · rw [upm_ne (by omega)]; exact h5
  · rw [upm_ne (by omega)]; exact h6
  · rw [ew, if_neg (by omega), if_pos (Classical.not_not.mp z2)]
    unfold wst
    rw [upm_ne (by omega), upm_ne (by omega), upm_eq, ← e1, ← e3, e5]
  · rw [upm_ne (by omega), upm_ne (by omega), upm_ne (by omega)]
  · rw [upm_ne (by omega), upm_ne (by omega), upm_eq]; omega
  · rw [upm_ne (by omega), upm_eq]; omega
  · rw [ew, if_pos (by omega)]
    unfold wst
    rw [upm_ne (by omega), upm_ne (by omega), upm_eq, upm_ne (by omega), upm_eq, upm_eq]
def beenI (st : Int) (vis : List Int) : Int := (X1 st ||| pmK vis).toInt
theorem tb_been {st p : Int} {vis : List Int} (hs : 0 ≤ st ∧ st < 8) (hv : ∀ o ∈ vis, 0 ≤ o ∧ o < 8) (hp : 0 ≤ p ∧ p < 8) : tb (beenI st vis) p ↔ p = st ∨ p ∈ vis := by
  unfold tb beenI
  rw [Int32.ofInt_toInt, i32_dist]
  have q := pmK_mem hp vis hv
  by_cases e : p = st
  · subst e
    rw [Int32.and_self]
    exact ⟨fun _ => Or.inl rfl, fun _ z => X1_on hs (Int32.or_eq_zero_iff.mp z).1⟩
  · rw [X1_off hs hp (fun z => e z.symm), Int32.zero_or, q]
    exact ⟨Or.inr, fun z => z.resolve_left e⟩
theorem been_or {st o b1 t' : Int} {vis : List Int} (e1 : b1 = ((fun (x y : Int32) => x <<< (y &&& 31)) (Int32.ofInt 1) (Int32.ofInt o)).toInt) (e2 : t' = ((fun (x y : Int32) => x ||| y) (Int32.ofInt (beenI st vis)) (Int32.ofInt b1)).toInt) : t' = beenI st (o :: vis) := by
  have e1 : b1 = (X1 o).toInt := e1
  rw [e2, e1]
  show (Int32.ofInt (X1 st ||| pmK vis).toInt ||| Int32.ofInt (X1 o).toInt).toInt = (X1 st ||| (pmK vis ||| X1 o)).toInt
  rw [Int32.ofInt_toInt, Int32.ofInt_toInt, Int32.or_assoc]
theorem go_3e {W : Nat} (hW : WebSh W) {s a x y : Int} {vis : List Int} {m0 : MM} {K : MM → Prop} {E : Nat} {rec : Int → List Int → Int → Int → List Rg3} (hs : 0 ≤ s ∧ s < 8) (hv : ∀ o ∈ vis, 0 ≤ o ∧ o < 8) (hO : WbOK m0 W) (x1 : -74 ≤ x) (x2 : x ≤ 74) (y1 : 0 ≤ y) (y2 : y ≤ 73) (H : ∀ m', FrWc W m0 m' → WtOK m' W → wst m' W = (fmN (fun i => dfE s a vis x y rec (cwq m0 W i)) (m0 W 0).toNat).foldl wRg (wst m0 W) → K m') (hrec : ∀ (m : MM) (K : MM → Prop) (v l e : Int), FrWc W m0 m → WtOK m W → 0 ≤ v → v ≤ 7 → -5 ≤ l → l ≤ 6 → 0 ≤ e → e ≤ 7 → ¬ v = s → ¬ v ∈ vis → (∀ m', FrWc W m m' → WtOK m' W → wst m' W = (rec v (v :: vis) (x + l) (y + e)).foldl wRg (wst m W) → K m') → CWV (Ex S (E + 2)) 27 [.inr W, .inl s, .inl v, .inl (beenI s (v :: vis)), .inl (x + l), .inl (y + e)] m K) : ∀ (N : Nat) (i : Nat) (m : MM), 64 - i < N → (i : Int) ≤ m0 W 0 → FrWc W m0 m → WtOK m W → wst m W = (fmN (fun i => dfE s a vis x y rec (cwq m0 W i)) i).foldl wRg (wst m0 W) → Wx (Ex S (E + 2)) S M_27 (fun r m => r = none ∧ K m) 3 [some (.inr W), some (.inl s), some (.inl a), some (.inl (beenI s vis)), some (.inl x), some (.inl y), some (.inl (i : Int))] [] m := by
  intro N
  induction N with
  | zero => intros; omega
  | succ N ih =>
    intro i m hN hin hF hT hE
    have hO' := hF.wb hO
    have es : m W 0 = m0 W 0 := hF W 0 (by omega)
    refine w_27_3 (Ex.mono S (E + 2)) hW (fun v1 e1 _ => ⟨fun q => ⟨rfl, H m hF hT (by rw [hE, show (m0 W 0).toNat = i by omega])⟩, fun q => ?_⟩)
    have hi : 0 ≤ (i : Int) ∧ (i : Int) < 64 := by have := hO'.2; omega
    obtain ⟨g1, g2, g3, g4⟩ := hO'.1 i (by omega)
    have ecw : cwq m W i = cwq m0 W i := by
      unfold cwq
      rw [hF (W + 1) i (by omega), hF (W + 2) i (by omega), hF (W + 3) i (by omega), hF (W + 4) i (by omega)]
    have nx : ∀ m', FrWc W m0 m' → WtOK m' W → wst m' W = (dfE s a vis x y rec (cwq m0 W i)).foldl wRg (wst m W) → InI ((i : Int) + 1) ∧ Wx (Ex S (E + 2)) S M_27 (fun r m => r = none ∧ K m) 3 [some (.inr W), some (.inl s), some (.inl a), some (.inl (beenI s vis)), some (.inl x), some (.inl y), some (.inl ((i : Int) + 1))] [] m' := fun m' z1 z2 z3 => ⟨by unfold InI; omega, ih (i + 1) m' (by omega) (by omega) z1 z2 (by
      rw [z3, hE, ← List.foldl_append]
      rfl)⟩
    have no : dfE s a vis x y rec (cwq m0 W i) = [] → InI ((i : Int) + 1) ∧ Wx (Ex S (E + 2)) S M_27 (fun r m => r = none ∧ K m) 3 [some (.inr W), some (.inl s), some (.inl a), some (.inl (beenI s vis)), some (.inl x), some (.inl y), some (.inl ((i : Int) + 1))] [] m := fun e => nx m hF hT (by rw [e]; rfl)
    rw [← ecw] at no nx
    have c1 : (cwq m W i).1 = m (W + 1) i := rfl
    have c2 : (cwq m W i).2.1 = m (W + 2) i := rfl
    have c3 : (cwq m W i).2.2.1 = m (W + 3) i := rfl
    have c4 : (cwq m W i).2.2.2 = m (W + 4) i := rfl
    rw [Int.toNat_natCast]
    refine ⟨hi, fun v2 e2 _ => ⟨fun z => no (if_pos (Or.inl (by rw [c1, ← e2]; exact z))), fun za => ⟨hi, fun v3 e3 _ => ⟨fun zb => ⟨hi, fun v4 e4 _ => ⟨fun zc => ⟨hi, fun v5 e5 _ b6 e6 _ b7 e7 _ => ⟨fun zd => no ?_, fun z => ⟨hi, fun v8 e8 _ => ⟨hi, fun v9 e9 _ b10 e10 _ b11 e11 _ => ⟨hi, fun v12 e12 _ => ⟨by unfold InI; omega, hi, fun v13 e13 _ => ⟨by unfold InI; omega, ?_⟩⟩⟩⟩⟩⟩⟩, fun zc => ⟨hi, fun v15 e15 _ => ⟨by unfold InI; omega, hi, fun v16 e16 _ => ⟨by unfold InI; omega, f_28e (k := X1 s ||| pmK vis) hW hT (by omega) (by omega) (fun m' k1 k2 k3 => nx m' (hF.tr k1) k2 ?_)⟩⟩⟩⟩⟩, fun zb => no (if_pos (Or.inr (by rw [c2, ← e3]; omega)))⟩⟩⟩⟩
    · have h58 : v5 = v4 := by rw [e5, e4]
      rw [h58] at e6
      have ht := tb_of e6 e7
      have hin2 : tb (beenI s vis) v4 := Classical.byContradiction (fun w => zd (ht.mpr w))
      have hm := ((tb_been hs hv (by omega)).mp hin2).resolve_left zc
      unfold dfE
      rw [if_neg (by rw [c1, c2, ← e2, ← e3]; omega), if_neg (by rw [c2, ← e4]; exact zc), if_pos (by rw [c2, ← e4]; exact hm)]
    · have h59 : v9 = v8 := by rw [e9, e8]
      have h58 : v5 = v8 := by rw [e5, e8]
      have h48 : v4 = v8 := by rw [e4, e8]
      subst h59
      rw [h58] at e6
      rw [h48] at zc
      have hnt : ¬ tb (beenI s vis) v9 := (tb_of e6 e7).mp (Classical.not_not.mp z)
      have hnv : ¬ v9 ∈ vis := fun w => hnt ((tb_been hs hv (by omega)).mpr (Or.inr w))
      have eb := been_or e10 e11
      rw [eb]
      refine hrec m _ v9 v12 v13 hF hT (by omega) (by omega) (by omega) (by omega) (by omega) (by omega) zc hnv (fun m' k1 k2 k3 => nx m' (hF.tr k1) k2 ?_)
      rw [k3]
      unfold dfE
      rw [if_neg (by rw [c1, c2, ← e2, ← e9]; omega), if_neg (by rw [c2, ← e9]; exact zc), if_neg (by rw [c2, ← e9]; exact hnv), c2, c3, c4, ← e9, ← e12, ← e13]
    · rw [k3]
      unfold dfE
      rw [if_neg (by rw [c1, c2, ← e2, ← e3]; omega), if_pos (by rw [c2, ← e4]; exact Classical.not_not.mp zc), c3, c4, ← e15, ← e16]
      rfl
theorem f_27e {W : Nat} (hW : WebSh W) {s : Int} (hs : 0 ≤ s ∧ s < 8) : ∀ (c : Nat) (mem : MM) (K : MM → Prop) (a x y : Int) (vis : List Int), (∀ o ∈ vis, 0 ≤ o ∧ o < 8) → WbOK mem W → WtOK mem W → cnt (beenI s vis) ≤ c → c ≤ 8 → -6 * (9 - (c : Int)) ≤ x → x ≤ 6 * (9 - (c : Int)) → 0 ≤ y → y ≤ 7 * (9 - (c : Int)) → (∀ m', FrWc W mem m' → WtOK m' W → wst m' W = (dfs (cwq mem W) (mem W 0).toNat s (c + 1) a vis x y).foldl wRg (wst mem W) → K m') → CWV (Ex S (n + c + 3)) 27 [.inr W, .inl s, .inl a, .inl (beenI s vis), .inl x, .inl y] mem K := by
  have b1 : ∀ v : Int, ∃ b1 : Int, b1 = ((fun (x y : Int32) => x <<< (y &&& 31)) (Int32.ofInt 1) (Int32.ofInt v)).toInt := fun v => ⟨_, rfl⟩
  have grow : ∀ (vis : List Int) (v : Int), (∀ o ∈ vis, 0 ≤ o ∧ o < 8) → 0 ≤ v → v ≤ 7 → ¬ v = s → ¬ v ∈ vis → cnt (beenI s (v :: vis)) < cnt (beenI s vis) := fun vis v hv v1 v2 ne nv => by
    obtain ⟨b, e1⟩ := b1 v
    have e2 := been_or (st := s) (vis := vis) e1 rfl
    rw [← e2]
    exact cnt_set e1 rfl ⟨v1, by omega⟩ (fun z => ((tb_been hs hv ⟨v1, by omega⟩).mp z).elim ne nv)
  intro c
  induction c with
  | zero =>
    intro mem K a x y vis hv hO hT hc hc8 x1 x2 y1 y2 H
    refine CW.of (k := 1) mt_27 rfl rfl (w_27_0 (Ex.mono S (n + 0 + 2)) hW (go_3e (rec := dfs (cwq mem W) (mem W 0).toNat s 0) hW hs hv hO (by omega) (by omega) y1 (by omega) H (fun m K v l e _ _ v1 v2 _ _ _ _ ne nv _ => ?_) 65 0 mem (by omega) hO.2.1 FrWc.rf hT rfl))
    have := grow vis v hv v1 v2 ne nv
    omega
  | succ c ihc =>
    intro mem K a x y vis hv hO hT hc hc8 x1 x2 y1 y2 H
    refine CW.of (k := 1) mt_27 rfl rfl (w_27_0 (Ex.mono S (n + (c + 1) + 2)) hW (go_3e (rec := dfs (cwq mem W) (mem W 0).toNat s (c + 1)) hW hs hv hO (by omega) (by omega) y1 (by omega) H (fun m K v l e hF hT' v1 v2 l1 l2 d1 d2 ne nv H' => ?_) 65 0 mem (by omega) hO.2.1 FrWc.rf hT rfl))
    have := grow vis v hv v1 v2 ne nv
    have e0 : m W 0 = mem W 0 := hF W 0 (by omega)
    have ec : cwq m W = cwq mem W := funext fun i => by
      unfold cwq
      rw [hF (W + 1) i (by omega), hF (W + 2) i (by omega), hF (W + 3) i (by omega), hF (W + 4) i (by omega)]
    refine ihc m K v (x + l) (y + e) (v :: vis) (fun o ho => (List.mem_cons.mp ho).elim (fun z => by rw [z]; omega) (hv o)) (hF.wb hO) hT' (by omega) (by omega) (by omega) (by omega) (by omega) (by omega) (fun m' k1 k2 k3 => H' m' k1 k2 (by rw [k3, ec, e0]))
end RTE
end
section
/-! the rate of rings, reduced, as both sides come to it -/
def GcD (r a b : Int) : Prop := 0 < r ∧ r ∣ a ∧ r ∣ b ∧ ∀ d : Int, d ∣ a → d ∣ b → d ∣ r
theorem eu_step {x y : Int} (d : Int) : (d ∣ y ∧ d ∣ x.tmod y) ↔ (d ∣ x ∧ d ∣ y) := by
  constructor
  · rintro ⟨h1, h2⟩
    refine ⟨?_, h1⟩
    have k := Int.dvd_add (Int.dvd_mul_of_dvd_left (c := x.tdiv y) h1) h2
    rw [Int.mul_tdiv_add_tmod] at k
    exact k
  · rintro ⟨h1, h2⟩
    refine ⟨h2, ?_⟩
    rw [Int.tmod_def]
    exact Int.dvd_sub h1 (Int.dvd_mul_of_dvd_left h2)
theorem GcD.fin {a b x : Int} (hx : 0 < x) (h : ∀ d : Int, (d ∣ x ∧ d ∣ 0) ↔ (d ∣ a ∧ d ∣ b)) : GcD x a b := ⟨hx, ((h x).mp ⟨Int.dvd_refl _, Int.dvd_zero _⟩).1, ((h x).mp ⟨Int.dvd_refl _, Int.dvd_zero _⟩).2, fun d h1 h2 => ((h d).mpr ⟨h1, h2⟩).1⟩
theorem GcD.red {r a b : Int} (h : GcD r a b) (ha : 0 ≤ a) (hb : 0 < b) : a = r * a.tdiv r ∧ b = r * b.tdiv r ∧ 0 ≤ a.tdiv r ∧ 1 ≤ b.tdiv r ∧ GcD 1 (a.tdiv r) (b.tdiv r) ∧ (0 < a → 0 < a.tdiv r) := by
  obtain ⟨h1, h2, h3, h4⟩ := h
  have ea := Int.mul_tdiv_cancel' h2
  have eb := Int.mul_tdiv_cancel' h3
  have pa := (tdiv_r ha h1).1
  have pb := (tdiv_r (Int.le_of_lt hb) h1).1
  have nb : ¬ b.tdiv r = 0 := fun z => by
    rw [z, Int.mul_zero] at eb
    omega
  refine ⟨ea.symm, eb.symm, pa, by omega, ⟨by omega, ⟨_, (Int.one_mul _).symm⟩, ⟨_, (Int.one_mul _).symm⟩, fun d d1 d2 => ?_⟩, fun z => ?_⟩
  · have k1 := Int.mul_dvd_mul_left r d1
    have k2 := Int.mul_dvd_mul_left r d2
    rw [ea] at k1
    rw [eb] at k2
    have k := h4 (r * d) k1 k2
    exact Int.dvd_of_mul_dvd_mul_left (a := r) (by omega) (by rw [Int.mul_one]; exact k)
  · have na : ¬ a.tdiv r = 0 := fun w => by
      rw [w, Int.mul_zero] at ea
      omega
    omega
theorem GcD.uq {g r u l : Int} (hg : 0 < g) (h1 : GcD 1 u l) (h : GcD r (g * u) (g * l)) : r = g := by
  obtain ⟨r0, r1, r2, r3⟩ := h
  obtain ⟨k, ek⟩ := r3 g (Int.dvd_mul_right _ _) (Int.dvd_mul_right _ _)
  subst ek
  have k1 : k ∣ u := Int.dvd_of_mul_dvd_mul_left (a := g) (by omega) r1
  have k2 : k ∣ l := Int.dvd_of_mul_dvd_mul_left (a := g) (by omega) r2
  have kd := h1.2.2.2 k k1 k2
  have kp : 0 ≤ k := by
    rcases Int.lt_or_le k 0 with z | z
    · have := Int.mul_nonpos_of_nonneg_of_nonpos (Int.le_of_lt hg) (Int.le_of_lt z)
      omega
    · exact z
  rw [Int.eq_one_of_dvd_one kp kd, Int.mul_one]
theorem GcD.gs {u l p : Int} (h : GcD 1 u l) (hd : u ∣ p * l) : u ∣ p := by
  have g : Int.gcd u l = 1 := Int.gcd_eq_one_iff.mpr h.2.2.2
  have k := Int.dvd_mul_gcd_iff_dvd_mul.mpr hd
  rw [g] at k
  have e : p * ((1 : Nat) : Int) = p := Int.mul_one p
  rw [e] at k
  exact k
theorem GcD.same {u l p q : Int} (hu : 0 ≤ u) (hp : 0 < p) (h1 : GcD 1 u l) (h2 : GcD 1 p q) (e : p * l = u * q) : u = p ∧ l = q := by
  have c := Int.dvd_antisymm hu (Int.le_of_lt hp) (h1.gs ⟨q, e⟩) (h2.gs ⟨l, e.symm⟩)
  refine ⟨c, ?_⟩
  rw [c] at e
  exact Int.eq_of_mul_eq_mul_left (by omega) e
def RtR (s : Int × Int × Int) (u l c : Int) : Prop := (∃ g : Int, 0 < g ∧ s.1 = g * u ∧ s.2.1 = g * l ∧ GcD 1 u l) ∧ 0 ≤ u ∧ 1 ≤ l ∧ s.2.2 = c ∧ (0 < u → 1 ≤ c)
theorem RtR.ini : RtR (0, 1, 0) 0 1 0 := ⟨⟨1, by omega, rfl, rfl, by omega, ⟨0, rfl⟩, ⟨1, rfl⟩, fun _ _ h => h⟩, by omega, by omega, rfl, fun h => by omega⟩
theorem RtR.step {s : Int × Int × Int} {u l c D W : Int} {M : Int32} (h : RtR s u l c) (hW : 1 ≤ W) (hM : 1 ≤ M.toInt) : (D ≤ 0 ∨ D * l - u * W < 0 → RtR (wRg s (D, W, M)) u l c) ∧ (0 < D → 0 ≤ D * l - u * W → ∀ r, GcD r D W → ∀ c', (0 < D * l - u * W → c' = M.toInt) → (D * l - u * W = 0 → (c = 0 → c' = M.toInt) ∧ (¬ c = 0 → c' = min c M.toInt)) → RtR (wRg s (D, W, M)) (D.tdiv r) (W.tdiv r) c') := by
  obtain ⟨s1, s2, s3⟩ := s
  obtain ⟨⟨g, g0, g1, g2, g3⟩, hu, hl, hc, h1⟩ := h
  have g1 : s1 = g * u := g1
  have g2 : s2 = g * l := g2
  have hc : s3 = c := hc
  subst g1
  subst g2
  subst hc
  have e1 : D * (g * l) = g * (D * l) := Int.mul_left_comm D g l
  have e2 : g * u * W = g * (u * W) := Int.mul_assoc g u W
  have em : D * (g * l) - g * u * W = g * (D * l - u * W) := by rw [e1, e2, Int.mul_sub]
  have ew : wRg (g * u, g * l, s3) (D, W, M) = if D ≤ 0 ∨ W ≤ 0 then (g * u, g * l, s3) else if 0 < D * (g * l) - g * u * W then (D, W, M.toInt) else if D * (g * l) - g * u * W = 0 then (g * u, g * l, min s3 M.toInt) else (g * u, g * l, s3) := rfl
  rw [ew, em]
  have same : RtR (g * u, g * l, s3) u l s3 := ⟨⟨g, g0, rfl, rfl, g3⟩, hu, hl, rfl, h1⟩
  generalize hz : D * l - u * W = z
  refine ⟨fun q => ?_, fun hD hz0 r hr c' k1 k2 => ?_⟩
  · by_cases q2 : D ≤ 0
    · rw [if_pos (Or.inl q2)]; exact same
    · have gz : g * z < 0 := Int.mul_neg_of_pos_of_neg g0 (by omega)
      rw [if_neg (by omega), if_neg (by omega), if_neg (by omega)]; exact same
  · obtain ⟨ea, eb, pa, pb, gc, pp⟩ := hr.red (by omega) (by omega)
    rw [if_neg (by omega)]
    by_cases q : 0 < z
    · have gz : 0 < g * z := Int.mul_pos g0 q
      rw [if_pos gz]
      exact ⟨⟨r, hr.1, ea, eb, gc⟩, pa, pb, (k1 q).symm, fun _ => by rw [k1 q]; exact hM⟩
    · have z0 : z = 0 := by omega
      have gz : g * z = 0 := by rw [z0]; exact Int.mul_zero _
      rw [if_neg (by omega), if_pos gz]
      have up : 0 < u := by
        have d1 : 0 < D * l := Int.mul_pos hD (by omega)
        by_cases w : u = 0
        · rw [w, Int.zero_mul] at hz
          omega
        · omega
      have c1 := h1 up
      have e : D.tdiv r * l = u * W.tdiv r := Int.eq_of_mul_eq_mul_left (a := r) (by have := hr.1; omega) (by
        have a1 : r * (D.tdiv r * l) = D * l := by rw [← Int.mul_assoc, ← ea]
        have a2 : r * (u * W.tdiv r) = u * W := by rw [Int.mul_left_comm, ← eb]
        rw [a1, a2]
        omega)
      obtain ⟨x1, x2⟩ := GcD.same hu (pp hD) g3 gc e
      rw [← x1, ← x2]
      have ck := (k2 z0).2 (by omega)
      exact ⟨⟨g, g0, rfl, rfl, g3⟩, hu, hl, ck.symm, fun _ => by omega⟩
def RtL (L : List Rg3) (m : MM) (W : Nat) : Prop := ∃ r, GcD r (L.foldl wRg (0, 1, 0)).1 (L.foldl wRg (0, 1, 0)).2.1 ∧ m W 5 = (L.foldl wRg (0, 1, 0)).1.tdiv r ∧ m W 6 = (L.foldl wRg (0, 1, 0)).2.1.tdiv r ∧ m W 7 = (L.foldl wRg (0, 1, 0)).2.2
theorem RtL.eq {L : List Rg3} {m : MM} {W : Nat} {u l c : Int} (h : RtL L m W) (h2 : RtR (L.foldl wRg (0, 1, 0)) u l c) : m W 5 = u ∧ m W 6 = l ∧ m W 7 = c := by
  obtain ⟨r, h3, h4, h5, h6⟩ := h
  obtain ⟨⟨g, g0, g1, g2, g3⟩, -, -, g4, -⟩ := h2
  rw [g1, g2] at h3
  have e := GcD.uq g0 g3 h3
  subst e
  rw [h4, h5, h6, g1, g2, g4]
  exact ⟨Int.mul_tdiv_cancel_left _ (by omega), Int.mul_tdiv_cancel_left _ (by omega), rfl⟩
section RTW
variable {S : Nat × (Nat → Int32)} {n : Nat} {mem : MM}
theorem f_30e {K : Int → MM → Prop} {a b : Int} (ha : 0 ≤ a ∧ a ≤ 80) (hb : 1 ≤ b ∧ b ≤ 80) (H : ∀ r, GcD r a b → K r mem) : CWI (Ex S (n + 1)) 30 [.inl a, .inl b] mem K := by
  have key : ∀ (N : Nat) (x y i : Int), 0 < x ∨ (x = 0 ∧ 0 < y) → 0 ≤ y → 0 ≤ x → 0 ≤ i → y ≤ 80 - i → (100 - i).toNat < N → (∀ d : Int, (d ∣ x ∧ d ∣ y) ↔ (d ∣ a ∧ d ∣ b)) → Wx (Ex S n) S M_30 (fun r m => ∃ y, r = some y ∧ K y m) 7 [some (.inl a), some (.inl b), some (.inl x), some (.inl y), some (.inl i), none] [] mem := by
    intro N
    induction N with
    | zero => intros; omega
    | succ N ih =>
      intro x y i h0 hy hx hi hyi hN hd
      refine w_30_7 (Ex.mono S n) ⟨fun q _ => by omega, fun q => ⟨fun q2 _ => ⟨_, rfl, H x (GcD.fin (by omega) (by subst q2; exact hd))⟩, fun q2 => ⟨by omega, by unfold InI; omega, ?_⟩⟩⟩
      have r := tmod_r hx (show 0 < y by omega)
      exact ih y _ (i + 1) (by omega) r.1 hy (by omega) (by omega) (by omega) (fun d => (eu_step d).trans (hd d))
  exact CW.of (k := 4) mt_30 rfl rfl (w_30_0 (Ex.mono S n) (key 101 a b 0 (by omega) (by omega) ha.1 (by omega) (by omega) (by omega) (fun d => Iff.rfl)))
theorem f_26e {K : MM → Prop} {W : Nat} (hW : WebSh W) (hO : WbOK mem W) {c : Int} (hc : 0 ≤ c ∧ c ≤ 8) (H : ∀ m', FrWc W mem m' → WtOK m' W → RtL (ringsAll (cwq mem W) (mem W 0).toNat c.toNat) m' W → K m') : CWV (Ex S (n + 12)) 26 [.inr W, .inl c] mem K := by
  have key : ∀ (N : Nat) (o : Nat) (m : MM), 8 - o < N → (o : Int) ≤ c → FrWc W mem m → WtOK m W → wst m W = (ringsAll (cwq mem W) (mem W 0).toNat o).foldl wRg (0, 1, 0) → Wx (Ex S (n + 11)) S M_26 (fun r m => r = none ∧ K m) 17 [some (.inr W), some (.inl c), some (.inl (o : Int))] [] m := by
    intro N
    induction N with
    | zero => intros; omega
    | succ N ih =>
      intro o m hN hoc hF hT hE
      refine w_26_17 (Ex.mono S (n + 11)) hW ⟨fun q v1 e1 _ v2 e2 _ => ?_, fun q b7 e7 _ => ?_⟩
      · have eo : o = c.toNat := by omega
        subst eo
        obtain ⟨h5, h6⟩ := hT
        generalize hL : ringsAll (cwq mem W) (mem W 0).toNat c.toNat = L at H hE
        unfold RtL at H
        generalize hs : L.foldl wRg (0, 1, 0) = s at H hE
        subst hE
        have hv1 : v1 = (wst m W).1 := e1
        have hv2 : v2 = (wst m W).2.1 := e2
        refine f_30e ⟨by omega, by omega⟩ ⟨by omega, by omega⟩ (fun r hr _ => ?_)
        rw [hv1, hv2] at hr
        refine ⟨fun q1 => ⟨rfl, H m hF ⟨h5, h6⟩ ⟨r, hr, ?_, ?_, rfl⟩⟩, fun _ v5 e5 _ => ⟨hr.1, fun v6 e6 _ => ⟨hr.1, rfl, H _ (fun A i e => ?_) ⟨?_, ?_⟩ ⟨r, hr, ?_, ?_, ?_⟩⟩⟩⟩
        · have r1 : r = 1 := by have := hr.1; omega
          rw [r1, Int.tdiv_one]; rfl
        · have r1 : r = 1 := by have := hr.1; omega
          rw [r1, Int.tdiv_one]; rfl
        · rw [upm_ne (by omega), upm_ne (by omega)]; exact hF A i e
        · rw [upm_ne (by omega), upm_eq]
          have := tdiv_r (show 0 ≤ v5 by omega) hr.1
          omega
        · rw [upm_ne (by omega)] at e6
          have g := hr.red (show 0 ≤ (wst m W).1 from h5.1) (show 0 < (wst m W).2.1 from by show 0 < m W 6; omega)
          have g1 : 1 ≤ (m W 6).tdiv r := g.2.2.2.1
          have := tdiv_r (show 0 ≤ m W 6 by omega) hr.1
          rw [upm_eq, e6]; omega
        · rw [upm_ne (by omega), upm_eq, e5]; rfl
        · rw [upm_ne (by omega)] at e6
          rw [upm_eq, e6]; rfl
        · rw [upm_ne (by omega), upm_ne (by omega)]; rfl
      · have e0 : m W 0 = mem W 0 := hF W 0 (by omega)
        have ec : cwq m W = cwq mem W := funext fun i => by
          unfold cwq
          rw [hF (W + 1) i (by omega), hF (W + 2) i (by omega), hF (W + 3) i (by omega), hF (W + 4) i (by omega)]
        have eb : b7 = beenI (o : Int) [] := by
          have e7 : b7 = (X1 (o : Int)).toInt := e7
          rw [e7]
          show (X1 (o : Int)).toInt = (X1 (o : Int) ||| 0).toInt
          rw [Int32.or_zero]
        rw [eb]
        refine f_27e hW (s := (o : Int)) ⟨by omega, by omega⟩ 8 m _ (o : Int) 0 0 [] (fun _ h => absurd h List.not_mem_nil) (hF.wb hO) hT (cnt_le _) (by omega) (by omega) (by omega) (by omega) (by omega) (fun m' k1 k2 k3 => ⟨by unfold InI; omega, ih (o + 1) m' (by omega) (by omega) (hF.tr k1) k2 ?_⟩)
        rw [k3, hE, ec, e0, ← List.foldl_append]
        rfl
  refine CW.of (k := 1) mt_26 rfl rfl (w_26_0 (Ex.mono S (n + 11)) hW (key 9 0 _ (by omega) (by omega) (fun A i e => ?_) ⟨?_, ?_⟩ ?_))
  · rw [upm_ne (by omega), upm_ne (by omega), upm_ne (by omega)]
  · rw [upm_ne (by omega), upm_ne (by omega), upm_eq]; omega
  · rw [upm_ne (by omega), upm_eq]; omega
  · unfold wst
    rw [upm_ne (by omega), upm_ne (by omega), upm_eq, upm_ne (by omega), upm_eq, upm_eq]
    rfl
end RTW
def RtX (m : MM) : Prop := WtOK m 9 ∧ RtL (ringsAll (cwq m 9) (m 9 0).toNat (m 1 0).toNat) m 9
theorem RtX.fr {m m' : MM} (h : RtX m) (e : ∀ A i, (A = 9 ∧ (i = 0 ∨ i = 5 ∨ i = 6 ∨ i = 7)) ∨ (10 ≤ A ∧ A ≤ 13) ∨ (A = 1 ∧ i = 0) → m' A i = m A i) : RtX m' := by
  have ec : cwq m' 9 = cwq m 9 := funext fun i => by
    unfold cwq
    rw [e (9 + 1) i (by omega), e (9 + 2) i (by omega), e (9 + 3) i (by omega), e (9 + 4) i (by omega)]
  unfold RtX RtL WtOK
  rw [ec, e 9 0 (by omega), e 1 0 (by omega), e 9 5 (by omega), e 9 6 (by omega), e 9 7 (by omega)]
  exact h
def WbX (m : MM) : Prop := WbS m ∧ Enum (cwq m 9) (m 9 0).toNat (NdC m (-1)) ∧ RtX m
theorem WbX.fr {m m' : MM} (h : WbX m) (e : ∀ A i, (A = 9 ∧ (i = 0 ∨ i = 5 ∨ i = 6 ∨ i = 7)) ∨ (10 ≤ A ∧ A ≤ 13) ∨ (0 < A ∧ A < 9 ∧ ¬ A = 4) → m' A i = m A i) : WbX m' := by
  have y := WbY.fr ⟨h.1, h.2.1⟩ (fun A i q => e A i (by omega))
  exact ⟨y.1, y.2, h.2.2.fr (fun A i q => e A i (by omega))⟩
end
section
/-! the rate is the greatest of the rings -/
theorem fr_tr {a b c d e f : Int} (hd : 0 < d) (hb : 0 ≤ b) (hf : 0 ≤ f) (h1 : a * d ≤ c * b) (h2 : c * f ≤ e * d) : a * f ≤ e * b := by
  have x1 : a * d * f ≤ c * b * f := Int.mul_le_mul_of_nonneg_right h1 hf
  have x2 : c * f * b ≤ e * d * b := Int.mul_le_mul_of_nonneg_right h2 hb
  have e1 : a * d * f = d * (a * f) := by rw [Int.mul_comm a d, Int.mul_assoc]
  have e2 : c * b * f = c * f * b := by rw [Int.mul_assoc, Int.mul_comm b f, ← Int.mul_assoc]
  have e3 : e * d * b = d * (e * b) := by rw [Int.mul_comm e d, Int.mul_assoc]
  exact Int.le_of_mul_le_mul_left (a := d) (by omega) hd
theorem wRg_1 {s : Int × Int × Int} {r : Rg3} (h1 : 0 ≤ s.1) (h2 : 1 ≤ s.2.1) (hr : 1 ≤ r.2.1) : 0 ≤ (wRg s r).1 ∧ 1 ≤ (wRg s r).2.1 ∧ s.1 * (wRg s r).2.1 ≤ (wRg s r).1 * s.2.1 ∧ (r.1 ≤ 0 ∨ r.1 * (wRg s r).2.1 ≤ (wRg s r).1 * r.2.1) ∧ (((wRg s r).1 = s.1 ∧ (wRg s r).2.1 = s.2.1) ∨ ((wRg s r).1 = r.1 ∧ (wRg s r).2.1 = r.2.1 ∧ 0 < r.1)) := by
  by_cases q1 : r.1 ≤ 0
  · have e : wRg s r = s := if_pos (Or.inl q1)
    rw [e]
    exact ⟨h1, h2, Int.le_refl _, Or.inl q1, Or.inl ⟨rfl, rfl⟩⟩
  · have e0 : wRg s r = if 0 < r.1 * s.2.1 - s.1 * r.2.1 then (r.1, r.2.1, r.2.2.toInt) else if r.1 * s.2.1 - s.1 * r.2.1 = 0 then (s.1, s.2.1, min s.2.2 r.2.2.toInt) else s := if_neg (by omega)
    by_cases q2 : 0 < r.1 * s.2.1 - s.1 * r.2.1
    · have e : wRg s r = (r.1, r.2.1, r.2.2.toInt) := by rw [e0, if_pos q2]
      rw [e]
      exact ⟨by show 0 ≤ r.1; omega, hr, by show s.1 * r.2.1 ≤ r.1 * s.2.1; omega, Or.inr (Int.le_refl _), Or.inr ⟨rfl, rfl, by omega⟩⟩
    · have e : (wRg s r).1 = s.1 ∧ (wRg s r).2.1 = s.2.1 := by
        rw [e0, if_neg q2]
        split
        · exact ⟨rfl, rfl⟩
        · exact ⟨rfl, rfl⟩
      rw [e.1, e.2]
      exact ⟨h1, h2, Int.le_refl _, Or.inr (by omega), Or.inl ⟨rfl, rfl⟩⟩
theorem wRg_mx : ∀ (L : List Rg3) (s : Int × Int × Int), 0 ≤ s.1 → 1 ≤ s.2.1 → (∀ r ∈ L, 1 ≤ r.2.1) → 0 ≤ (L.foldl wRg s).1 ∧ 1 ≤ (L.foldl wRg s).2.1 ∧ s.1 * (L.foldl wRg s).2.1 ≤ (L.foldl wRg s).1 * s.2.1 ∧ (∀ r ∈ L, r.1 ≤ 0 ∨ r.1 * (L.foldl wRg s).2.1 ≤ (L.foldl wRg s).1 * r.2.1) ∧ (((L.foldl wRg s).1 = s.1 ∧ (L.foldl wRg s).2.1 = s.2.1) ∨ ∃ r ∈ L, (L.foldl wRg s).1 = r.1 ∧ (L.foldl wRg s).2.1 = r.2.1 ∧ 0 < r.1)
  | [], s, h1, h2, _ => ⟨h1, h2, Int.le_refl _, fun _ h => absurd h List.not_mem_nil, Or.inl ⟨rfl, rfl⟩⟩
  | x :: l, s, h1, h2, h => by
    have hx := h x List.mem_cons_self
    obtain ⟨a1, a2, a3, a4, a5⟩ := wRg_1 h1 h2 hx
    obtain ⟨b1, b2, b3, b4, b5⟩ := wRg_mx l (wRg s x) a1 a2 (fun r hr => h r (List.mem_cons_of_mem _ hr))
    show 0 ≤ (l.foldl wRg (wRg s x)).1 ∧ 1 ≤ (l.foldl wRg (wRg s x)).2.1 ∧ s.1 * (l.foldl wRg (wRg s x)).2.1 ≤ (l.foldl wRg (wRg s x)).1 * s.2.1 ∧ (∀ r ∈ x :: l, r.1 ≤ 0 ∨ r.1 * (l.foldl wRg (wRg s x)).2.1 ≤ (l.foldl wRg (wRg s x)).1 * r.2.1) ∧ (((l.foldl wRg (wRg s x)).1 = s.1 ∧ (l.foldl wRg (wRg s x)).2.1 = s.2.1) ∨ ∃ r ∈ x :: l, (l.foldl wRg (wRg s x)).1 = r.1 ∧ (l.foldl wRg (wRg s x)).2.1 = r.2.1 ∧ 0 < r.1)
    generalize l.foldl wRg (wRg s x) = t at b1 b2 b3 b4 b5 ⊢
    refine ⟨b1, b2, fr_tr (by omega) (by omega) (by omega) a3 b3, fun r hr => ?_, ?_⟩
    · rcases List.mem_cons.mp hr with e | e
      · subst e
        exact a4.imp id (fun q => fr_tr (by omega) (by omega) (by omega) q b3)
      · exact b4 r e
    · rcases b5 with ⟨e1, e2⟩ | ⟨r, hr, e⟩
      · rcases a5 with ⟨f1, f2⟩ | ⟨f1, f2, f3⟩
        · exact Or.inl ⟨e1.trans f1, e2.trans f2⟩
        · exact Or.inr ⟨x, List.mem_cons_self, e1.trans f1, e2.trans f2, f3⟩
      · exact Or.inr ⟨r, List.mem_cons_of_mem _ hr, e⟩
end
section
/-! quotients, upwards -/
def upV (a b : Int) : Int := (a + b - 1) / b
theorem upV_of {a b r : Int} (hb : 0 < b) (h1 : b * (r - 1) < a) (h2 : a ≤ b * r) : r = upV a b := by
  unfold upV
  have d1 := Int.mul_ediv_add_emod (a + b - 1) b
  have d2 := Int.emod_nonneg (a + b - 1) (show b ≠ 0 by omega)
  have d3 := Int.emod_lt_of_pos (a + b - 1) hb
  generalize (a + b - 1) / b = q at d1 ⊢
  have e1 : b * (r - 1) = b * r - b := by rw [Int.mul_sub, Int.mul_one]
  have e2 : b * (r + 1) = b * r + b := by rw [Int.mul_add, Int.mul_one]
  have e3 : b * (q + 1) = b * q + b := by rw [Int.mul_add, Int.mul_one]
  have l1 : q < r + 1 := Int.lt_of_mul_lt_mul_left (a := b) (by omega) (by omega)
  have l2 : r < q + 1 := Int.lt_of_mul_lt_mul_left (a := b) (by omega) (by omega)
  omega
theorem ru_fin0 {a b z r w : Int} (h1 : 0 < b) (h2 : 0 ≤ a) (e : z = -a) (hz : -2147483647 ≤ z) (ra : b * r ≤ z) (rb : z < b * r + b) (r1 : -2147483648 ≤ r) (r2 : r ≤ 2147483647) (we : -2147483648 ≤ -r ∧ -r ≤ 2147483647 → w = -r) : w = upV a b := by
  rcases (show a = 0 ∨ 0 < a by omega) with q | q
  · have r0 : r = 0 := by
      rcases Int.lt_trichotomy r 0 with x | x | x
      · have := Int.mul_le_mul_of_nonneg_left (show r ≤ -1 by omega) (Int.le_of_lt h1)
        omega
      · exact x
      · have := Int.mul_le_mul_of_nonneg_left (show 1 ≤ r by omega) (Int.le_of_lt h1)
        omega
    subst r0
    have w0 := we (by omega)
    subst w0
    exact upV_of h1 (by omega) (by omega)
  · obtain ⟨x, y, -⟩ := ru_fin h1 q e hz ra rb r1 r2 we
    exact upV_of h1 x y
theorem upV_rg {a b : Int} (hb : 0 < b) (ha : 0 ≤ a) : 0 ≤ upV a b ∧ upV a b ≤ a := by
  have d1 := Int.mul_ediv_add_emod (a + b - 1) b
  have d2 := Int.emod_nonneg (a + b - 1) (show b ≠ 0 by omega)
  have d3 := Int.emod_lt_of_pos (a + b - 1) hb
  have e : upV a b = (a + b - 1) / b := rfl
  rw [← e] at d1
  exact up_rng hb ha (by rw [Int.mul_sub, Int.mul_one]; omega) (by omega)
end
section
/-! rings that are gone round, edge by edge, are the closed walks: no ring is above d times its distances just if no closed walk is above 0 -/
def EdQ (c : Nat → Q4) (n : Nat) (d : Int) (a b : Nat) (x : Int) : Prop := ∃ j : Nat, j < n ∧ (c j).1 = a ∧ (c j).2.1 = b ∧ x = (c j).2.2.2 - d * (c j).2.2.1
def EdV (c : Nat → Q4) (n o : Nat) : Prop := ∀ j, j < n → (∃ a b : Nat, (c j).1 = a ∧ (c j).2.1 = b ∧ a < o ∧ b < o) ∧ 0 ≤ (c j).2.2.1 ∧ ((c j).2.2.1 = 0 → (c j).1 < (c j).2.1)
def NoUp (E : Nat → Nat → Int → Prop) : Prop := ∀ a p v, p.Nodup → Wk E a p a v → v ≤ 0
theorem fmN_mem {f : Nat → List Rg3} {r : Rg3} : ∀ n, r ∈ fmN f n ↔ ∃ i, i < n ∧ r ∈ f i
  | 0 => ⟨fun h => absurd h List.not_mem_nil, fun ⟨i, h, _⟩ => by omega⟩
  | n + 1 => by
    show r ∈ fmN f n ++ f n ↔ _
    rw [List.mem_append, fmN_mem n]
    constructor
    · rintro (⟨i, h1, h2⟩ | h)
      · exact ⟨i, by omega, h2⟩
      · exact ⟨n, by omega, h⟩
    · rintro ⟨i, h1, h2⟩
      by_cases e : i = n
      · subst e; exact Or.inr h2
      · exact Or.inl ⟨i, by omega, h2⟩
theorem ringsAll_mem {c : Nat → Q4} {n : Nat} {r : Rg3} : ∀ o, r ∈ ringsAll c n o ↔ ∃ s : Nat, s < o ∧ r ∈ dfs c n (s : Int) 9 (s : Int) [] 0 0
  | 0 => ⟨fun h => absurd h List.not_mem_nil, fun ⟨i, h, _⟩ => by omega⟩
  | o + 1 => by
    show r ∈ ringsAll c n o ++ dfs c n (o : Int) 9 (o : Int) [] 0 0 ↔ _
    rw [List.mem_append, ringsAll_mem o]
    constructor
    · rintro (⟨i, h1, h2⟩ | h)
      · exact ⟨i, by omega, h2⟩
      · exact ⟨o, by omega, h⟩
    · rintro ⟨i, h1, h2⟩
      by_cases e : i = o
      · subst e; exact Or.inr h2
      · exact Or.inl ⟨i, by omega, h2⟩
section RNG
variable {c : Nat → Q4} {n o : Nat} {d : Int}
theorem dfE_mem {st a : Nat} {vis : List Int} {D W : Int} {rec : Int → List Int → Int → Int → List Rg3} {i : Nat} {b : Nat} (hb : (c i).2.1 = b) {r : Rg3} (h : r ∈ dfE (st : Int) (a : Int) vis D W rec (c i)) : (c i).1 = a ∧ st ≤ b ∧ ((b = st ∧ r = (D + (c i).2.2.2, W + (c i).2.2.1, X1 (st : Int) ||| pmK vis)) ∨ (¬ b = st ∧ ¬ (b : Int) ∈ vis ∧ r ∈ rec (b : Int) ((b : Int) :: vis) (D + (c i).2.2.2) (W + (c i).2.2.1))) := by
  unfold dfE at h
  by_cases q1 : ¬ (c i).1 = a ∨ (c i).2.1 < (st : Int)
  · rw [if_pos q1] at h
    exact absurd h List.not_mem_nil
  · rw [if_neg q1] at h
    refine ⟨by omega, by omega, ?_⟩
    by_cases q2 : (c i).2.1 = (st : Int)
    · rw [if_pos q2] at h
      exact Or.inl ⟨by omega, List.mem_singleton.mp h⟩
    · rw [if_neg q2] at h
      by_cases q3 : (c i).2.1 ∈ vis
      · rw [if_pos q3] at h
        exact absurd h List.not_mem_nil
      · rw [if_neg q3] at h
        rw [hb] at q3 h
        exact Or.inr ⟨by omega, q3, h⟩
theorem dfs_wk (hV : EdV c n o) {st : Nat} : ∀ (f : Nat) (a : Nat) (vis : List Int) (D W : Int) (r : Rg3), r ∈ dfs c n (st : Int) f (a : Int) vis D W → ∃ p v, p.Nodup ∧ (∀ x ∈ p, st < x ∧ ¬ (x : Int) ∈ vis) ∧ Wk (EdQ c n d) a p st v ∧ r.1 - d * r.2.1 = D - d * W + v
  | 0, a, vis, D, W, r, h => absurd h List.not_mem_nil
  | f + 1, a, vis, D, W, r, h => by
    obtain ⟨i, hi, hr⟩ := (fmN_mem n).mp h
    obtain ⟨⟨u, b, hu, hb, -, -⟩, -, -⟩ := hV i hi
    obtain ⟨e1, e2, h⟩ := dfE_mem hb hr
    have ed : EdQ c n d a b ((c i).2.2.2 - d * (c i).2.2.1) := ⟨i, hi, e1, hb, rfl⟩
    rcases h with ⟨e3, e4⟩ | ⟨e3, e4, e5⟩
    · subst e3
      subst e4
      refine ⟨[], _, List.nodup_nil, fun x hx => absurd hx List.not_mem_nil, ed, ?_⟩
      show D + (c i).2.2.2 - d * (W + (c i).2.2.1) = _
      rw [Int.mul_add]; omega
    · obtain ⟨p, v, g1, g2, g3, g4⟩ := dfs_wk hV f b _ _ _ r e5
      refine ⟨b :: p, _, List.nodup_cons.mpr ⟨fun w => (g2 b w).2 List.mem_cons_self, g1⟩, fun x hx => ?_, ⟨_, _, ed, g3, rfl⟩, ?_⟩
      · rcases List.mem_cons.mp hx with rfl | hx
        · exact ⟨by omega, e4⟩
        · exact ⟨(g2 x hx).1, fun w => (g2 x hx).2 (List.mem_cons_of_mem _ w)⟩
      · rw [g4, Int.mul_add]; omega
theorem wk_dfs {st : Nat} : ∀ (p : List Nat) (f a : Nat) (vis : List Int) (D W v : Int), p.length < f → p.Nodup → (∀ x ∈ p, st < x ∧ ¬ (x : Int) ∈ vis) → Wk (EdQ c n d) a p st v → ∃ r, r ∈ dfs c n (st : Int) f (a : Int) vis D W ∧ r.1 - d * r.2.1 = D - d * W + v
  | [], f, a, vis, D, W, v, hf, _, _, ⟨j, h1, h2, h3, h4⟩ => by
    obtain ⟨f, rfl⟩ : ∃ k, f = k + 1 := ⟨f - 1, by simp at hf; omega⟩
    refine ⟨(D + (c j).2.2.2, W + (c j).2.2.1, X1 (st : Int) ||| pmK vis), (fmN_mem n).mpr ⟨j, h1, ?_⟩, ?_⟩
    · unfold dfE
      rw [if_neg (by omega), if_pos h3]
      exact List.mem_singleton.mpr rfl
    · show D + (c j).2.2.2 - d * (W + (c j).2.2.1) = _
      rw [Int.mul_add]; omega
  | b :: p, f, a, vis, D, W, v, hf, hn, hp, ⟨x, y, ⟨j, h1, h2, h3, h4⟩, h5, h6⟩ => by
    rw [List.length_cons] at hf
    obtain ⟨f, rfl⟩ : ∃ k, f = k + 1 := ⟨f - 1, by omega⟩
    have hb := hp b List.mem_cons_self
    rw [List.nodup_cons] at hn
    obtain ⟨r, r1, r2⟩ := wk_dfs p f b ((b : Int) :: vis) (D + (c j).2.2.2) (W + (c j).2.2.1) y (by omega) hn.2 (fun z hz => ⟨(hp z (List.mem_cons_of_mem _ hz)).1, fun w => by
      rcases List.mem_cons.mp w with w | w
      · have : z = b := by omega
        subst this
        exact hn.1 hz
      · exact (hp z (List.mem_cons_of_mem _ hz)).2 w⟩) h5
    refine ⟨r, (fmN_mem n).mpr ⟨j, h1, ?_⟩, ?_⟩
    · unfold dfE
      rw [if_neg (by omega), if_neg (by omega), if_neg (by rw [h3]; exact hb.2), h3]
      exact r1
    · rw [r2, h6, h4, Int.mul_add]; omega
theorem least_in : ∀ (l : List Nat) (a : Nat), ∃ l1 m l2, a :: l = l1 ++ m :: l2 ∧ ∀ x ∈ a :: l, m ≤ x
  | [], a => ⟨[], a, [], rfl, fun x hx => by rw [List.mem_singleton.mp hx]; omega⟩
  | b :: l, a => by
    obtain ⟨l1, m, l2, e, h⟩ := least_in l b
    by_cases q : a ≤ m
    · refine ⟨[], a, b :: l, rfl, fun x hx => ?_⟩
      rcases List.mem_cons.mp hx with rfl | hx
      · omega
      · have := h x hx; omega
    · refine ⟨a :: l1, m, l2, by rw [e]; rfl, fun x hx => ?_⟩
      rcases List.mem_cons.mp hx with rfl | hx
      · omega
      · exact h x hx
theorem Wk.ends {E : Nat → Nat → Int → Prop} (hV : ∀ a b x, E a b x → a < o ∧ b < o) : ∀ {p : List Nat} {a b : Nat} {v : Int}, Wk E a p b v → a < o ∧ b < o ∧ ∀ x ∈ p, x < o
  | [], a, b, v, h => ⟨(hV a b v h).1, (hV a b v h).2, fun x hx => absurd hx List.not_mem_nil⟩
  | e :: p, a, b, v, ⟨x, y, h4, h5, h6⟩ => by
    obtain ⟨k1, k2, k3⟩ := Wk.ends hV h5
    refine ⟨(hV _ _ _ h4).1, k2, fun z hz => ?_⟩
    rcases List.mem_cons.mp hz with rfl | hz
    · exact k1
    · exact k3 z hz
theorem EdQ.v (hV : EdV c n o) (a b : Nat) (x : Int) (h : EdQ c n d a b x) : a < o ∧ b < o := by
  obtain ⟨j, h1, h2, h3, h4⟩ := h
  obtain ⟨⟨u, w, hu, hw, h5, h6⟩, -, -⟩ := hV j h1
  omega
theorem noup_of (ho : o ≤ 8) (hV : EdV c n o) (hR : ∀ r ∈ ringsAll c n o, r.1 ≤ d * r.2.1) : ∀ (N : Nat) (p : List Nat) (a : Nat) (v : Int), p.length < N → p.Nodup → Wk (EdQ c n d) a p a v → v ≤ 0 := by
  intro N
  induction N with
  | zero => intros; omega
  | succ N ih =>
    intro p a v hN hn hw
    by_cases ha : a ∈ p
    · obtain ⟨p1, p2, rfl⟩ := List.append_of_mem ha
      obtain ⟨x, y, h1, h2, h3⟩ := Wk.split hw
      rw [List.nodup_append, List.nodup_cons] at hn
      rw [List.length_append, List.length_cons] at hN
      have := ih p1 a x (by omega) hn.1 h1
      have := ih p2 a y (by omega) hn.2.1.2 h2
      omega
    · have hna : (a :: p).Nodup := List.nodup_cons.mpr ⟨ha, hn⟩
      obtain ⟨-, -, he⟩ := Wk.ends (EdQ.v hV) hw
      have hao := (Wk.ends (EdQ.v hV) hw).1
      obtain ⟨l1, m, l2, e, hm⟩ := least_in p a
      have done : ∀ q v', q.Nodup → (∀ x ∈ q, m < x) → Wk (EdQ c n d) m q m v' → v' ≤ 0 := by
        intro q v' q1 q2 q3
        have hmo := (Wk.ends (EdQ.v hV) q3).1
        have hl := nd_len (k := 8) q1 (fun x hx => by have := (Wk.ends (EdQ.v hV) q3).2.2 x hx; omega)
        obtain ⟨r, r1, r2⟩ := wk_dfs (st := m) q 9 m [] 0 0 v' (by omega) q1 (fun x hx => ⟨q2 x hx, List.not_mem_nil⟩) q3
        have := hR r ((ringsAll_mem o).mpr ⟨m, hmo, r1⟩)
        rw [Int.mul_zero] at r2
        omega
      rw [e] at hna hm
      rw [List.nodup_append, List.nodup_cons] at hna
      obtain ⟨n1, ⟨n2, n3⟩, n4⟩ := hna
      cases l1 with
      | nil =>
        obtain ⟨e1, e2⟩ := List.cons.inj (show a :: p = m :: l2 from e)
        subst e1
        subst e2
        exact done p v hn (fun x hx => by
          have := hm x (List.mem_cons_of_mem _ hx)
          have : ¬ x = a := fun w => ha (by rw [← w]; exact hx)
          omega) hw
      | cons b l1 =>
        obtain ⟨e1, e2⟩ := List.cons.inj (show a :: p = b :: (l1 ++ m :: l2) from e)
        subst e1
        subst e2
        obtain ⟨x, y, h1, h2, h3⟩ := Wk.split hw
        have w := Wk.app h2 h1
        have := done (l2 ++ a :: l1) (y + x) (by
          rw [List.nodup_append]
          exact ⟨n3, n1, fun u hu w hw => fun z => n4 w hw u (List.mem_cons_of_mem _ hu) z.symm⟩) (fun u hu => by
          have h1 := hm u (by
            rw [List.mem_append] at hu ⊢
            exact hu.elim (fun h => Or.inr (List.mem_cons_of_mem _ h)) Or.inl)
          have : ¬ u = m := fun w => by
            subst w
            rcases List.mem_append.mp hu with h | h
            · exact n2 h
            · exact n4 u h u List.mem_cons_self rfl
          omega) w
        omega
theorem rings_noup (ho : o ≤ 8) (hV : EdV c n o) : (∀ r ∈ ringsAll c n o, r.1 ≤ d * r.2.1) ↔ NoUp (EdQ c n d) := by
  refine ⟨fun h a p v hn hw => noup_of ho hV h _ p a v (Nat.lt_succ_self _) hn hw, fun h r hr => ?_⟩
  obtain ⟨s, hs, hr⟩ := (ringsAll_mem o).mp hr
  obtain ⟨p, v, g1, -, g3, g4⟩ := dfs_wk (d := d) hV 9 s [] 0 0 r hr
  have := h s p v g1 g3
  rw [Int.mul_zero] at g4
  omega
theorem dfs_dist (hV : EdV c n o) {st : Nat} : ∀ (f : Nat) (a : Nat) (vis : List Int) (D W : Int) (r : Rg3), r ∈ dfs c n (st : Int) f (a : Int) vis D W → W < r.2.1 ∨ (W = r.2.1 ∧ a < st)
  | 0, a, vis, D, W, r, h => absurd h List.not_mem_nil
  | f + 1, a, vis, D, W, r, h => by
    obtain ⟨i, hi, hr⟩ := (fmN_mem n).mp h
    obtain ⟨⟨u, b, hu, hb, -, -⟩, k1, k2⟩ := hV i hi
    obtain ⟨e1, e2, h⟩ := dfE_mem hb hr
    rcases h with ⟨e3, e4⟩ | ⟨e3, e4, e5⟩
    · subst e4
      show W < W + (c i).2.2.1 ∨ (W = W + (c i).2.2.1 ∧ a < st)
      by_cases z : (c i).2.2.1 = 0
      · have := k2 z; omega
      · omega
    · have := dfs_dist hV f b _ _ _ r e5
      by_cases z : (c i).2.2.1 = 0
      · have := k2 z; omega
      · omega
theorem ring_dist (hV : EdV c n o) {r : Rg3} (h : r ∈ ringsAll c n o) : 1 ≤ r.2.1 := by
  obtain ⟨s, hs, hr⟩ := (ringsAll_mem o).mp h
  have := dfs_dist hV 9 s [] 0 0 r hr
  omega
end RNG
theorem fold_all {L : List Rg3} (hL : ∀ r ∈ L, 1 ≤ r.2.1) {d : Int} (hd : 0 ≤ d) : (∀ r ∈ L, r.1 ≤ d * r.2.1) ↔ (L.foldl wRg (0, 1, 0)).1 ≤ d * (L.foldl wRg (0, 1, 0)).2.1 := by
  obtain ⟨h1, h2, -, h4, h5⟩ := wRg_mx L (0, 1, 0) (Int.le_refl _) (Int.le_refl _) hL
  generalize L.foldl wRg (0, 1, 0) = s at h1 h2 h4 h5 ⊢
  constructor
  · intro h
    rcases h5 with ⟨e1, e2⟩ | ⟨r, hr, e1, e2, -⟩
    · have e1 : s.1 = 0 := e1
      have e2 : s.2.1 = 1 := e2
      rw [e1, e2]; omega
    · rw [e1, e2]; exact h r hr
  · intro h r hr
    have w := hL r hr
    rcases h4 r hr with q | q
    · have := Int.mul_nonneg hd (show 0 ≤ r.2.1 by omega)
      omega
    · have q2 : s.1 * r.2.1 ≤ d * s.2.1 * r.2.1 := Int.mul_le_mul_of_nonneg_right h (by omega)
      have e : d * s.2.1 * r.2.1 = d * r.2.1 * s.2.1 := by rw [Int.mul_assoc, Int.mul_comm s.2.1, ← Int.mul_assoc]
      exact Int.le_of_mul_le_mul_right (a := s.2.1) (by omega) (by omega)
theorem RtL.rnd {L : List Rg3} {m : MM} {W : Nat} (h : RtL L m W) (hL : ∀ r ∈ L, 1 ≤ r.2.1) {d : Int} (hd : 0 ≤ d) : (∀ r ∈ L, r.1 ≤ d * r.2.1) ↔ m W 5 ≤ d * m W 6 := by
  obtain ⟨h1, h2, -, -, -⟩ := wRg_mx L (0, 1, 0) (Int.le_refl _) (Int.le_refl _) hL
  obtain ⟨g, hg, e5, e6, -⟩ := h
  rw [fold_all hL hd]
  obtain ⟨a1, a2, -⟩ := hg.red h1 (by omega)
  rw [← e5] at a1
  rw [← e6] at a2
  have g0 := hg.1
  rw [a1, a2, Int.mul_left_comm]
  exact ⟨fun q => Int.le_of_mul_le_mul_left q g0, fun q => Int.mul_le_mul_of_nonneg_left q (Int.le_of_lt g0)⟩
end
section
/-! rounds of the reference, exactly: the least d by which no closed walk is above 0 -/
def RdsM (E : Int → Nat → Nat → Int → Prop) (r : Int) : Prop := NoUp (E r) ∧ ∀ d, 0 ≤ d → d < r → ¬ NoUp (E d)
theorem upV_le {U L d : Int} (hU : 0 ≤ U) (hL : 0 < L) (hd : 0 ≤ d) : upV U L ≤ d ↔ U ≤ d * L := by
  have d1 := Int.mul_ediv_add_emod (U + L - 1) L
  have d2 := Int.emod_nonneg (U + L - 1) (show L ≠ 0 by omega)
  have d3 := Int.emod_lt_of_pos (U + L - 1) hL
  have e : upV U L = (U + L - 1) / L := rfl
  rw [← e] at d1
  rw [Int.mul_comm] at d1
  constructor
  · intro h
    have := Int.mul_le_mul_of_nonneg_right h (Int.le_of_lt hL)
    omega
  · intro h
    have e2 : (d + 1) * L = d * L + L := by rw [Int.add_mul, Int.one_mul]
    have := Int.lt_of_mul_lt_mul_right (show upV U L * L < (d + 1) * L by omega) (Int.le_of_lt hL)
    omega
theorem RdsM.eq {E : Int → Nat → Nat → Int → Prop} {r U L : Int} (h : RdsM E r) (hr : 0 ≤ r) (hU : 0 ≤ U) (hL : 0 < L) (hE : ∀ d, 0 ≤ d → (NoUp (E d) ↔ U ≤ d * L)) : r = upV U L := by
  have g0 := (upV_rg hL hU).1
  have a1 := (upV_le hU hL hr).mpr ((hE r hr).mp h.1)
  by_cases q : upV U L < r
  · exact absurd ((hE _ g0).mpr ((upV_le hU hL g0).mp (Int.le_refl _))) (h.2 _ g0 q)
  · omega
theorem WayOK.noup {m : MM} {d : Int} (hN : NdsOK m) (hd : 0 ≤ d ∧ d ≤ 48) (hW : WayOK m d) : (∀ o : Nat, (o : Int) < m 143 1 → WM m 158 o o ≤ 0) ↔ NoUp (NdE m d) := by
  have hV : ∀ a b x, NdE m d a b x → a < (m 143 1).toNat ∧ b < (m 143 1).toNat := fun a b x h => by
    have := NdE.rng hN hd h; omega
  have h8 := hN.1
  have aup := NdE.aup hN hd
  constructor
  · intro h a p v hn hw
    obtain ⟨k1, -, k3⟩ := Wk.ends hV hw
    have hl := nd_len (k := 8) hn (fun x hx => by have := k3 x hx; omega)
    by_cases q : -999 + 99 * (p.length : Int) ≤ v
    · have := hW.2.1 aup a a k1 k1 p v hn k3 hw q
      have := h a (by omega)
      omega
    · omega
  · intro h o ho
    obtain ⟨φ, -, h2⟩ := pot (E := NdE m d) (k := (m 143 1).toNat) (B := 99) hV (fun a p v _ hn _ hw => h a p v hn hw) (fun a p b v hb hn hp hw => aup a p b v (List.nodup_cons.mp (List.nodup_cons.mp hn).2).2 (fun c hc => by have := hp c (List.mem_cons_of_mem _ hc); omega) hw)
    by_cases q : -1000 < WM m 158 o o
    · have := hW.2.2.2.1 φ h2 o o (by omega) (by omega) q
      omega
    · omega
theorem NdE.q {m : MM} (h18 : m 143 18 = -1) (h12 : 0 ≤ m 143 12) {d : Int} : NdE m d = EdQ (rq m) (m 143 12).toNat d := by
  funext a b x
  refine propext ⟨?_, ?_⟩
  · rintro ⟨j, h1, -, h2, h3, h4⟩
    exact ⟨j, by omega, h2, h3, h4⟩
  · rintro ⟨j, h1, h2, h3, h4⟩
    exact ⟨j, by omega, by omega, h2, h3, h4⟩
theorem NdsOK.v {m : MM} (h : NdsOK m) : EdV (rq m) (m 143 12).toNat (m 143 1).toNat := by
  intro j hj
  obtain ⟨p1, p2, p3, p4, p5, p6, p7, p8, p9⟩ := h.2.2 j (by omega)
  refine ⟨⟨(m 154 j).toNat, (m 155 j).toNat, ?_, ?_, by omega, by omega⟩, p5, fun z => ?_⟩
  · show m 154 j = _; omega
  · show m 155 j = _; omega
  · have z : m 156 j = 0 := z
    show m 154 j < m 155 j
    omega
theorem EdQ_cg {c c' : Nat → Q4} {n : Nat} {d : Int} (h : ∀ i, i < n → c i = c' i) : EdQ c n d = EdQ c' n d := by
  funext a b x
  refine propext ⟨?_, ?_⟩
  · rintro ⟨j, h1, h2, h3, h4⟩
    exact ⟨j, h1, by rw [← h j h1]; exact h2, by rw [← h j h1]; exact h3, by rw [← h j h1]; exact h4⟩
  · rintro ⟨j, h1, h2, h3, h4⟩
    exact ⟨j, h1, by rw [h j h1]; exact h2, by rw [h j h1]; exact h3, by rw [h j h1]; exact h4⟩
theorem RtL.noup {c : Nat → Q4} {n o : Nat} {m : MM} {W : Nat} (ho : o ≤ 8) (hV : EdV c n o) (h : RtL (ringsAll c n o) m W) {d : Int} (hd : 0 ≤ d) : NoUp (EdQ c n d) ↔ m W 5 ≤ d * m W 6 := (rings_noup ho hV).symm.trans (h.rnd (fun _ hr => ring_dist hV hr) hd)
section RND2
variable {S : Nat × (Nat → Int32)} {n : Nat} {mem : MM} {K : Int → MM → Prop}
theorem f_255e (hN : NdsOK mem) (H : ∀ r m', 0 ≤ r → r ≤ 48 → Fr1 158 mem m' → RdsM (NdE mem) r → K r m') : CWI (Ex S (n + 3)) 255 [.inr 143] mem K := by
  have key : ∀ (N : Nat) (d : Int) (m : MM), 0 ≤ d → d ≤ 48 → 48 - d < N → Fr1 158 mem m → WayOK m d → (∀ d', 0 ≤ d' → d' < d → ¬ NoUp (NdE mem d')) → Wx (Ex S (n + 2)) S M_255 (fun r m => ∃ y, r = some y ∧ K y m) 7 [some (.inr 143), some (.inl d)] [] m := by
    intro N
    induction N with
    | zero => intros; omega
    | succ N ih =>
      intro d m hd1 hd2 hNN hF hW hL
      have hN2 := hN.fr hF
      have hup := WayOK.noup hN2 ⟨hd1, hd2⟩ hW
      rw [NdE.fr hF] at hup
      refine w_255_7 (Ex.mono S (n + 2)) (f_259 hN2.1 (fun hyes _ => ⟨fun _ _ => ⟨_, rfl, H d m hd1 hd2 hF ⟨hup.mp hyes, hL⟩⟩, fun q => absurd (by decide) q⟩) (fun hno _ => ⟨fun q => absurd rfl q, fun _ => ?_⟩))
      have hd3 : d < 48 := by
        by_cases e : d = 48
        · subst e
          exact absurd (fun o ho => diag48 hN2 hW o ho) hno
        · omega
      refine ⟨by unfold InI; omega, f_256 hN2 ⟨by omega, by omega⟩ (fun m' h1 h2 => ?_)⟩
      refine ih (d + 1) m' (by omega) (by omega) (by omega) (hF.tr h1) h2 (fun d' g1 g2 => ?_)
      by_cases e : d' = d
      · subst e; exact fun z => hno (hup.mpr z)
      · exact hL d' g1 (by omega)
  exact CW.of (k := 1) mt_255 rfl rfl (w_255_0 (Ex.mono S (n + 2)) (f_256 hN ⟨by omega, by omega⟩ (fun m' h1 h2 => key 49 0 m' (by omega) (by omega) (by omega) h1 h2 (fun d' g1 g2 => by omega))))
theorem f_254e {d : Int} (hO : OpsOK mem) (H1 : ∀ m', FrW mem m' → RN mem m' → (SoundM mem → NdsOK m' ∧ m' 143 12 ≤ 44 ∧ Enum (rq m') (m' 143 12).toNat (NdF mem) ∧ ∃ r, 0 ≤ r ∧ RdsM (NdE m') r ∧ d < r) → K 1 m') (H0 : ∀ m', FrW mem m' → RN mem m' → SoundM mem → NdsOK m' → m' 143 12 ≤ 44 → Enum (rq m') (m' 143 12).toNat (NdF mem) → (∃ r, 0 ≤ r ∧ RdsM (NdE m') r ∧ r ≤ d) → K 0 m') : CWI (Ex S (n + 4)) 254 [.inr 143, .inl d] mem K := by
  refine CW.of (k := 0) mt_254 rfl rfl (w_254_0 (Ex.mono S (n + 3)) (f_240 hO (fun hS _ => ⟨fun _ => ?_, fun q => absurd (by decide) q⟩) (fun hS _ => ⟨fun q => absurd rfl q, fun _ => ⟨_, rfl, H1 mem FrW.rf RN.rf (fun z => absurd z hS)⟩⟩)))
  refine f_245e hO hS (fun m1 g1 g5 g2 g3 g4 gE => ?_)
  have hRN : RN mem m1 := ⟨g5, fun _ => ⟨g2, g3⟩⟩
  have hN := NdsOK.of hO g1 g2 g3 g4
  refine f_255e hN (fun r m2 r1 r2 k1 kR => ?_)
  have e12 : m2 143 12 = m1 143 12 := k1 143 12 (by omega)
  have eq : rq m2 = rq m1 := funext fun i => by
    unfold rq
    rw [k1 154 i (by omega), k1 155 i (by omega), k1 156 i (by omega), k1 157 i (by omega)]
  have eE : Enum (rq m2) (m2 143 12).toNat (NdF mem) := by rw [eq, e12]; exact gE
  have eR : RdsM (NdE m2) r := by
    have : NdE m2 = NdE m1 := funext fun d => NdE.fr k1 d
    rw [this]; exact kR
  exact fun _ => ⟨fun q => ⟨_, rfl, H0 m2 (g1.w.tr k1.w) (hRN.tr (k1.rn (by omega))) hS (hN.fr k1) (by omega) eE ⟨r, r1, eR, by omega⟩⟩, fun q => ⟨_, rfl, H1 m2 (g1.w.tr k1.w) (hRN.tr (k1.rn (by omega))) (fun _ => ⟨hN.fr k1, by omega, eE, r, r1, eR, by omega⟩)⟩⟩
end RND2
end
section
/-! ways of needs: the greatest of all walks; how both sides draw them -/
def WyV (E : Nat → Nat → Int → Prop) (nn : Int) (a b : Nat) (w : Int) : Prop := (w = nn ∧ ∀ p v, ¬ Wk E a p b v) ∨ (¬ w = nn ∧ (∃ p, Wk E a p b w) ∧ ∀ p v, Wk E a p b v → v ≤ w)
theorem WyV.eq {E : Nat → Nat → Int → Prop} {n1 n2 w1 w2 : Int} {a b : Nat} (h1 : WyV E n1 a b w1) (h2 : WyV E n2 a b w2) : (w1 = n1 ∧ w2 = n2) ∨ (¬ w1 = n1 ∧ ¬ w2 = n2 ∧ w1 = w2) := by
  rcases h1 with ⟨e1, g1⟩ | ⟨e1, ⟨p1, g1⟩, k1⟩
  · rcases h2 with ⟨e2, g2⟩ | ⟨e2, ⟨p2, g2⟩, k2⟩
    · exact Or.inl ⟨e1, e2⟩
    · exact absurd g2 (g1 _ _)
  · rcases h2 with ⟨e2, g2⟩ | ⟨e2, ⟨p2, g2⟩, k2⟩
    · exact absurd g1 (g2 _ _)
    · have a1 := k1 _ _ g2
      have a2 := k2 _ _ g1
      exact Or.inr ⟨e1, e2, by omega⟩
def FwH (E : Nat → Nat → Int → Prop) (k : Nat) : Prop := k ≤ 8 ∧ NoUp E ∧ ∀ a b x, E a b x → (a < k ∧ b < k) ∧ -89 ≤ x ∧ x ≤ 6
def FwC (E : Nat → Nat → Int → Prop) (k A : Nat) (nn : Int) (mem : MM) (m a b : Nat) : Prop :=
  (∀ a' b', a' < k → b' < k → WM mem A a' b' = nn ∨ ∃ p, (∀ c ∈ p, c < m ∨ (c = m ∧ (a' < a ∨ (a' = a ∧ b' < b)))) ∧ Wk E a' p b' (WM mem A a' b')) ∧
  (∀ a' b', a' < k → b' < k → ∀ p v, p.Nodup → (∀ c ∈ p, c < m) → Wk E a' p b' v → v ≤ WM mem A a' b') ∧
  (∀ a' b', a' < k → b' < k → (a' < a ∨ (a' = a ∧ b' < b)) → ∀ p v, p.Nodup → (∀ c ∈ p, c < m + 1) → Wk E a' p b' v → v ≤ WM mem A a' b')
section FWC
variable {E : Nat → Nat → Int → Prop} {k A : Nat} {nn : Int} {mem : MM} {m a b : Nat}
theorem Wk.red (hU : NoUp E) : ∀ (p : List Nat) (a b : Nat) (v : Int), Wk E a p b v → ∃ p' v', p'.Nodup ∧ (∀ c ∈ p', c ∈ p) ∧ Wk E a p' b v' ∧ v ≤ v'
  | [], a, b, v, h => ⟨[], v, List.nodup_nil, fun _ h => h, h, Int.le_refl _⟩
  | c :: q, a, b, v, ⟨x, y, h1, h2, h3⟩ => by
    obtain ⟨q', y', g1, g2, g3, g4⟩ := Wk.red hU q c b y h2
    by_cases hc : c ∈ q'
    · obtain ⟨q1, q2, rfl⟩ := List.append_of_mem hc
      obtain ⟨x1, y2, k1, k2, k3⟩ := Wk.split g3
      rw [List.nodup_append] at g1
      have up := hU c q1 x1 g1.1 k1
      refine ⟨c :: q2, x + y2, g1.2.1, fun e he => ?_, ⟨x, y2, h1, k2, rfl⟩, by omega⟩
      rcases List.mem_cons.mp he with rfl | he
      · exact List.mem_cons_self
      · exact List.mem_cons_of_mem _ (g2 e (List.mem_append_right _ (List.mem_cons_of_mem _ he)))
    · refine ⟨c :: q', x + y', List.nodup_cons.mpr ⟨hc, g1⟩, fun e he => ?_, ⟨x, y', h1, g3, rfl⟩, by omega⟩
      rcases List.mem_cons.mp he with rfl | he
      · exact List.mem_cons_self
      · exact List.mem_cons_of_mem _ (g2 e he)
theorem Wk.ge {c : Int} (hc : 0 ≤ c) (hE : ∀ a b x, E a b x → -c ≤ x) : ∀ {p : List Nat} {a b : Nat} {v : Int}, Wk E a p b v → -(c * ((p.length : Int) + 1)) ≤ v
  | [], a, b, v, h => by have := hE a b v h; simp; omega
  | e :: p, a, b, v, ⟨x, y, h1, h2, h3⟩ => by
    have := hE _ _ _ h1
    have := Wk.ge hc hE h2
    rw [List.length_cons]
    have e1 : c * ((p.length + 1 : Nat) + 1 : Int) = c * (p.length + 1) + c := by
      rw [Int.natCast_add]
      show c * ((p.length : Int) + 1 + 1) = _
      rw [Int.mul_add, Int.mul_one]
    omega
theorem FwH.v (h : FwH E k) (a b : Nat) (x : Int) (e : E a b x) : a < k ∧ b < k := (h.2.2 a b x e).1
theorem FwH.rg (h : FwH E k) {p : List Nat} {a b : Nat} {v : Int} (hn : p.Nodup) (hw : Wk E a p b v) : -801 ≤ v ∧ v ≤ 54 := by
  have l := nd_len (k := 8) hn (fun x hx => by have := (Wk.ends h.v hw).2.2 x hx; have := h.1; omega)
  have g := Wk.ge (c := 89) (by omega) (fun a b x e => by have := h.2.2 a b x e; omega) hw
  have u := Wk.le6 (c := 6) (by omega) (fun a b x e => (h.2.2 a b x e).2.2) hw
  omega
theorem FwH.up (h : FwH E k) {p : List Nat} {a b : Nat} {v : Int} (hw : Wk E a p b v) : v ≤ 54 := by
  obtain ⟨p', v', g1, -, g3, g4⟩ := Wk.red h.2.1 p a b v hw
  have := h.rg g1 g3
  omega
theorem FwC.rg (h : FwH E k) (hI : FwC E k A nn mem m a b) {a' b' : Nat} (ha : a' < k) (hb : b' < k) : WM mem A a' b' = nn ∨ (-801 ≤ WM mem A a' b' ∧ WM mem A a' b' ≤ 54) := by
  rcases hI.1 a' b' ha hb with e | ⟨p, h1, h2⟩
  · exact Or.inl e
  · right
    obtain ⟨p', v', g1, g2, g3, g4⟩ := Wk.red h.2.1 p a' b' _ h2
    have r := h.rg g1 g3
    have u := h.up h2
    by_cases q : a' < a ∨ (a' = a ∧ b' < b)
    · have := hI.2.2 a' b' ha hb q p' v' g1 (fun c hc => by have := h1 c (g2 c hc); omega) g3
      omega
    · have := hI.2.1 a' b' ha hb p' v' g1 (fun c hc => by have := h1 c (g2 c hc); omega) g3
      omega
theorem FwC.le {p : List Nat} {v : Int} (hI : FwC E k A nn mem m a b) (h : FwH E k) (hn : nn < -801) (hm : m < k) (ha : a < k) (hb : b < k) {x : Int} (hx : x = nn ∨ ∃ p, (∀ c ∈ p, c < m + 1) ∧ Wk E a p m x) (hl : ∀ p v, p.Nodup → (∀ c ∈ p, c < m) → Wk E a p m v → v ≤ x) (h1 : p.Nodup) (h2 : ∀ c ∈ p, c < m + 1) (h3 : Wk E a p b v) : v ≤ WM mem A a b ∨ (¬ x = nn ∧ ¬ WM mem A m b = nn ∧ v ≤ x + WM mem A m b) := by
  by_cases hmp : m ∈ p
  · right
    obtain ⟨p1, p2, rfl⟩ := List.append_of_mem hmp
    obtain ⟨v1, v2, g1, g2, g3⟩ := Wk.split h3
    rw [List.nodup_append, List.nodup_cons] at h1
    obtain ⟨n1, ⟨n2, n3⟩, n4⟩ := h1
    have k1 := hl p1 v1 n1 (fun c hc => by
      have := h2 c (List.mem_append_left _ hc)
      have : ¬ c = m := fun e => n4 c hc m List.mem_cons_self e
      omega) g1
    have k2 := hI.2.1 m b hm hb p2 v2 n3 (fun c hc => by
      have := h2 c (List.mem_append_right _ (List.mem_cons_of_mem _ hc))
      have : ¬ c = m := fun e => by subst e; exact n2 hc
      omega) g2
    have r1 := h.rg n1 g1
    have r2 := h.rg n3 g2
    exact ⟨by omega, by omega, by omega⟩
  · exact Or.inl (hI.2.1 a b ha hb p v h1 (fun c hc => by
      have := h2 c hc
      have : ¬ c = m := fun e => by subst e; exact hmp hc
      omega) h3)
theorem FwC.skip (hI : FwC E k A nn mem m a b) (h : FwH E k) (hn : nn < -801) (hm : m < k) (ha : a < k) (hb : b < k) {x : Int} (hx : x = nn ∨ ∃ p, (∀ c ∈ p, c < m + 1) ∧ Wk E a p m x) (hl : ∀ p v, p.Nodup → (∀ c ∈ p, c < m) → Wk E a p m v → v ≤ x) (q : x = nn ∨ WM mem A m b = nn) : FwC E k A nn mem m a (b + 1) := by
  refine ⟨fun i j hi hj => ?_, hI.2.1, fun i j hi hj hl2 p v h1 h2 h3 => ?_⟩
  · rcases hI.1 i j hi hj with e | ⟨p, g1, g2⟩
    · exact Or.inl e
    · exact Or.inr ⟨p, fun c hc => by have := g1 c hc; omega, g2⟩
  · by_cases w : i < a ∨ (i = a ∧ j < b)
    · exact hI.2.2 i j hi hj w p v h1 h2 h3
    · have e1 : i = a := by omega
      have e2 : j = b := by omega
      subst e1
      subst e2
      rcases hI.le h hn hm ha hb hx hl h1 h2 h3 with g | ⟨g1, g2, -⟩
      · exact g
      · exact absurd q (fun z => z.elim g1 g2)
theorem FwC.row (hI : FwC E k A nn mem m a 0) (h : FwH E k) (hn : nn < -801) (hm : m < k) (ha : a < k) (q : WM mem A a m = nn) : FwC E k A nn mem m (a + 1) 0 := by
  refine ⟨fun i j hi hj => ?_, hI.2.1, fun i j hi hj hl2 p v h1 h2 h3 => ?_⟩
  · rcases hI.1 i j hi hj with e | ⟨p, g1, g2⟩
    · exact Or.inl e
    · exact Or.inr ⟨p, fun c hc => by have := g1 c hc; omega, g2⟩
  · by_cases w : i < a
    · exact hI.2.2 i j hi hj (Or.inl w) p v h1 h2 h3
    · have e1 : i = a := by omega
      subst e1
      have hJ : FwC E k A nn mem m i j := ⟨fun i' j' hi' hj' => by
        rcases hI.1 i' j' hi' hj' with e | ⟨p, g1, g2⟩
        · exact Or.inl e
        · exact Or.inr ⟨p, fun c hc => by have := g1 c hc; omega, g2⟩, hI.2.1, fun i' j' hi' hj' w2 p' v' a1 a2 a3 => by
        by_cases w3 : i' < i
        · exact hI.2.2 i' j' hi' hj' (Or.inl w3) p' v' a1 a2 a3
        · have e : i' = i := by omega
          subst e
          by_cases hmp : m ∈ p'
          · obtain ⟨p1, p2, rfl⟩ := List.append_of_mem hmp
            obtain ⟨v1, v2, g1, g2, g3⟩ := Wk.split a3
            rw [List.nodup_append, List.nodup_cons] at a1
            obtain ⟨n1, ⟨n2, n3⟩, n4⟩ := a1
            have k1 := hI.2.1 i' m hi' hm p1 v1 n1 (fun c hc => by
              have := a2 c (List.mem_append_left _ hc)
              have : ¬ c = m := fun e => n4 c hc m List.mem_cons_self e
              omega) g1
            have r1 := h.rg n1 g1
            omega
          · exact hI.2.1 i' j' hi' hj' p' v' a1 (fun c hc => by
              have := a2 c hc
              have : ¬ c = m := fun e => by subst e; exact hmp hc
              omega) a3⟩
      have hx : WM mem A i m = nn ∨ ∃ p, (∀ c ∈ p, c < m + 1) ∧ Wk E i p m (WM mem A i m) := Or.inl q
      rcases hJ.le h hn hm hi hj hx (fun p v b1 b2 b3 => hI.2.1 i m hi hm p v b1 b2 b3) h1 h2 h3 with g | ⟨g1, -, -⟩
      · exact g
      · exact absurd q g1
theorem FwC.upd (hI : FwC E k A nn mem m a b) (h : FwH E k) (hn : nn < -801) (hm : m < k) (ha : a < k) (hb : b < k) {x r : Int} {i : Nat} (hx : ∃ p, (∀ c ∈ p, c < m + 1) ∧ Wk E a p m x) (hl : ∀ p v, p.Nodup → (∀ c ∈ p, c < m) → Wk E a p m v → v ≤ x) (hx2 : -801 ≤ x) (q2 : ¬ WM mem A m b = nn) (hi : i = 8 * a + b) (hr : r = max (WM mem A a b) (x + WM mem A m b)) : FwC E k A nn (upm mem A i r) m a (b + 1) := by
  subst hi
  subst hr
  have k8 := h.1
  have r0 := hI.rg h ha hb
  have r2 := hI.rg h hm hb
  obtain ⟨px, px1, px2⟩ := hx
  have ew : ∀ i j, j < 8 → WM (upm mem A (8 * a + b) (max (WM mem A a b) (x + WM mem A m b))) A i j = if i = a ∧ j = b then max (WM mem A a b) (x + WM mem A m b) else WM mem A i j := fun i j hj => WM_up (by omega) hj
  have ge : ∀ i j, j < 8 → WM mem A i j ≤ WM (upm mem A (8 * a + b) (max (WM mem A a b) (x + WM mem A m b))) A i j := fun i j hj => by
    rw [ew i j hj]
    split
    · rename_i q; obtain ⟨rfl, rfl⟩ := q; omega
    · exact Int.le_refl _
  refine ⟨fun i j hi hj => ?_, fun i j hi hj p v h1 h2 h3 => Int.le_trans (hI.2.1 i j hi hj p v h1 h2 h3) (ge i j (by omega)), fun i j hi hj hl2 p v h1 h2 h3 => ?_⟩
  · rw [ew i j (by omega)]
    by_cases w : i = a ∧ j = b
    · rw [if_pos w]
      obtain ⟨rfl, rfl⟩ := w
      by_cases z : x + WM mem A m j ≤ WM mem A i j
      · rw [show max (WM mem A i j) (x + WM mem A m j) = WM mem A i j by omega]
        rcases hI.1 i j hi hj with e | ⟨p, g1, g2⟩
        · exact Or.inl e
        · exact Or.inr ⟨p, fun c hc => by have := g1 c hc; omega, g2⟩
      · rw [show max (WM mem A i j) (x + WM mem A m j) = x + WM mem A m j by omega]
        rcases hI.1 m j hm hj with e | ⟨p, g1, g2⟩
        · exact absurd e q2
        · refine Or.inr ⟨px ++ m :: p, fun c hc => ?_, Wk.app px2 g2⟩
          rcases List.mem_append.mp hc with hc | hc
          · have := px1 c hc; omega
          · rcases List.mem_cons.mp hc with rfl | hc
            · omega
            · have := g1 c hc; omega
    · rw [if_neg w]
      rcases hI.1 i j hi hj with e | ⟨p, g1, g2⟩
      · exact Or.inl e
      · exact Or.inr ⟨p, fun c hc => by have := g1 c hc; omega, g2⟩
  · by_cases w : i < a ∨ (i = a ∧ j < b)
    · exact Int.le_trans (hI.2.2 i j hi hj w p v h1 h2 h3) (ge i j (by omega))
    · have e1 : i = a := by omega
      have e2 : j = b := by omega
      subst e1
      subst e2
      rw [ew i j (by omega), if_pos ⟨rfl, rfl⟩]
      rcases hI.le h hn hm ha hb (Or.inr ⟨px, px1, px2⟩) hl h1 h2 h3 with g | ⟨-, -, g⟩
      · omega
      · omega
theorem FwC.nextA (h : FwC E k A nn mem m a k) : FwC E k A nn mem m (a + 1) 0 := by
  refine ⟨fun i j hi hj => ?_, h.2.1, fun i j hi hj q => h.2.2 i j hi hj (by omega)⟩
  rcases h.1 i j hi hj with e | ⟨p, g1, g2⟩
  · exact Or.inl e
  · exact Or.inr ⟨p, fun c hc => by have := g1 c hc; omega, g2⟩
theorem FwC.nextM {b : Nat} (h : FwC E k A nn mem m k b) : FwC E k A nn mem (m + 1) 0 0 := by
  refine ⟨fun i j hi hj => ?_, fun i j hi hj => h.2.2 i j hi hj (Or.inl hi), fun i j hi hj q => by omega⟩
  rcases h.1 i j hi hj with e | ⟨p, g1, g2⟩
  · exact Or.inl e
  · exact Or.inr ⟨p, fun c hc => by have := g1 c hc; omega, g2⟩
theorem FwC.ahd (hI : FwC E k A nn mem m a b) (hm : m < k) (ha : a < k) : (WM mem A a m = nn ∨ ∃ p, (∀ c ∈ p, c < m + 1) ∧ Wk E a p m (WM mem A a m)) ∧ ∀ p v, p.Nodup → (∀ c ∈ p, c < m) → Wk E a p m v → v ≤ WM mem A a m := by
  refine ⟨?_, fun p v h1 h2 h3 => hI.2.1 a m ha hm p v h1 h2 h3⟩
  rcases hI.1 a m ha hm with e | ⟨p, g1, g2⟩
  · exact Or.inl e
  · exact Or.inr ⟨p, fun c hc => by have := g1 c hc; omega, g2⟩
theorem FwC.fin (hI : FwC E k A nn mem k 0 0) (h : FwH E k) (hn : nn < -801) {a b : Nat} (ha : a < k) (hb : b < k) : WyV E nn a b (WM mem A a b) := by
  have all : ∀ p v, Wk E a p b v → ∃ p' v', p'.Nodup ∧ Wk E a p' b v' ∧ v ≤ v' ∧ v' ≤ WM mem A a b := fun p v hw => by
    obtain ⟨p', v', g1, g2, g3, g4⟩ := Wk.red h.2.1 p a b v hw
    exact ⟨p', v', g1, g3, g4, hI.2.1 a b ha hb p' v' g1 (fun c hc => (Wk.ends h.v g3).2.2 c hc) g3⟩
  by_cases e : WM mem A a b = nn
  · refine Or.inl ⟨e, fun p v hw => ?_⟩
    obtain ⟨p', v', g1, g2, -, g4⟩ := all p v hw
    have := h.rg g1 g2
    omega
  · refine Or.inr ⟨e, ?_, fun p v hw => ?_⟩
    · rcases hI.1 a b ha hb with z | ⟨p, -, g⟩
      · exact absurd z e
      · exact ⟨p, g⟩
    · obtain ⟨p', v', -, -, g3, g4⟩ := all p v hw
      omega
end FWC
def FwE (c : Nat → Q4) (d : Int) (k A : Nat) (nn : Int) (mem : MM) (j : Nat) : Prop := ∀ a b, a < k → b < k → (WM mem A a b = nn ∨ EdQ c j d a b (WM mem A a b)) ∧ ∀ x, EdQ c j d a b x → x ≤ WM mem A a b
theorem FwE.fwc {c : Nat → Q4} {d nn : Int} {k A j : Nat} {mem : MM} (h : FwE c d k A nn mem j) : FwC (EdQ c j d) k A nn mem 0 0 0 := by
  refine ⟨fun a b ha hb => ?_, fun a b ha hb p v h1 h2 h3 => ?_, fun a b ha hb q => by omega⟩
  · rcases (h a b ha hb).1 with e | e
    · exact Or.inl e
    · exact Or.inr ⟨[], fun c hc => absurd hc List.not_mem_nil, e⟩
  · cases p with
    | nil => exact (h a b ha hb).2 v h3
    | cons c p => exact absurd (h2 c List.mem_cons_self) (by omega)
theorem EdQ_st {c : Nat → Q4} {j : Nat} {d : Int} {a b : Nat} {x : Int} : EdQ c (j + 1) d a b x ↔ EdQ c j d a b x ∨ ((c j).1 = a ∧ (c j).2.1 = b ∧ x = (c j).2.2.2 - d * (c j).2.2.1) := by
  constructor
  · rintro ⟨i, h1, h2⟩
    by_cases e : i = j
    · subst e; exact Or.inr h2
    · exact Or.inl ⟨i, by omega, h2⟩
  · rintro (⟨i, h1, h2⟩ | h2)
    · exact ⟨i, by omega, h2⟩
    · exact ⟨j, by omega, h2⟩
theorem FwE.step {c : Nat → Q4} {d nn r : Int} {k A j i : Nat} {mem : MM} (h : FwE c d k A nn mem j) (k8 : k ≤ 8) {u w : Nat} (hu : (c j).1 = u) (hw : (c j).2.1 = w) (hk : w < k) (hi : i = 8 * u + w) (hn : nn < (c j).2.2.2 - d * (c j).2.2.1) (hr : r = max (WM mem A u w) ((c j).2.2.2 - d * (c j).2.2.1)) : FwE c d k A nn (upm mem A i r) (j + 1) := by
  subst hi
  subst hr
  intro a b ha hb
  have ew : WM (upm mem A (8 * u + w) (max (WM mem A u w) ((c j).2.2.2 - d * (c j).2.2.1))) A a b = if a = u ∧ b = w then max (WM mem A u w) ((c j).2.2.2 - d * (c j).2.2.1) else WM mem A a b := WM_up (by omega) (by omega)
  rw [ew]
  have q := h a b ha hb
  by_cases z : a = u ∧ b = w
  · rw [if_pos z]
    obtain ⟨rfl, rfl⟩ := z
    refine ⟨?_, fun x hx => ?_⟩
    · by_cases z2 : (c j).2.2.2 - d * (c j).2.2.1 ≤ WM mem A a b
      · rw [show max (WM mem A a b) ((c j).2.2.2 - d * (c j).2.2.1) = WM mem A a b by omega]
        rcases q.1 with e | e
        · omega
        · exact Or.inr (EdQ_st.mpr (Or.inl e))
      · rw [show max (WM mem A a b) ((c j).2.2.2 - d * (c j).2.2.1) = (c j).2.2.2 - d * (c j).2.2.1 by omega]
        exact Or.inr (EdQ_st.mpr (Or.inr ⟨hu, hw, rfl⟩))
    · rcases EdQ_st.mp hx with e | ⟨-, -, e⟩
      · have := q.2 x e; omega
      · omega
  · rw [if_neg z]
    refine ⟨q.1.imp id (fun e => EdQ_st.mpr (Or.inl e)), fun x hx => ?_⟩
    rcases EdQ_st.mp hx with e | ⟨e1, e2, -⟩
    · exact q.2 x e
    · exact absurd ⟨by omega, by omega⟩ z
theorem FwE.ini {c : Nat → Q4} {d nn : Int} {k A : Nat} {mem : MM} (k8 : k ≤ 8) (h : ∀ i, i < 64 → mem A i = nn) : FwE c d k A nn mem 0 := fun a b ha hb => ⟨Or.inl (h _ (by omega)), fun x ⟨j, hj, _⟩ => by omega⟩
theorem EdQ.fwh {c : Nat → Q4} {n o : Nat} {d : Int} (ho : o ≤ 8) (hd : 0 ≤ d ∧ d ≤ 12) (hV : EdV c n o) (hR : ∀ j, j < n → (c j).2.2.1 ≤ 7 ∧ -5 ≤ (c j).2.2.2 ∧ (c j).2.2.2 ≤ 6) (hU : NoUp (EdQ c n d)) : FwH (EdQ c n d) o := by
  refine ⟨ho, hU, fun a b x h => ⟨EdQ.v hV a b x h, ?_⟩⟩
  obtain ⟨j, h1, h2, h3, h4⟩ := h
  have r := hR j h1
  have v := (hV j h1).2.1
  have m1 := Int.mul_nonneg hd.1 v
  have m2 := Int.mul_le_mul hd.2 r.1 v (by omega)
  omega
def RchX (m : MM) : Prop := m 19 1 = 0 ∨ (m 19 0 = m 1 0 ∧ ∀ a b : Nat, (a : Int) < m 1 0 → (b : Int) < m 1 0 → WyV (EdQ (cwq m 9) (m 9 0).toNat (m 19 1)) (-100000) a b (WM m 20 a b))
theorem RchX.fr {m m' : MM} (h : RchX m) (e : ∀ A i, (A = 19 ∧ i < 2) ∨ A = 20 ∨ (A = 9 ∧ i = 0) ∨ (10 ≤ A ∧ A ≤ 13) ∨ (A = 1 ∧ i = 0) → m' A i = m A i) : RchX m' := by
  have ec : cwq m' 9 = cwq m 9 := funext fun i => by
    unfold cwq
    rw [e (9 + 1) i (by omega), e (9 + 2) i (by omega), e (9 + 3) i (by omega), e (9 + 4) i (by omega)]
  have ew : ∀ a b, WM m' 20 a b = WM m 20 a b := fun a b => by
    unfold WM
    rw [e 20 _ (by omega)]
  rcases h with h | ⟨h1, h2⟩
  · exact Or.inl (by rw [e 19 1 (by omega)]; exact h)
  · refine Or.inr ⟨by rw [e 19 0 (by omega), e 1 0 (by omega)]; exact h1, fun a b ha hb => ?_⟩
    rw [e 1 0 (by omega)] at ha hb
    rw [ec, e 9 0 (by omega), e 19 1 (by omega), ew]
    exact h2 a b ha hb
end
section
/-! ways of the reference, exactly -/
theorem FwC.sum {E : Nat → Nat → Int → Prop} {k A : Nat} {nn : Int} {mem : MM} {m a b : Nat} (hI : FwC E k A nn mem m a b) (h : FwH E k) {i j l : Nat} (hi : i < k) (hj : j < k) (hl : l < k) (q1 : ¬ WM mem A i j = nn) (q2 : ¬ WM mem A j l = nn) : WM mem A i j + WM mem A j l ≤ 54 := by
  rcases hI.1 i j hi hj with e | ⟨p1, -, g1⟩
  · exact absurd e q1
  · rcases hI.1 j l hj hl with e | ⟨p2, -, g2⟩
    · exact absurd e q2
    · exact h.up (Wk.app g1 g2)
def WyA (m : MM) (d : Int) : Prop := ∀ a b : Nat, (a : Int) < m 143 1 → (b : Int) < m 143 1 → WyV (EdQ (rq m) (m 143 12).toNat d) (-1000) a b (WM m 158 a b)
section RWAY
variable {S : Nat × (Nat → Int32)} {n : Nat} {m0 : MM} {d : Int}
theorem lw_130x (hN : NdsOK m0) {E : Nat → Nat → Int → Prop} (hE : FwH E (m0 143 1).toNat) {Kk : WK} (H : ∀ m', Fr1 158 m0 m' → FwC E (m0 143 1).toNat 158 (-1000) m' (m0 143 1).toNat 0 0 → Kk none m') : ∀ (N : Nat) (m a b : Nat) (mem : MM), (m : Int) < m0 143 1 → (a : Int) < m0 143 1 → (b : Int) ≤ m0 143 1 → 81 * (m0 143 1 - m) + 9 * (m0 143 1 - a) + (m0 143 1 - b) < N → Fr1 158 m0 mem → FwC E (m0 143 1).toNat 158 (-1000) mem m a b → Wx (Ex S (n + 1)) S M_256 Kk 130 [some (.inr 143), some (.inl d), some (.inl (m : Int)), some (.inl (a : Int)), some (.inl (b : Int)), none, none] [] mem := by
  intro N
  induction N with
  | zero => intros; omega
  | succ N ih =>
    intro m a b mem hm ha hb hNN hF hI
    have h8 := hN.1
    have eops : mem 143 1 = m0 143 1 := hF _ _ (by omega)
    have go : ∀ mem', Fr1 158 mem mem' → (b : Int) < m0 143 1 → FwC E (m0 143 1).toNat 158 (-1000) mem' m a (b + 1) → InI ((b : Int) + 1) ∧ Wx (Ex S (n + 1)) S M_256 Kk 130 [some (.inr 143), some (.inl d), some (.inl (m : Int)), some (.inl (a : Int)), some (.inl ((b : Int) + 1)), none, none] [] mem' := fun mem' h1 h2 h3 => ⟨by unfold InI; omega, ih m a (b + 1) mem' hm ha (by omega) (by omega) (hF.tr h1) h3⟩
    refine w_256_130 (Ex.mono S (n + 1)) (fun v e _ => ⟨fun q => ⟨by unfold InI; omega, ?_⟩, fun q => ?_⟩)
    · rw [show b = (m0 143 1).toNat by omega] at hI
      have hI := hI.nextA
      refine w_256_119 (Ex.mono S (n + 1)) (fun v e _ => ⟨fun q2 => ⟨by unfold InI; omega, ?_⟩, fun q2 => ?_⟩)
      · rw [show a + 1 = (m0 143 1).toNat by omega] at hI
        have hI := hI.nextM
        refine w_256_109 (Ex.mono S (n + 1)) (fun v e _ => ⟨fun q3 => H mem hF ?_, fun q3 => ?_⟩)
        · rw [show m + 1 = (m0 143 1).toNat by omega] at hI
          exact hI
        · refine w_256_119 (Ex.mono S (n + 1)) (fun v e _ => ⟨fun q4 => by omega, fun q4 => ?_⟩)
          exact ih (m + 1) 0 0 mem (by omega) (by omega) (by omega) (by omega) hF hI
      · exact ih m (a + 1) 0 mem hm (by omega) (by omega) (by omega) hF hI
    · have hb2 : (b : Int) < m0 143 1 := by omega
      have r1 := hI.rg hE (a' := a) (b' := m) (by omega) (by omega)
      have r2 := hI.rg hE (a' := m) (b' := b) (by omega) (by omega)
      have r0 := hI.rg hE (a' := a) (b' := b) (by omega) (by omega)
      obtain ⟨c1, c2⟩ := hI.ahd (show m < (m0 143 1).toNat by omega) (show a < (m0 143 1).toNat by omega)
      have hi : ∀ x y : Nat, (x : Int) < m0 143 1 → (y : Int) < m0 143 1 → InI (8 * (x : Int)) ∧ InI (8 * (x : Int) + y) ∧ (0 ≤ 8 * (x : Int) + y ∧ 8 * (x : Int) + y < 64) := fun x y h1 h2 => by unfold InI; omega
      obtain ⟨i1, i2, i3⟩ := hi a m ha hm
      obtain ⟨j1, j2, j3⟩ := hi m b hm hb2
      obtain ⟨k1, k2, k3⟩ := hi a b ha hb2
      refine ⟨i1, i2, i3, fun v2 e2 _ => ⟨j1, j2, j3, fun v3 e3 _ => ?_⟩⟩
      have e2 : v2 = WM mem 158 a m := by rw [e2, ix8]; rfl
      have e3 : v3 = WM mem 158 m b := by rw [e3, ix8]; rfl
      refine ⟨fun q2 => go mem Fr1.rf hb2 (hI.skip hE (by omega) (by omega) (by omega) (by omega) c1 c2 (Or.inl (by omega))), fun q2 => ⟨fun q3 => go mem Fr1.rf hb2 (hI.skip hE (by omega) (by omega) (by omega) (by omega) c1 c2 (Or.inr (by omega))), fun q3 => ⟨k1, k2, k1, k2, k3, fun v4 e4 _ => ⟨by unfold InI; omega, ?_⟩⟩⟩⟩
      have e4 : v4 = WM mem 158 a b := by rw [e4, ix8]; rfl
      have sm := hI.sum hE (i := a) (j := m) (l := b) (by omega) (by omega) (by omega) (by omega) (by omega)
      refine f_258 (fun _ _ => f_257 (fun _ _ => ⟨k3, ?_⟩))
      rw [ix8]
      exact go _ Fr1.up hb2 (hI.upd hE (by omega) (by omega) (by omega) (by omega) (c1.resolve_left (by omega)) c2 (by omega) (by omega) rfl (by omega))
theorem lw_25x (hN : NdsOK m0) (h18 : m0 143 18 = -1) (hd : 1 ≤ d ∧ d ≤ 12) (hE : FwH (EdQ (rq m0) (m0 143 12).toNat d) (m0 143 1).toNat) {Kk : WK} (H : ∀ m', Fr1 158 m0 m' → FwC (EdQ (rq m0) (m0 143 12).toNat d) (m0 143 1).toNat 158 (-1000) m' (m0 143 1).toNat 0 0 → Kk none m') : ∀ (N : Nat) (k : Nat) (mem : MM), (k : Int) ≤ m0 143 12 → m0 143 12 - k < N → Fr1 158 m0 mem → FwE (rq m0) d (m0 143 1).toNat 158 (-1000) mem k → Wx (Ex S (n + 1)) S M_256 Kk 25 [some (.inr 143), some (.inl d), some (.inl (k : Int)), none, none, none, none] [] mem := by
  intro N
  induction N with
  | zero => intros; omega
  | succ N ih =>
    intro k mem hk hNN hF hI
    have h8 := hN.1
    have h48 := hN.2.1
    have eops : mem 143 1 = m0 143 1 := hF _ _ (by omega)
    refine w_256_25 (Ex.mono S (n + 1)) (fun v e _ => ⟨fun q => ?_, fun q v2 e2 _ => ?_⟩)
    · have e : v = m0 143 12 := by rw [e]; exact hF _ _ (by omega)
      have hJ := hI.fwc
      rw [show k = (m0 143 12).toNat by omega] at hJ
      refine w_256_109 (Ex.mono S (n + 1)) (fun v e _ => ⟨fun q3 => H mem hF ?_, fun q3 => ?_⟩)
      · rw [show (m0 143 1).toNat = 0 by omega]
        rw [show (m0 143 1).toNat = 0 by omega] at hJ
        exact hJ
      · refine w_256_119 (Ex.mono S (n + 1)) (fun v e _ => ⟨fun q4 => by omega, fun q4 => ?_⟩)
        exact lw_130x hN hE H (81 * 8 + 9 * 8 + 8 + 1) 0 0 0 mem (by omega) (by omega) (by omega) (by omega) hF hJ
    · have e : v = m0 143 12 := by rw [e]; exact hF _ _ (by omega)
      have e2 : v2 = m0 143 18 := by rw [e2]; exact hF _ _ (by omega)
      refine ⟨fun q2 => by omega, fun q2 => ?_⟩
      have hk48 : 0 ≤ (k : Int) ∧ (k : Int) < 48 := by omega
      obtain ⟨p1, p2, p3, p4, p5, p6, p7, p8, p9⟩ := hN.2.2 k (by omega)
      have f4 : mem 154 k = m0 154 k := hF _ _ (by omega)
      have f5 : mem 155 k = m0 155 k := hF _ _ (by omega)
      have f6 : mem 156 k = m0 156 k := hF _ _ (by omega)
      have f7 : mem 157 k = m0 157 k := hF _ _ (by omega)
      have dm := dmul (d := d) (by omega) ⟨p5, p6⟩
      have d1 := Int.mul_nonneg (show 0 ≤ d by omega) p5
      have d2 := Int.mul_le_mul (show d ≤ 12 by omega) p6 p5 (by omega)
      refine ⟨hk48, fun v3 e3 _ => ?_⟩
      rw [Int.toNat_natCast, f4] at e3
      refine ⟨by unfold InI; omega, hk48, fun v4 e4 _ => ?_⟩
      rw [Int.toNat_natCast, f5] at e4
      refine ⟨by unfold InI; omega, hk48, fun v5 e5 _ => ?_⟩
      rw [Int.toNat_natCast, f4] at e5
      refine ⟨by unfold InI; omega, hk48, fun v6 e6 _ => ?_⟩
      rw [Int.toNat_natCast, f5] at e6
      refine ⟨by unfold InI; omega, by omega, fun v7 e7 _ => ⟨hk48, fun v8 e8 _ => ?_⟩⟩
      rw [Int.toNat_natCast, f7] at e8
      refine ⟨hk48, fun v9 e9 _ => ?_⟩
      rw [Int.toNat_natCast, f6] at e9
      subst e9
      refine ⟨by unfold InI; omega, by unfold InI; omega, f_257 (fun _ _ => ⟨by omega, by unfold InI; omega, ?_⟩)⟩
      have e7 : v7 = WM mem 158 (m0 154 k).toNat (m0 155 k).toNat := by
        rw [e7]
        unfold WM
        congr 1
        omega
      have c1 : (rq m0 k).1 = ((m0 154 k).toNat : Int) := by show m0 154 k = _; omega
      have c2 : (rq m0 k).2.1 = ((m0 155 k).toNat : Int) := by show m0 155 k = _; omega
      have c4 : (rq m0 k).2.2.2 - d * (rq m0 k).2.2.1 = m0 157 k - d * m0 156 k := rfl
      exact ih (k + 1) _ (by omega) (by omega) (hF.tr Fr1.up) (hI.step (by omega) c1 c2 (by omega) (by omega) (by rw [c4]; omega) (by rw [c4]; omega))
theorem NdsOK.fwh (hN : NdsOK m0) (hd : 0 ≤ d ∧ d ≤ 12) (hU : NoUp (EdQ (rq m0) (m0 143 12).toNat d)) : FwH (EdQ (rq m0) (m0 143 12).toNat d) (m0 143 1).toNat := by
  refine EdQ.fwh (by have := hN.1; omega) hd hN.v (fun j hj => ?_) hU
  obtain ⟨p1, p2, p3, p4, p5, p6, p7, p8, p9⟩ := hN.2.2 j (by omega)
  exact ⟨p6, p7, p8⟩
theorem f_256x {K : MM → Prop} (hN : NdsOK m0) (h18 : m0 143 18 = -1) (hd : 1 ≤ d ∧ d ≤ 12) (hU : NoUp (NdE m0 d)) (H : ∀ m', Fr1 158 m0 m' → WyA m' d → K m') : CWV (Ex S (n + 2)) 256 [.inr 143, .inl d] m0 K := by
  rw [NdE.q h18 hN.2.1.1] at hU
  have hE := hN.fwh (by omega) hU
  have h8 := hN.1
  refine CW.of (k := 5) mt_256 rfl rfl (w_256_0 (Ex.mono S (n + 1)) ?_)
  have key : ∀ (N : Nat) (k : Nat) (mem : MM), k ≤ 64 → 64 - k < N → Fr1 158 m0 mem → (∀ i, i < k → mem 158 i = -1000) → Wx (Ex S (n + 1)) S M_256 (fun r m => r = none ∧ K m) 2 [some (.inr 143), some (.inl d), some (.inl (k : Int)), none, none, none, none] [] mem := by
    intro N
    induction N with
    | zero => intros; omega
    | succ N ih =>
      intro k mem hk hNN hF hA
      refine w_256_2 (Ex.mono S (n + 1)) ⟨fun q => ?_, fun q => ⟨by omega, by unfold InI; omega, ?_⟩⟩
      · refine lw_25x hN h18 hd hE (fun m' h1 h2 => ⟨rfl, H m' h1 (fun a b ha hb => ?_)⟩) 49 0 mem (by have := hN.2.1; omega) (by have := hN.2.1; omega) hF (FwE.ini (by omega) (fun i hi => hA i (by omega)))
        rw [h1 143 1 (by omega)] at ha hb
        have eq : rq m' = rq m0 := funext fun i => by
          unfold rq
          rw [h1 154 i (by omega), h1 155 i (by omega), h1 156 i (by omega), h1 157 i (by omega)]
        rw [eq, h1 143 12 (by omega)]
        exact h2.fin hE (by omega) (by omega) (by omega)
      · refine ih (k + 1) _ (by omega) (by omega) (hF.tr Fr1.up) (fun i hi => ?_)
        rw [Int.toNat_natCast]
        by_cases e : i = k
        · subst e; exact upm_eq
        · rw [upm_ne (fun q => e q.2)]; exact hA i (by omega)
  exact key 65 0 m0 (by omega) (by omega) Fr1.rf (fun i hi => by omega)
end RWAY
end
section
/-! slots: what a plan asks of them; the least of all -/
def us1 (d s bu k : Int) : Int := (if bu % 2 = 1 ∧ s % d = k then 1 else 0) + (if bu / 2 % 2 = 1 ∧ (s + 1) % d = k then 1 else 0) + (if bu / 4 % 2 = 1 ∧ (s + 2) % d = k then 1 else 0) + (if bu / 8 % 2 = 1 ∧ (s + 3) % d = k then 1 else 0)
theorem us1_rg {d s bu k : Int} : 0 ≤ us1 d s bu k ∧ us1 d s bu k ≤ 4 := by
  unfold us1
  split <;> split <;> split <;> split <;> omega
noncomputable def cIf (c : Prop) (a b : Int) : Int := @ite Int c (Classical.propDecidable c) a b
theorem cIf.y {c : Prop} {a b : Int} (h : c) : cIf c a b = a := if_pos h
theorem cIf.n {c : Prop} {a b : Int} (h : ¬ c) : cIf c a b = b := if_neg h
theorem cIf.rg {c : Prop} {a b lo hi : Int} (h1 : lo ≤ a ∧ a ≤ hi) (h2 : lo ≤ b ∧ b ≤ hi) : lo ≤ cIf c a b ∧ cIf c a b ≤ hi := by
  by_cases q : c
  · rw [cIf.y q]; exact h1
  · rw [cIf.n q]; exact h2
noncomputable def usM (M : Nat → Prop) (un bu : Nat → Int) (d : Int) (s : Nat → Int) (u k : Int) : Nat → Int
  | 0 => 0
  | n + 1 => usM M un bu d s u k n + cIf (M n ∧ un n = u) (us1 d (s n) (bu n) k) 0
theorem usM_cg {M M' : Nat → Prop} {un bu : Nat → Int} {d : Int} {s s' : Nat → Int} {u k : Int} : ∀ n, (∀ o, o < n → un o = u → (M o ↔ M' o) ∧ (M o → s o = s' o)) → usM M un bu d s u k n = usM M' un bu d s' u k n
  | 0, _ => rfl
  | n + 1, h => by
    unfold usM
    rw [usM_cg n (fun o ho => h o (by omega))]
    congr 1
    by_cases e : un n = u
    · have q := h n (by omega) e
      by_cases w : M n
      · rw [cIf.y ⟨w, e⟩, cIf.y ⟨q.1.mp w, e⟩, q.2 w]
      · rw [cIf.n (fun z => w z.1), cIf.n (fun z => w (q.1.mpr z.1))]
    · rw [cIf.n (fun z => e z.2), cIf.n (fun z => e z.2)]
theorem usM_ge {M : Nat → Prop} {un bu : Nat → Int} {d : Int} {s : Nat → Int} {u k : Int} : ∀ n, 0 ≤ usM M un bu d s u k n
  | 0 => Int.le_refl _
  | n + 1 => by
    have := usM_ge (M := M) (un := un) (bu := bu) (d := d) (s := s) (u := u) (k := k) n
    have r := us1_rg (d := d) (s := s n) (bu := bu n) (k := k)
    have := cIf.rg (c := M n ∧ un n = u) r (show (0 : Int) ≤ 0 ∧ (0 : Int) ≤ 4 by omega)
    unfold usM
    omega
theorem usM_mono {M M' : Nat → Prop} {un bu : Nat → Int} {d : Int} {s : Nat → Int} {u k : Int} : ∀ n, (∀ o, o < n → M o → M' o) → usM M un bu d s u k n ≤ usM M' un bu d s u k n
  | 0, _ => Int.le_refl _
  | n + 1, h => by
    have i := usM_mono (un := un) (bu := bu) (d := d) (s := s) (u := u) (k := k) n (fun o ho => h o (by omega))
    have r := us1_rg (d := d) (s := s n) (bu := bu n) (k := k)
    unfold usM
    by_cases w : M n ∧ un n = u
    · rw [cIf.y w, cIf.y ⟨h n (by omega) w.1, w.2⟩]; omega
    · have := cIf.rg (c := M' n ∧ un n = u) r (show (0 : Int) ≤ 0 ∧ (0 : Int) ≤ 4 by omega)
      rw [cIf.n w]; omega
theorem usM_len {M : Nat → Prop} {un bu : Nat → Int} {d : Int} {s : Nat → Int} {u k : Int} {m : Nat} : ∀ n, m ≤ n → usM M un bu d s u k m ≤ usM M un bu d s u k n
  | 0, h => by
    have e : m = 0 := by omega
    subst e
    exact Int.le_refl _
  | n + 1, h => by
    by_cases e : m = n + 1
    · subst e; exact Int.le_refl _
    · have i := usM_len (M := M) (un := un) (bu := bu) (d := d) (s := s) (u := u) (k := k) n (show m ≤ n by omega)
      have r := us1_rg (d := d) (s := s n) (bu := bu n) (k := k)
      have := cIf.rg (c := M n ∧ un n = u) r (show (0 : Int) ≤ 0 ∧ (0 : Int) ≤ 4 by omega)
      show _ ≤ usM M un bu d s u k n + cIf _ _ _
      omega
abbrev Prb : Type := Nat × (Nat → Int) × (Nat → Int) × (Nat → Int) × Int × (Nat → Nat → Int → Prop)
def Prb.n (p : Prb) : Nat := p.1
def Prb.un (p : Prb) : Nat → Int := p.2.1
def Prb.bu (p : Prb) : Nat → Int := p.2.2.1
def Prb.ct (p : Prb) : Nat → Int := p.2.2.2.1
def Prb.d (p : Prb) : Int := p.2.2.2.2.1
def Prb.E (p : Prb) : Nat → Nat → Int → Prop := p.2.2.2.2.2
noncomputable def Prb.us (p : Prb) (s : Nat → Int) (u k : Int) : Nat → Int := usM (fun _ => True) p.un p.bu p.d s u k
def UnP (p : Prb) (s : Nat → Int) : Prop := ∀ u k : Int, 0 ≤ u → u < 3 → 0 ≤ k → k < p.d → p.us s u k p.n ≤ p.ct u.toNat
def TuP (p : Prb) (s t : Nat → Int) : Prop := ∀ a b x, p.E a b x → s a + p.d * t a + x ≤ s b + p.d * t b
def SlP (p : Prb) (s : Nat → Int) : Prop := ∀ o, o < p.n → 0 ≤ s o ∧ s o < p.d
def Fsb (p : Prb) (s : Nat → Int) : Prop := SlP p s ∧ UnP p s ∧ ∃ t, TuP p s t
def LstP (p : Prb) (s : Nat → Int) : Prop := Fsb p s ∧ ∀ v, Fsb p v → ∀ j, j < p.n → (∀ i, i < j → v i = s i) → s j ≤ v j
theorem LstP.eq {p : Prb} {s v : Nat → Int} (h : LstP p s) (g : LstP p v) : ∀ j, j < p.n → s j = v j := by
  intro j
  induction j using Nat.strongRecOn with
  | _ j ih =>
    intro hj
    have a := h.2 v g.1 j hj (fun i hi => (ih i hi (by omega)).symm)
    have b := g.2 s h.1 j hj (fun i hi => ih i hi (by omega))
    omega
def PrbE (p q : Prb) : Prop := p.n = q.n ∧ p.d = q.d ∧ (∀ o, o < p.n → p.un o = q.un o ∧ p.bu o = q.bu o) ∧ (∀ u, u < 3 → p.ct u = q.ct u) ∧ ∀ a b x, p.E a b x ↔ q.E a b x
theorem PrbE.symm {p q : Prb} (h : PrbE p q) : PrbE q p := ⟨h.1.symm, h.2.1.symm, fun o ho => ⟨(h.2.2.1 o (by rw [h.1]; exact ho)).1.symm, (h.2.2.1 o (by rw [h.1]; exact ho)).2.symm⟩, fun u hu => (h.2.2.2.1 u hu).symm, fun a b x => (h.2.2.2.2 a b x).symm⟩
theorem usM_pq {M : Nat → Prop} {un bu un' bu' : Nat → Int} {d : Int} {s : Nat → Int} {u k : Int} : ∀ n, (∀ o, o < n → un o = un' o ∧ bu o = bu' o) → usM M un bu d s u k n = usM M un' bu' d s u k n
  | 0, _ => rfl
  | n + 1, h => by
    unfold usM
    rw [usM_pq n (fun o ho => h o (by omega)), (h n (by omega)).1, (h n (by omega)).2]
theorem PrbE.fsb {p q : Prb} (h : PrbE p q) {s : Nat → Int} (g : Fsb p s) : Fsb q s := by
  obtain ⟨h1, h2, h3, h4, h5⟩ := h
  obtain ⟨g1, g2, t, g3⟩ := g
  refine ⟨fun o ho => by rw [← h2]; exact g1 o (by omega), fun u k a b c e => ?_, t, fun a b x hx => ?_⟩
  · have w := g2 u k a b c (by omega)
    rw [h4 u.toNat (by omega)] at w
    unfold Prb.us at w ⊢
    rw [← h1, ← h2, ← usM_pq p.n (fun o ho => h3 o ho)]
    exact w
  · rw [← h2]
    exact g3 a b x ((h5 a b x).mpr hx)
theorem PrbE.lst {p q : Prb} (h : PrbE p q) {s : Nat → Int} (g : LstP p s) : LstP q s :=
  ⟨h.fsb g.1, fun v hv j hj e => g.2 v (h.symm.fsb hv) j (by rw [h.1]; exact hj) e⟩
def TmP (p : Prb) (s T : Nat → Int) : Prop := (∀ o, o < p.n → ∃ t : Int, 0 ≤ t ∧ T o = s o + p.d * t) ∧ ∀ a b x, p.E a b x → T a + x ≤ T b
def TmL (p : Prb) (s T : Nat → Int) : Prop := TmP p s T ∧ ∀ T', TmP p s T' → ∀ o, o < p.n → T o ≤ T' o
theorem TmL.eq {p : Prb} {s T T' : Nat → Int} (h : TmL p s T) (g : TmL p s T') : ∀ o, o < p.n → T o = T' o := fun o ho => by
  have a := h.2 T' g.1 o ho
  have b := g.2 T h.1 o ho
  omega
theorem TmP.cg {p : Prb} {s s' T : Nat → Int} (e : ∀ o, o < p.n → s o = s' o) (h : TmP p s T) : TmP p s' T := ⟨fun o ho => by
  rw [← e o ho]; exact h.1 o ho, h.2⟩
theorem TmL.cg {p : Prb} {s s' T : Nat → Int} (e : ∀ o, o < p.n → s o = s' o) (h : TmL p s T) : TmL p s' T := ⟨h.1.cg e, fun T' hT' o ho => h.2 T' (hT'.cg (fun o ho => (e o ho).symm)) o ho⟩
theorem PrbE.tmp {p q : Prb} (h : PrbE p q) {s T : Nat → Int} (g : TmP p s T) : TmP q s T := ⟨fun o ho => by
  rw [← h.2.1]; exact g.1 o (by rw [h.1]; exact ho), fun a b x hx => g.2 a b x ((h.2.2.2.2 a b x).mpr hx)⟩
theorem PrbE.tml {p q : Prb} (h : PrbE p q) {s T : Nat → Int} (g : TmL p s T) : TmL q s T := ⟨h.tmp g.1, fun T' hT' o ho => g.2 T' (h.symm.tmp hT') o (by rw [h.1]; exact ho)⟩
theorem Wk.tu {p : Prb} {s t : Nat → Int} (h : TuP p s t) : ∀ {l : List Nat} {a b : Nat} {v : Int}, Wk p.E a l b v → s a + p.d * t a + v ≤ s b + p.d * t b
  | [], a, b, v, g => h a b v g
  | c :: l, a, b, v, ⟨x, y, g1, g2, g3⟩ => by
    have := h _ _ _ g1
    have := Wk.tu h g2
    omega
end
section
/-! slots by groups: rings of needs apart, mixing, turning round, twins -/
def cdv (z d : Int) : Int := -((-z) / d)
theorem cdv_le {z d y : Int} (hd : 0 < d) : cdv z d ≤ y ↔ z ≤ d * y := by
  have h := Int.le_ediv_iff_mul_le (a := -y) (b := -z) hd
  rw [Int.neg_mul, Int.mul_comm] at h
  unfold cdv
  constructor
  · intro q
    have := h.mp (by omega)
    omega
  · intro q
    have := h.mpr (by omega)
    omega
def Rch (E : Nat → Nat → Int → Prop) (a b : Nat) : Prop := ∃ l v, Wk E a l b v
theorem Rch.tr {E : Nat → Nat → Int → Prop} {a b c : Nat} (h : Rch E a b) (g : Rch E b c) : Rch E a c := by
  obtain ⟨l, v, h⟩ := h
  obtain ⟨l', v', g⟩ := g
  exact ⟨_, _, Wk.app h g⟩
theorem Rch.ed {E : Nat → Nat → Int → Prop} {a b : Nat} {x : Int} (h : E a b x) : Rch E a b := ⟨[], x, h⟩
def tie (E : Nat → Nat → Int → Prop) (a b : Nat) : Prop := ¬ a = b ∧ Rch E a b ∧ Rch E b a
def scc (E : Nat → Nat → Int → Prop) (a b : Nat) : Prop := a = b ∨ tie E a b
theorem tie.sy {E : Nat → Nat → Int → Prop} {a b : Nat} (h : tie E a b) : tie E b a := ⟨fun e => h.1 e.symm, h.2.2, h.2.1⟩
theorem scc.rf {E : Nat → Nat → Int → Prop} {a : Nat} : scc E a a := Or.inl rfl
theorem scc.sy {E : Nat → Nat → Int → Prop} {a b : Nat} (h : scc E a b) : scc E b a := h.imp Eq.symm tie.sy
theorem scc.tr {E : Nat → Nat → Int → Prop} {a b c : Nat} (h : scc E a b) (g : scc E b c) : scc E a c := by
  rcases h with rfl | h
  · exact g
  · rcases g with rfl | g
    · exact Or.inr h
    · by_cases e : a = c
      · exact Or.inl e
      · exact Or.inr ⟨e, h.2.1.tr g.2.1, g.2.2.tr h.2.2⟩
theorem scc.ti {E : Nat → Nat → Int → Prop} {a b : Nat} (h : scc E a b) (e : ¬ a = b) : tie E a b := h.resolve_left e
def PrW (p : Prb) : Prop := 0 < p.d ∧ (∀ a b x, p.E a b x → (a < p.n ∧ b < p.n) ∧ x ≤ 6) ∧ (∀ u, u < 3 → 0 ≤ p.ct u) ∧ NoUp p.E
theorem tie.v {p : Prb} (hP : PrW p) {a b : Nat} (h : tie p.E a b) : a < p.n ∧ b < p.n := by
  obtain ⟨l, v, g⟩ := h.2.1
  exact ⟨(Wk.ends (fun a b x e => (hP.2.1 a b x e).1) g).1, (Wk.ends (fun a b x e => (hP.2.1 a b x e).1) g).2.1⟩
def TuL (p : Prb) (s : Nat → Int) (C : Nat → Prop) (t : Nat → Int) : Prop := ∀ a b x, p.E a b x → C a → C b → s a + p.d * t a + x ≤ s b + p.d * t b
theorem TuL.cg {p : Prb} {s s' t : Nat → Int} {C : Nat → Prop} (h : TuL p s C t) (e : ∀ o, C o → s o = s' o) : TuL p s' C t := fun a b x hx ha hb => by
  rw [← e a ha, ← e b hb]; exact h a b x hx ha hb
def CEd (p : Prb) (s : Nat → Int) (a b : Nat) (y : Int) : Prop := ∃ x, p.E a b x ∧ y = cdv (x + s a - s b) p.d
theorem CEd.le {p : Prb} {s t : Nat → Int} (hP : PrW p) {a b : Nat} {x : Int} (h : s a + p.d * t a + x ≤ s b + p.d * t b) : t a + cdv (x + s a - s b) p.d ≤ t b := by
  have := (cdv_le (z := x + s a - s b) (y := t b - t a) hP.1).mpr (by rw [Int.mul_sub]; omega)
  omega
theorem CEd.tu {p : Prb} {s t : Nat → Int} (hP : PrW p) (h : ∀ a b y, CEd p s a b y → t a + y ≤ t b) : TuP p s t := fun a b x hx => by
  have g := h a b _ ⟨x, hx, rfl⟩
  have := (cdv_le (z := x + s a - s b) (y := t b - t a) hP.1).mp (by omega)
  rw [Int.mul_sub] at this
  omega
theorem CEd.rch {p : Prb} {s : Nat → Int} : ∀ {l : List Nat} {a b : Nat} {v : Int}, Wk (CEd p s) a l b v → Rch p.E a b
  | [], a, b, v, ⟨x, h, _⟩ => Rch.ed h
  | c :: l, a, b, v, ⟨x, y, ⟨x', h1, _⟩, h2, _⟩ => (Rch.ed h1).tr (CEd.rch h2)
theorem CEd.wk {p : Prb} {s t : Nat → Int} (hP : PrW p) {r : Nat} (ht : TuL p s (scc p.E r) t) : ∀ {l : List Nat} {a b : Nat} {v : Int}, (r = a ∨ Rch p.E r a) → (b = r ∨ Rch p.E b r) → Wk (CEd p s) a l b v → t a + v ≤ t b
  | [], a, b, v, ha, hb, ⟨x, h1, h2⟩ => by
    have e := Rch.ed h1
    have ba : b = r ∨ Rch p.E b r := hb
    have ra : Rch p.E r b := ha.elim (fun q => by rw [q]; exact e) (fun q => q.tr e)
    have ar : Rch p.E a r := hb.elim (fun q => by rw [← q]; exact e) (fun q => e.tr q)
    have sa : scc p.E r a := by
      by_cases q : r = a
      · exact Or.inl q
      · exact Or.inr ⟨q, ha.resolve_left q, ar⟩
    have sb : scc p.E r b := by
      by_cases q : r = b
      · exact Or.inl q
      · exact Or.inr ⟨q, ra, hb.resolve_left (fun z => q z.symm)⟩
    rw [h2]
    exact CEd.le hP (ht a b x h1 sa sb)
  | c :: l, a, b, v, ha, hb, ⟨y1, y2, ⟨x, h1, h2⟩, g, e2⟩ => by
    have e := Rch.ed h1
    have rc : Rch p.E r c := ha.elim (fun q => by rw [q]; exact e) (fun q => q.tr e)
    have cb := CEd.rch g
    have cr : Rch p.E c r := hb.elim (fun q => by rw [← q]; exact cb) (fun q => cb.tr q)
    have sa : scc p.E r a := by
      by_cases q : r = a
      · exact Or.inl q
      · exact Or.inr ⟨q, ha.resolve_left q, e.tr cr⟩
    have sc : scc p.E r c := by
      by_cases q : r = c
      · exact Or.inl q
      · exact Or.inr ⟨q, rc, cr⟩
    have k1 := CEd.le hP (ht a c x h1 sa sc)
    have k2 := CEd.wk hP ht (Or.inr rc) hb g
    rw [e2, h2]
    omega
theorem tu_glob {p : Prb} {s : Nat → Int} (hP : PrW p) (hS : SlP p s) (h : ∀ a, a < p.n → ∃ t, TuL p s (scc p.E a) t) : ∃ t, TuP p s t := by
  have hd := hP.1
  have ub : ∀ a b y, CEd p s a b y → y ≤ 6 + p.d := fun a b y ⟨x, h1, h2⟩ => by
    have v := hP.2.1 a b x h1
    have sa := hS a v.1.1
    have sb := hS b v.1.2
    rw [h2]
    refine (cdv_le hd).mpr ?_
    have q : (6 + p.d) * 1 ≤ (6 + p.d) * p.d := Int.mul_le_mul_of_nonneg_left (by omega) (by omega)
    rw [Int.mul_one, Int.mul_comm (6 + p.d) p.d] at q
    omega
  obtain ⟨P, -, p2⟩ := pot (E := CEd p s) (k := p.n) (B := ((6 + p.d) * ((p.n : Int) + 1)).toNat) (fun a b y ⟨x, h1, _⟩ => (hP.2.1 a b x h1).1) (fun a l v ha _ _ hw => by
    obtain ⟨t, ht⟩ := h a ha
    have := CEd.wk hP ht (Or.inl rfl) (Or.inl rfl) hw
    omega) (fun a l b v hb n1 n2 hw => by
    have l1 := nd_len (k := p.n) n1 (fun c hc => by
      rcases List.mem_cons.mp hc with rfl | hc
      · exact hb
      · exact n2 c hc)
    rw [List.length_cons, List.length_cons] at l1
    have g := Wk.le6 (c := 6 + p.d) (by omega) ub hw
    have := Int.mul_le_mul_of_nonneg_left (show (l.length : Int) + 1 ≤ (p.n : Int) + 1 by omega) (show 0 ≤ 6 + p.d by omega)
    omega)
  exact ⟨P, CEd.tu hP p2⟩
def ClG (p : Prb) (M : Nat → Prop) : Prop := (∀ a b, a < p.n → b < p.n → p.un a = p.un b → M a → M b) ∧ ∀ a b, tie p.E a b → M a → M b
theorem ClG.no {p : Prb} {M : Nat → Prop} (h : ClG p M) : ClG p (fun o => ¬ M o) := ⟨fun a b ha hb e q w => q (h.1 b a hb ha e.symm w), fun a b t q w => q (h.2 b a t.sy w)⟩
theorem ClG.sc {p : Prb} {M : Nat → Prop} (h : ClG p M) {a b : Nat} (g : scc p.E a b) (ha : M a) : M b := g.elim (fun e => e ▸ ha) (fun t => h.2 a b t ha)
def FsbM (p : Prb) (M : Nat → Prop) (s : Nat → Int) : Prop := (∀ o, o < p.n → M o → 0 ≤ s o ∧ s o < p.d) ∧ (∀ u k : Int, 0 ≤ u → u < 3 → 0 ≤ k → k < p.d → usM M p.un p.bu p.d s u k p.n ≤ p.ct u.toNat) ∧ ∀ a, a < p.n → M a → ∃ t, TuL p s (scc p.E a) t
theorem Fsb.m {p : Prb} {s : Nat → Int} (h : Fsb p s) (M : Nat → Prop) : FsbM p M s := by
  obtain ⟨h1, h2, t, h3⟩ := h
  refine ⟨fun o ho _ => h1 o ho, fun u k a b c e => ?_, fun a _ _ => ⟨t, fun a b x hx _ _ => h3 a b x hx⟩⟩
  exact Int.le_trans (usM_mono p.n (fun o _ _ => trivial)) (h2 u k a b c e)
theorem FsbM.cg {p : Prb} {M : Nat → Prop} {s s' : Nat → Int} (hM : ClG p M) (h : FsbM p M s) (hv : ∀ a b, tie p.E a b → b < p.n) (e : ∀ o, o < p.n → M o → s o = s' o) : FsbM p M s' := by
  refine ⟨fun o ho m => by rw [← e o ho m]; exact h.1 o ho m, fun u k a b c w => ?_, fun a ha m => ?_⟩
  · rw [← usM_cg (s := s) (s' := s') p.n (fun o ho _ => ⟨Iff.rfl, fun m => e o ho m⟩)]
    exact h.2.1 u k a b c w
  · obtain ⟨t, ht⟩ := h.2.2 a ha m
    refine ⟨t, ht.cg (fun o ho => e o ?_ (hM.sc ho m))⟩
    rcases ho with rfl | ho
    · exact ha
    · exact hv _ _ ho
theorem usM_none {M : Nat → Prop} {un bu : Nat → Int} {d : Int} {s : Nat → Int} {u k : Int} : ∀ n, (∀ o, o < n → ¬ (M o ∧ un o = u)) → usM M un bu d s u k n = 0
  | 0, _ => rfl
  | n + 1, h => by
    unfold usM
    rw [usM_none n (fun o ho => h o (by omega)), cIf.n (h n (by omega)), Int.add_zero]
theorem fsb_all {p : Prb} {s : Nat → Int} (hP : PrW p) (h : ∀ a, a < p.n → ∃ M, M a ∧ ClG p M ∧ FsbM p M s) : Fsb p s := by
  have hS : SlP p s := fun o ho => by
    obtain ⟨M, m, -, f⟩ := h o ho
    exact f.1 o ho m
  refine ⟨hS, fun u k a b c e => ?_, tu_glob hP hS (fun a ha => ?_)⟩
  · unfold Prb.us
    by_cases q : ∃ o, o < p.n ∧ p.un o = u
    · obtain ⟨o, ho, hu⟩ := q
      obtain ⟨M, m, hM, f⟩ := h o ho
      rw [usM_cg (M' := M) (s' := s) p.n (fun o2 h2 e2 => ⟨⟨fun _ => hM.1 o o2 ho h2 (by rw [hu, e2]) m, fun _ => trivial⟩, fun _ => rfl⟩)]
      exact f.2.1 u k a b c e
    · rw [usM_none p.n (fun o ho w => q ⟨o, ho, w.2⟩)]
      exact hP.2.2.1 u.toNat (by omega)
  · obtain ⟨M, m, -, f⟩ := h a ha
    exact f.2.2 a ha m
noncomputable def mixS (M : Nat → Prop) (w s : Nat → Int) : Nat → Int := fun o => cIf (M o) (w o) (s o)
theorem mixS.y {M : Nat → Prop} {w s : Nat → Int} {o : Nat} (h : M o) : mixS M w s o = w o := cIf.y h
theorem mixS.n {M : Nat → Prop} {w s : Nat → Int} {o : Nat} (h : ¬ M o) : mixS M w s o = s o := cIf.n h
theorem mix_fsb {p : Prb} {M : Nat → Prop} {w s : Nat → Int} (hP : PrW p) (hM : ClG p M) (h : FsbM p M w) (g : Fsb p s) : Fsb p (mixS M w s) := by
  refine fsb_all hP (fun a ha => ?_)
  by_cases m : M a
  · exact ⟨M, m, hM, h.cg hM (fun a b t => (t.v hP).2) (fun o _ mo => (mixS.y mo).symm)⟩
  · exact ⟨fun o => ¬ M o, m, hM.no, (g.m _).cg hM.no (fun a b t => (t.v hP).2) (fun o _ mo => (mixS.n mo).symm)⟩
/-! turned round -/
theorem rot1 {d x c r k : Int} (hd : 0 < d) (hk : 0 ≤ k ∧ k < d) : ((x + c) % d + r) % d = k ↔ (x + r) % d = (k - c) % d := by
  rw [Int.emod_add_emod]
  have e := Int.emod_eq_of_lt hk.1 hk.2
  constructor
  · intro h
    have q := Int.emod_eq_emod_iff_emod_sub_eq_zero.mp (h.trans e.symm)
    exact Int.emod_eq_emod_iff_emod_sub_eq_zero.mpr (by rw [show x + r - (k - c) = x + c + r - k by omega]; exact q)
  · intro h
    have q := Int.emod_eq_emod_iff_emod_sub_eq_zero.mp h
    have := Int.emod_eq_emod_iff_emod_sub_eq_zero.mpr (show (x + c + r - k) % d = 0 by rw [show x + c + r - k = x + r - (k - c) by omega]; exact q)
    rw [this, e]
theorem rot_us1 {d x c bu k : Int} (hd : 0 < d) (hk : 0 ≤ k ∧ k < d) : us1 d ((x + c) % d) bu k = us1 d x bu ((k - c) % d) := by
  have h0 := rot1 (x := x) (c := c) (r := 0) hd hk
  have h1 := rot1 (x := x) (c := c) (r := 1) hd hk
  have h2 := rot1 (x := x) (c := c) (r := 2) hd hk
  have h3 := rot1 (x := x) (c := c) (r := 3) hd hk
  rw [Int.add_zero, Int.add_zero] at h0
  unfold us1
  simp only [h0, h1, h2, h3]
theorem rot_usM {M : Nat → Prop} {un bu : Nat → Int} {d c : Int} {s : Nat → Int} {u k : Int} (hd : 0 < d) (hk : 0 ≤ k ∧ k < d) : ∀ n, usM M un bu d (fun o => (s o + c) % d) u k n = usM M un bu d s u ((k - c) % d) n
  | 0 => rfl
  | n + 1 => by
    unfold usM
    rw [rot_usM hd hk n, rot_us1 hd hk]
theorem rot_fsb {p : Prb} {M : Nat → Prop} {s : Nat → Int} (c : Int) (hd : 0 < p.d) (h : FsbM p M s) : FsbM p M (fun o => (s o + c) % p.d) := by
  refine ⟨fun o _ _ => ⟨Int.emod_nonneg _ (by omega), Int.emod_lt_of_pos _ hd⟩, fun u k a b e f => ?_, fun a ha m => ?_⟩
  · rw [rot_usM hd ⟨e, f⟩]
    exact h.2.1 u _ a b (Int.emod_nonneg _ (by omega)) (Int.emod_lt_of_pos _ hd)
  · obtain ⟨t, ht⟩ := h.2.2 a ha m
    refine ⟨fun o => t o + (s o + c) / p.d, fun a b x hx ca cb => ?_⟩
    have g := ht a b x hx ca cb
    have e1 := Int.mul_ediv_add_emod (s a + c) p.d
    have e2 := Int.mul_ediv_add_emod (s b + c) p.d
    show (s a + c) % p.d + p.d * (t a + (s a + c) / p.d) + x ≤ (s b + c) % p.d + p.d * (t b + (s b + c) / p.d)
    rw [Int.mul_add, Int.mul_add]
    omega
/-! twins -/
def Twn (p : Prb) (i j : Nat) : Prop := p.un i = p.un j ∧ (∀ x k, us1 p.d x (p.bu i) k = us1 p.d x (p.bu j) k) ∧ (∀ o, ¬ tie p.E i o) ∧ ∀ o, ¬ tie p.E j o
def swS (i j : Nat) (s : Nat → Int) : Nat → Int := fun o => if o = i then s j else if o = j then s i else s o
theorem us_st {p : Prb} {s : Nat → Int} {u k : Int} {m : Nat} : p.us s u k (m + 1) = p.us s u k m + cIf (p.un m = u) (us1 p.d (s m) (p.bu m) k) 0 := by
  show p.us s u k m + cIf _ _ _ = _
  by_cases q : p.un m = u
  · rw [cIf.y q, cIf.y ⟨trivial, q⟩]
  · rw [cIf.n q, cIf.n (fun z => q z.2)]
theorem sw_us {p : Prb} {s : Nat → Int} {i j : Nat} (h : Twn p i j) (hij : ¬ i = j) (u k : Int) : ∀ m, p.us (swS i j s) u k m = p.us s u k m + cIf (p.un i = u) (cIf (i < m) (us1 p.d (s j) (p.bu i) k - us1 p.d (s i) (p.bu i) k) 0 + cIf (j < m) (us1 p.d (s i) (p.bu i) k - us1 p.d (s j) (p.bu i) k) 0) 0
  | 0 => by
    rw [cIf.n (show ¬ i < 0 by omega), cIf.n (show ¬ j < 0 by omega)]
    show (0 : Int) = 0 + _
    by_cases q : p.un i = u
    · rw [cIf.y q]; rfl
    · rw [cIf.n q]; rfl
  | m + 1 => by
    have ih := sw_us (s := s) h hij u k m
    rw [us_st, us_st, ih]
    have tw := h.2.1
    have un := h.1
    by_cases e1 : m = i
    · subst e1
      have s1 : swS m j s m = s j := if_pos rfl
      rw [s1]
      by_cases q : p.un m = u
      · rw [cIf.y q, cIf.y q, cIf.y q, cIf.y q, cIf.n (Nat.lt_irrefl m), cIf.y (Nat.lt_succ_self m)]
        by_cases w : j < m
        · rw [cIf.y w, cIf.y (show j < m + 1 by omega)]; omega
        · rw [cIf.n w, cIf.n (show ¬ j < m + 1 by omega)]; omega
      · rw [cIf.n q, cIf.n q, cIf.n q, cIf.n q]
    · by_cases e2 : m = j
      · subst e2
        have s1 : swS i m s m = s i := by unfold swS; rw [if_neg e1, if_pos rfl]
        rw [s1]
        by_cases q : p.un m = u
        · rw [cIf.y q, cIf.y q, cIf.y (un.trans q), cIf.y (un.trans q), cIf.n (Nat.lt_irrefl m), cIf.y (Nat.lt_succ_self m), ← tw (s i) k, ← tw (s m) k]
          by_cases w : i < m
          · rw [cIf.y w, cIf.y (show i < m + 1 by omega)]; omega
          · rw [cIf.n w, cIf.n (show ¬ i < m + 1 by omega)]; omega
        · rw [cIf.n q, cIf.n q, cIf.n (fun z => q (un.symm.trans z)), cIf.n (fun z => q (un.symm.trans z))]
      · have s1 : swS i j s m = s m := by unfold swS; rw [if_neg e1, if_neg e2]
        have c1 : (i < m + 1) = (i < m) := propext (by omega)
        have c2 : (j < m + 1) = (j < m) := propext (by omega)
        rw [s1, c1, c2]
        exact Int.add_right_comm _ _ _
theorem swap_fsb {p : Prb} {s : Nat → Int} {i j : Nat} (hP : PrW p) (h : Twn p i j) (hij : ¬ i = j) (hi : i < p.n) (hj : j < p.n) (g : Fsb p s) : Fsb p (swS i j s) := by
  obtain ⟨g1, g2, t, g3⟩ := g
  have hS : SlP p (swS i j s) := fun o ho => by
    unfold swS
    split
    · exact g1 j hj
    · split
      · exact g1 i hi
      · exact g1 o ho
  refine ⟨hS, fun u k a b c e => ?_, tu_glob hP hS (fun a ha => ⟨t, fun x y v hv hx hy => ?_⟩)⟩
  · have w := g2 u k a b c e
    rw [sw_us h hij u k p.n, cIf.y hi, cIf.y hj]
    by_cases q : p.un i = u
    · rw [cIf.y q]; omega
    · rw [cIf.n q]; omega
  · have o := g3 x y v hv
    by_cases q : x = y
    · subst q; omega
    · have xy : tie p.E x y := ((hx.sy).tr hy).ti q
      have n1 : ∀ z, tie p.E x z ∨ tie p.E z x → swS i j s x = s x := fun z hz => by
        unfold swS
        rw [if_neg (fun e => by subst e; exact hz.elim (h.2.2.1 z) (fun w => h.2.2.1 z w.sy)), if_neg (fun e => by subst e; exact hz.elim (h.2.2.2 z) (fun w => h.2.2.2 z w.sy))]
      have n2 : swS i j s y = s y := by
        unfold swS
        rw [if_neg (fun e => by subst e; exact h.2.2.1 x xy.sy), if_neg (fun e => by subst e; exact h.2.2.2 x xy.sy)]
      rw [n1 y (Or.inl xy), n2]
      exact o
/-! the least -/
theorem least_nat {Q : Nat → Prop} : ∀ N, (∃ x, x < N ∧ Q x) → ∃ x, Q x ∧ ∀ y, Q y → x ≤ y
  | 0, ⟨x, h, _⟩ => by omega
  | N + 1, ⟨x, h, q⟩ => by
    by_cases w : ∃ x, x < N ∧ Q x
    · exact least_nat N w
    · refine ⟨x, q, fun y hy => ?_⟩
      by_cases e : x ≤ y
      · exact e
      · exact absurd ⟨y, by omega, hy⟩ w
theorem lst_ex {p : Prb} {s : Nat → Int} (h : Fsb p s) : ∃ L, LstP p L := by
  have key : ∀ j, j ≤ p.n → ∃ v, Fsb p v ∧ ∀ w, Fsb p w → ∀ i, i < j → (∀ l, l < i → w l = v l) → v i ≤ w i := by
    intro j
    induction j with
    | zero => exact fun _ => ⟨s, h, fun w _ i hi => by omega⟩
    | succ j ih =>
      intro hj
      obtain ⟨v, h1, h2⟩ := ih (by omega)
      have r := h1.1 j (by omega)
      obtain ⟨x, ⟨w, g1, g2, g3⟩, g4⟩ := least_nat (Q := fun x => ∃ w, Fsb p w ∧ (∀ l, l < j → w l = v l) ∧ w j = (x : Int)) ((v j).toNat + 1) ⟨(v j).toNat, by omega, v, h1, fun l _ => rfl, by omega⟩
      refine ⟨w, g1, fun w2 k1 i hi k2 => ?_⟩
      by_cases e : i = j
      · subst e
        have r2 := k1.1 i (by omega)
        have := g4 (w2 i).toNat ⟨w2, k1, fun l hl => (k2 l hl).trans (g2 l hl), by omega⟩
        omega
      · rw [g2 i (by omega)]
        exact h2 w2 k1 i (by omega) (fun l hl => (k2 l hl).trans (g2 l (by omega)))
  obtain ⟨v, h1, h2⟩ := key p.n (Nat.le_refl _)
  exact ⟨v, h1, fun w hw j hj e => h2 w hw j hj e⟩
theorem LstP.tw {p : Prb} {L : Nat → Int} (hP : PrW p) (h : LstP p L) {i j : Nat} (ht : Twn p i j) (hij : i < j) (hj : j < p.n) : L i ≤ L j := by
  have g := swap_fsb hP ht (by omega) (by omega) hj h.1
  have := h.2 _ g i (by omega) (fun l hl => by
    unfold swS
    rw [if_neg (by omega), if_neg (by omega)])
  unfold swS at this
  rw [if_pos rfl] at this
  exact this
theorem LstP.le {p : Prb} {L w : Nat → Int} {M : Nat → Prop} (hP : PrW p) (h : LstP p L) (hM : ClG p M) (g : FsbM p M w) {op : Nat} (ho : op < p.n) (e : ∀ o, o < op → M o → w o = L o) (m : M op) : L op ≤ w op := by
  have := h.2 _ (mix_fsb hP hM g h.1) op ho (fun o hl => by
    by_cases q : M o
    · rw [mixS.y q]; exact e o hl q
    · exact mixS.n q)
  rw [mixS.y m] at this
  exact this
theorem LstP.lead {p : Prb} {L : Nat → Int} {M : Nat → Prop} (hP : PrW p) (h : LstP p L) (hM : ClG p M) {op : Nat} (ho : op < p.n) (e : ∀ o, o < op → ¬ M o) (m : M op) : L op = 0 := by
  have := h.le hP hM (rot_fsb (-(L op)) hP.1 (h.1.m M)) ho (fun o hl q => absurd q (e o hl)) m
  have r := h.1.1 op ho
  rw [show L op + -(L op) = 0 by omega, Int.zero_emod] at this
  omega
end
section
/-! bits of numbers; uses of an op by the slots behind its own -/
def Bt (t : Int) (i : Nat) : Prop := (Int32.ofInt t).toBitVec.getLsbD i = true
theorem Bt_of {x : Int32} {i : Nat} : Bt x.toInt i ↔ x.toBitVec.getLsbD i = true := by
  unfold Bt
  rw [Int32.ofInt_toInt]
theorem Bt_ge {t : Int} {i : Nat} (h : 32 ≤ i) : ¬ Bt t i := by
  unfold Bt
  rw [BitVec.getLsbD_of_ge _ _ h]
  exact Bool.false_ne_true
theorem Bt_and {t y b : Int} {i : Nat} (e : b = ((fun (x y : Int32) => x &&& y) (Int32.ofInt t) (Int32.ofInt y)).toInt) : Bt b i ↔ Bt t i ∧ Bt y i := by
  rw [e, Bt_of]
  show ((Int32.ofInt t).toBitVec &&& (Int32.ofInt y).toBitVec).getLsbD i = true ↔ _
  rw [BitVec.getLsbD_and, Bool.and_eq_true]
  exact Iff.rfl
theorem Bt_or {t y b : Int} {i : Nat} (e : b = ((fun (x y : Int32) => x ||| y) (Int32.ofInt t) (Int32.ofInt y)).toInt) : Bt b i ↔ Bt t i ∨ Bt y i := by
  rw [e, Bt_of]
  show ((Int32.ofInt t).toBitVec ||| (Int32.ofInt y).toBitVec).getLsbD i = true ↔ _
  rw [BitVec.getLsbD_or, Bool.or_eq_true]
  exact Iff.rfl
theorem m1_bits : (Int32.ofInt (-1)).toBitVec = BitVec.allOnes 32 := by decide
theorem Bt_not {t b : Int} {i : Nat} (e : b = ((fun (x y : Int32) => x ^^^ y) (Int32.ofInt t) (Int32.ofInt (-1))).toInt) (hi : i < 32) : Bt b i ↔ ¬ Bt t i := by
  rw [e, Bt_of]
  show ((Int32.ofInt t).toBitVec ^^^ (Int32.ofInt (-1)).toBitVec).getLsbD i = true ↔ _
  unfold Bt
  rw [BitVec.getLsbD_xor, m1_bits, BitVec.getLsbD_allOnes, decide_eq_true hi]
  cases (Int32.ofInt t).toBitVec.getLsbD i <;> simp
theorem sh31 : ∀ k, k < 32 → ((Int32.ofInt ((k : Nat) : Int) &&& 31).toBitVec.smod (32 : BitVec 32)) = BitVec.ofNat 32 k := by decide +kernel
theorem Bt_shl {t y b : Int} {i : Nat} (hy : 0 ≤ y ∧ y < 32) (e : b = ((fun (x y : Int32) => x <<< (y &&& 31)) (Int32.ofInt t) (Int32.ofInt y)).toInt) : Bt b i ↔ y.toNat ≤ i ∧ i < 32 ∧ Bt t (i - y.toNat) := by
  rw [e, Bt_of]
  show ((Int32.ofInt t).toBitVec <<< ((Int32.ofInt y &&& 31).toBitVec.smod (32 : BitVec 32))).getLsbD i = true ↔ _
  have q := sh31 y.toNat (by omega)
  rw [show ((y.toNat : Nat) : Int) = y by omega] at q
  rw [q, BitVec.shiftLeft_eq', BitVec.getLsbD_shiftLeft, BitVec.toNat_ofNat, Nat.mod_eq_of_lt (by omega)]
  unfold Bt
  rw [Bool.and_eq_true, Bool.and_eq_true, decide_eq_true_eq, Bool.not_eq_true', decide_eq_false_iff_not]
  exact ⟨fun ⟨⟨a, b⟩, c⟩ => ⟨by omega, a, c⟩, fun ⟨a, b, c⟩ => ⟨⟨b, by omega⟩, c⟩⟩
theorem Bt_shr {t y b : Int} {i : Nat} (ht : ¬ Bt t 31) (hy : 0 ≤ y ∧ y < 32) (e : b = ((fun (x y : Int32) => x >>> (y &&& 31)) (Int32.ofInt t) (Int32.ofInt y)).toInt) : Bt b i ↔ Bt t (i + y.toNat) := by
  by_cases hi : 32 ≤ i
  · exact ⟨fun h => absurd h (Bt_ge hi), fun h => absurd h (Bt_ge (by omega))⟩
  rw [e, Bt_of]
  show ((Int32.ofInt t).toBitVec.sshiftRight ((Int32.ofInt y &&& 31).toBitVec.smod (32 : BitVec 32)).toNat).getLsbD i = true ↔ _
  have q := sh31 y.toNat (by omega)
  rw [show ((y.toNat : Nat) : Int) = y by omega] at q
  rw [q, BitVec.toNat_ofNat, Nat.mod_eq_of_lt (show y.toNat < 2 ^ 32 by omega), BitVec.getLsbD_sshiftRight, BitVec.msb_eq_getLsbD_last]
  rw [decide_eq_false hi]
  by_cases w : y.toNat + i < 32
  · rw [if_pos w, Nat.add_comm y.toNat i]
    exact ⟨fun h => h, fun h => h⟩
  · rw [if_neg w]
    refine ⟨fun h => absurd h ?_, fun h => absurd h (Bt_ge (by omega))⟩
    exact ht
theorem Bt_z {x : Int32} {b : Int} (e : b = x.toInt) : b = 0 ↔ ∀ i, ¬ Bt b i := by
  rw [e, tI0]
  constructor
  · intro h i
    rw [h, Bt_of]
    show ¬ (0#32).getLsbD i = true
    rw [BitVec.getLsbD_zero]
    exact Bool.false_ne_true
  · intro h
    refine Int32.toBitVec_inj.1 (BitVec.eq_of_getLsbD_eq (fun i _ => ?_))
    have q := h i
    rw [Bt_of] at q
    show x.toBitVec.getLsbD i = (0#32).getLsbD i
    rw [BitVec.getLsbD_zero]
    exact Bool.eq_false_iff.mpr q
theorem one_bits : ∀ i, i < 32 → ((Int32.ofInt 1).toBitVec.getLsbD i = true ↔ i = 0) := by decide +kernel
theorem Bt_1 {i : Nat} : Bt 1 i ↔ i = 0 := by
  by_cases h : i < 32
  · exact one_bits i h
  · exact ⟨fun q => absurd q (Bt_ge (by omega)), fun q => by omega⟩
theorem Bt_0 {i : Nat} : ¬ Bt 0 i := (Bt_z (x := 0) (b := 0) rfl).mp rfl i
theorem Bt_bit {o b : Int} {i : Nat} (ho : 0 ≤ o ∧ o < 32) (e : b = ((fun (x y : Int32) => x <<< (y &&& 31)) (Int32.ofInt 1) (Int32.ofInt o)).toInt) : Bt b i ↔ (i : Int) = o := by
  rw [Bt_shl ho e, Bt_1]
  omega
theorem Bt_tst {t o b1 b2 : Int} (ho : 0 ≤ o ∧ o < 32) (e1 : b1 = ((fun (x y : Int32) => x <<< (y &&& 31)) (Int32.ofInt 1) (Int32.ofInt o)).toInt) (e2 : b2 = ((fun (x y : Int32) => x &&& y) (Int32.ofInt t) (Int32.ofInt b1)).toInt) : ¬ b2 = 0 ↔ Bt t o.toNat := by
  rw [Bt_z e2]
  constructor
  · intro h
    by_cases q : Bt t o.toNat
    · exact q
    · refine absurd (fun i w => ?_) h
      rw [Bt_and e2, Bt_bit ho e1] at w
      rw [show i = o.toNat by omega] at w
      exact q w.1
  · intro h q
    have := q o.toNat
    rw [Bt_and e2, Bt_bit ho e1] at this
    exact this ⟨h, by omega⟩
theorem full13 : ∀ k, k < 14 → ∀ i, i < 32 → ((Int32.ofInt ((Int32.ofInt 1 <<< (Int32.ofInt ((k : Nat) : Int) &&& 31)).toInt - 1)).toBitVec.getLsbD i = true ↔ i < k) := by decide +kernel
theorem Bt_full {d b z : Int} {i : Nat} (hd : 0 ≤ d ∧ d < 14) (e1 : b = ((fun (x y : Int32) => x <<< (y &&& 31)) (Int32.ofInt 1) (Int32.ofInt d)).toInt) (e2 : z = b - 1) : Bt z i ↔ (i : Int) < d := by
  by_cases h : i < 32
  · have q := full13 d.toNat (by omega) i h
    rw [show ((d.toNat : Nat) : Int) = d by omega] at q
    rw [e2, e1]
    show (Int32.ofInt ((Int32.ofInt 1 <<< (Int32.ofInt d &&& 31)).toInt - 1)).toBitVec.getLsbD i = true ↔ _
    rw [q]
    omega
  · exact ⟨fun q => absurd q (Bt_ge (by omega)), fun q => by omega⟩
theorem upto13 : ∀ k, k < 13 → ∀ i, i < 32 → ((Int32.ofInt ((Int32.ofInt 2 <<< (Int32.ofInt ((k : Nat) : Int) &&& 31)).toInt - 1)).toBitVec.getLsbD i = true ↔ i ≤ k) := by decide +kernel
theorem Bt_upto {s b z : Int} {i : Nat} (hs : 0 ≤ s ∧ s < 13) (e1 : b = ((fun (x y : Int32) => x <<< (y &&& 31)) (Int32.ofInt 2) (Int32.ofInt s)).toInt) (e2 : z = b - 1) : Bt z i ↔ (i : Int) ≤ s := by
  by_cases h : i < 32
  · have q := upto13 s.toNat (by omega) i h
    rw [show ((s.toNat : Nat) : Int) = s by omega] at q
    rw [e2, e1]
    show (Int32.ofInt ((Int32.ofInt 2 <<< (Int32.ofInt s &&& 31)).toInt - 1)).toBitVec.getLsbD i = true ↔ _
    rw [q]
    omega
  · exact ⟨fun q => absurd q (Bt_ge (by omega)), fun q => by omega⟩
/-! bits of 4 -/
def pw4 : Nat → Int
  | 0 => 1
  | 1 => 2
  | 2 => 4
  | _ => 8
theorem bit4 : ∀ b, b < 16 → ∀ r, r < 4 → ((((Int32.ofInt ((b : Nat) : Int)) >>> ((Int32.ofInt ((r : Nat) : Int)) &&& 31)) &&& (Int32.ofInt 1)).toInt = 1 ↔ (b : Int) / pw4 r % 2 = 1) := by decide +kernel
theorem bitr {bu r b3 b4 : Int} (hb : 0 ≤ bu ∧ bu ≤ 15) (hr : 0 ≤ r ∧ r < 4) (e3 : b3 = ((fun (x y : Int32) => x >>> (y &&& 31)) (Int32.ofInt bu) (Int32.ofInt r)).toInt) (e4 : b4 = ((fun (x y : Int32) => x &&& y) (Int32.ofInt b3) (Int32.ofInt 1)).toInt) : b4 = 1 ↔ bu / pw4 r.toNat % 2 = 1 := by
  have h := bit4 bu.toNat (by omega) r.toNat (by omega)
  rw [show ((bu.toNat : Nat) : Int) = bu by omega, show ((r.toNat : Nat) : Int) = r by omega] at h
  rw [e4, e3]
  show (Int32.ofInt (Int32.ofInt bu >>> (Int32.ofInt r &&& 31)).toInt &&& Int32.ofInt 1).toInt = 1 ↔ _
  rw [Int32.ofInt_toInt]
  exact h
theorem bit4t : ∀ b, b < 16 → ∀ r, r < 4 → ((Int32.ofInt ((b : Nat) : Int)).toBitVec.getLsbD r = true ↔ (b : Int) / pw4 r % 2 = 1) := by decide +kernel
theorem Bt_4 {bu : Int} {r : Nat} (hb : 0 ≤ bu ∧ bu ≤ 15) (hr : r < 4) : Bt bu r ↔ bu / pw4 r % 2 = 1 := by
  have h := bit4t bu.toNat (by omega) r hr
  rw [show ((bu.toNat : Nat) : Int) = bu by omega] at h
  exact h
def uzR (d s bu k : Int) : Nat → Int
  | 0 => 0
  | r + 1 => uzR d s bu k r + (if bu / pw4 r % 2 = 1 ∧ (s + (r : Int)) % d = k then 1 else 0)
theorem uzR4 {d s bu k : Int} : uzR d s bu k 4 = us1 d s bu k := by
  show 0 + (if bu / 1 % 2 = 1 ∧ (s + 0) % d = k then 1 else 0) + (if bu / 2 % 2 = 1 ∧ (s + 1) % d = k then 1 else 0) + (if bu / 4 % 2 = 1 ∧ (s + 2) % d = k then 1 else 0) + (if bu / 8 % 2 = 1 ∧ (s + 3) % d = k then 1 else 0) = _
  rw [Int.ediv_one, Int.add_zero, Int.zero_add]
  rfl
theorem uzR_rg {d s bu k : Int} : ∀ r : Nat, 0 ≤ uzR d s bu k r ∧ uzR d s bu k r ≤ r
  | 0 => by
    show (0 : Int) ≤ 0 ∧ (0 : Int) ≤ ((0 : Nat) : Int)
    omega
  | r + 1 => by
    have := uzR_rg (d := d) (s := s) (bu := bu) (k := k) r
    unfold uzR
    split <;> omega
def askN (d bu r : Int) : Nat → Int
  | 0 => 0
  | j + 1 => askN d bu r j + (if bu / pw4 j % 2 = 1 ∧ (j : Int) % d = r then 1 else 0)
def ask (d bu r : Int) : Int := askN d bu r 4
theorem askN_rg {d bu r : Int} : ∀ j : Nat, 0 ≤ askN d bu r j ∧ askN d bu r j ≤ j
  | 0 => by
    show (0 : Int) ≤ 0 ∧ (0 : Int) ≤ ((0 : Nat) : Int)
    omega
  | j + 1 => by
    have := askN_rg (d := d) (bu := bu) (r := r) j
    unfold askN
    split <;> omega
theorem ask_rg {d bu r : Int} : 0 ≤ ask d bu r ∧ ask d bu r ≤ 4 := askN_rg 4
theorem askN_le {d bu r : Int} {i : Nat} : ∀ j : Nat, i ≤ j → askN d bu r i ≤ askN d bu r j
  | 0, h => by
    have e : i = 0 := by omega
    subst e
    exact Int.le_refl _
  | j + 1, h => by
    by_cases e : i = j + 1
    · subst e; exact Int.le_refl _
    · have := askN_le (d := d) (bu := bu) (r := r) (i := i) j (by omega)
      show _ ≤ askN d bu r j + (if _ then 1 else 0)
      split <;> omega
def spr (d s k : Int) (A : Int → Int) : Int := (if s % d = k then A 0 else 0) + (if (s + 1) % d = k then A 1 else 0) + (if (s + 2) % d = k then A 2 else 0) + (if (s + 3) % d = k then A 3 else 0)
theorem if_add {c : Prop} {_ : Decidable c} {a b : Int} : (if c then a + b else 0) = (if c then a else 0) + (if c then b else 0) := by
  split <;> omega
theorem spr_add {d s k : Int} {A B : Int → Int} : spr d s k (fun r => A r + B r) = spr d s k A + spr d s k B := by
  unfold spr
  rw [if_add, if_add, if_add, if_add]
  omega
theorem spr_one {d s k : Int} (hd : 0 < d) {P : Prop} {_ : Decidable P} {j : Nat} (hj : j < 4) : spr d s k (fun r => if P ∧ (j : Int) % d = r then 1 else 0) = if P ∧ (s + (j : Int)) % d = k then 1 else 0 := by
  have r1 := Int.emod_nonneg (j : Int) (show d ≠ 0 by omega)
  have r2 : (j : Int) % d ≤ j := by
    have e1 := Int.mul_ediv_add_emod (j : Int) d
    have e2 := Int.mul_nonneg (show 0 ≤ d by omega) (Int.ediv_nonneg (show 0 ≤ (j : Int) by omega) (show 0 ≤ d by omega))
    omega
  have e : (s + (j : Int)) % d = (s + (j : Int) % d) % d := by rw [Int.add_emod_emod]
  rw [e]
  have q : (j : Int) % d = 0 ∨ (j : Int) % d = 1 ∨ (j : Int) % d = 2 ∨ (j : Int) % d = 3 := by omega
  unfold spr
  by_cases p : P
  · rcases q with q | q | q | q <;> rw [q] <;> simp [p]
  · simp [p]
theorem us1_spr {d s bu k : Int} (hd : 0 < d) : us1 d s bu k = spr d s k (ask d bu) := by
  have key : ∀ j : Nat, j ≤ 4 → spr d s k (fun r => askN d bu r j) = uzR d s bu k j := by
    intro j
    induction j with
    | zero =>
      intro _
      show spr d s k (fun _ => 0) = 0
      unfold spr
      simp
    | succ j ih =>
      intro hj
      show spr d s k (fun r => askN d bu r j + (if bu / pw4 j % 2 = 1 ∧ (j : Int) % d = r then 1 else 0)) = uzR d s bu k j + (if bu / pw4 j % 2 = 1 ∧ (s + (j : Int)) % d = k then 1 else 0)
      rw [spr_add, ih (by omega), spr_one hd (by omega)]
  rw [← uzR4]
  exact (key 4 (by omega)).symm
theorem ask_out {d bu r : Int} (hd : 0 < d) (h : d ≤ r ∨ r < 0) : ask d bu r = 0 := by
  have key : ∀ j : Nat, askN d bu r j = 0 := by
    intro j
    induction j with
    | zero => rfl
    | succ j ih =>
      have r1 := Int.emod_nonneg (j : Int) (show d ≠ 0 by omega)
      have r2 := Int.emod_lt_of_pos (j : Int) hd
      show askN d bu r j + (if _ ∧ _ then 1 else 0) = 0
      rw [ih, if_neg (fun z => by have := z.2; omega)]
      rfl
  exact key 4
theorem rot_inj {d s a b : Int} (ha : 0 ≤ a ∧ a < d) (hb : 0 ≤ b ∧ b < d) (h : (s + a) % d = (s + b) % d) : a = b := by
  have q := Int.emod_eq_emod_iff_emod_sub_eq_zero.mp h
  rw [show s + a - (s + b) = a - b by omega] at q
  obtain ⟨c, hc⟩ := Int.dvd_of_emod_eq_zero q
  have c0 : c = 0 := by
    by_cases p : 1 ≤ c
    · have := Int.mul_le_mul_of_nonneg_left p (show 0 ≤ d by omega)
      omega
    · by_cases p2 : c ≤ -1
      · have := Int.mul_le_mul_of_nonneg_left p2 (show 0 ≤ d by omega)
        omega
      · omega
  rw [c0, Int.mul_zero] at hc
  omega
theorem spr_at {d s bu : Int} (hd : 0 < d) {r : Int} (hr : 0 ≤ r ∧ r < 4 ∧ r < d) : spr d s ((s + r) % d) (ask d bu) = ask d bu r := by
  have z : ∀ j : Int, 0 ≤ j → ¬ j = r → (if (s + j) % d = (s + r) % d then ask d bu j else 0) = 0 := by
    intro j hj hn
    by_cases w : j < d
    · exact if_neg (fun q => hn (rot_inj ⟨hj, w⟩ ⟨hr.1, hr.2.2⟩ q))
    · rw [ask_out hd (Or.inl (by omega))]
      split <;> rfl
  have e0 : (if s % d = (s + r) % d then ask d bu 0 else 0) = (if (s + 0) % d = (s + r) % d then ask d bu 0 else 0) := by rw [Int.add_zero]
  unfold spr
  rw [e0]
  have q : r = 0 ∨ r = 1 ∨ r = 2 ∨ r = 3 := by omega
  rcases q with q | q | q | q
  · rw [z 1 (by omega) (by omega), z 2 (by omega) (by omega), z 3 (by omega) (by omega), q, if_pos rfl]; omega
  · rw [z 0 (by omega) (by omega), z 2 (by omega) (by omega), z 3 (by omega) (by omega), q, if_pos rfl]; omega
  · rw [z 0 (by omega) (by omega), z 1 (by omega) (by omega), z 3 (by omega) (by omega), q, if_pos rfl]; omega
  · rw [z 0 (by omega) (by omega), z 1 (by omega) (by omega), z 2 (by omega) (by omega), q, if_pos rfl]; omega
theorem spr_off {d s bu k : Int} (hd : 0 < d) (h : ∀ r : Int, 0 ≤ r → r < 4 → 0 < ask d bu r → ¬ (s + r) % d = k) : spr d s k (ask d bu) = 0 := by
  have z : ∀ j : Int, 0 ≤ j → j < 4 → (if (s + j) % d = k then ask d bu j else 0) = 0 := by
    intro j h1 h2
    have := ask_rg (d := d) (bu := bu) (r := j)
    by_cases w : 0 < ask d bu j
    · exact if_neg (h j h1 h2 w)
    · rw [show ask d bu j = 0 by omega]
      split <;> rfl
  have e0 : (if s % d = k then ask d bu 0 else 0) = (if (s + 0) % d = k then ask d bu 0 else 0) := by rw [Int.add_zero]
  unfold spr
  rw [e0, z 0 (by omega) (by omega), z 1 (by omega) (by omega), z 2 (by omega) (by omega), z 3 (by omega) (by omega)]
  rfl
end
section
/-! ties of ops on one ring of needs, and what follows for them from slots -/
def many (E : Nat → Nat → Int → Prop) (a : Nat) : Prop := ∃ b c, ¬ b = c ∧ tie E a b ∧ tie E a c
theorem scc.of {E : Nat → Nat → Int → Prop} {a b c : Nat} (h : tie E a b) (g : tie E a c) : scc E b c := scc.tr (Or.inr h.sy) (Or.inr g)
theorem many.sc {E : Nat → Nat → Int → Prop} {a b : Nat} (h : many E a) (t : tie E a b) : many E b := by
  obtain ⟨b1, b2, h1, h2, h3⟩ := h
  by_cases q : b1 = b
  · exact ⟨a, b2, fun e => h3.1 e, t.sy, (scc.of t h3).ti (fun e => h1 (q.trans e))⟩
  · exact ⟨a, b1, fun e => h2.1 e, t.sy, (scc.of t h2).ti (fun e => q e.symm)⟩
def PSol (E : Nat → Nat → Int → Prop) (W : Nat → Nat → Int) (d : Int) (s : Nat → Int) (P : Nat → Prop) (a : Nat) (τ : Nat → Int) : Prop := (∀ b c, scc E a b → scc E a c → ¬ b = c → τ b + W b c ≤ τ c) ∧ ∀ b, P b → scc E a b → ∃ q, τ b = s b + d * q
theorem PSol.sc {E : Nat → Nat → Int → Prop} {W : Nat → Nat → Int} {d : Int} {s : Nat → Int} {P : Nat → Prop} {a b : Nat} {τ : Nat → Int} (h : PSol E W d s P a τ) (g : scc E a b) : PSol E W d s P b τ := ⟨fun c e hc he => h.1 c e (g.tr hc) (g.tr he), fun c hc hg => h.2 c hc (g.tr hg)⟩
theorem TuL.wk {p : Prb} {s t : Nat → Int} {r : Nat} (ht : TuL p s (scc p.E r) t) : ∀ {l : List Nat} {a b : Nat} {v : Int}, (r = a ∨ Rch p.E r a) → (b = r ∨ Rch p.E b r) → Wk p.E a l b v → s a + p.d * t a + v ≤ s b + p.d * t b
  | [], a, b, v, ha, hb, h1 => by
    have e : Rch p.E a b := ⟨[], v, h1⟩
    have ra : Rch p.E r b := ha.elim (fun q => by rw [q]; exact e) (fun q => q.tr e)
    have ar : Rch p.E a r := hb.elim (fun q => by rw [← q]; exact e) (fun q => e.tr q)
    have sa : scc p.E r a := by
      by_cases q : r = a
      · exact Or.inl q
      · exact Or.inr ⟨q, ha.resolve_left q, ar⟩
    have sb : scc p.E r b := by
      by_cases q : r = b
      · exact Or.inl q
      · exact Or.inr ⟨q, ra, hb.resolve_left (fun z => q z.symm)⟩
    exact ht a b v h1 sa sb
  | c :: l, a, b, v, ha, hb, ⟨x, y2, h1, g, e2⟩ => by
    have e := Rch.ed h1
    have rc : Rch p.E r c := ha.elim (fun q => by rw [q]; exact e) (fun q => q.tr e)
    have cb : Rch p.E c b := ⟨l, y2, g⟩
    have cr : Rch p.E c r := hb.elim (fun q => by rw [← q]; exact cb) (fun q => cb.tr q)
    have sa : scc p.E r a := by
      by_cases q : r = a
      · exact Or.inl q
      · exact Or.inr ⟨q, ha.resolve_left q, e.tr cr⟩
    have sc : scc p.E r c := by
      by_cases q : r = c
      · exact Or.inl q
      · exact Or.inr ⟨q, rc, cr⟩
    have k1 := ht a c x h1 sa sc
    have k2 := TuL.wk ht (Or.inr rc) hb g
    rw [e2]
    omega
def WyC (p : Prb) (W : Nat → Nat → Int) (nn : Int) : Prop := ∀ a b, a < p.n → b < p.n → WyV p.E nn a b (W a b)
theorem WyC.tie {p : Prb} {W : Nat → Nat → Int} {nn : Int} (hP : PrW p) (h : WyC p W nn) {a b : Nat} (t : tie p.E a b) : ¬ W a b = nn ∧ (∃ l, Wk p.E a l b (W a b)) ∧ ∀ l v, Wk p.E a l b v → v ≤ W a b := by
  obtain ⟨l, v, g⟩ := t.2.1
  rcases h a b (t.v hP).1 (t.v hP).2 with ⟨-, q⟩ | q
  · exact absurd g (q l v)
  · exact q
theorem TuL.sol {p : Prb} {W : Nat → Nat → Int} {nn : Int} (hP : PrW p) (hW : WyC p W nn) {s t : Nat → Int} {r : Nat} (ht : TuL p s (scc p.E r) t) (P : Nat → Prop) : PSol p.E W p.d s P r (fun o => s o + p.d * t o) := by
  refine ⟨fun b c hb hc hn => ?_, fun b _ _ => ⟨t b, rfl⟩⟩
  have bc : tie p.E b c := ((hb.sy).tr hc).ti hn
  obtain ⟨-, ⟨l, g⟩, -⟩ := hW.tie hP bc
  refine TuL.wk ht ?_ ?_ g
  · rcases hb with rfl | hb
    · exact Or.inl rfl
    · exact Or.inr hb.2.1
  · rcases hc with rfl | hc
    · exact Or.inl rfl
    · exact Or.inr hc.2.2
theorem PSol.tu {p : Prb} {W : Nat → Nat → Int} {nn : Int} (hP : PrW p) (hW : WyC p W nn) {s τ : Nat → Int} {r : Nat} {P : Nat → Prop} (hA : ∀ b, scc p.E r b → P b) (h : PSol p.E W p.d s P r τ) : ∃ t, TuL p s (scc p.E r) t := by
  have g : ∀ b, ∃ q, scc p.E r b → τ b = s b + p.d * q := fun b => by
    by_cases w : scc p.E r b
    · obtain ⟨q, e⟩ := h.2 b (hA b w) w
      exact ⟨q, fun _ => e⟩
    · exact ⟨0, fun z => absurd z w⟩
  refine ⟨fun b => Classical.choose (g b), fun a b x hx ha hb => ?_⟩
  have ea := Classical.choose_spec (g a) ha
  have eb := Classical.choose_spec (g b) hb
  rw [← ea, ← eb]
  by_cases q : a = b
  · subst q
    have := hP.2.2.2 a [] x List.nodup_nil hx
    omega
  · have ab : tie p.E a b := ((ha.sy).tr hb).ti q
    have := (hW.tie hP ab).2.2 [] x hx
    have := h.1 a b ha hb q
    omega
def TiX (E : Nat → Nat → Int → Prop) (W : Nat → Nat → Int) (d : Int) (s : Nat → Int) (P : Nat → Prop) (T : Nat → Nat → Int) : Prop :=
  (∀ a τ, PSol E W d s P a τ → ∀ b c, scc E a b → scc E a c → ¬ b = c → τ b + T b c ≤ τ c) ∧
  (∀ b c, tie E b c → W b c ≤ T b c) ∧
  (∀ b c, tie E b c → ¬ many E b → T b c = W b c) ∧
  (∀ a b, P a → P b → tie E a b → many E a → (∃ q, s a + T a b + d * q = s b) ∧ T a b + T b a ≤ 0 ∧ ∀ c, P c → tie E a c → tie E c b → T a c + T c b ≤ T a b) ∧
  (∀ b c, tie E b c → -801 ≤ T b c ∧ T b c ≤ 1602)
def AlnX (E : Nat → Nat → Int → Prop) (W : Nat → Nat → Int) (d : Int) (s : Nat → Int) (P : Nat → Prop) (T : Nat → Nat → Int) (op : Nat) (x : Int) (I O : Nat → Int) : Prop :=
  (∀ i, tie E op i → T i op ≤ I i ∧ T op i ≤ O i ∧ I i + O i ≤ 0) ∧
  (∀ i, tie E op i → P i → (∃ q, s i + I i + d * q = x) ∧ ∃ q, x + O i + d * q = s i) ∧
  (∀ i j, tie E op i → tie E op j → P i → P j → ¬ i = j → T i j + I j ≤ I i ∧ O j + T j i ≤ O i) ∧
  (∀ τ, PSol E W d s P op τ → (∃ q, τ op = x + d * q) → ∀ i, tie E op i → τ i + I i ≤ τ op ∧ τ op + O i ≤ τ i)
def TgtX (E : Nat → Nat → Int → Prop) (T : Nat → Nat → Int) (op : Nat) (I O : Nat → Int) (T' : Nat → Nat → Int) : Prop :=
  (∀ i, tie E op i → T' i op = I i ∧ T' op i = O i) ∧
  (∀ i j, tie E op i → tie E op j → ¬ i = j → T' i j = max (T i j) (I i + O j)) ∧
  (∀ i j, tie E i j → ¬ tie E op i → ¬ op = i → T' i j = T i j)
section TIES
variable {E : Nat → Nat → Int → Prop} {W : Nat → Nat → Int} {d : Int} {s : Nat → Int} {P : Nat → Prop} {T T' : Nat → Nat → Int} {op : Nat} {x : Int} {I O : Nat → Int}
def plusS (s : Nat → Int) (op : Nat) (x : Int) : Nat → Int := fun o => if o = op then x else s o
def plusP (P : Nat → Prop) (op : Nat) : Nat → Prop := fun o => P o ∨ o = op
theorem plusS.ne {o : Nat} (h : ¬ o = op) : plusS s op x o = s o := if_neg h
theorem plusS.eq : plusS s op x op = x := if_pos rfl
theorem PSol.less (hop : ¬ P op) {a : Nat} {τ : Nat → Int} (h : PSol E W d (plusS s op x) (plusP P op) a τ) : PSol E W d s P a τ := ⟨h.1, fun b hb hg => by
  have e : ¬ b = op := fun e => by subst e; exact hop hb
  have := h.2 b (Or.inl hb) hg
  rw [plusS.ne e] at this
  exact this⟩
theorem PSol.at {τ : Nat → Int} (h : PSol E W d (plusS s op x) (plusP P op) op τ) : ∃ q, τ op = x + d * q := by
  have := h.2 op (Or.inr rfl) scc.rf
  rw [plusS.eq] at this
  exact this
theorem cng_add {d a b c x y : Int} (h : ∃ q, a + x + d * q = b) (g : ∃ q, b + y + d * q = c) : ∃ q, a + (x + y) + d * q = c := by
  obtain ⟨q, h⟩ := h
  obtain ⟨r, g⟩ := g
  exact ⟨q + r, by rw [Int.mul_add]; omega⟩
theorem cng_max {d a b x y : Int} (h : ∃ q, a + x + d * q = b) (g : ∃ q, a + y + d * q = b) : ∃ q, a + max x y + d * q = b := by
  by_cases w : x ≤ y
  · rw [Int.max_eq_right w]; exact g
  · rw [Int.max_eq_left (by omega)]; exact h
theorem TiX.step (hW : ∀ b c, tie E b c → -801 ≤ W b c) (h : TiX E W d s P T) (hop : ¬ P op) (hm : many E op) (hA : AlnX E W d s P T op x I O) (hT : TgtX E T op I O T') : TiX E W d (plusS s op x) (plusP P op) T' := by
  obtain ⟨h1, h2, h3, h4, h5⟩ := h
  obtain ⟨a1, a2, a3, a4⟩ := hA
  obtain ⟨t1, t2, t3⟩ := hT
  -- how a tie is told now
  have tl : ∀ b c, tie E b c → (b = op ∧ tie E op c ∧ T' b c = O c) ∨ (c = op ∧ tie E op b ∧ T' b c = I b) ∨ (tie E op b ∧ tie E op c ∧ T' b c = max (T b c) (I b + O c)) ∨ (¬ tie E op b ∧ ¬ op = b ∧ ¬ tie E op c ∧ ¬ op = c ∧ T' b c = T b c) := by
    intro b c hbc
    by_cases e1 : op = b
    · subst e1; exact Or.inl ⟨rfl, hbc, (t1 c hbc).2⟩
    · by_cases e2 : op = c
      · subst e2; exact Or.inr (Or.inl ⟨rfl, hbc.sy, (t1 b hbc.sy).1⟩)
      · by_cases w : tie E op b
        · have wc : tie E op c := (scc.tr (Or.inr w) (Or.inr hbc)).ti e2
          exact Or.inr (Or.inr (Or.inl ⟨w, wc, t2 b c w wc hbc.1⟩))
        · have wc : ¬ tie E op c := fun q => w ((scc.tr (Or.inr q) (Or.inr hbc.sy)).ti e1)
          exact Or.inr (Or.inr (Or.inr ⟨w, e1, wc, e2, t3 b c hbc w e1⟩))
  have up : ∀ b c, tie E b c → T b c ≤ T' b c := by
    intro b c hbc
    rcases tl b c hbc with ⟨rfl, w, e⟩ | ⟨rfl, w, e⟩ | ⟨w1, w2, e⟩ | ⟨-, -, -, -, e⟩
    · rw [e]; exact (a1 c w).2.1
    · rw [e]; exact (a1 b w).1
    · rw [e]; omega
    · rw [e]; exact Int.le_refl _
  have Ib : ∀ i, tie E op i → -801 ≤ I i ∧ I i ≤ 801 ∧ -801 ≤ O i ∧ O i ≤ 801 := by
    intro i hi
    have := a1 i hi
    have := h2 i op hi.sy
    have := h2 op i hi
    have := hW i op hi.sy
    have := hW op i hi
    omega
  have pP : ∀ o, plusP P op o → ¬ o = op → P o := fun o h e => h.resolve_right e
  refine ⟨?_, fun b c hbc => Int.le_trans (h2 b c hbc) (up b c hbc), fun b c hbc hn => ?_, ?_, fun b c hbc => ?_⟩
  · intro a τ hτ b c hb hc hn
    have hτ0 := hτ.less hop
    have bc : tie E b c := ((hb.sy).tr hc).ti hn
    have g0 := h1 a τ hτ0 b c hb hc hn
    rcases tl b c bc with ⟨rfl, w, e⟩ | ⟨rfl, w, e⟩ | ⟨w1, w2, e⟩ | ⟨-, -, -, -, e⟩
    · have := (a4 τ (hτ0.sc hb) ((hτ.sc hb).at) c w).2
      rw [e]; exact this
    · have := (a4 τ (hτ0.sc hc) ((hτ.sc hc).at) b w).1
      rw [e]; exact this
    · have ho : scc E a op := hb.tr (Or.inr w1.sy)
      have g1 := (a4 τ (hτ0.sc ho) ((hτ.sc ho).at) b w1).1
      have g2 := (a4 τ (hτ0.sc ho) ((hτ.sc ho).at) c w2).2
      rw [e]; omega
    · rw [e]; exact g0
  · rcases tl b c hbc with ⟨rfl, w, e⟩ | ⟨rfl, w, e⟩ | ⟨w1, w2, e⟩ | ⟨-, -, -, -, e⟩
    · exact absurd hm hn
    · exact absurd (hm.sc w) hn
    · exact absurd (hm.sc w1) hn
    · rw [e]; exact h3 b c hbc hn
  · intro a b pa pb hab hma
    rcases tl a b hab with ⟨rfl, w, e⟩ | ⟨rfl, w, e⟩ | ⟨w1, w2, e⟩ | ⟨n1, n2, n3, n4, e⟩
    · -- from op
      have hb := pP b pb (fun z => hab.1 z.symm)
      have c2 := a2 b w hb
      have c1 := a1 b w
      rw [e, (t1 b w).1, plusS.eq, plusS.ne (fun z => hab.1 z.symm)]
      refine ⟨c2.2, by omega, fun c pc hac hcb => ?_⟩
      have hc := pP c pc (fun z => hac.1 z.symm)
      have k := (a3 b c w hac hb hc (fun z => hcb.1 z.symm)).2
      have kc := a1 c hac
      rw [(t1 c hac).2, t2 c b hac w hcb.1]
      omega
    · -- to op
      have ha := pP a pa hab.1
      have c2 := a2 a w ha
      have c1 := a1 a w
      rw [e, (t1 a w).2, plusS.eq, plusS.ne hab.1]
      refine ⟨c2.1, by omega, fun c pc hac hcb => ?_⟩
      have hc := pP c pc hcb.1
      have k := (a3 a c w hcb.sy ha hc hac.1).1
      have kc := a1 c hcb.sy
      rw [(t1 c hcb.sy).1, t2 a c w hcb.sy hac.1]
      omega
    · have na : ¬ a = op := fun z => w1.1 z.symm
      have nb : ¬ b = op := fun z => w2.1 z.symm
      have ha := pP a pa na
      have hb := pP b pb nb
      obtain ⟨g1, g2, g3⟩ := h4 a b ha hb hab hma
      have k1 := a3 a b w1 w2 ha hb hab.1
      have k2 := a3 b a w2 w1 hb ha (fun z => hab.1 z.symm)
      have ca := a1 a w1
      have cb := a1 b w2
      rw [e, t2 b a w2 w1 (fun z => hab.1 z.symm), plusS.ne na, plusS.ne nb]
      refine ⟨cng_max g1 (cng_add (a2 a w1 ha).1 (a2 b w2 hb).2), by omega, fun c pc hac hcb => ?_⟩
      by_cases q : c = op
      · subst q
        rw [(t1 a w1).1, (t1 b w2).2]
        omega
      · have hc := pP c pc q
        have w3 : tie E op c := (scc.tr (Or.inr w1) (Or.inr hac)).ti (fun z => q z.symm)
        have k3 := g3 c hc hac hcb
        have k4 := a3 a c w1 w3 ha hc hac.1
        have k5 := a3 b c w2 w3 hb hc (fun z => hcb.1 z.symm)
        have cc := a1 c w3
        rw [t2 a c w1 w3 hac.1, t2 c b w3 w2 hcb.1]
        omega
    · have na : ¬ a = op := fun z => n2 z.symm
      have nb : ¬ b = op := fun z => n4 z.symm
      obtain ⟨g1, g2, g3⟩ := h4 a b (pP a pa na) (pP b pb nb) hab hma
      rw [e, t3 b a hab.sy n3 n4, plusS.ne na, plusS.ne nb]
      refine ⟨g1, g2, fun c pc hac hcb => ?_⟩
      have nc : ¬ op = c := fun z => n1 (by rw [z]; exact hac.sy)
      have mc : ¬ tie E op c := fun z => n1 ((scc.tr (Or.inr z) (Or.inr hac.sy)).ti n2)
      have k3 := g3 c (pP c pc (fun z => nc z.symm)) hac hcb
      rw [t3 a c hac n1 n2, t3 c b hcb mc nc]
      exact k3
  · have := h5 b c hbc
    rcases tl b c hbc with ⟨rfl, w, e⟩ | ⟨rfl, w, e⟩ | ⟨w1, w2, e⟩ | ⟨-, -, -, -, e⟩
    · have := Ib c w; omega
    · have := Ib b w; omega
    · have := Ib b w1; have := Ib c w2; omega
    · omega
theorem TiX.cls (h : TiX E W d s P T) {a : Nat} (hP : P a) (hm : many E a) : ∃ τ : Nat → Int, (∀ b c, P b → P c → scc E a b → scc E a c → ¬ b = c → τ b + W b c ≤ τ c) ∧ ∀ b, P b → scc E a b → ∃ q, τ b = s b + d * q := by
  obtain ⟨-, h2, -, h4, -⟩ := h
  refine ⟨fun c => if c = a then s a else s a + T a c, fun b c pb pc hb hc hn => ?_, fun b pb hb => ?_⟩
  · show (if b = a then s a else s a + T a b) + W b c ≤ (if c = a then s a else s a + T a c)
    have bc : tie E b c := ((hb.sy).tr hc).ti hn
    have lw := h2 b c bc
    by_cases q : b = a
    · subst q
      rw [if_pos rfl, if_neg (fun z => hn z.symm)]
      omega
    · have ab : tie E a b := hb.ti (fun z => q z.symm)
      rw [if_neg q]
      by_cases q2 : c = a
      · subst q2
        rw [if_pos rfl]
        have := (h4 c b hP pb ab hm).2.1
        omega
      · have ac : tie E a c := hc.ti (fun z => q2 z.symm)
        rw [if_neg q2]
        have := (h4 a c hP pc ac hm).2.2 b pb ab bc
        omega
  · show ∃ q, (if b = a then s a else s a + T a b) = s b + d * q
    by_cases q : b = a
    · subst q
      exact ⟨0, by rw [if_pos rfl, Int.mul_zero]; omega⟩
    · have ab : tie E a b := hb.ti (fun z => q z.symm)
      obtain ⟨r, e⟩ := (h4 a b hP pb ab hm).1
      exact ⟨-r, by rw [if_neg q, Int.mul_neg]; omega⟩
end TIES
end
