/-! rings of needs, in the order in which both sides go round them -/
def pmK : List Int → Int32
  | [] => 0
  | o :: l => pmK l ||| X1 o
theorem pmK_mem {p : Int} (hp : 0 ≤ p ∧ p < 8) : ∀ l : List Int, (∀ o ∈ l, 0 ≤ o ∧ o < 8) → (¬ pmK l &&& X1 p = 0 ↔ p ∈ l)
  | [], _ => by
    show ¬ (0 : Int32) &&& X1 p = 0 ↔ p ∈ []
    rw [Int32.zero_and]
    exact ⟨fun h => absurd rfl h, fun h => absurd h List.not_mem_nil⟩
  | o :: l, h => by
    have ih := pmK_mem hp l (fun q hq => h q (List.mem_cons_of_mem _ hq))
    have ho := h o List.mem_cons_self
    show ¬ (pmK l ||| X1 o) &&& X1 p = 0 ↔ p ∈ o :: l
    rw [i32_dist, List.mem_cons]
    by_cases e : p = o
    · subst e
      rw [Int32.and_self]
      exact ⟨fun _ => Or.inl rfl, fun _ q => X1_on ho (Int32.or_eq_zero_iff.mp q).2⟩
    · rw [X1_off ho hp (fun z => e z.symm), Int32.or_zero, ih]
      exact ⟨Or.inr, fun q => q.resolve_left e⟩
abbrev Rg3 : Type := Int × Int × Int32
/-- what comes of one need on the way -/
def dfE (st at_ : Int) (vis : List Int) (D W : Int) (rec : Int → List Int → Int → Int → List Rg3) (x : Q4) : List Rg3 := if ¬ x.1 = at_ ∨ x.2.1 < st then [] else if x.2.1 = st then [(D + x.2.2.2, W + x.2.2.1, X1 st ||| pmK vis)] else if x.2.1 ∈ vis then [] else rec x.2.1 (x.2.1 :: vis) (D + x.2.2.2) (W + x.2.2.1)
/-- the first so many needs -/
def fmN (f : Nat → List Rg3) : Nat → List Rg3
  | 0 => []
  | i + 1 => fmN f i ++ f i
def dfs (c : Nat → Q4) (n : Nat) (st : Int) : Nat → Int → List Int → Int → Int → List Rg3
  | 0, _, _, _, _ => []
  | f + 1, at_, vis, D, W => fmN (fun i => dfE st at_ vis D W (dfs c n st f) (c i)) n
/-- all rings, op by op -/
def ringsAll (c : Nat → Q4) (n : Nat) : Nat → List Rg3
  | 0 => []
  | o + 1 => ringsAll c n o ++ dfs c n (o : Int) 9 (o : Int) [] 0 0
theorem fmN_cg {f g : Nat → List Rg3} : ∀ n, (∀ i, i < n → f i = g i) → fmN f n = fmN g n
  | 0, _ => rfl
  | n + 1, h => by
    show fmN f n ++ f n = fmN g n ++ g n
    rw [fmN_cg n (fun i hi => h i (by omega)), h n (by omega)]
theorem dfs_cg {c c' : Nat → Q4} {n : Nat} (h : ∀ i, i < n → c i = c' i) {st : Int} : ∀ f at_ vis D W, dfs c n st f at_ vis D W = dfs c' n st f at_ vis D W
  | 0, _, _, _, _ => rfl
  | f + 1, at_, vis, D, W => by
    show fmN _ n = fmN _ n
    refine fmN_cg n (fun i hi => ?_)
    have e : dfs c n st f = dfs c' n st f := funext fun a => funext fun b => funext fun d => funext fun w => dfs_cg h f a b d w
    rw [h i hi, e]
theorem ringsAll_cg {c c' : Nat → Q4} {n : Nat} (h : ∀ i, i < n → c i = c' i) : ∀ o, ringsAll c n o = ringsAll c' n o
  | 0 => rfl
  | o + 1 => by
    show ringsAll c n o ++ _ = ringsAll c' n o ++ _
    rw [ringsAll_cg h o, dfs_cg h]
/-- a ring is weighed, in the class -/
def wRg (s : Int × Int × Int) (r : Rg3) : Int × Int × Int := if r.1 ≤ 0 ∨ r.2.1 ≤ 0 then s else if 0 < r.1 * s.2.1 - s.1 * r.2.1 then (r.1, r.2.1, r.2.2.toInt) else if r.1 * s.2.1 - s.1 * r.2.1 = 0 then (s.1, s.2.1, min s.2.2 r.2.2.toInt) else s
def wst (m : MM) (W : Nat) : Int × Int × Int := (m W 5, m W 6, m W 7)
section RTE
variable {S : Nat × (Nat → Int32)} {n : Nat} {mem : MM}
theorem f_28e {K : MM → Prop} {W : Nat} (hW : WebSh W) (hT : WtOK mem W) {x y : Int} {k : Int32} (hx : x ≤ 80) (hy : y ≤ 80) (H : ∀ m', FrWc W mem m' → WtOK m' W → wst m' W = wRg (wst mem W) (x, y, k) → K m') : CWV (Ex S (n + 2)) 28 [.inr W, .inl k.toInt, .inl x, .inl y] mem K := by
  have same : wRg (wst mem W) (x, y, k) = wst mem W → none = (none : Option Int) ∧ K mem := fun e => ⟨rfl, H mem FrWc.rf hT e.symm⟩
  obtain ⟨h5, h6⟩ := hT
  refine CW.of (k := 1) mt_28 rfl rfl (w_28_0 (Ex.mono S (n + 1)) hW ⟨fun q => same (if_pos (Or.inl q)), fun q => ⟨fun q2 v1 e1 _ => ?_, fun q2 => same (if_pos (Or.inr (show y ≤ 0 by omega)))⟩⟩)
  have p1 : 0 ≤ x * v1 ∧ x * v1 ≤ 6400 := by
    have a1 : 0 ≤ x * v1 := Int.mul_nonneg (by omega) (by omega)
    have a2 : x * v1 ≤ 80 * v1 := Int.mul_le_mul_of_nonneg_right hx (by omega)
    omega
  refine ⟨by unfold InI; omega, fun v3 e3 _ => ?_⟩
  have p2 : 0 ≤ v3 * y ∧ v3 * y ≤ 6400 := by
    have a1 : 0 ≤ v3 * y := Int.mul_nonneg (by omega) (by omega)
    have a2 : v3 * y ≤ v3 * 80 := Int.mul_le_mul_of_nonneg_left hy (by omega)
    omega
  have ew : wRg (wst mem W) (x, y, k) = if 0 < x * v1 - v3 * y then (x, y, k.toInt) else if x * v1 - v3 * y = 0 then (v3, v1, min (mem W 7) k.toInt) else wst mem W := by
    unfold wRg wst
    rw [if_neg (show ¬ (x ≤ 0 ∨ y ≤ 0) by omega), e1, e3]
  refine ⟨by unfold InI; omega, by unfold InI; omega, fun z => ⟨fun z2 => same ?_, fun z2 v5 e5 _ => f_29 (fun _ => ⟨rfl, H _ (fun A i e => upm_ne (by omega)) ⟨?_, ?_⟩ ?_⟩)⟩, fun z => ⟨rfl, H _ (fun A i e => ?_) ⟨?_, ?_⟩ ?_⟩⟩
  · rw [ew, if_neg (by omega), if_neg z2]
  · rw [upm_ne (by omega)]; exact h5
  · rw [upm_ne (by omega)]; exact h6
  · rw [ew, if_neg (by omega), if_pos (Classical.not_not.mp z2)]
    unfold wst
    rw [upm_ne (by omega), upm_ne (by omega), upm_eq, ← e1, ← e3, e5]
  · rw [upm_ne (by omega), upm_ne (by omega), upm_ne (by omega)]
  · rw [upm_ne (by omega), upm_ne (by omega), upm_eq]; omega
  · rw [upm_ne (by omega), upm_eq]; omega
  · rw [ew, if_pos (by omega)]
    unfold wst
    rw [upm_ne (by omega), upm_ne (by omega), upm_eq, upm_ne (by omega), upm_eq, upm_eq]
/-- what has been gone through, as a number -/
def beenI (st : Int) (vis : List Int) : Int := (X1 st ||| pmK vis).toInt
theorem tb_been {st p : Int} {vis : List Int} (hs : 0 ≤ st ∧ st < 8) (hv : ∀ o ∈ vis, 0 ≤ o ∧ o < 8) (hp : 0 ≤ p ∧ p < 8) : tb (beenI st vis) p ↔ p = st ∨ p ∈ vis := by
  unfold tb beenI
  rw [Int32.ofInt_toInt, i32_dist]
  have q := pmK_mem hp vis hv
  by_cases e : p = st
  · subst e
    rw [Int32.and_self]
    exact ⟨fun _ => Or.inl rfl, fun _ z => X1_on hs (Int32.or_eq_zero_iff.mp z).1⟩
  · rw [X1_off hs hp (fun z => e z.symm), Int32.zero_or, q]
    exact ⟨Or.inr, fun z => z.resolve_left e⟩
theorem been_or {st o b1 t' : Int} {vis : List Int} (e1 : b1 = ((fun (x y : Int32) => x <<< (y &&& 31)) (Int32.ofInt 1) (Int32.ofInt o)).toInt) (e2 : t' = ((fun (x y : Int32) => x ||| y) (Int32.ofInt (beenI st vis)) (Int32.ofInt b1)).toInt) : t' = beenI st (o :: vis) := by
  have e1 : b1 = (X1 o).toInt := e1
  rw [e2, e1]
  show (Int32.ofInt (X1 st ||| pmK vis).toInt ||| Int32.ofInt (X1 o).toInt).toInt = (X1 st ||| (pmK vis ||| X1 o)).toInt
  rw [Int32.ofInt_toInt, Int32.ofInt_toInt, Int32.or_assoc]
/-- the loop of goOn, with what a call one deeper comes to -/
theorem go_3e {W : Nat} (hW : WebSh W) {s a x y : Int} {vis : List Int} {m0 : MM} {K : MM → Prop} {E : Nat} {rec : Int → List Int → Int → Int → List Rg3} (hs : 0 ≤ s ∧ s < 8) (hv : ∀ o ∈ vis, 0 ≤ o ∧ o < 8) (hO : WbOK m0 W) (x1 : -74 ≤ x) (x2 : x ≤ 74) (y1 : 0 ≤ y) (y2 : y ≤ 73) (H : ∀ m', FrWc W m0 m' → WtOK m' W → wst m' W = (fmN (fun i => dfE s a vis x y rec (cwq m0 W i)) (m0 W 0).toNat).foldl wRg (wst m0 W) → K m') (hrec : ∀ (m : MM) (K : MM → Prop) (v l e : Int), FrWc W m0 m → WtOK m W → 0 ≤ v → v ≤ 7 → -5 ≤ l → l ≤ 6 → 0 ≤ e → e ≤ 7 → ¬ v = s → ¬ v ∈ vis → (∀ m', FrWc W m m' → WtOK m' W → wst m' W = (rec v (v :: vis) (x + l) (y + e)).foldl wRg (wst m W) → K m') → CWV (Ex S (E + 2)) 27 [.inr W, .inl s, .inl v, .inl (beenI s (v :: vis)), .inl (x + l), .inl (y + e)] m K) : ∀ (N : Nat) (i : Nat) (m : MM), 64 - i < N → (i : Int) ≤ m0 W 0 → FrWc W m0 m → WtOK m W → wst m W = (fmN (fun i => dfE s a vis x y rec (cwq m0 W i)) i).foldl wRg (wst m0 W) → Wx (Ex S (E + 2)) S M_27 (fun r m => r = none ∧ K m) 3 [some (.inr W), some (.inl s), some (.inl a), some (.inl (beenI s vis)), some (.inl x), some (.inl y), some (.inl (i : Int))] [] m := by
  intro N
  induction N with
  | zero => intros; omega
  | succ N ih =>
    intro i m hN hin hF hT hE
    have hO' := hF.wb hO
    have es : m W 0 = m0 W 0 := hF W 0 (by omega)
    refine w_27_3 (Ex.mono S (E + 2)) hW (fun v1 e1 _ => ⟨fun q => ⟨rfl, H m hF hT (by rw [hE, show (m0 W 0).toNat = i by omega])⟩, fun q => ?_⟩)
    have hi : 0 ≤ (i : Int) ∧ (i : Int) < 64 := by have := hO'.2; omega
    obtain ⟨g1, g2, g3, g4⟩ := hO'.1 i (by omega)
    have ecw : cwq m W i = cwq m0 W i := by
      unfold cwq
      rw [hF (W + 1) i (by omega), hF (W + 2) i (by omega), hF (W + 3) i (by omega), hF (W + 4) i (by omega)]
    have nx : ∀ m', FrWc W m0 m' → WtOK m' W → wst m' W = (dfE s a vis x y rec (cwq m0 W i)).foldl wRg (wst m W) → InI ((i : Int) + 1) ∧ Wx (Ex S (E + 2)) S M_27 (fun r m => r = none ∧ K m) 3 [some (.inr W), some (.inl s), some (.inl a), some (.inl (beenI s vis)), some (.inl x), some (.inl y), some (.inl ((i : Int) + 1))] [] m' := fun m' z1 z2 z3 => ⟨by unfold InI; omega, ih (i + 1) m' (by omega) (by omega) z1 z2 (by
      rw [z3, hE, ← List.foldl_append]
      rfl)⟩
    have no : dfE s a vis x y rec (cwq m0 W i) = [] → InI ((i : Int) + 1) ∧ Wx (Ex S (E + 2)) S M_27 (fun r m => r = none ∧ K m) 3 [some (.inr W), some (.inl s), some (.inl a), some (.inl (beenI s vis)), some (.inl x), some (.inl y), some (.inl ((i : Int) + 1))] [] m := fun e => nx m hF hT (by rw [e]; rfl)
    rw [← ecw] at no nx
    have c1 : (cwq m W i).1 = m (W + 1) i := rfl
    have c2 : (cwq m W i).2.1 = m (W + 2) i := rfl
    have c3 : (cwq m W i).2.2.1 = m (W + 3) i := rfl
    have c4 : (cwq m W i).2.2.2 = m (W + 4) i := rfl
    rw [Int.toNat_natCast]
    refine ⟨hi, fun v2 e2 _ => ⟨fun z => no (if_pos (Or.inl (by rw [c1, ← e2]; exact z))), fun za => ⟨hi, fun v3 e3 _ => ⟨fun zb => ⟨hi, fun v4 e4 _ => ⟨fun zc => ⟨hi, fun v5 e5 _ b6 e6 _ b7 e7 _ => ⟨fun zd => no ?_, fun z => ⟨hi, fun v8 e8 _ => ⟨hi, fun v9 e9 _ b10 e10 _ b11 e11 _ => ⟨hi, fun v12 e12 _ => ⟨by unfold InI; omega, hi, fun v13 e13 _ => ⟨by unfold InI; omega, ?_⟩⟩⟩⟩⟩⟩⟩, fun zc => ⟨hi, fun v15 e15 _ => ⟨by unfold InI; omega, hi, fun v16 e16 _ => ⟨by unfold InI; omega, f_28e (k := X1 s ||| pmK vis) hW hT (by omega) (by omega) (fun m' k1 k2 k3 => nx m' (hF.tr k1) k2 ?_)⟩⟩⟩⟩⟩, fun zb => no (if_pos (Or.inr (by rw [c2, ← e3]; omega)))⟩⟩⟩⟩
    · have h58 : v5 = v4 := by rw [e5, e4]
      rw [h58] at e6
      have ht := tb_of e6 e7
      have hin2 : tb (beenI s vis) v4 := Classical.byContradiction (fun w => zd (ht.mpr w))
      have hm := ((tb_been hs hv (by omega)).mp hin2).resolve_left zc
      unfold dfE
      rw [if_neg (by rw [c1, c2, ← e2, ← e3]; omega), if_neg (by rw [c2, ← e4]; exact zc), if_pos (by rw [c2, ← e4]; exact hm)]
    · have h59 : v9 = v8 := by rw [e9, e8]
      have h58 : v5 = v8 := by rw [e5, e8]
      have h48 : v4 = v8 := by rw [e4, e8]
      subst h59
      rw [h58] at e6
      rw [h48] at zc
      have hnt : ¬ tb (beenI s vis) v9 := (tb_of e6 e7).mp (Classical.not_not.mp z)
      have hnv : ¬ v9 ∈ vis := fun w => hnt ((tb_been hs hv (by omega)).mpr (Or.inr w))
      have eb := been_or e10 e11
      rw [eb]
      refine hrec m _ v9 v12 v13 hF hT (by omega) (by omega) (by omega) (by omega) (by omega) (by omega) zc hnv (fun m' k1 k2 k3 => nx m' (hF.tr k1) k2 ?_)
      rw [k3]
      unfold dfE
      rw [if_neg (by rw [c1, c2, ← e2, ← e9]; omega), if_neg (by rw [c2, ← e9]; exact zc), if_neg (by rw [c2, ← e9]; exact hnv), c2, c3, c4, ← e9, ← e12, ← e13]
    · rw [k3]
      unfold dfE
      rw [if_neg (by rw [c1, c2, ← e2, ← e3]; omega), if_pos (by rw [c2, ← e4]; exact Classical.not_not.mp zc), c3, c4, ← e15, ← e16]
      rfl
/-- goOn: been grows -/
theorem f_27e {W : Nat} (hW : WebSh W) {s : Int} (hs : 0 ≤ s ∧ s < 8) : ∀ (c : Nat) (mem : MM) (K : MM → Prop) (a x y : Int) (vis : List Int), (∀ o ∈ vis, 0 ≤ o ∧ o < 8) → WbOK mem W → WtOK mem W → cnt (beenI s vis) ≤ c → c ≤ 8 → -6 * (9 - (c : Int)) ≤ x → x ≤ 6 * (9 - (c : Int)) → 0 ≤ y → y ≤ 7 * (9 - (c : Int)) → (∀ m', FrWc W mem m' → WtOK m' W → wst m' W = (dfs (cwq mem W) (mem W 0).toNat s (c + 1) a vis x y).foldl wRg (wst mem W) → K m') → CWV (Ex S (n + c + 3)) 27 [.inr W, .inl s, .inl a, .inl (beenI s vis), .inl x, .inl y] mem K := by
  have b1 : ∀ v : Int, ∃ b1 : Int, b1 = ((fun (x y : Int32) => x <<< (y &&& 31)) (Int32.ofInt 1) (Int32.ofInt v)).toInt := fun v => ⟨_, rfl⟩
  have grow : ∀ (vis : List Int) (v : Int), (∀ o ∈ vis, 0 ≤ o ∧ o < 8) → 0 ≤ v → v ≤ 7 → ¬ v = s → ¬ v ∈ vis → cnt (beenI s (v :: vis)) < cnt (beenI s vis) := fun vis v hv v1 v2 ne nv => by
    obtain ⟨b, e1⟩ := b1 v
    have e2 := been_or (st := s) (vis := vis) e1 rfl
    rw [← e2]
    exact cnt_set e1 rfl ⟨v1, by omega⟩ (fun z => ((tb_been hs hv ⟨v1, by omega⟩).mp z).elim ne nv)
  intro c
  induction c with
  | zero =>
    intro mem K a x y vis hv hO hT hc hc8 x1 x2 y1 y2 H
    refine CW.of (k := 1) mt_27 rfl rfl (w_27_0 (Ex.mono S (n + 0 + 2)) hW (go_3e (rec := dfs (cwq mem W) (mem W 0).toNat s 0) hW hs hv hO (by omega) (by omega) y1 (by omega) H (fun m K v l e _ _ v1 v2 _ _ _ _ ne nv _ => ?_) 65 0 mem (by omega) hO.2.1 FrWc.rf hT rfl))
    have := grow vis v hv v1 v2 ne nv
    omega
  | succ c ihc =>
    intro mem K a x y vis hv hO hT hc hc8 x1 x2 y1 y2 H
    refine CW.of (k := 1) mt_27 rfl rfl (w_27_0 (Ex.mono S (n + (c + 1) + 2)) hW (go_3e (rec := dfs (cwq mem W) (mem W 0).toNat s (c + 1)) hW hs hv hO (by omega) (by omega) y1 (by omega) H (fun m K v l e hF hT' v1 v2 l1 l2 d1 d2 ne nv H' => ?_) 65 0 mem (by omega) hO.2.1 FrWc.rf hT rfl))
    have := grow vis v hv v1 v2 ne nv
    have e0 : m W 0 = mem W 0 := hF W 0 (by omega)
    have ec : cwq m W = cwq mem W := funext fun i => by
      unfold cwq
      rw [hF (W + 1) i (by omega), hF (W + 2) i (by omega), hF (W + 3) i (by omega), hF (W + 4) i (by omega)]
    refine ihc m K v (x + l) (y + e) (v :: vis) (fun o ho => (List.mem_cons.mp ho).elim (fun z => by rw [z]; omega) (hv o)) (hF.wb hO) hT' (by omega) (by omega) (by omega) (by omega) (by omega) (by omega) (fun m' k1 k2 k3 => H' m' k1 k2 (by rw [k3, ec, e0]))
end RTE
