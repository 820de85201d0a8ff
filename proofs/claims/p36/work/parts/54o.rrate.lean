/-! the reference goes round the same rings, edge by edge -/
theorem i32_255 {x : Int32} (h : x &&& 255 = x) : 0 ≤ x.toInt := by
  have h2 : x.toBitVec &&& 255#32 = x.toBitVec := congrArg Int32.toBitVec h
  have h3 : x.toBitVec.toNat ≤ 255 := by
    rw [← h2, BitVec.toNat_and]
    exact Nat.and_le_right
  have h4 : x.toBitVec.toInt = x.toBitVec.toNat := BitVec.toInt_eq_toNat_of_lt (by omega)
  have h5 : x.toInt = x.toBitVec.toInt := rfl
  omega
theorem X1_255 {o : Int} (ho : 0 ≤ o ∧ o < 8) : X1 o &&& 255 = X1 o := by
  have a : o = 0 ∨ o = 1 ∨ o = 2 ∨ o = 3 ∨ o = 4 ∨ o = 5 ∨ o = 6 ∨ o = 7 := by omega
  rcases a with a | a | a | a | a | a | a | a <;> subst a <;> decide
theorem pmK_255 : ∀ l : List Int, (∀ o ∈ l, 0 ≤ o ∧ o < 8) → pmK l &&& 255 = pmK l
  | [], _ => by
    show (0 : Int32) &&& 255 = 0
    exact Int32.zero_and
  | o :: l, h => by
    show (pmK l ||| X1 o) &&& 255 = pmK l ||| X1 o
    rw [i32_dist, pmK_255 l (fun q hq => h q (List.mem_cons_of_mem _ hq)), X1_255 (h o List.mem_cons_self)]
theorem pmK_pos {p : Int} {l : List Int} (h : ∀ o ∈ l, 0 ≤ o ∧ o < 8) (hp : p ∈ l) : 1 ≤ (pmK l).toInt := by
  have a := i32_255 (pmK_255 l h)
  have b : ¬ pmK l = 0 := fun z => (pmK_mem (h p hp) l h).mpr hp (by rw [z, Int32.zero_and])
  have c : ¬ (pmK l).toInt = 0 := fun z => b ((tI0 _).mp z)
  omega
def chD (m : MM) : Nat → Int
  | 0 => 0
  | i + 1 => chD m i + m 157 (m 170 i).toNat
def chW (m : MM) : Nat → Int
  | 0 => 0
  | i + 1 => chW m i + m 156 (m 170 i).toNat
def chV (m : MM) : Nat → List Int
  | 0 => []
  | i + 1 => m 155 (m 170 i).toNat :: chV m i
theorem chV_mem {m : MM} {x : Int} : ∀ j, x ∈ chV m j ↔ ∃ i, i < j ∧ x = m 155 (m 170 i).toNat
  | 0 => ⟨fun h => absurd h List.not_mem_nil, fun ⟨i, h, _⟩ => by omega⟩
  | j + 1 => by
    show x ∈ m 155 (m 170 j).toNat :: chV m j ↔ _
    rw [List.mem_cons, chV_mem j]
    constructor
    · rintro (h | ⟨i, h1, h2⟩)
      · exact ⟨j, by omega, h⟩
      · exact ⟨i, by omega, h2⟩
    · rintro ⟨i, h1, h2⟩
      by_cases e : i = j
      · subst e; exact Or.inl h2
      · exact Or.inr ⟨i, by omega, h2⟩
theorem ch_cg {m m' : MM} (h : FrE m m') : ∀ k, (∀ i, i < k → m' 170 i = m 170 i) → chD m' k = chD m k ∧ chW m' k = chW m k ∧ chV m' k = chV m k
  | 0, _ => ⟨rfl, rfl, rfl⟩
  | k + 1, he => by
    have q := ch_cg h k (fun i hi => he i (by omega))
    have e := he k (by omega)
    have e5 := h 155 (m 170 k).toNat (by omega) (by omega)
    have e6 := h 156 (m 170 k).toNat (by omega) (by omega)
    have e7 := h 157 (m 170 k).toNat (by omega) (by omega)
    refine ⟨?_, ?_, ?_⟩
    · show chD m' k + m' 157 (m' 170 k).toNat = chD m k + m 157 (m 170 k).toNat
      rw [q.1, e, e7]
    · show chW m' k + m' 156 (m' 170 k).toNat = chW m k + m 156 (m 170 k).toNat
      rw [q.2.1, e, e6]
    · show m' 155 (m' 170 k).toNat :: chV m' k = m 155 (m 170 k).toNat :: chV m k
      rw [q.2.2, e, e5]
theorem chP_cg {m m' : MM} {b : Int} (h : FrE m m') {j : Nat} (he : ∀ i, i < j → m' 170 i = m 170 i) : chP m' b j = chP m b j := by
  unfold chP
  split
  · rfl
  · rw [he (j - 1) (by omega), h 155 _ (by omega) (by omega)]
theorem rq_cg {m m' : MM} (h : FrE m m') : rq m' = rq m := funext fun i => by
  unfold rq
  rw [h 154 i (by omega) (by omega), h 155 i (by omega) (by omega), h 156 i (by omega) (by omega), h 157 i (by omega) (by omega)]
/-- some, from one on -/
def fmR (f : Nat → List Rg3) : Nat → Nat → List Rg3
  | _, 0 => []
  | i, k + 1 => f i ++ fmR f (i + 1) k
theorem fmN_R (f : Nat → List Rg3) : ∀ k i, fmN f (i + k) = fmN f i ++ fmR f i k
  | 0, i => (List.append_nil _).symm
  | k + 1, i => by
    have e := fmN_R f k (i + 1)
    have e2 : fmN f (i + 1) = fmN f i ++ f i := rfl
    have e3 : fmR f i (k + 1) = f i ++ fmR f (i + 1) k := rfl
    exact (congrArg (fmN f) (show i + (k + 1) = i + 1 + k by omega)).trans (e.trans (by rw [e2, e3, List.append_assoc]))
theorem fmR_s {f : Nat → List Rg3} {i c : Nat} (h : i < c) : fmR f i (c - i) = f i ++ fmR f (i + 1) (c - (i + 1)) := by
  obtain ⟨k, rfl⟩ : ∃ k, c = i + (k + 1) := ⟨c - i - 1, by omega⟩
  rw [show i + (k + 1) - i = k + 1 by omega, show i + (k + 1) - (i + 1) = k by omega]
  rfl
/-- what an edge at a depth brings -/
def lvl (m : MM) (b : Int) (c : Nat) (j : Nat) (i : Nat) : List Rg3 := dfE b (chP m b j) (chV m j) (chD m j) (chW m j) (dfs (rq m) c b (8 - j)) (rq m i)
/-- the rings that are still to come -/
def odR (m : MM) (b : Int) (c : Nat) : Nat → List Rg3
  | 0 => []
  | j + 1 => fmR (lvl m b c j) (m 170 j + 1).toNat (c - (m 170 j + 1).toNat) ++ odR m b c j
theorem lvl_cg {m m' : MM} {b : Int} {c j : Nat} (h : FrE m m') (he : ∀ i, i < j → m' 170 i = m 170 i) : lvl m' b c j = lvl m b c j := funext fun i => by
  have q := ch_cg h j he
  unfold lvl
  rw [chP_cg h he, q.1, q.2.1, q.2.2, rq_cg h]
theorem odR_cg {m m' : MM} {b : Int} {c : Nat} (h : FrE m m') : ∀ j, (∀ i, i < j → m' 170 i = m 170 i) → odR m' b c j = odR m b c j
  | 0, _ => rfl
  | j + 1, he => by
    show fmR (lvl m' b c j) (m' 170 j + 1).toNat (c - (m' 170 j + 1).toNat) ++ odR m' b c j = fmR (lvl m b c j) (m 170 j + 1).toNat (c - (m 170 j + 1).toNat) ++ odR m b c j
    rw [lvl_cg h (fun i hi => he i (by omega)), odR_cg h j (fun i hi => he i (by omega)), he j (by omega)]
theorem odR_end {m : MM} {b : Int} {c j : Nat} (hk : c ≤ (m 170 j + 1).toNat) : odR m b c (j + 1) = odR m b c j := by
  show fmR (lvl m b c j) (m 170 j + 1).toNat (c - (m 170 j + 1).toNat) ++ odR m b c j = odR m b c j
  rw [Nat.sub_eq_zero_of_le hk]
  rfl
theorem odR_next {m : MM} {b : Int} {c j : Nat} (h0 : -1 ≤ m 170 j) (hk : (m 170 j + 1).toNat < c) : odR m b c (j + 1) = lvl m b c j (m 170 j + 1).toNat ++ odR (upm m 170 j (m 170 j + 1)) b c (j + 1) := by
  have e : odR (upm m 170 j (m 170 j + 1)) b c (j + 1) = fmR (lvl m b c j) ((m 170 j + 1).toNat + 1) (c - ((m 170 j + 1).toNat + 1)) ++ odR m b c j := by
    show fmR (lvl (upm m 170 j (m 170 j + 1)) b c j) (upm m 170 j (m 170 j + 1) 170 j + 1).toNat (c - (upm m 170 j (m 170 j + 1) 170 j + 1).toNat) ++ odR (upm m 170 j (m 170 j + 1)) b c j = _
    rw [lvl_cg FrE.up (fun i hi => upm_ne (by omega)), odR_cg FrE.up j (fun i hi => upm_ne (by omega)), upm_eq, show (m 170 j + 1 + 1).toNat = (m 170 j + 1).toNat + 1 by omega]
  rw [e]
  show fmR (lvl m b c j) (m 170 j + 1).toNat (c - (m 170 j + 1).toNat) ++ odR m b c j = _
  rw [fmR_s hk, List.append_assoc]
theorem odR_push {m : MM} {b : Int} {c j : Nat} (hj : j ≤ 7) : odR (upm m 170 (j + 1) (-1)) b c (j + 2) = dfs (rq m) c b (8 - j) (m 155 (m 170 j).toNat) (m 155 (m 170 j).toNat :: chV m j) (chD m j + m 157 (m 170 j).toNat) (chW m j + m 156 (m 170 j).toNat) ++ odR m b c (j + 1) := by
  have X : fmR (lvl m b c (j + 1)) 0 c = dfs (rq m) c b (8 - j) (m 155 (m 170 j).toNat) (m 155 (m 170 j).toNat :: chV m j) (chD m j + m 157 (m 170 j).toNat) (chW m j + m 156 (m 170 j).toNat) := by
    have e := fmN_R (lvl m b c (j + 1)) c 0
    rw [Nat.zero_add] at e
    have e2 : fmN (lvl m b c (j + 1)) 0 ++ fmR (lvl m b c (j + 1)) 0 c = fmR (lvl m b c (j + 1)) 0 c := rfl
    have cp : chP m b (j + 1) = m 155 (m 170 j).toNat := by
      unfold chP
      rw [if_neg (by omega)]
      rfl
    rw [← e2, ← e, show 8 - j = 8 - (j + 1) + 1 by omega, ← cp]
    rfl
  show fmR (lvl (upm m 170 (j + 1) (-1)) b c (j + 1)) (upm m 170 (j + 1) (-1) 170 (j + 1) + 1).toNat (c - (upm m 170 (j + 1) (-1) 170 (j + 1) + 1).toNat) ++ odR (upm m 170 (j + 1) (-1)) b c (j + 1) = _
  rw [lvl_cg FrE.up (fun i hi => upm_ne (by omega)), odR_cg FrE.up (j + 1) (fun i hi => upm_ne (by omega)), upm_eq]
  have z : ((-1 : Int) + 1).toNat = 0 := rfl
  rw [z, Nat.sub_zero, X]
section RRATE
variable {S : Nat × (Nat → Int32)} {n : Nat}
theorem cr_67e {m0 : MM} {x1 x2 x3 x4 c' : Int} (h1 : 0 < x1 ∧ x1 ≤ 100) (h2 : 0 < x2 ∧ x2 ≤ 100) {Kk : WK} (H : ∀ m' r, FrR m0 m' → RtOK m' → GcD r x1 x2 → m' 143 31 = x1.tdiv r → m' 143 32 = x2.tdiv r → m' 143 33 = c' → Kk none m') : ∀ (N : Nat) (x5 x6 : Int) (mem : MM), 0 < x5 → 0 ≤ x6 → x6.toNat < N → (∀ d : Int, (d ∣ x5 ∧ d ∣ x6) ↔ (d ∣ x1 ∧ d ∣ x2)) → FrR m0 mem → mem 143 33 = c' → Wx (Ex S n) S M_347 Kk 67 [some (.inr 143), some (.inl x1), some (.inl x2), some (.inl x3), some (.inl x4), some (.inl x5), some (.inl x6), none] [] mem := by
  intro N
  induction N with
  | zero => intros; omega
  | succ N ih =>
    intro x5 x6 mem h5 h6 hN hd hF hc
    refine w_347_67 (Ex.mono S n) ⟨fun q => ?_, fun q => ⟨by omega, ?_⟩⟩
    · subst q
      have g := GcD.fin h5 hd
      have gr := g.red (Int.le_of_lt h1.1) h2.1
      refine ⟨h5, h5, H _ x5 (fun A i e => ?_) ?_ g ?_ ?_ ?_⟩
      · rw [upm_ne (by omega), upm_ne (by omega)]; exact hF A i e
      · have r1 := tdiv_r (Int.le_of_lt h1.1) h5
        have r2 := tdiv_r (Int.le_of_lt h2.1) h5
        have r3 := gr.2.2.2.1
        unfold RtOK
        rw [upm_ne (by omega), upm_eq, upm_eq]
        omega
      · rw [upm_ne (by omega), upm_eq]
      · rw [upm_eq]
      · rw [upm_ne (by omega), upm_ne (by omega)]; exact hc
    · have r := tmod_r (Int.le_of_lt h5) (show 0 < x6 by omega)
      exact ih x6 _ mem (by omega) r.1 (by omega) (fun d => (eu_step d).trans (hd d)) hF hc
theorem f_347e {m0 : MM} {K : MM → Prop} {s : Int × Int × Int} {x1 x2 : Int} {M : Int32} (h1 : -100 ≤ x1 ∧ x1 ≤ 100) (h2 : 0 < x2 ∧ x2 ≤ 100) (hM : 1 ≤ M.toInt) (hR : RtOK m0) (hs : RtR s (m0 143 31) (m0 143 32) (m0 143 33)) (H : ∀ m', FrR m0 m' → RtOK m' → RtR (wRg s (x1, x2, M)) (m' 143 31) (m' 143 32) (m' 143 33) → K m') : CWV (Ex S (n + 2)) 347 [.inr 143, .inl x1, .inl x2, .inl M.toInt] m0 K := by
  have st := hs.step (D := x1) (W := x2) (M := M) (by omega) hM
  obtain ⟨r1, r2, r3, r4⟩ := hR
  have hR : RtOK m0 := ⟨r1, r2, r3, r4⟩
  refine CW.of (k := 4) mt_347 rfl rfl (w_347_0 (Ex.mono S (n + 1)) (fun v1 e1 _ => ?_))
  have p1 : -10000 ≤ x1 * v1 ∧ x1 * v1 ≤ 10000 := by
    have a1 : -100 * v1 ≤ x1 * v1 := Int.mul_le_mul_of_nonneg_right h1.1 (by omega)
    have a2 : x1 * v1 ≤ 100 * v1 := Int.mul_le_mul_of_nonneg_right h1.2 (by omega)
    omega
  refine ⟨by unfold InI; omega, fun v2 e2 _ => ?_⟩
  have p2 : 0 ≤ v2 * x2 ∧ v2 * x2 ≤ 10000 := by
    have a1 : 0 ≤ v2 * x2 := Int.mul_nonneg (by omega) (by omega)
    have a2 : v2 * x2 ≤ v2 * 100 := Int.mul_le_mul_of_nonneg_left h2.2 (by omega)
    omega
  rw [← e1, ← e2] at st
  have fin : ∀ z, 0 < x1 → 0 ≤ x1 * v1 - v2 * x2 → (0 < x1 * v1 - v2 * x2 → z = M.toInt) → (x1 * v1 - v2 * x2 = 0 → (m0 143 33 = 0 → z = M.toInt) ∧ (¬ m0 143 33 = 0 → z = min (m0 143 33) M.toInt)) → Wx (Ex S (n + 1)) S M_347 (fun r m => r = none ∧ K m) 67 [some (.inr 143), some (.inl x1), some (.inl x2), some (.inl M.toInt), some (.inl ((x1 * v1) - (v2 * x2))), some (.inl x1), some (.inl x2), none] [] (upm m0 143 33 z) := fun z q a k1 k2 =>
    cr_67e (m0 := m0) (c' := z) ⟨q, h1.2⟩ h2 (fun m' r f1 f2 g g1 g2 g3 => ⟨rfl, H m' f1 f2 (by rw [g1, g2, g3]; exact st.2 q a r g z k1 k2)⟩) _ _ _ _ q (by omega) (Nat.lt_succ_self _) (fun d => Iff.rfl) (fun A i e => upm_ne (by omega)) upm_eq
  refine ⟨by unfold InI; omega, by unfold InI; omega, fun q => ⟨rfl, H m0 FrR.rf hR (by rw [← e1, ← e2]; exact st.1 (Or.inl q))⟩, fun q => ⟨fun q2 => ⟨fun q3 v3 e3 _ => ⟨fun q4 v4 e4 _ => f_258 (fun _ _ => fin _ (by omega) q2 (fun w => by omega) (fun _ => ⟨fun w => by omega, fun _ => by rw [e4]⟩)), fun q4 => fin _ (by omega) q2 (fun w => by omega) (fun _ => ⟨fun _ => rfl, fun w => by omega⟩)⟩, fun q3 => fin _ (by omega) q2 (fun _ => rfl) (fun w => by omega)⟩, fun q2 => ⟨rfl, H m0 FrR.rf hR (by rw [← e1, ← e2]; exact st.1 (Or.inr (by omega)))⟩⟩⟩
theorem f_346e {m0 : MM} {K : MM → Prop} {s : Int × Int × Int} {k : Nat} {b : Int} (hk : k ≤ 7) (hN : NdsOK m0) (hc : ChOK m0 b (k + 1)) (hl : m0 155 (m0 170 k).toNat = b) (hR : RtOK m0) (hs : RtR s (m0 143 31) (m0 143 32) (m0 143 33)) (H : ∀ m', FrR m0 m' → RtOK m' → RtR (wRg s (chD m0 k + m0 157 (m0 170 k).toNat, chW m0 k + m0 156 (m0 170 k).toNat, X1 b ||| pmK (chV m0 k))) (m' 143 31) (m' 143 32) (m' 143 33) → K m') : CWV (Ex S (n + 3)) 346 [.inr 143, .inl (k : Int), .inl b] m0 K := by
  refine CW.of (k := 4) mt_346 rfl rfl (w_346_0 (Ex.mono S (n + 2)) ?_)
  have h48 := hN.2.1
  have em : pmK (chV m0 (k + 1)) = X1 b ||| pmK (chV m0 k) := by
    show pmK (chV m0 k) ||| X1 (m0 155 (m0 170 k).toNat) = _
    rw [hl, Int32.or_comm]
  have hM : 1 ≤ (pmK (chV m0 (k + 1))).toInt := by
    refine pmK_pos (p := b) (fun o ho => ?_) ((chV_mem (k + 1)).mpr ⟨k, by omega, hl.symm⟩)
    obtain ⟨i, hi, e⟩ := (chV_mem (k + 1)).mp ho
    obtain ⟨c1, c2, -⟩ := hc i hi
    obtain ⟨-, -, n3, n4, -⟩ := hN.2.2 (m0 170 i).toNat (by omega)
    have := hN.1
    omega
  have key : ∀ (N : Nat) (i : Nat), i ≤ k + 1 → k + 1 - i < N → -5 * (i : Int) ≤ chD m0 i → chD m0 i ≤ 6 * i → 0 ≤ chW m0 i → chW m0 i ≤ 7 * i → (1 ≤ chW m0 i ∨ b < chP m0 b i ∨ i = 0) → Wx (Ex S (n + 2)) S M_346 (fun r m => r = none ∧ K m) 11 [some (.inr 143), some (.inl (k : Int)), some (.inl b), some (.inl (chD m0 i)), some (.inl (chW m0 i)), some (.inl (pmK (chV m0 i)).toInt), some (.inl (i : Int))] [] m0 := by
    intro N
    induction N with
    | zero => intros; omega
    | succ N ih =>
      intro i hi hNN b1 b2 b3 b4 b5
      refine w_346_11 (Ex.mono S (n + 2)) ⟨fun q => ?_, fun q => ?_⟩
      · have e : i = k + 1 := by omega
        subst e
        have : chP m0 b (k + 1) = b := by unfold chP; rw [if_neg (by omega)]; exact hl
        refine f_347e ⟨by omega, by omega⟩ ⟨by omega, by omega⟩ hM hR hs (fun m' a c d => ⟨rfl, H m' a c ?_⟩)
        rw [em] at d
        exact d
      · obtain ⟨c1, c2, c3⟩ := hc i (by omega)
        have hi9 : 0 ≤ (i : Int) ∧ (i : Int) < 9 := by omega
        have pn := hN.2.2 (m0 170 i).toNat (by omega)
        obtain ⟨n1, n2, n3, n4, n5, n6, n7, n8, n9⟩ := pn
        simp only [Int.toNat_natCast]
        refine ⟨hi9, fun v2 e2 _ => ?_⟩
        subst e2
        have he : 0 ≤ m0 170 i ∧ m0 170 i < 48 := by omega
        refine ⟨he, fun v3 e3 _ => ⟨by unfold InI; omega, hi9, fun v4 e4 _ => ?_⟩⟩
        subst e4
        refine ⟨he, fun v5 e5 _ => ⟨by unfold InI; omega, hi9, fun v6 e6 _ => ?_⟩⟩
        subst e6
        refine ⟨he, fun v7 e7 _ b8 e8 _ b9 e9 _ => ⟨by unfold InI; omega, ?_⟩⟩
        have hp : chP m0 b (i + 1) = m0 155 (m0 170 i).toNat := by unfold chP; rw [if_neg (by omega)]; rfl
        have hp0 : i = 0 → chP m0 b i = b := fun z => by unfold chP; rw [if_pos z]
        have h9 : b9 = (pmK (chV m0 (i + 1))).toInt := by
          have e8 : b8 = (X1 v7).toInt := e8
          have e9 : b9 = (Int32.ofInt (pmK (chV m0 i)).toInt ||| Int32.ofInt b8).toInt := e9
          rw [e8, Int32.ofInt_toInt, Int32.ofInt_toInt, e7] at e9
          exact e9
        have hd : chD m0 (i + 1) = chD m0 i + v3 := by rw [e3]; rfl
        have hw : chW m0 (i + 1) = chW m0 i + v5 := by rw [e5]; rfl
        rw [← hd, ← hw, h9]
        refine ih (i + 1) (by omega) (by omega) (by omega) (by omega) (by omega) (by omega) ?_
        rw [hp, hw]
        by_cases z : i = 0
        · have := hp0 z; omega
        · omega
  exact key _ 0 (by omega) (Nat.lt_succ_self _) (by show -5 * ((0 : Nat) : Int) ≤ 0; omega) (by show (0 : Int) ≤ 6 * ((0 : Nat) : Int); omega) (by show (0 : Int) ≤ 0; omega) (by show (0 : Int) ≤ 7 * ((0 : Nat) : Int); omega) (by omega)
theorem rf_9e {m0 : MM} {b c : Int} {T : Int × Int × Int} (hb : 0 ≤ b) (hN : NdsOK m0) (hc : m0 143 12 = c) (hc1 : 0 < c ∧ c ≤ 48) {Kk : WK} (H : ∀ m', FrE m0 m' → RtOK m' → RtR T (m' 143 31) (m' 143 32) (m' 143 33) → Kk none m') : ∀ (N : Nat) (j : Nat) (mem : MM) (s : Int × Int × Int), odE mem c (j + 1) < N → FrE m0 mem → RtOK mem → RfI mem b j → -1 ≤ mem 170 j → mem 170 j < c → RtR s (mem 143 31) (mem 143 32) (mem 143 33) → (odR mem b c.toNat (j + 1)).foldl wRg s = T → Wx (Ex S (n + 3)) S M_345 Kk 9 [some (.inr 143), some (.inl b), some (.inl (j : Int)), none, none, none, none] [] mem := by
  intro N
  induction N with
  | zero => intros; omega
  | succ N ih =>
    intro j mem s hNN hF hR hI hs1 hs2 hS hT
    have hj7 := hI.le hb (hF.nds hN)
    have hj9 : 0 ≤ (j : Int) ∧ (j : Int) < 9 := by omega
    have pw : 1 ≤ 50 ^ (9 - j) := Nat.one_le_pow _ _ (by omega)
    have hod : odE mem c (j + 1) = odE mem c j + (c - mem 170 j).toNat * 50 ^ (9 - j) := rfl
    generalize hM1 : upm mem 170 j (mem 170 j + 1) = M1
    have hF1 : FrE m0 M1 := by rw [← hM1]; exact hF.tr FrE.up
    have hR1 : RtOK M1 := by
      rw [← hM1]; unfold RtOK
      rw [upm_ne (by omega), upm_ne (by omega)]; exact hR
    have q1 : ∀ i, M1 170 i = if i = j then mem 170 j + 1 else mem 170 i := fun i => by
      rw [← hM1]
      by_cases e : i = j
      · subst e; rw [upm_eq, if_pos rfl]
      · rw [upm_ne (fun z => e z.2), if_neg e]
    have hI1 : RfI M1 b j := hI.congr (by rw [← hM1]; exact FrE.up) (fun i hi => by rw [q1, if_neg (by omega)])
    have hN1 := hF1.nds hN
    have e12 : M1 143 12 = c := by rw [hF1 143 12 (by omega) (by omega)]; exact hc
    have hS1 : RtR s (M1 143 31) (M1 143 32) (M1 143 33) := by
      rw [← hM1, upm_ne (by omega), upm_ne (by omega), upm_ne (by omega)]; exact hS
    have nxt : mem 170 j + 1 < c → (odR M1 b c.toNat (j + 1)).foldl wRg ((lvl M1 b c.toNat j (M1 170 j).toNat).foldl wRg s) = T := fun w => by
      have e := odR_next (m := mem) (b := b) (c := c.toNat) (j := j) hs1 (by omega)
      rw [hM1] at e
      have l : lvl M1 b c.toNat j = lvl mem b c.toNat j := lvl_cg (by rw [← hM1]; exact FrE.up) (fun i hi => by rw [q1, if_neg (by omega)])
      rw [q1, if_pos rfl, l, ← List.foldl_append, ← e]
      exact hT
    have lv : ∀ i : Nat, lvl M1 b c.toNat j i = dfE b (chP M1 b j) (chV M1 j) (chD M1 j) (chW M1 j) (dfs (rq M1) c.toNat b (8 - j)) (M1 154 i, M1 155 i, M1 156 i, M1 157 i) := fun i => rfl
    -- again at the same place
    have stay : ∀ m s', FrE M1 m → RtOK m → (∀ i, m 170 i = M1 170 i) → mem 170 j + 1 < c → RtR s' (m 143 31) (m 143 32) (m 143 33) → (odR M1 b c.toNat (j + 1)).foldl wRg s' = T → Wx (Ex S (n + 3)) S M_345 Kk 9 [some (.inr 143), some (.inl b), some (.inl (j : Int)), none, none, none, none] [] m := by
      intro m s' k1 k2 k3 k4 k5 k6
      refine ih j m s' ?_ (hF1.tr k1) k2 (hI1.congr k1 (fun i _ => k3 i)) (by rw [k3, q1, if_pos rfl]; omega) (by rw [k3, q1, if_pos rfl]; omega) k5 (by rw [odR_cg k1 (j + 1) (fun i _ => k3 i)]; exact k6)
      have e5 : odE m c (j + 1) = odE m c j + (c - m 170 j).toNat * 50 ^ (9 - j) := rfl
      have e6 : odE m c j = odE mem c j := odE_eq (fun i hi => by rw [k3, q1, if_neg (by omega)])
      have e7 : (c - m 170 j).toNat + 1 = (c - mem 170 j).toNat := by rw [k3, q1, if_pos rfl]; omega
      rw [← e7, Nat.add_mul, Nat.one_mul] at hod
      omega
    have rest : ∀ v8 : Int, v8 = chP M1 b j → ((0 : Int) ≤ (j : Int) ∧ ((j : Int) : Int) < 9) ∧ ∀ v9 : Int, v9 = M1 170 (Int.toNat (j : Int)) → InI v9 → ∀ v10 : Int, v10 = M1 143 12 → InI v10 → ((v9 < v10 → ((0 : Int) ≤ (j : Int) ∧ ((j : Int) : Int) < 9) ∧ ∀ v11 : Int, v11 = M1 170 (Int.toNat (j : Int)) → InI v11 → ((0 : Int) ≤ v11 ∧ (v11 : Int) < 48) ∧ ∀ v12 : Int, v12 = M1 154 (Int.toNat v11) → InI v12 → ((¬ v12 = v8 → (Wx (Ex S (n + 3)) S M_345 Kk 9 [some (.inr 143), some (.inl b), some (.inl (j : Int)), none, none, none, none] [] M1)) ∧ (¬ (¬ v12 = v8) → ((0 : Int) ≤ v11 ∧ (v11 : Int) < 48) ∧ ∀ v13 : Int, v13 = M1 155 (Int.toNat v11) → InI v13 → ((b ≤ v13 → ((0 : Int) ≤ v11 ∧ (v11 : Int) < 48) ∧ ∀ v14 : Int, v14 = M1 155 (Int.toNat v11) → InI v14 → ((¬ v14 = b → (Wx (Ex S (n + 3)) S M_345 Kk 136 [some (.inr 143), some (.inl b), some (.inl (j : Int)), some (.inl v8), some (.inl v11), some (.inl 0), some (.inl 0)] [] M1)) ∧ (¬ (¬ v14 = b) → (CWV (Ex S (n + 3)) 346 [.inr 143, .inl (j : Int), .inl b] M1 fun m15 => (Wx (Ex S (n + 3)) S M_345 Kk 9 [some (.inr 143), some (.inl b), some (.inl (j : Int)), none, none, none, none] [] m15))))) ∧ (¬ (b ≤ v13) → (Wx (Ex S (n + 3)) S M_345 Kk 9 [some (.inr 143), some (.inl b), some (.inl (j : Int)), none, none, none, none] [] M1)))))) ∧ (¬ (v9 < v10) → (InI ((j : Int) + (-1))) ∧ (Wx (Ex S (n + 3)) S M_345 Kk 9 [some (.inr 143), some (.inl b), some (.inl ((j : Int) + (-1))), none, none, none, none] [] M1))) := by
      intro v8 e8
      simp only [Int.toNat_natCast]
      have q1j := q1 j
      rw [if_pos rfl] at q1j
      have no : mem 170 j + 1 < c → lvl M1 b c.toNat j (M1 170 j).toNat = [] → (odR M1 b c.toNat (j + 1)).foldl wRg s = T := fun w e => by
        have := nxt w
        rw [e] at this
        exact this
      refine ⟨hj9, fun v9 e9 _ v10 e10 _ => ⟨fun q => ⟨hj9, fun v11 e11 _ => ⟨by omega, fun v12 e12' _ => ⟨fun z => stay M1 s FrE.rf hR1 (fun _ => rfl) (by omega) hS1 (no (by omega) (by rw [lv]; exact if_pos (Or.inl (by show ¬ M1 154 (M1 170 j).toNat = chP M1 b j; rw [← e11, ← e12', ← e8]; exact z)))), fun z => ⟨by omega, fun v13 e13 _ => ⟨fun z2 => ⟨by omega, fun v14 e14 _ => ⟨fun z3 => ?_, fun z3 => ?_⟩⟩, fun z2 => stay M1 s FrE.rf hR1 (fun _ => rfl) (by omega) hS1 (no (by omega) (by rw [lv]; exact if_pos (Or.inr (by show M1 155 (M1 170 j).toNat < b; rw [← e11, ← e13]; omega))))⟩⟩⟩⟩⟩, fun q => ⟨by unfold InI; omega, ?_⟩⟩⟩
      · -- has it been seen
        have nf : ¬ (¬ M1 154 (M1 170 j).toNat = chP M1 b j ∨ M1 155 (M1 170 j).toNat < b) := by
          rw [← e11, ← e12', ← e13, ← e8]; omega
        have nb : ¬ M1 155 (M1 170 j).toNat = b := by
          rw [← e11, ← e14]; exact z3
        have psh : (∀ i, i < j → ¬ M1 155 (M1 170 i).toNat = M1 155 (M1 170 j).toNat) → (InI ((j : Int) + 1)) ∧ ((0 : Int) ≤ ((j : Int) + 1) ∧ (((j : Int) + 1) : Int) < 9) ∧ (Wx (Ex S (n + 3)) S M_345 Kk 9 [some (.inr 143), some (.inl b), some (.inl ((j : Int) + 1)), none, none, none, none] [] (upm M1 170 (Int.toNat ((j : Int) + 1)) (-1))) := by
          intro hd
          have hP : RfI M1 b (j + 1) := hI1.push (by omega) (by omega) (by rw [← e11]; omega) (by rw [← e11]; omega) hd
          have := hP.le hb hN1
          refine ⟨by unfold InI; omega, by omega, ?_⟩
          rw [show ((j : Int) + 1) = ((j + 1 : Nat) : Int) by omega, Int.toNat_natCast]
          have q2 : ∀ i, upm M1 170 (j + 1) (-1) 170 i = if i = j + 1 then -1 else M1 170 i := fun i => by
            by_cases e : i = j + 1
            · subst e; rw [upm_eq, if_pos rfl]
            · rw [upm_ne (fun z => e z.2), if_neg e]
          have nv : ¬ M1 155 (M1 170 j).toNat ∈ chV M1 j := fun w => by
            obtain ⟨i, hi, e⟩ := (chV_mem j).mp w
            exact hd i hi e.symm
          refine ih (j + 1) _ s ?_ (hF1.tr FrE.up) (by unfold RtOK; rw [upm_ne (by omega), upm_ne (by omega)]; exact hR1) (hP.congr FrE.up (fun i hi => by rw [q2, if_neg (by omega)])) (by rw [q2, if_pos rfl]; omega) (by rw [q2, if_pos rfl]; omega) (by rw [upm_ne (by omega), upm_ne (by omega), upm_ne (by omega)]; exact hS1) (by
            have w := nxt (by omega)
            have le : lvl M1 b c.toNat j (M1 170 j).toNat = dfs (rq M1) c.toNat b (8 - j) (M1 155 (M1 170 j).toNat) (M1 155 (M1 170 j).toNat :: chV M1 j) (chD M1 j + M1 157 (M1 170 j).toNat) (chW M1 j + M1 156 (M1 170 j).toNat) := by
              rw [lv]
              unfold dfE
              rw [if_neg nf, if_neg nb, if_neg nv]
            rw [odR_push (by omega), List.foldl_append, ← le]
            exact w)
          have e5 : odE (upm M1 170 (j + 1) (-1)) c (j + 1 + 1) = odE (upm M1 170 (j + 1) (-1)) c j + (c - upm M1 170 (j + 1) (-1) 170 j).toNat * 50 ^ (9 - j) + (c - upm M1 170 (j + 1) (-1) 170 (j + 1)).toNat * 50 ^ (9 - (j + 1)) := rfl
          have e6 : odE (upm M1 170 (j + 1) (-1)) c j = odE mem c j := odE_eq (fun i hi => by rw [q2, if_neg (by omega), q1, if_neg (by omega)])
          have e7 : (c - upm M1 170 (j + 1) (-1) 170 j).toNat + 1 = (c - mem 170 j).toNat := by rw [q2, if_neg (by omega), q1, if_pos rfl]; omega
          have e8 : (c - upm M1 170 (j + 1) (-1) 170 (j + 1)).toNat ≤ 49 := by rw [q2, if_pos rfl]; omega
          have e9 : 50 ^ (9 - j) = 50 ^ (9 - (j + 1)) * 50 := by rw [show 9 - j = (9 - (j + 1)) + 1 by omega, Nat.pow_succ]
          have e10 := Nat.mul_le_mul_right (50 ^ (9 - (j + 1))) e8
          have p2 : 1 ≤ 50 ^ (9 - (j + 1)) := Nat.one_le_pow _ _ (by omega)
          rw [← e7, Nat.add_mul, Nat.one_mul] at hod
          omega
        have loop : ∀ (N' i : Nat) (x5 : Int), i ≤ j → j - i < N' → (x5 = 0 → ∀ i', i' < i → ¬ M1 155 (M1 170 i').toNat = M1 155 (M1 170 j).toNat) → (¬ x5 = 0 → ∃ i', i' < j ∧ M1 155 (M1 170 j).toNat = M1 155 (M1 170 i').toNat) → Wx (Ex S (n + 3)) S M_345 Kk 136 [some (.inr 143), some (.inl b), some (.inl (j : Int)), some (.inl v8), some (.inl v11), some (.inl x5), some (.inl (i : Int))] [] M1 := by
          intro N'
          induction N' with
          | zero => intros; omega
          | succ N' ih2 =>
            intro i x5 hi hN' h5 h6
            refine w_345_136 (Ex.mono S (n + 3)) ⟨fun z4 => ⟨fun z5 => psh (fun i' hi' => h5 z5 i' (by omega)), fun z5 => stay M1 s FrE.rf hR1 (fun _ => rfl) (by omega) hS1 (no (by omega) (by
              rw [lv]
              unfold dfE
              rw [if_neg nf, if_neg nb, if_pos ((chV_mem j).mpr (h6 z5))]))⟩, fun z4 => ⟨fun z5 => ⟨by clear h5 h6; unfold InI; omega, ih2 (i + 1) 1 (by clear h5 h6; omega) (by clear h5 h6; omega) (fun z6 => absurd z6 (by decide)) (fun _ => h6 z5)⟩, fun z5 => ?_⟩⟩
            have hi9 : 0 ≤ (i : Int) ∧ (i : Int) < 9 := by omega
            obtain ⟨c1, c2, -⟩ := hI1.1 i (by omega)
            rw [Int.toNat_natCast]
            refine ⟨hi9, fun w1 f1 _ => ⟨by omega, fun w2 f2 _ => ⟨by omega, fun w3 f3 _ => ⟨fun z6 => ⟨by clear h5 h6; unfold InI; omega, ih2 (i + 1) 0 (by clear h5 h6; omega) (by clear h5 h6; omega) (fun _ i' hi' => ?_) (fun z7 => by clear h5 h6; omega)⟩, fun z6 => ⟨by clear h5 h6; unfold InI; omega, ih2 (i + 1) 1 (by clear h5 h6; omega) (by clear h5 h6; omega) (fun z7 => by clear h5 h6; omega) (fun _ => ⟨i, by omega, ?_⟩)⟩⟩⟩⟩⟩
            · by_cases e : i' = i
              · subst e
                rw [← f1, ← e11, ← f2, ← f3]; exact z6
              · exact h5 (by omega) i' (by omega)
            · rw [← f1, ← e11, ← f2, ← f3]; omega
        exact loop _ 0 0 (by omega) (Nat.lt_succ_self _) (fun _ i' hi' => by omega) (fun z7 => absurd rfl z7)
      · have lb : M1 155 (M1 170 j).toNat = b := by rw [← e11]; omega
        have le : lvl M1 b c.toNat j (M1 170 j).toNat = [(chD M1 j + M1 157 (M1 170 j).toNat, chW M1 j + M1 156 (M1 170 j).toNat, X1 b ||| pmK (chV M1 j))] := by
          rw [lv]
          unfold dfE
          rw [if_neg (by
            show ¬ (¬ M1 154 (M1 170 j).toNat = chP M1 b j ∨ M1 155 (M1 170 j).toNat < b)
            rw [← e11, ← e12', ← e13, ← e8]; omega), if_pos lb]
        have w := nxt (by omega)
        rw [le] at w
        refine f_346e (by omega) hN1 (fun i hi => ?_) lb hR1 hS1 (fun m15 k1 k2 k3 => stay m15 _ k1.e k2 (fun i => k1 170 i (by omega)) (by omega) k3 w)
        by_cases e : i = j
        · subst e
          exact ⟨by omega, by omega, by rw [← e11]; omega⟩
        · exact hI1.1 i (by omega)
      · have we : (odR M1 b c.toNat j).foldl wRg s = T := by
          rw [odR_cg (m := mem) (by rw [← hM1]; exact FrE.up) j (fun i hi => by rw [q1, if_neg (by omega)]), ← odR_end (by omega)]
          exact hT
        by_cases e : j = 0
        · refine w_345_9 (Ex.mono S (n + 3)) ⟨fun _ => H M1 hF1 hR1 ?_, fun z => ?_⟩
          · subst e
            have we : s = T := we
            rw [← we]; exact hS1
          · omega
        · rw [show (j : Int) + -1 = ((j - 1 : Nat) : Int) by omega]
          have hh := hI1.1 (j - 1) (by omega)
          refine ih (j - 1) M1 s ?_ hF1 hR1 (hI1.lower (by omega)) (by omega) (by omega) hS1 (by rw [show j - 1 + 1 = j by omega]; exact we)
          have e6 : odE M1 c j = odE mem c j := odE_eq (fun i hi => by rw [q1, if_neg (by omega)])
          rw [show j - 1 + 1 = j by omega, e6]
          have e7 : (c - mem 170 j).toNat = 1 := by omega
          rw [e7, Nat.one_mul] at hod
          omega
    refine w_345_9 (Ex.mono S (n + 3)) ⟨fun q => by omega, fun q => ⟨hj9, fun v1 e1 _ => ?_⟩⟩
    rw [Int.toNat_natCast] at e1
    subst e1
    refine ⟨by unfold InI; omega, hj9, fun q2 => ?_, fun q2 => ?_⟩
    · simp only [Int.toNat_natCast]
      rw [hM1]
      refine fun v2 e2 _ => ⟨by unfold InI; omega, by unfold InI; omega, by omega, fun v3 e3 _ => f_257 (fun _ _ => f_258 (fun _ _ => ?_))⟩
      obtain ⟨c1, c2, -⟩ := hI1.1 (j - 1) (by omega)
      rw [show ((j : Int) - 1).toNat = j - 1 by omega] at e3
      have e8 : min (v2 - 1) (max 0 v3) = M1 170 (j - 1) := by omega
      rw [e8]
      refine ⟨by omega, fun v8 e8 _ => ?_⟩
      have := rest v8 (by rw [e8]; unfold chP; rw [if_neg (by omega)])
      simp only [Int.toNat_natCast] at this
      exact this
    · have := rest b (by unfold chP; rw [if_pos (by omega)])
      simp only [Int.toNat_natCast] at this ⊢
      rw [hM1]
      exact this
theorem f_345e {m0 : MM} {K : MM → Prop} {s : Int × Int × Int} {b : Int} (hb : 0 ≤ b) (hN : NdsOK m0) (hc : 0 < m0 143 12) (hR : RtOK m0) (hS : RtR s (m0 143 31) (m0 143 32) (m0 143 33)) (H : ∀ m', FrE m0 m' → RtOK m' → RtR ((dfs (rq m0) (m0 143 12).toNat b 9 b [] 0 0).foldl wRg s) (m' 143 31) (m' 143 32) (m' 143 33) → K m') : CWV (Ex S (n + 4)) 345 [.inr 143, .inl b] m0 K := by
  refine CW.of (k := 5) mt_345 rfl rfl (w_345_0 (Ex.mono S (n + 3)) ⟨by omega, ?_⟩)
  rw [show (0 : Int).toNat = 0 from rfl]
  refine rf_9e hb hN rfl ⟨hc, hN.2.1.2⟩ (fun m' a c d => ⟨rfl, H m' a c d⟩) _ 0 _ s (Nat.lt_succ_self _) FrE.up (by unfold RtOK; rw [upm_ne (by omega), upm_ne (by omega)]; exact hR) ⟨fun i hi => by omega, fun i hi => by omega, fun p q h1 h2 => by omega⟩ (by rw [upm_eq]; omega) (by rw [upm_eq]; omega) (by rw [upm_ne (by omega), upm_ne (by omega), upm_ne (by omega)]; exact hS) ?_
  show (fmR (lvl (upm m0 170 0 (-1)) b (m0 143 12).toNat 0) (upm m0 170 0 (-1) 170 0 + 1).toNat ((m0 143 12).toNat - (upm m0 170 0 (-1) 170 0 + 1).toNat) ++ []).foldl wRg s = _
  rw [lvl_cg FrE.up (fun i hi => by omega), upm_eq, List.append_nil]
  have z : ((-1 : Int) + 1).toNat = 0 := rfl
  rw [z, Nat.sub_zero]
  have e := fmN_R (lvl m0 b (m0 143 12).toNat 0) (m0 143 12).toNat 0
  rw [Nat.zero_add] at e
  have e2 : fmN (lvl m0 b (m0 143 12).toNat 0) 0 ++ fmR (lvl m0 b (m0 143 12).toNat 0) 0 (m0 143 12).toNat = fmR (lvl m0 b (m0 143 12).toNat 0) 0 (m0 143 12).toNat := rfl
  rw [← e2, ← e]
  rfl
theorem ringsAll_0 {c : Nat → Q4} : ∀ o, ringsAll c 0 o = []
  | 0 => rfl
  | o + 1 => by
    show ringsAll c 0 o ++ dfs c 0 (o : Int) 9 (o : Int) [] 0 0 = []
    rw [ringsAll_0 o]
    rfl
/-- laysRate -/
theorem f_344e {m0 : MM} {K : MM → Prop} (hO : OpsOK m0) (hSd : SoundM m0) (H : ∀ m', FrL m0 m' → RN m0 m' → NdsOK m' → RtOK m' → Enum (rq m') (m' 143 12).toNat (NdF m0) → RtR ((ringsAll (rq m') (m' 143 12).toNat (m0 143 1).toNat).foldl wRg (0, 1, 0)) (m' 143 31) (m' 143 32) (m' 143 33) → K m') : CWV (Ex S (n + 5)) 344 [.inr 143] m0 K := by
  refine CW.of (k := 1) mt_344 rfl rfl (w_344_0 (Ex.mono S (n + 4)) (f_245e hO hSd (fun m1 g1 g5 g2 g3 g4 gE => ?_)))
  have hN1 := NdsOK.of hO g1 g2 g3 g4
  have eo : m1 143 1 = m0 143 1 := g1 143 1 (by omega) (by omega) (by omega) (by omega) (by omega)
  generalize hm2 : upm (upm (upm m1 143 31 0) 143 32 1) 143 33 0 = m2
  have hE : FrE m1 m2 := by
    rw [← hm2]
    intro A i e1 e2
    rw [upm_ne (by omega), upm_ne (by omega), upm_ne (by omega)]
  have r31 : m2 143 31 = 0 := by rw [← hm2, upm_ne (by omega), upm_ne (by omega), upm_eq]
  have r32 : m2 143 32 = 1 := by rw [← hm2, upm_ne (by omega), upm_eq]
  have r33 : m2 143 33 = 0 := by rw [← hm2, upm_eq]
  have hR2 : RtOK m2 := by
    unfold RtOK
    omega
  have key : ∀ (N : Nat) (o : Nat) (mem : MM), 8 - o < N → (o : Int) ≤ m0 143 1 → FrE m1 mem → RtOK mem → RtR ((ringsAll (rq m1) (m1 143 12).toNat o).foldl wRg (0, 1, 0)) (mem 143 31) (mem 143 32) (mem 143 33) → Wx (Ex S (n + 4)) S M_344 (fun r m => r = none ∧ K m) 21 [some (.inr 143), some (.inl (o : Int))] [] mem := by
    intro N
    induction N with
    | zero => intros; have := hO.1; omega
    | succ N ih =>
      intro o mem hNN ho hF hR hS
      have e12 : mem 143 12 = m1 143 12 := hF 143 12 (by omega) (by omega)
      have e1 : mem 143 1 = m0 143 1 := (hF 143 1 (by omega) (by omega)).trans eo
      have fin : RtR ((ringsAll (rq m1) (m1 143 12).toNat (m0 143 1).toNat).foldl wRg (0, 1, 0)) (mem 143 31) (mem 143 32) (mem 143 33) → K mem := fun h => H mem (g1.l.tr hF.l) ((show RN m0 m1 from ⟨g5, fun _ => ⟨g2, g3⟩⟩).tr hF.rn) (hF.nds hN1) hR (by rw [e12, rq_cg hF]; exact gE) (by rw [e12, rq_cg hF]; exact h)
      have h8 := (hF.nds hN1).1
      refine w_344_21 (Ex.mono S (n + 4)) (fun v1 e1' _ => ⟨fun q => ⟨rfl, fin (by rw [show (m0 143 1).toNat = o by omega]; exact hS)⟩, fun q v2 e2 _ => ⟨fun q2 => ⟨rfl, fin ?_⟩, fun q2 => ?_⟩⟩)
      · have z : (m1 143 12).toNat = 0 := by omega
        rw [z, ringsAll_0] at hS ⊢
        exact hS
      · refine f_345e (b := (o : Int)) (by omega) (hF.nds hN1) (by omega) hR hS (fun m3 k1 k2 k3 => ⟨by unfold InI; omega, ih (o + 1) m3 (by omega) (by omega) (hF.tr k1) k2 ?_⟩)
        rw [e12, rq_cg hF, ← List.foldl_append] at k3
        exact k3
  exact key 9 0 m2 (by omega) (by have := hO.1; omega) hE hR2 (by rw [r31, r32, r33]; exact RtR.ini)
end RRATE
