section
/-! RUN of the reference: cycle by cycle; what comes of it is PLAIN -/
theorem lstK_ge {m : MM} {o u : Nat} {d l : Int} : ∀ k : Nat, l ≤ lstK m o d u l k
  | 0 => Int.le_refl _
  | k + 1 => by
    have ih := lstK_ge (m := m) (o := o) (u := u) (d := d) (l := l) k
    show l ≤ lst1 m o d u k (lstK m o d u l k)
    unfold lst1
    split <;> omega
theorem lstK_at {m : MM} {o u k : Nat} {d l : Int} (e : srcA m u k = (o : Int)) : ∀ K : Nat, k < K → m 161 u + d * srcB m u k ≤ lstK m o d u l K
  | 0, h => absurd h (Nat.not_lt_zero _)
  | K + 1, h => by
    show m 161 u + d * srcB m u k ≤ lst1 m o d u K (lstK m o d u l K)
    unfold lst1
    by_cases z : k = K
    · subst z
      rw [if_pos e]
      omega
    · have ih := lstK_at (l := l) (d := d) e K (by omega)
      split <;> omega
theorem lstN_at {m : MM} {o u k : Nat} {d : Int} (hk : (k : Int) < srcN m u) (e : srcA m u k = (o : Int)) : ∀ n : Nat, u < n → m 161 u + d * srcB m u k ≤ lstN m o d n
  | 0, h => absurd h (Nat.not_lt_zero _)
  | n + 1, h => by
    show m 161 u + d * srcB m u k ≤ lstK m o d n (lstN m o d n) (srcN m n).toNat
    by_cases z : u = n
    · subst z
      exact lstK_at e _ (by omega)
    · exact Int.le_trans (lstN_at hk e n (by omega)) (lstK_ge _)
theorem lstK_fr {m m' : MM} (e : FrU m m') {o u : Nat} {d l : Int} : ∀ k : Nat, lstK m' o d u l k = lstK m o d u l k
  | 0 => rfl
  | k + 1 => by
    show lst1 m' o d u k (lstK m' o d u l k) = lst1 m o d u k (lstK m o d u l k)
    rw [lstK_fr e k]
    unfold lst1 srcA srcB
    rw [e 145 u (by omega), e 146 u (by omega), e 147 u (by omega), e 148 u (by omega), e 161 u (by omega)]
theorem lstN_fr {m m' : MM} (e : FrU m m') {o : Nat} {d : Int} : ∀ n : Nat, lstN m' o d n = lstN m o d n
  | 0 => rfl
  | n + 1 => by
    have q : srcN m' n = srcN m n := by
      unfold srcN
      rw [e 144 n (by omega)]
    show lstK m' o d n (lstN m' o d n) (srcN m' n).toNat = lstK m o d n (lstN m o d n) (srcN m n).toNat
    rw [lstN_fr e n, lstK_fr e, q]
theorem copF_fr {m m' : MM} (e : FrU m m') {o : Nat} {d : Int} : copF m' o d = copF m o d := by
  have q : lifeF m' o d = lifeF m o d := by
    unfold lifeF latF
    rw [e 144 o (by omega), e 143 1 (by omega), e 161 o (by omega), e 151 _ (by omega), lstN_fr e]
  unfold copF
  rw [q, e 144 o (by omega)]
theorem urR_fr {m m' : MM} (e : FrU m m') {d : Int} : urR m' d = urR m d := by
  unfold urR
  rw [show (fun o => copF m' o d) = fun o => copF m o d from funext fun o => copF_fr e, e 143 1 (by omega)]
theorem PrX.ge {c all p : Int} (h : PrX c all p) : c ≤ p := by
  rcases h with ⟨-, h⟩ | ⟨-, h, -⟩
  · omega
  · exact h
theorem FitR.rn {m : MM} {d : Int} {P : Nat → Int} (h : FitR m m d) (hO : OpsOK m) (hd : 1 ≤ d ∧ d ≤ 12) (hP : ∀ o : Nat, (o : Int) < m 143 1 → PrX (copF m o d) (urR m d) (P o) ∧ P o ≤ 45) : RnH (acsR m) (m 161) (cmR m) P d (m 143 1).toNat := by
  have h8 := hO.1
  obtain ⟨hS, ⟨r, ⟨-, hE, -⟩, -⟩, -, -, hT, hb, -⟩ := h
  have hTm : TmOK m d := hb
  have ned : ∀ x : Q4, NdF m x → ∀ a b : Nat, x.1 = (a : Int) → x.2.1 = (b : Int) → m 161 a + (x.2.2.2 - d * x.2.2.1) ≤ m 161 b := fun x q a b ha hb => by
    obtain ⟨j, j1, j2⟩ := hE.2.2 x q
    have ed : EdQ (rq m) (m 143 12).toNat d a b (x.2.2.2 - d * x.2.2.1) := ⟨j, j1, by rw [j2]; exact ha, by rw [j2]; exact hb, by rw [j2]⟩
    exact hT.1.2 a b _ ed
  refine ⟨hd, fun o ho => ?_, fun o k ho k4 hk k5 => ?_, fun s u hs hu k5 k4 er => ?_, fun s u hs hu ne k5 k5' er q => ?_⟩
  · have b := hb o (by omega)
    have la := hO.lat (o := o) (by omega)
    have hP' := hP o (by omega)
    refine ⟨⟨b.1, show m 161 o + 1 ≤ m 161 o + latF m o by omega⟩, fun k => hO.row (o := o) (by omega) k, fun k => ?_⟩
    have c := (copF_rng hO hTm hd (o := o) (by omega)).2.2 k
    have := hP'.1.ge
    omega
  · have k4 : ¬ m 144 o = 4 := k4
    have k5 : m 144 o = 5 → k = 0 := k5
    have kn : (k : Int) < srcN m o := by
      unfold srcN
      rw [if_neg k4]
      split <;> omega
    have so := hO.src (o := o) (by omega) (k := (k : Int)) (by omega) kn
    unfold srcOK at so
    have ss := hS o (by omega) k (by omega) kn
    unfold SrcS at ss
    show -2 ≤ srcA m o k ∧ (0 ≤ srcA m o k → (srcA m o k).toNat < (m 143 1).toNat ∧ ¬ m 144 (srcA m o k).toNat = 5 ∧ 0 ≤ srcB m o k ∧ (0 < srcB m o k ∨ srcA m o k < o) ∧ cmR m (srcA m o k).toNat ≤ m 161 o + d * srcB m o k ∧ m 161 o + d * srcB m o k + 1 ≤ cmR m (srcA m o k).toNat + d * P (srcA m o k).toNat)
    refine ⟨by omega, fun q => ?_⟩
    obtain ⟨a, ea⟩ : ∃ a : Nat, srcA m o k = (a : Int) := ⟨_, (Int.toNat_of_nonneg q).symm⟩
    have g : m 161 a + (latF m (srcA m o k).toNat - d * srcB m o k) ≤ m 161 o := ned (srcA m o k, (o : Int), srcB m o k, latF m (srcA m o k).toNat) (Or.inl ⟨o, k, by omega, kn, q, rfl⟩) a o ea rfl
    have ls := lstN_at (m := m) (o := a) (d := d) (u := o) (k := k) kn ea (m 143 1).toNat ho
    rw [ea, Int.toNat_natCast] at g ss ⊢
    rw [ea] at so
    have b0 : 0 ≤ srcB m o k := by omega
    have a1 : (a : Int) < m 143 1 := by omega
    have k5a : ¬ m 144 a = 5 := by omega
    have db := Int.mul_nonneg (show 0 ≤ d by omega) b0
    have t0 := hb o (by omega)
    have lf : lifeF m a d = lstN m a d (m 143 1).toNat - (m 161 a + latF m a) + 1 := by
      unfold lifeF
      rw [if_neg k5a, if_neg (by omega)]
    have cf := (ceilF_sp (lifeF m a d) (show 0 < d by omega)).2
    have cp : copF m a d = max 1 (ceilF (lifeF m a d) d) := by
      unfold copF
      rw [if_neg k5a]
    have pm := (hP a a1).1.ge
    have mm : d * ceilF (lifeF m a d) d ≤ d * P a := Int.mul_le_mul_of_nonneg_left (by omega) (by omega)
    unfold cmR
    exact ⟨by omega, k5a, b0, by omega, by omega, by omega⟩
  · have k5 : m 144 s = 5 := k5
    have k4 : m 144 u = 4 := k4
    have ne : ¬ u = s := fun z => by
      rw [z] at k4
      omega
    show ((plcF m u < plcF m s ∨ (plcF m s = plcF m u ∧ s < u)) → cmR m s ≤ m 161 u + d * (plcF m s - plcF m u)) ∧ (¬ (plcF m u < plcF m s ∨ (plcF m s = plcF m u ∧ s < u)) → m 161 u + 1 ≤ cmR m s + d * (plcF m u - plcF m s))
    refine ⟨fun q => ?_, fun q => ?_⟩
    · have nd : NdR (m 144) (rowF m) (plcF m) (latF m) s u ((s : Int), (u : Int), plcF m s - plcF m u, latF m s) := ⟨k5, er, Or.inl ⟨k4, q, rfl⟩⟩
      have g : m 161 s + (latF m s - d * (plcF m s - plcF m u)) ≤ m 161 u := ned ((s : Int), (u : Int), plcF m s - plcF m u, latF m s) (Or.inr ⟨s, u, by omega, by omega, ne, nd⟩) s u rfl rfl
      unfold cmR
      omega
    · have nd : NdR (m 144) (rowF m) (plcF m) (latF m) s u ((u : Int), (s : Int), plcF m u - plcF m s, 1 - latF m s) := ⟨k5, er, Or.inr (Or.inl ⟨k4, q, rfl⟩)⟩
      have g : m 161 u + (1 - latF m s - d * (plcF m u - plcF m s)) ≤ m 161 s := ned ((u : Int), (s : Int), plcF m u - plcF m s, 1 - latF m s) (Or.inr ⟨s, u, by omega, by omega, ne, nd⟩) u s rfl rfl
      unfold cmR
      omega
  · have k5 : m 144 s = 5 := k5
    have k5' : m 144 u = 5 := k5'
    have nd : NdR (m 144) (rowF m) (plcF m) (latF m) s u ((s : Int), (u : Int), plcF m s - plcF m u, 1) := ⟨k5, er, Or.inr (Or.inr ⟨k5', q, rfl⟩)⟩
    have g : m 161 s + (1 - d * (plcF m s - plcF m u)) ≤ m 161 u := ned ((s : Int), (u : Int), plcF m s - plcF m u, 1) (Or.inr ⟨s, u, by omega, by omega, fun z => ne z.symm, nd⟩) s u rfl rfl
    have el : latF m s = latF m u := by
      unfold latF
      rw [k5, k5']
    show cmR m s + 1 ≤ cmR m u + d * (plcF m s - plcF m u)
    unfold cmR
    omega
theorem turnF_at {c b d x : Int} (h : ¬ turnF c b d x = -1) : b + d * turnF c b d x = c := by
  unfold turnF at h ⊢
  by_cases h1 : c - b < 0
  · rw [if_pos h1] at h
    exact absurd rfl h
  · rw [if_neg h1] at h ⊢
    by_cases h2 : ¬ (c - b).tmod d = 0
    · rw [if_pos h2] at h
      exact absurd rfl h
    · rw [if_neg h2] at h ⊢
      by_cases h3 : x ≤ (c - b).tdiv d
      · rw [if_pos h3] at h
        exact absurd rfl h
      · rw [if_neg h3]
        have e := Int.tmod_add_mul_tdiv (c - b) d
        omega
theorem turnF_no {c b d x : Int} (hd : 0 < d) (h : turnF c b d x = -1) (t : Nat) (ht : (t : Int) < x) : ¬ b + d * (t : Int) = c := fun e => by
  have p := Int.mul_nonneg (show 0 ≤ d by omega) (show 0 ≤ (t : Int) by omega)
  have g := Int.tmod_add_mul_tdiv (c - b) d
  have r0 := Int.tmod_nonneg d (show 0 ≤ c - b by omega)
  have r1 := Int.tmod_lt_of_pos (c - b) hd
  have w : d * ((t : Int) - (c - b).tdiv d) = (c - b).tmod d := by
    rw [Int.mul_sub]
    omega
  have z : (t : Int) - (c - b).tdiv d = 0 := by
    by_cases le : (t : Int) - (c - b).tdiv d ≤ 0
    · by_cases ge : 0 ≤ (t : Int) - (c - b).tdiv d
      · omega
      · have k := Int.mul_le_mul_of_nonneg_left (show (t : Int) - (c - b).tdiv d ≤ -1 by omega) (show 0 ≤ d by omega)
        rw [w, Int.mul_neg, Int.mul_one] at k
        omega
    · have k := Int.mul_le_mul_of_nonneg_left (show 1 ≤ (t : Int) - (c - b).tdiv d by omega) (show 0 ≤ d by omega)
      rw [w, Int.mul_one] at k
      omega
  rw [z, Int.mul_zero] at w
  unfold turnF at h
  rw [if_neg (show ¬ c - b < 0 by omega), if_neg (show ¬ ¬ (c - b).tmod d = 0 by omega), if_neg (show ¬ x ≤ (c - b).tdiv d by omega)] at h
  omega
def RnI (m0 : MM) (d : Int) (n : Nat) (m : MM) (c : Int) (o ob : Nat) : Prop := (∀ r p : Nat, r < 2 → p < 64 → CeR (acsR m0) (cmR m0) d (m0 143 1).toNat n c o r p (m 165 (64 * r + p))) ∧ NameR (acsR m0) (cmR m0) (m0 168) d (m0 143 1).toNat n c o (fun u j => m 166 (80 * u + j.toNat)) ∧ ∀ u t : Nat, u < (m0 143 1).toNat → t < n → dlv (m0 161) d c ob u t → m 167 (41 * u + t) = acW (acsR m0) (m0 143 1).toNat u t
def lkN (m : MM) (o k : Nat) (t : Int) : Int := if srcA m o k = -1 then t else if srcA m o k = -2 then srcB m o k else m 166 (80 * (srcA m o k).toNat + ((t - srcB m o k) % m 168 (srcA m o k).toNat).toNat)
def rkN (m : MM) (o : Nat) (t : Int) : Int := if m 144 o = 4 then m 165 (64 * (rowF m o).toNat + (t + plcF m o).toNat) else if m 144 o = 5 then lkN m o 0 t else opM (m 144 o) (lkN m o 0 t) (lkN m o 1 t)
section RNI
variable {m0 m : MM} {d c : Int} {n o ob t : Nat}
theorem RnI.nx (h : RnI m0 d n m c (m0 143 1).toNat (m0 143 1).toNat) : RnI m0 d n m (c + 1) 0 0 :=
  ⟨fun r p hr hp => (h.1 r p hr hp).nx, h.2.1.nx, fun u t hu ht w => h.2.2 u t hu ht ((dlv.nx hu).mpr w)⟩
theorem RnI.no (h : RnI m0 d n m c o 0) (q : ∀ t : Nat, t < n → ¬ cmR m0 o + d * t = c) : RnI m0 d n m c (o + 1) 0 :=
  ⟨fun r p hr hp => (h.1 r p hr hp).no (fun _ => q), h.2.1.no (fun _ => q), h.2.2⟩
theorem RnI.v (h : RnI m0 d n m c o 0) (hH : RnH (acsR m0) (m0 161) (cmR m0) (m0 168) d (m0 143 1).toNat) (ho : o < (m0 143 1).toNat) (ht : t < n) (hc : cmR m0 o + d * t = c) : m 167 (41 * o + t) = acW (acsR m0) (m0 143 1).toNat o t := by
  have b := (hH.2.1 o ho).1
  exact h.2.2 o t ho ht (Or.inl (by omega))
theorem RnI.d5 (h : RnI m0 d n m c o 0) (hH : RnH (acsR m0) (m0 161) (cmR m0) (m0 168) d (m0 143 1).toNat) (hn : n ≤ 40) (ho : o < (m0 143 1).toNat) (ht : t < n) (hc : cmR m0 o + d * t = c) (k5 : m0 144 o = 5) : RnI m0 d n (upm m 165 (64 * (rowF m0 o).toNat + ((t : Int) + plcF m0 o).toNat) (m 167 (41 * o + t))) c (o + 1) 0 := by
  have hv := h.v hH ho ht hc
  have hd := hH.1.1
  have b : (0 ≤ rowF m0 o ∧ rowF m0 o ≤ 1) ∧ 0 ≤ plcF m0 o ∧ plcF m0 o ≤ 7 := (hH.2.1 o ho).2.1 (Or.inr k5)
  refine ⟨fun r p hr hp => (h.1 r p hr hp).st (by omega) ho ht hc k5 (fun e => ?_) (fun e => ?_), ?_, fun u t2 hu ht2 w => ?_⟩
  · have e1 : r = (rowF m0 o).toNat := e.1
    have e2 : p = ((t : Int) + plcF m0 o).toNat := e.2
    rw [e1, e2, upm_eq]
    exact hv
  · have e : ¬ (r = (rowF m0 o).toNat ∧ p = ((t : Int) + plcF m0 o).toNat) := e
    exact upm_ne (by omega)
  · have eq : (fun (u : Nat) (j : Int) => upm m 165 (64 * (rowF m0 o).toNat + ((t : Int) + plcF m0 o).toNat) (m 167 (41 * o + t)) 166 (80 * u + j.toNat)) = fun u j => m 166 (80 * u + j.toNat) := funext fun u => funext fun j => upm_ne (by omega)
    rw [eq]
    exact h.2.1.no (fun k => absurd k5 k)
  · rw [upm_ne (by omega)]
    exact h.2.2 u t2 hu ht2 w
theorem RnI.dn (h : RnI m0 d n m c o 0) (hH : RnH (acsR m0) (m0 161) (cmR m0) (m0 168) d (m0 143 1).toNat) (ho : o < (m0 143 1).toNat) (ht : t < n) (hc : cmR m0 o + d * t = c) (k5 : ¬ m0 144 o = 5) : RnI m0 d n (upm m 166 (80 * o + ((t : Int) % m0 168 o).toNat) (m 167 (41 * o + t))) c (o + 1) 0 := by
  have hv := h.v hH ho ht hc
  have hd := hH.1.1
  have rg : ∀ u, u < (m0 143 1).toNat → ¬ m0 144 u = 5 → ∀ j : Int, 0 ≤ j % m0 168 u ∧ j % m0 168 u < 45 := fun u hu k j => by
    have b := (hH.2.1 u hu).2.2 k
    have m1 := Int.emod_nonneg j (show m0 168 u ≠ 0 by omega)
    have m2 := Int.emod_lt_of_pos j (show 0 < m0 168 u by omega)
    omega
  have b := (hH.2.1 o ho).2.2 k5
  refine ⟨fun r p hr hp => ?_, h.2.1.st (t0 := t) (by omega) (by omega) hc ?_ (fun u hu j ne k => ?_), fun u t2 hu ht2 w => ?_⟩
  · rw [upm_ne (by omega)]
    exact (h.1 r p hr hp).no (fun k => absurd k k5)
  · show upm m 166 (80 * o + ((t : Int) % m0 168 o).toNat) (m 167 (41 * o + t)) 166 (80 * o + ((t : Int) % m0 168 o).toNat) = _
    rw [upm_eq]
    exact hv
  · have r1 := rg u hu k j
    have r2 := rg o ho k5 t
    exact upm_ne (fun z => ne ⟨by omega, by
      have : u = o := by omega
      subst this
      omega⟩)
  · rw [upm_ne (by omega)]
    exact h.2.2 u t2 hu ht2 w
theorem RnI.bno (h : RnI m0 d n m c o ob) (q : ∀ t : Nat, t < n → ¬ m0 161 ob + d * t = c) : RnI m0 d n m c o (ob + 1) :=
  ⟨h.1, h.2.1, fun u t hu ht w => h.2.2 u t hu ht (by
    by_cases z : u = ob
    · subst z
      have := q t ht
      unfold dlv at w ⊢
      omega
    · exact (dlv.ne z).mpr w)⟩
theorem RnI.bst (h : RnI m0 d n m c o ob) (hd : 0 < d) (hn : n ≤ 40) (ht : t < n) (hc : m0 161 ob + d * t = c) {v : Int} (hv : v = acW (acsR m0) (m0 143 1).toNat ob t) : RnI m0 d n (upm m 167 (41 * ob + t) v) c o (ob + 1) := by
  refine ⟨fun r p hr hp => ?_, ?_, fun u t2 hu ht2 w => ?_⟩
  · rw [upm_ne (by omega)]
    exact h.1 r p hr hp
  · have eq : (fun (u : Nat) (j : Int) => upm m 167 (41 * ob + t) v 166 (80 * u + j.toNat)) = fun u j => m 166 (80 * u + j.toNat) := funext fun u => funext fun j => upm_ne (by omega)
    rw [eq]
    exact h.2.1
  · by_cases z : u = ob
    · subst z
      by_cases z2 : t2 = t
      · subst z2
        rw [upm_eq]
        exact hv
      · rw [upm_ne (by omega)]
        refine h.2.2 u t2 hu ht2 ?_
        have ne : ¬ d * (t2 : Int) = d * (t : Int) := fun e => z2 (by have := mul_inj hd e; omega)
        unfold dlv at w ⊢
        omega
    · rw [upm_ne (by omega)]
      exact h.2.2 u t2 hu ht2 ((dlv.ne z).mpr w)
theorem RnI.lk {k : Nat} (h : RnI m0 d n m c (m0 143 1).toNat ob) (hF : FrV m0 m) (hH : RnH (acsR m0) (m0 161) (cmR m0) (m0 168) d (m0 143 1).toNat) (ho : o < (m0 143 1).toNat) (ht : t < n) (hc : m0 161 o + d * t = c) (k4 : ¬ m0 144 o = 4) (hk : k < 2) (k5 : m0 144 o = 5 → k = 0) : lkN m o k t = lkM (acsR m0) (opsM (acsR m0) (trM (acsR m0) (m0 143 1).toNat t) t o).2 o k t := by
  rw [lkW_eq hH ho k4 hk k5]
  have eA : srcA m o k = srcA m0 o k := by
    unfold srcA
    rw [hF 145 o (by omega), hF 147 o (by omega)]
  have eB : srcB m o k = srcB m0 o k := by
    unfold srcB
    rw [hF 146 o (by omega), hF 148 o (by omega)]
  unfold lkN
  rw [eA, eB]
  show _ = if srcA m0 o k = -1 then (t : Int) else if srcA m0 o k = -2 then srcB m0 o k else valW (acsR m0) (m0 143 1).toNat (srcA m0 o k).toNat ((t : Int) - srcB m0 o k)
  by_cases a : srcA m0 o k = -1
  · rw [if_pos a, if_pos a]
  · rw [if_neg a, if_neg a]
    by_cases b : srcA m0 o k = -2
    · rw [if_pos b, if_pos b]
    · rw [if_neg b, if_neg b, hF 168 _ (by omega)]
      have g := (hH.2.2.1 o k ho k4 hk k5).1
      have g : -2 ≤ srcA m0 o k := g
      subst hc
      exact h.2.1.lk hH ho ht k4 hk k5 (show 0 ≤ srcA m0 o k by omega)
theorem RnI.rk (h : RnI m0 d n m c (m0 143 1).toNat ob) (hF : FrV m0 m) (hH : RnH (acsR m0) (m0 161) (cmR m0) (m0 168) d (m0 143 1).toNat) (hn : n ≤ 40) (ho : o < (m0 143 1).toNat) (ht : t < n) (hc : m0 161 o + d * t = c) : rkN m o t = acW (acsR m0) (m0 143 1).toNat o t := by
  have e0 := hF 144 o (by omega)
  unfold rkN
  rw [e0]
  by_cases k4 : m0 144 o = 4
  · have b : (0 ≤ rowF m0 o ∧ rowF m0 o ≤ 1) ∧ 0 ≤ plcF m0 o ∧ plcF m0 o ≤ 7 := (hH.2.1 o ho).2.1 (Or.inl k4)
    have eR : rowF m o = rowF m0 o := by
      unfold rowF
      rw [e0, hF 145 o (by omega), hF 147 o (by omega)]
    have eP : plcF m o = plcF m0 o := by
      unfold plcF
      rw [e0, hF 146 o (by omega), hF 148 o (by omega)]
    rw [if_pos k4, eR, eP]
    subst hc
    exact (h.1 (rowF m0 o).toNat ((t : Int) + plcF m0 o).toNat (by omega) (by omega)).ld hH ho ht k4
  · rw [if_neg k4]
    unfold acW acM
    rw [if_neg (show ¬ (acsR m0).1 o = 4 from k4)]
    by_cases k5 : m0 144 o = 5
    · rw [if_pos k5, if_pos (show (acsR m0).1 o = 5 from k5)]
      exact h.lk hF hH ho ht hc k4 (by omega) (fun _ => rfl)
    · rw [if_neg k5, if_neg (show ¬ (acsR m0).1 o = 5 from k5), h.lk hF hH ho ht hc k4 (k := 0) (by omega) (fun _ => rfl), h.lk hF hH ho ht hc k4 (k := 1) (by omega) (fun z => absurd z k5)]
      rfl
end RNI
section RRN
variable {S : Nat × (Nat → Int32)} {n : Nat} {mem : MM} {K : Int → MM → Prop} {d : Int}
theorem f_318e {K : MM → Prop} (H : ∀ m', Fr1 165 mem m' → (∀ r p : Nat, r < 2 → p < 64 → m' 165 (64 * r + p) = cel0 r p) → K m') : CWV (Ex S (n + 1)) 318 [.inr 143] mem K := by
  have key : ∀ (N : Nat) (k : Int) (m : MM), 0 ≤ k → k ≤ 64 → (64 - k).toNat < N → Fr1 165 mem m → (∀ j : Nat, (j : Int) < k → m 165 j = 3 * (j : Int) + 1 ∧ m 165 (64 + j) = 7 * (j : Int) - 5) → Wx (Ex S n) S M_318 (fun r m => r = none ∧ K m) 2 [some (.inr 143), some (.inl k)] [] m := by
    intro N
    induction N with
    | zero => intros; omega
    | succ N ih =>
      intro k m hk hk2 hN hF hj
      refine w_318_2 (Ex.mono S n) ⟨fun q => ⟨rfl, H m hF (fun r p hr hp => ?_)⟩, fun q => ⟨by unfold InI; omega, by unfold InI; omega, by omega, by unfold InI; omega, by unfold InI; omega, by unfold InI; omega, by omega, by unfold InI; omega, ih (k + 1) _ (by omega) (by omega) (by omega) (fun A i e => ?_) (fun j hj2 => ?_)⟩⟩
      · have g := hj p (by omega)
        unfold cel0
        by_cases z : r = 0
        · subst z
          rw [if_pos rfl, show 64 * 0 + p = p by omega]
          exact g.1
        · rw [if_neg z, show 64 * r + p = 64 + p by omega]
          exact g.2
      · rw [upm_ne (fun z => e z.1), upm_ne (fun z => e z.1)]
        exact hF A i e
      · by_cases z : (j : Int) = k
        · subst z
          refine ⟨?_, ?_⟩
          · rw [upm_ne (by omega), Int.toNat_natCast, upm_eq]
          · rw [show (64 + (j : Int)).toNat = 64 + j by omega, upm_eq]
        · have g := hj j (by omega)
          refine ⟨?_, ?_⟩
          · rw [upm_ne (by omega), upm_ne (by omega)]
            exact g.1
          · rw [upm_ne (by omega), upm_ne (by omega)]
            exact g.2
  exact CW.of (k := 1) mt_318 rfl rfl (w_318_0 (Ex.mono S n) (key 65 0 mem (by omega) (by omega) (by omega) Fr1.rf (fun j hj => by omega)))
theorem f_321e {o t p : Int} (ho : 0 ≤ o ∧ o < 8) (hp : 1 ≤ p ∧ p ≤ 45) (H : K (80 * o + t % p) mem) : CWI (Ex S (n + 2)) 321 [.inr 143, .inl o, .inl t, .inl p] mem K := by
  have h1 := Int.emod_nonneg t (show p ≠ 0 by omega)
  have h2 := Int.emod_lt_of_pos t (show 0 < p by omega)
  exact CW.of (k := 0) mt_321 rfl rfl (w_321_0 (Ex.mono S (n + 1)) ⟨by unfold InI; omega, f_272e ⟨by omega, by omega⟩ (fun _ => ⟨by unfold InI; omega, fun _ => ⟨_, rfl, H⟩⟩)⟩)
theorem f_324e {k a b : Int} (H : K (opM k a b) mem) : CWI (Ex S (n + 2)) 324 [.inl k, .inl a, .inl b] mem K := by
  have hC := Ex.mono S (n + 1)
  refine CW.of (k := 0) mt_324 rfl rfl ?_
  show Wx (Ex S (n + 1)) S M_324 (fun r m => ∃ y, r = some y ∧ K y m) 0 [some (.inl k), some (.inl a), some (.inl b)] [] mem
  unfold opM at H
  refine Wx.iload_n hC te_324_0 rfl ?_
  refine Wx.ifc hC (t := 10) te_324_1 (by decide) (fun q => ?_) (fun q => ?_)
  · replace q : ¬ k = 0 := q
    rw [if_neg q] at H
    refine Wx.iload_n hC te_324_10 rfl ?_
    refine Wx.iconst hC te_324_11 rfl ?_
    refine Wx.icmp hC (t := 21) te_324_12 (by decide) (fun q => ?_) (fun q => ?_)
    · replace q : ¬ k = 1 := q
      rw [if_neg q] at H
      refine Wx.iload_n hC te_324_21 rfl ?_
      refine Wx.iconst hC te_324_22 rfl ?_
      refine Wx.icmp hC (t := 32) te_324_23 (by decide) (fun q => ?_) (fun q => ?_)
      · replace q : ¬ k = 2 := q
        rw [if_neg q] at H
        refine Wx.iload_n hC te_324_32 rfl ?_
        refine Wx.iload_n hC te_324_33 rfl ?_
        refine Wx.statI hC te_324_34 (by decide) mt_258 (args := [.inl a, .inl b]) (rest := []) rfl rfl rfl rfl rfl ?_
        exact f_258 (fun _ _ => Wx.ireturn hC te_324_37 rfl (fun _ => ⟨_, rfl, H⟩))
      · replace q : ¬ ¬ k = 2 := q
        rw [if_pos (Decidable.not_not.mp q)] at H
        refine Wx.iload_n hC te_324_26 rfl ?_
        refine Wx.iload_n hC te_324_27 rfl ?_
        refine Wx.bits hC (f := (fun (x y : Int32) => x * y)) te_324_28 (fun _ _ _ _ => Iff.rfl) (fun b3 e1 e2 => ?_)
        refine Wx.goto hC (t := 37) te_324_29 (by decide) ?_
        refine Wx.ireturn hC te_324_37 rfl (fun _ => ⟨_, rfl, ?_⟩)
        have e : b3 = wr (a * b) := by
          rw [e1]
          show (Int32.ofInt a * Int32.ofInt b).toInt = (Int32.ofInt (a * b)).toInt
          rw [Int32.ofInt_mul]
        rw [e]
        exact H
    · replace q : ¬ ¬ k = 1 := q
      rw [if_pos (Decidable.not_not.mp q)] at H
      refine Wx.iload_n hC te_324_15 rfl ?_
      refine Wx.iload_n hC te_324_16 rfl ?_
      refine Wx.bits hC (f := (fun (x y : Int32) => x - y)) te_324_17 (fun _ _ _ _ => Iff.rfl) (fun b3 e1 e2 => ?_)
      refine Wx.goto hC (t := 37) te_324_18 (by decide) ?_
      refine Wx.ireturn hC te_324_37 rfl (fun _ => ⟨_, rfl, ?_⟩)
      have e : b3 = wr (a - b) := by
        rw [e1]
        show (Int32.ofInt a - Int32.ofInt b).toInt = (Int32.ofInt (a - b)).toInt
        rw [Int32.ofInt_sub]
      rw [e]
      exact H
  · replace q : ¬ ¬ k = 0 := q
    rw [if_pos (Decidable.not_not.mp q)] at H
    refine Wx.iload_n hC te_324_4 rfl ?_
    refine Wx.iload_n hC te_324_5 rfl ?_
    refine Wx.bits hC (f := (fun (x y : Int32) => x + y)) te_324_6 (fun _ _ _ _ => Iff.rfl) (fun b3 e1 e2 => ?_)
    refine Wx.goto hC (t := 37) te_324_7 (by decide) ?_
    refine Wx.ireturn hC te_324_37 rfl (fun _ => ⟨_, rfl, ?_⟩)
    have e : b3 = wr (a + b) := by
      rw [e1]
      show (Int32.ofInt a + Int32.ofInt b).toInt = (Int32.ofInt (a + b)).toInt
      rw [Int32.ofInt_add]
    rw [e]
    exact H
theorem f_323e (hO : OpsOK mem) (hS : SoundM mem) (hP : PrOK mem (mem 143 1)) {o k : Nat} {kk t : Int} (ek : kk = (k : Int)) (ho : (o : Int) < mem 143 1) (hk : (k : Int) < srcN mem o) (ht : 0 ≤ t ∧ t ≤ 40) (H : K (lkN mem o k t) mem) : CWI (Ex S (n + 3)) 323 [.inr 143, .inl (o : Int), .inl kk, .inl t] mem K := by
  subst ek
  have h8 := hO.1
  have ho8 : 0 ≤ (o : Int) ∧ (o : Int) < 8 := by omega
  have hs := hO.src (o := o) (by omega) (k := (k : Int)) (by omega) hk
  have hss := hS o ho k (by omega) hk
  unfold lkN at H
  refine CW.of (k := 1) mt_323 rfl rfl (w_323_0 (Ex.mono S (n + 2)) (f_242 ho8 (fun _ => ?_)))
  rw [Int.toNat_natCast]
  refine ⟨fun q1 => ⟨fun q2 => f_243 ho8 (fun _ => ?_), fun q2 => f_243 ho8 (fun _ _ => ⟨_, rfl, ?_⟩)⟩, fun q1 _ => ⟨_, rfl, ?_⟩⟩
  · rw [Int.toNat_natCast]
    unfold srcOK at hs
    unfold SrcS at hss
    have hp := hP (srcA mem o k).toNat (by omega) (by omega)
    rw [if_neg q1, if_neg q2] at H
    have m0 := Int.emod_nonneg (t - srcB mem o k) (show mem 168 (srcA mem o k).toNat ≠ 0 by omega)
    have m1 := Int.emod_lt_of_pos (t - srcB mem o k) (show 0 < mem 168 (srcA mem o k).toNat by omega)
    refine ⟨by unfold InI; omega, by omega, fun v5 e5 _ => ?_⟩
    rw [← e5] at H m0 m1 hp
    refine f_321e ⟨by omega, by omega⟩ ⟨by omega, by omega⟩ (fun _ => ⟨⟨by omega, by omega⟩, fun v8 e8 _ _ => ⟨_, rfl, ?_⟩⟩)
    rw [e8, show (80 * srcA mem o k + (t - srcB mem o k) % v5).toNat = 80 * (srcA mem o k).toNat + ((t - srcB mem o k) % v5).toNat by omega]
    exact H
  · rw [Int.toNat_natCast]
    rw [if_neg q1, if_pos (Decidable.not_not.mp q2)] at H
    exact H
  · rw [if_pos (Decidable.not_not.mp q1)] at H
    exact H
theorem f_322e (hO : OpsOK mem) (hS : SoundM mem) (hP : PrOK mem (mem 143 1)) {o : Nat} {t : Int} (ho : (o : Int) < mem 143 1) (ht : 0 ≤ t ∧ t ≤ 39) (H : K (rkN mem o t) mem) : CWI (Ex S (n + 4)) 322 [.inr 143, .inl (o : Int), .inl t] mem K := by
  have h8 := hO.1
  have ho8 : 0 ≤ (o : Int) ∧ (o : Int) < 8 := by omega
  unfold rkN at H
  refine CW.of (k := 0) mt_322 rfl rfl (w_322_0 (Ex.mono S (n + 3)) ⟨ho8, fun v1 e1 _ => ⟨fun q1 => ⟨ho8, fun v2 e2 _ => ⟨fun q2 => ⟨ho8, fun v3 e3 _ => ?_⟩, fun q2 => ?_⟩⟩, fun q1 => ?_⟩⟩)
  · rw [Int.toNat_natCast] at e1 e2 e3
    have hn : srcN mem o = 2 := by unfold srcN; rw [if_neg (by omega), if_neg (by omega)]
    rw [if_neg (by omega), if_neg (by omega), ← e3] at H
    exact f_323e hO hS hP (k := 0) rfl ho (by omega) ⟨by omega, by omega⟩ (fun _ => f_323e hO hS hP (k := 1) rfl ho (by omega) ⟨by omega, by omega⟩ (fun _ => f_324e (fun _ _ => ⟨_, rfl, H⟩)))
  · rw [Int.toNat_natCast] at e1 e2
    have hn : srcN mem o = 1 := by unfold srcN; rw [if_neg (by omega), if_pos (by omega)]
    rw [if_neg (by omega), if_pos (by omega)] at H
    exact f_323e hO hS hP (k := 0) rfl ho (by omega) ⟨by omega, by omega⟩ (fun _ _ => ⟨_, rfl, H⟩)
  · rw [Int.toNat_natCast] at e1
    have hr := hO.row (o := o) (by omega) (Or.inl (by omega))
    rw [if_pos (by omega)] at H
    refine f_250 ho8 (fun _ => ?_)
    rw [Int.toNat_natCast]
    refine ⟨by unfold InI; omega, by unfold InI; omega, f_251 ho8 (fun _ => ?_)⟩
    rw [Int.toNat_natCast]
    refine ⟨by unfold InI; omega, by omega, fun v e _ _ => ⟨_, rfl, ?_⟩⟩
    rw [e, show (64 * rowF mem o + t + plcF mem o).toNat = 64 * (rowF mem o).toNat + (t + plcF mem o).toNat by omega]
    exact H
theorem f_320e {K : MM → Prop} (hO : OpsOK mem) {o t : Nat} (ho : (o : Int) < mem 143 1) (ht : t ≤ 39) (hP : ¬ mem 144 o = 5 → 1 ≤ mem 168 o ∧ mem 168 o ≤ 45) (H5 : mem 144 o = 5 → K (upm mem 165 (64 * (rowF mem o).toNat + ((t : Int) + plcF mem o).toNat) (mem 167 (41 * o + t)))) (H : ¬ mem 144 o = 5 → K (upm mem 166 (80 * o + ((t : Int) % mem 168 o).toNat) (mem 167 (41 * o + t)))) : CWV (Ex S (n + 3)) 320 [.inr 143, .inl (o : Int), .inl (t : Int)] mem K := by
  have h8 := hO.1
  have ho8 : 0 ≤ (o : Int) ∧ (o : Int) < 8 := by omega
  refine CW.of (k := 1) mt_320 rfl rfl (w_320_0 (Ex.mono S (n + 2)) ⟨by unfold InI; omega, by unfold InI; omega, by omega, fun v1 e1 _ => ⟨ho8, fun v2 e2 _ => ⟨fun q => ⟨ho8, fun v3 e3 _ => ?_⟩, fun q => ?_⟩⟩⟩)
  · rw [Int.toNat_natCast] at e2 e3
    rw [show (41 * (o : Int) + (t : Int)).toNat = 41 * o + t by omega] at e1
    have hp := hP (by omega)
    have g := H (by omega)
    have m0 := Int.emod_nonneg (t : Int) (show mem 168 o ≠ 0 by omega)
    have m1 := Int.emod_lt_of_pos (t : Int) (show 0 < mem 168 o by omega)
    rw [← e3] at hp g m0 m1
    rw [← e1] at g
    refine f_321e ho8 ⟨by omega, by omega⟩ (fun _ => ⟨⟨by omega, by omega⟩, rfl, ?_⟩)
    rw [show (80 * (o : Int) + (t : Int) % v3).toNat = 80 * o + ((t : Int) % v3).toNat by omega]
    exact g
  · rw [Int.toNat_natCast] at e2
    rw [show (41 * (o : Int) + (t : Int)).toNat = 41 * o + t by omega] at e1
    have hr := hO.row (o := o) (by omega) (Or.inr (by omega))
    have g := H5 (by omega)
    rw [← e1] at g
    refine f_250 ho8 (fun _ => ?_)
    rw [Int.toNat_natCast]
    refine ⟨by unfold InI; omega, by unfold InI; omega, f_251 ho8 (fun _ => ?_)⟩
    rw [Int.toNat_natCast]
    refine ⟨by unfold InI; omega, by omega, rfl, ?_⟩
    rw [show (64 * rowF mem o + (t : Int) + plcF mem o).toNat = 64 * (rowF mem o).toNat + ((t : Int) + plcF mem o).toNat by omega]
    exact g
theorem rn_75e {m0 : MM} {x e : Int} (hO : OpsOK m0) (hS : SoundM m0) (hT : TmOK m0 d) (hP : PrOK m0 (m0 143 1)) (hd : 1 ≤ d ∧ d ≤ 12) (hx : 0 ≤ x ∧ x ≤ 40) (he : e ≤ 100000) (hH : RnH (acsR m0) (m0 161) (cmR m0) (m0 168) d (m0 143 1).toNat) {Kk : WK} (H : ∀ m', FrV m0 m' → RnI m0 d x.toNat m' (e + 1) 0 0 → Kk none m') : ∀ (N : Nat) (c : Int) (mem : MM), 0 ≤ c → c ≤ e + 1 → (e + 1 - c).toNat < N → FrV m0 mem → RnI m0 d x.toNat mem c 0 0 → Wx (Ex S (n + 4)) S M_317 Kk 75 [some (.inr 143), some (.inl d), some (.inl x), some (.inl e), some (.inl c), none] [] mem := by
  have h8 := hO.1
  intro N
  induction N with
  | zero => intros; omega
  | succ N ih =>
    intro c mem hc hc2 hN hF hR
    refine w_317_75 (Ex.mono S (n + 4)) ⟨fun q => H mem hF (by rw [show e + 1 = c by omega]; exact hR), fun q => ?_⟩
    have lp2 : ∀ (N' : Nat) (o : Nat) (m : MM), (o : Int) ≤ m0 143 1 → (m0 143 1 - o).toNat < N' → FrV m0 m → RnI m0 d x.toNat m c (m0 143 1).toNat o → Wx (Ex S (n + 4)) S M_317 Kk 138 [some (.inr 143), some (.inl d), some (.inl x), some (.inl e), some (.inl c), some (.inl (o : Int))] [] m := by
      intro N'
      induction N' with
      | zero => intros; omega
      | succ N' ih2 =>
        intro o m ho hN' hF hR
        have hO' := hF.u.ops hO
        have hT' := hF.u.tm hT
        have hS' := hF.u.snd hS
        have e1' : m 143 1 = m0 143 1 := hF _ _ (by omega)
        have hP' : PrOK m (m 143 1) := by rw [e1']; exact hF.pr hP
        refine w_317_138 (Ex.mono S (n + 4)) (fun v1 e1 _ => ⟨fun z => ⟨by unfold InI; omega, ih (c + 1) m (by omega) (by omega) (by omega) hF (RnI.nx ?_)⟩, fun z => ⟨by omega, fun v2 e2 _ => ?_⟩⟩)
        · have eo : o = (m0 143 1).toNat := by omega
          rw [eo] at hR
          exact hR
        rw [Int.toNat_natCast, hF 161 o (by omega)] at e2
        have ht := hT o (by omega)
        refine f_319d (by omega) (by unfold InI; omega) (fun _ => ⟨fun z2 => ⟨by unfold InI; omega, ih2 (o + 1) m (by omega) (by omega) hF (hR.bno (fun t ht2 => ?_))⟩, fun z2 => ⟨by unfold InI; omega, by omega, fun v5 e5 _ => ?_⟩⟩)
        · rw [← e2]
          exact turnF_no (by omega) z2 t (by omega)
        have e5' : v5 = v2 := by rw [e5, Int.toNat_natCast, hF 161 o (by omega), e2]
        subst e5'
        have hr := turnF_rng (by omega) z2
        have ta := turnF_at z2
        obtain ⟨t, et⟩ : ∃ t : Nat, turnF c v5 d x = (t : Int) := ⟨_, (Int.toNat_of_nonneg hr.1).symm⟩
        rw [et] at hr ta
        refine f_319d (by omega) (by unfold InI; omega) (fun _ => ?_)
        rw [et]
        refine ⟨by unfold InI; omega, by omega, fun v8 e8 _ => ?_⟩
        have e8' : v8 = v5 := by rw [e8, Int.toNat_natCast, hF 161 o (by omega), e2]
        subst e8'
        refine f_319d (by omega) (by unfold InI; omega) (fun _ => ?_)
        rw [et]
        refine f_322e hO' hS' hP' (by omega) ⟨by omega, by omega⟩ (fun _ => ⟨by omega, by unfold InI; omega, ?_⟩)
        rw [show (41 * (o : Int) + (t : Int)).toNat = 41 * o + t by omega]
        rw [e2] at ta
        exact ih2 (o + 1) _ (by omega) (by omega) (hF.tr (FrV.up (by omega))) (hR.bst (by omega) (by omega) (by omega) ta (hR.rk hF hH (by omega) (by omega) (by omega) ta))
    have lp1 : ∀ (N' : Nat) (o : Nat) (m : MM), (o : Int) ≤ m0 143 1 → (m0 143 1 - o).toNat < N' → FrV m0 m → RnI m0 d x.toNat m c o 0 → Wx (Ex S (n + 4)) S M_317 Kk 84 [some (.inr 143), some (.inl d), some (.inl x), some (.inl e), some (.inl c), some (.inl (o : Int))] [] m := by
      intro N'
      induction N' with
      | zero => intros; omega
      | succ N' ih2 =>
        intro o m ho hN' hF hR
        have hO' := hF.u.ops hO
        have hT' := hF.u.tm hT
        have e1' : m 143 1 = m0 143 1 := hF _ _ (by omega)
        refine w_317_84 (Ex.mono S (n + 4)) (fun v1 e1 _ => ⟨fun z => lp2 9 0 m (by omega) (by omega) hF ?_, fun z => ?_⟩)
        · have eo : o = (m0 143 1).toNat := by omega
          rw [eo] at hR
          exact hR
        have ht := hT o (by omega)
        have hl := hO.lat (o := o) (by omega)
        have e161 := hF 161 o (by omega)
        have ht2 : -1000000 ≤ m 161 (Int.toNat (o : Int)) ∧ m 161 (Int.toNat (o : Int)) ≤ 1000000 := by rw [Int.toNat_natCast]; omega
        have e144 := hF 144 o (by omega)
        have dq : m 161 o + latF m o = cmR m0 o := by
          unfold cmR latF
          rw [e161, e144, hF 151 _ (by omega)]
        have cr : 1 ≤ cmR m0 o ∧ cmR m0 o ≤ 300 := by
          unfold cmR
          omega
        refine f_299 hO' ⟨by omega, by omega⟩ ht2 (fun _ => ?_)
        rw [Int.toNat_natCast, dq]
        refine f_319d (by omega) (by unfold InI; omega) (fun _ => ⟨fun z2 => ⟨by unfold InI; omega, ih2 (o + 1) m (by omega) (by omega) hF (hR.no (fun t ht2 => turnF_no (by omega) z2 t (by omega)))⟩, fun z2 => ?_⟩)
        have hr := turnF_rng (by omega) z2
        have ta := turnF_at z2
        obtain ⟨t, et⟩ : ∃ t : Nat, turnF c (cmR m0 o) d x = (t : Int) := ⟨_, (Int.toNat_of_nonneg hr.1).symm⟩
        rw [et] at hr ta
        refine f_299 hO' ⟨by omega, by omega⟩ ht2 (fun _ => ?_)
        rw [Int.toNat_natCast, dq]
        refine f_319d (by omega) (by unfold InI; omega) (fun _ => ?_)
        rw [et]
        have eR : rowF m o = rowF m0 o := by
          unfold rowF
          rw [e144, hF 145 o (by omega), hF 147 o (by omega)]
        have eP : plcF m o = plcF m0 o := by
          unfold plcF
          rw [e144, hF 146 o (by omega), hF 148 o (by omega)]
        have e168 := hF 168 o (by omega)
        refine f_320e hO' (by omega) (by omega) (fun k => ?_) (fun k => ⟨by unfold InI; omega, ?_⟩) (fun k => ⟨by unfold InI; omega, ?_⟩)
        · rw [e168]
          exact hP o (by omega) (by omega)
        · rw [eR, eP]
          exact ih2 (o + 1) _ (by omega) (by omega) (hF.tr (FrV.up (by omega))) (hR.d5 hH (by omega) (by omega) (by omega) ta (by omega))
        · rw [e168]
          exact ih2 (o + 1) _ (by omega) (by omega) (hF.tr (FrV.up (by omega))) (hR.dn hH (by omega) (by omega) ta (by omega))
    exact lp1 9 0 mem (by omega) (by omega) hF hR
theorem f_317e {K : MM → Prop} {x e : Int} (h : RefOK mem) (hFt : FitR mem mem d) (hd : 1 ≤ d ∧ d ≤ 12) (hx : 0 ≤ x ∧ x ≤ 40) (he : 0 ≤ e ∧ e ≤ 100000) (hc : ∀ o : Nat, (o : Int) < mem 143 1 → ∀ t : Nat, (t : Int) < x → cmR mem o + d * t ≤ e) (H : ∀ m', RefOK m' → FrQ mem m' → m' 143 0 = mem 143 0 → (∀ r p : Nat, r < 2 → p < 64 → m' 165 (64 * r + p) = (trM (acsR mem) (mem 143 1).toNat x.toNat).1 r p) → (∀ u t : Nat, (u : Int) < mem 143 1 → (t : Int) < x → m' 167 (41 * u + t) = (trM (acsR mem) (mem 143 1).toNat x.toNat).2 u t) → K m') : CWV (Ex S (n + 8)) 317 [.inr 143, .inl d, .inl x, .inl e] mem K := by
  refine CW.of (k := 2) mt_317 rfl rfl (w_317_0 (Ex.mono S (n + 7)) (f_318e (fun m1 k1 hc0 => ?_)))
  have hO := h.ops
  have h8 := hO.1
  have hT : TmOK mem d := hFt.2.2.2.2.2.1
  have hS := hFt.1
  have k1u : FrU mem m1 := fun A i q => k1 A i (by omega)
  have key : ∀ (N : Nat) (o : Nat) (m : MM), (o : Int) ≤ mem 143 1 → (mem 143 1 - o).toNat < N → FrU mem m → (∀ u, u < 8 → 0 ≤ m 168 u ∧ m 168 u ≤ 45) → PrOK m (o : Int) → (∀ u, u < o → PrX (copF mem u d) (urR mem d) (m 168 u)) → (∀ u k : Nat, u < o → k < 80 → m 166 (80 * u + k) = mem 149 u) → (∀ r p : Nat, r < 2 → p < 64 → m 165 (64 * r + p) = cel0 r p) → Wx (Ex S (n + 7)) S M_317 (fun r m => r = none ∧ K m) 7 [some (.inr 143), some (.inl d), some (.inl x), some (.inl e), some (.inl (o : Int)), none] [] m := by
    intro N
    induction N with
    | zero => intros; omega
    | succ N ih =>
      intro o m ho hN hF hp hP hX hNm hCe
      have e1' : m 143 1 = mem 143 1 := hF _ _ (by omega)
      refine w_317_7 (Ex.mono S (n + 7)) (fun v1 e1 _ => ⟨fun z => ?_, fun z => f_295e (n := n + 1) (hF.ops hO) (hF.tm hT) hd (by omega) (fun r r1 r2 r3 _ => ⟨by omega, ?_⟩)⟩)
      · have ea : acsR m = acsR mem := acsR_fr (fun A i _ _ => hF A i (by omega))
        have e161 : m 161 = mem 161 := funext fun i => hF 161 i (by omega)
        have ecm : cmR m = cmR mem := funext fun i => by
          unfold cmR latF
          rw [hF 161 i (by omega), hF 144 i (by omega), hF 151 _ (by omega)]
        have hH : RnH (acsR m) (m 161) (cmR m) (m 168) d (m 143 1).toNat := by
          have g := hFt.rn (P := m 168) hO hd (fun u hu => ⟨hX u (by omega), (hp u (by omega)).2⟩)
          rw [ea, e161, ecm, e1']
          exact g
        have hD : ∀ u, u < (m 143 1).toNat → 0 ≤ cmR m u := fun u hu => by
          have := (hH.2.1 u hu).1
          omega
        refine rn_75e (n := n + 3) (m0 := m) (hF.ops hO) (hF.snd hS) (hF.tm hT) (fun u hu => hP u (by omega)) hd hx he.2 hH (fun m' k hR => ⟨rfl, H m' ((hF.tr k.u).rest h (fun u hu => ?_)) (hF.tr k.u).q ((k 143 0 (by omega)).trans (hF 143 0 (by omega))) (fun r p hr hp2 => ?_) (fun u t hu ht => ?_)⟩) _ 0 m (by omega) (by omega) (Nat.lt_succ_self _) FrV.rf ⟨fun r p hr hp2 => ?_, ?_, fun u t hu ht w => ?_⟩
        · exact CeR.ini hD (by omega) (hCe r p hr hp2)
        · refine NameR.ini hD (by omega) (fun u hu k t => ?_)
          have b := (hH.2.1 u hu).2.2 k
          have g1 := Int.emod_nonneg t (show m 168 u ≠ 0 by omega)
          have g2 := Int.emod_lt_of_pos t (show 0 < m 168 u by omega)
          show m 166 (80 * u + (t % m 168 u).toNat) = m 149 u
          rw [hNm u (t % m 168 u).toNat (by omega) (by omega), hF 149 u (by omega)]
        · have b := (hH.2.1 u hu).1
          have := Int.mul_nonneg (show 0 ≤ d by omega) (show 0 ≤ (t : Int) by omega)
          unfold dlv at w
          omega
        · rw [k 168 u (by omega)]
          exact hp u hu
        · have g := (hR.1 r p hr hp2).fin hH (fun u hu t ht => by
            have := hc u (by omega) t (by omega)
            rw [ecm]
            omega)
          rw [g, ea, e1']
        · have b := (hH.2.1 u (by omega)).1
          have q := hc u hu t ht
          rw [ecm] at b
          rw [hR.2.2 u t (by omega) (by omega) (Or.inl (by omega)), ea, e1', trM_2, if_pos (by omega)]
      · rw [copF_fr hF, urR_fr hF] at r1
        rw [Int.toNat_natCast]
        have hcp := copF_rng hO hT hd (o := o) (by omega)
        have k144 := hF 144 o (by omega)
        have r4 : ¬ m 144 o = 5 → 1 ≤ r := fun q => by
          have := r1.ge
          have := hcp.2.2 (by omega)
          omega
        have fill : ∀ (N' : Nat) (k : Int) (m' : MM), 0 ≤ k → k ≤ 80 → (80 - k).toNat < N' → FrU mem m' → (∀ u, u < 8 → 0 ≤ m' 168 u ∧ m' 168 u ≤ 45) → PrOK m' ((o : Int) + 1) → (∀ u, u < o + 1 → PrX (copF mem u d) (urR mem d) (m' 168 u)) → (∀ u j : Nat, u < o → j < 80 → m' 166 (80 * u + j) = mem 149 u) → (∀ j : Nat, (j : Int) < k → m' 166 (80 * o + j) = mem 149 o) → (∀ r p : Nat, r < 2 → p < 64 → m' 165 (64 * r + p) = cel0 r p) → Wx (Ex S (n + 7)) S M_317 (fun r m => r = none ∧ K m) 33 [some (.inr 143), some (.inl d), some (.inl x), some (.inl e), some (.inl (o : Int)), some (.inl k)] [] m' := by
          intro N'
          induction N' with
          | zero => intros; omega
          | succ N' ih2 =>
            intro k m' hk hk2 hN' hF' hp' hP' hX' hNm' hNk' hCe'
            refine w_317_33 (Ex.mono S (n + 7)) ⟨fun q => ⟨by unfold InI; omega, ih (o + 1) m' (by omega) (by omega) hF' hp' hP' hX' (fun u j hu hj => ?_) hCe'⟩, fun q => ⟨by unfold InI; omega, by unfold InI; omega, by omega, fun v ev _ => ⟨by omega, by unfold InI; omega, ih2 (k + 1) _ (by omega) (by omega) (by omega) (hF'.tr (FrU.up (by omega))) (fun u hu => by rw [upm_ne (by omega)]; exact hp' u hu) (fun u hu q2 => ?_) (fun u hu => by rw [upm_ne (by omega)]; exact hX' u hu) (fun u j hu hj => by rw [upm_ne (by omega)]; exact hNm' u j hu hj) (fun j hj => ?_) (fun r p hr hp2 => by rw [upm_ne (by omega)]; exact hCe' r p hr hp2)⟩⟩⟩
            · by_cases z : u = o
              · subst z
                exact hNk' j (by omega)
              · exact hNm' u j (by omega) hj
            · rw [upm_ne (by omega)] at q2 ⊢
              exact hP' u hu q2
            · rw [Int.toNat_natCast, hF' 149 o (by omega)] at ev
              by_cases z : (j : Int) = k
              · rw [show (80 * (o : Int) + k).toNat = 80 * o + j by omega, upm_eq]
                exact ev
              · rw [upm_ne (by omega)]
                exact hNk' j (by omega)
        have q : ∀ u, upm m 168 o r 168 u = if u = o then r else m 168 u := fun u => by
          by_cases e : u = o
          · subst e; rw [upm_eq, if_pos rfl]
          · rw [upm_ne (fun z => e z.2), if_neg e]
        refine fill 81 0 _ (by omega) (by omega) (by omega) (hF.tr (FrU.up (by omega))) (fun u hu => ?_) (fun u hu q2 => ?_) (fun u hu => ?_) (fun u j hu hj => by rw [upm_ne (by omega)]; exact hNm u j hu hj) (fun j hj => by omega) (fun r' p hr hp2 => by rw [upm_ne (by omega)]; exact hCe r' p hr hp2)
        · rw [q]
          split
          · omega
          · exact hp u hu
        · rw [upm_ne (by omega)] at q2
          rw [q]
          split
          · rename_i e; subst e; have := r4 q2; omega
          · exact hP u (by omega) q2
        · rw [q]
          split
          · rename_i e; subst e; exact r1
          · exact hX u (by omega)
  exact key 9 0 m1 (by omega) (by omega) k1u (fun u hu => by rw [k1 168 u (by omega)]; exact h.pa u hu) (fun u hu => by omega) (fun u hu => by omega) (fun u k hu => by omega) hc0
end RRN
end
section
/-! run, comes on both sides -/
section GPB
variable {S : Nat × (Nat → Int32)} {n : Nat} {m m' mem : MM} {d : Int} {Q : Nat}
theorem cy_cov {M : MM} {d x : Int} (hO : OpsOK M) (hT : TmOK M d) (hd : 1 ≤ d ∧ d ≤ 12) : ∀ o : Nat, (o : Int) < M 143 1 → ∀ t : Nat, (t : Int) < x → cmR M o + d * t ≤ cyN d (spR M) x := fun o ho t ht => by
  have g : cmR M o ≤ spR M := mxW_ge (f := cmR M) (i := o) (M 143 1).toNat (by omega)
  have k : d * (t : Int) ≤ d * (x - 1) := Int.mul_le_mul_of_nonneg_left (by omega) (by omega)
  unfold cyN
  rw [if_pos (by omega)]
  omega
def cmOK (m : MM) (p0 p1 p2 : Int) : Prop := ¬ m 2 p0.toNat = 5 ∧ (1 ≤ p1 ∧ p1 ≤ 12) ∧ 0 ≤ p2 ∧ p2 ≤ 40
def Hf26 (p0 p1 p2 t y : Int) (m : MM) : Prop := ClS m ∧ RefOK m ∧ RelB m ∧ ((t = 1 ∧ ¬ (0 ≤ p0 ∧ p0 < m 1 0)) ∨ (t = 2 ∧ (0 ≤ p0 ∧ p0 < m 1 0) ∧ ¬ cmOK m p0 p1 p2) ∨ (t = 3 ∧ (0 ≤ p0 ∧ p0 < m 1 0) ∧ cmOK m p0 p1 p2 ∧ NoC m p1) ∨ (t = 0 ∧ (0 ≤ p0 ∧ p0 < m 1 0) ∧ cmOK m p0 p1 p2 ∧ ∃ Q, (38 ≤ Q ∧ Q ≤ 122) ∧ FiC m p1 Q ∧ y = (if p2 = 0 then m 4 p0.toNat else (trM (acsC m) (m 1 0).toNat p2.toNat).2 p0.toNat (p2 - 1).toNat)))
theorem cl26 {p0 p1 p2 : Int} (hc : ClS m) (hr : RefOK m) (hb : RelB m) : CQI (Ex S (n + 17)) 166 [.inr 0, .inl p0, .inl p1, .inl p2] m (fun y m' => Hf26 p0 p1 p2 0 y m') (fun e m' => (e = 2 ∧ Hf26 p0 p1 p2 1 0 m') ∨ (e = 0 ∧ Hf26 p0 p1 p2 2 0 m') ∨ (e = 1 ∧ Hf26 p0 p1 p2 3 0 m')) := by
  have e1 : ∀ m', Frm pNb m m' → m' 1 0 = m 1 0 := fun m' f => f 1 0 (by unfold pNb; omega)
  have e2 : ∀ m', Frm pNb m m' → m' 2 p0.toNat = m 2 p0.toNat := fun m' f => f 2 _ (by unfold pNb; omega)
  exact f_166x hc (fun a b m' Q c f q w r e => ⟨c, krf hr f, krb hb f, Or.inr (Or.inr (Or.inr ⟨rfl, by rw [e1 m' f]; exact a, by unfold cmOK; rw [e2 m' f]; exact b, Q, q, w, e⟩))⟩) (fun a => Or.inl ⟨rfl, hc, hr, hb, Or.inl ⟨rfl, a⟩⟩) (fun a b => Or.inr (Or.inl ⟨rfl, hc, hr, hb, Or.inr (Or.inl ⟨rfl, a, b⟩)⟩)) (fun a b m' c f s => Or.inr (Or.inr ⟨rfl, c, krf hr f, krb hb f, Or.inr (Or.inr (Or.inl ⟨rfl, by rw [e1 m' f]; exact a, by unfold cmOK; rw [e2 m' f]; exact b, s⟩))⟩))
theorem rf26 {p0 p1 p2 t y : Int} (H : Hf26 p0 p1 p2 t y m) : CQI (Ex S (n + 9)) 325 [.inr 143, .inl p0, .inl p1, .inl p2] m (fun r m2 => ClS m2 ∧ RefOK m2 ∧ RelB m2 ∧ m2 143 0 = t ∧ (t = 0 → r = y)) (fun _ _ => False) := by
  obtain ⟨hc, hr, hb, H⟩ := H
  have w0 := hc.1.w.2.1
  have hB := hc.1.b
  have hz := hb.1
  have h8 := hr.ops.1
  have h' := hr.th' (z := 0) (by omega)
  have hc' : ClS (upm m 143 0 0) := hc.ref upR
  have hb' : RelB (upm m 143 0 0) := hb.one (by omega)
  have no2 : 0 ≤ p0 ∧ p0 < m 1 0 → ¬ cmOK m p0 p1 p2 → t = 2 := fun a b => by
    rcases H with ⟨-, q⟩ | ⟨q, -⟩ | ⟨-, -, q, -⟩ | ⟨-, -, q, -⟩
    · exact absurd a q
    · exact q
    · exact absurd q b
    · exact absurd q b
  refine CWI.q (Ex.mono S (n + 9)) (CW.of (k := 1) mt_325 rfl rfl (w_325_0 (Ex.mono S (n + 8)) (f_235e h8 (fun a1 a2 _ => ⟨fun _ => ⟨by omega, fun v3 e3 _ => ⟨fun q5 => f_311e (n := n + 2) h' (fun m' d1 d2 x1 x2 h1 h2 hF _ => ⟨fun _ => ?_, fun z => absurd (by decide) z⟩) (fun nz _ => ⟨fun z => absurd z (by decide), fun _ => ⟨by unfold InI; omega, fun v ev _ => ⟨fun z => absurd z (by rw [upm_eq] at ev; omega), fun _ _ => fin3 hc' h' hb' (by omega) (no2 (by omega) (fun z => nz z.2))⟩⟩⟩) (fun m' d1 d2 x1 x2 h1 h2 hN _ => ⟨fun z => absurd z (by decide), fun _ => ⟨by unfold InI; omega, fun v ev _ => ⟨fun z => absurd z (by rw [upm_eq] at ev; omega), fun _ _ => fin3 (qQ hc' hb' h2).1 h1 (qQ hc' hb' h2).2 (by omega) ?_⟩⟩⟩), fun q5 _ => fin3 hc hr hb (by omega) (no2 (by omega) (fun z => z.1 ?_))⟩⟩, fun z => absurd (by decide) z⟩) (fun na _ => ⟨fun z => absurd rfl z, fun _ _ => fin3 hc hr hb (by omega) ?_⟩))))
  · have k5 : ¬ m 2 p0.toNat = 5 := by
      rw [(hb.2.1 p0.toNat (by omega)).1, ← e3]
      exact q5
    have hm := h1.th' (z := 0) (by omega)
    have hq := (FrQ.th.tr h2).tr (FrQ.th (z := 0))
    have hF' := hF.ht.th (z := 0)
    have mt : upm m' 143 0 0 143 0 = 0 := upm_eq
    generalize upm m' 143 0 0 = M at hm hq hF' mt
    have hd : 1 ≤ p1 ∧ p1 ≤ 12 := ⟨d1, d2⟩
    have hx : 0 ≤ p2 ∧ p2 ≤ 40 := ⟨x1, x2⟩
    have hT : TmOK M p1 := hF'.2.2.2.2.2.1
    have hO := hm.ops
    rcases H with ⟨-, a⟩ | ⟨-, -, a⟩ | ⟨-, -, -, a⟩ | ⟨rfl, -, -, Q, hQ, hC, e⟩
    · exact absurd ⟨a1, by omega⟩ a
    · exact absurd ⟨k5, hd, hx⟩ a
    · exact (no_n hb hB hr w0 hm hq hF' a).elim
    · have sr := spR_rg hO hd hT
      have cr := cyN_rg (t := p2) hd sr hx.2
      have bM := (qQ hc hb hq).2
      have eC : acsC M = acsC m := acsC_fr (fun A i a b => hq A i (by omega))
      have e1 : M 1 0 = m 1 0 := hq 1 0 (by omega)
      have e2 : M 143 1 = m 143 1 := hq 143 1 (by omega)
      have hBM := (qQ hc hb hq).1.1.b
      have eT : ∀ k : Nat, trM (acsC m) (m 1 0).toNat k = trM (acsR M) (M 143 1).toNat k := fun k => by
        rw [← eC, trM.cg (A := acsC M) (B := acsR M) (fun o ho => bM.ag hBM hm (by omega)), e2, hz]
      refine f_313e hO hd hx hT (fun _ => f_317e (n := n) hm (hF'.self hq) hd hx ⟨cr.1, by omega⟩ (cy_cov hO hT hd) (fun m8 k1 k2 k3 kc km => ⟨fun x0 => ⟨by unfold InI; omega, by unfold InI; omega, by unfold InI; omega, by omega, fun v ev _ _ => ⟨_, rfl, (qQ hc hb (hq.tr k2)).1, k1, (qQ hc hb (hq.tr k2)).2, k3.trans mt, fun _ => ?_⟩⟩, fun x0 => ⟨by omega, fun v ev _ _ => ⟨_, rfl, (qQ hc hb (hq.tr k2)).1, k1, (qQ hc hb (hq.tr k2)).2, k3.trans mt, fun _ => ?_⟩⟩⟩))
      · have g := km p0.toNat (p2 - 1).toNat (by omega) (by omega)
        rw [if_neg x0, eT] at e
        rw [ev, show (41 * p0 + p2 - 1).toNat = 41 * p0.toNat + (p2 - 1).toNat by omega, g, e]
      · rw [if_pos (Decidable.not_not.mp x0)] at e
        rw [ev, e, (hq.tr k2) 149 _ (by omega)]
        exact (hb.2.1 p0.toNat (by omega)).2.2.2.2.2.symm
  · have k5 : ¬ m 2 p0.toNat = 5 := by
      rw [(hb.2.1 p0.toNat (by omega)).1, ← e3]
      exact q5
    rcases H with ⟨-, a⟩ | ⟨-, -, a⟩ | ⟨z, -⟩ | ⟨-, -, -, Q, hQ, hC, e⟩
    · exact absurd ⟨a1, by omega⟩ a
    · exact absurd ⟨k5, ⟨d1, d2⟩, x1, x2⟩ a
    · exact z
    · exact (no_y hb hB hr w0 h1 (FrQ.th.tr h2) hN.ht hC.ft).elim
  · rw [(hb.2.1 p0.toNat (by omega)).1, ← e3]
    exact Decidable.not_not.mp q5
  · rcases H with ⟨z, -⟩ | ⟨-, a, -⟩ | ⟨-, a, -⟩ | ⟨-, a, -⟩
    · exact z
    · exact absurd ⟨a.1, by omega⟩ na
    · exact absurd ⟨a.1, by omega⟩ na
    · exact absurd ⟨a.1, by omega⟩ na
end GPB
end
section
/-! laid by wip/hand/lw.py: the cases of the law by pairs -/
theorem te_368_0 : (pT M_368).find? (fun e => e.1 == 0) = some (0, .new 8, 9, 0) := (sk_0 0 rfl).trans rfl
theorem te_368_3 : (pT M_368).find? (fun e => e.1 == 3) = some (3, .dup, 0, 0) := (sk_0 3 rfl).trans rfl
theorem te_368_4 : (pT M_368).find? (fun e => e.1 == 4) = some (4, .invokespecial 170, 0, 4) := (sk_0 4 rfl).trans rfl
theorem te_368_7 : (pT M_368).find? (fun e => e.1 == 7) = some (7, .astore_n 1, 0, 0) := (sk_0 7 rfl).trans rfl
theorem te_368_8 : (pT M_368).find? (fun e => e.1 == 8) = some (8, .new 171, 10, 0) := (sk_0 8 rfl).trans rfl
theorem te_368_11 : (pT M_368).find? (fun e => e.1 == 11) = some (11, .dup, 0, 0) := (sk_0 11 rfl).trans rfl
theorem te_368_12 : (pT M_368).find? (fun e => e.1 == 12) = some (12, .invokespecial 173, 224, 4) := (sk_0 12 rfl).trans rfl
theorem te_368_15 : (pT M_368).find? (fun e => e.1 == 15) = some (15, .astore_n 2, 0, 0) := (sk_0 15 rfl).trans rfl
theorem te_368_16 : (pT M_368).find? (fun e => e.1 == 16) = some (16, .iconst 1, 0, 0) := (sk_0 16 rfl).trans rfl
theorem te_368_17 : (pT M_368).find? (fun e => e.1 == 17) = some (17, .newarray .long, 0, 0) := (sk_0 17 rfl).trans rfl
theorem te_368_19 : (pT M_368).find? (fun e => e.1 == 19) = some (19, .astore_n 3, 0, 0) := (sk_0 19 rfl).trans rfl
theorem te_368_20 : (pT M_368).find? (fun e => e.1 == 20) = some (20, .iconst 0, 0, 0) := (sk_0 20 rfl).trans rfl
theorem te_368_21 : (pT M_368).find? (fun e => e.1 == 21) = some (21, .istore 4, 0, 0) := (sk_1 21 rfl).trans rfl
theorem te_368_23 : (pT M_368).find? (fun e => e.1 == 23) = some (23, .iload 4, 0, 0) := (sk_1 23 rfl).trans rfl
theorem te_368_25 : (pT M_368).find? (fun e => e.1 == 25) = some (25, .aload_n 0, 0, 0) := (sk_1 25 rfl).trans rfl
theorem te_368_26 : (pT M_368).find? (fun e => e.1 == 26) = some (26, .arraylength, 0, 0) := (sk_1 26 rfl).trans rfl
theorem te_368_27 : (pT M_368).find? (fun e => e.1 == 27) = some (27, .bipush 6, 0, 0) := (sk_1 27 rfl).trans rfl
theorem te_368_29 : (pT M_368).find? (fun e => e.1 == 29) = some (29, .isub, 0, 0) := (sk_1 29 rfl).trans rfl
theorem te_368_30 : (pT M_368).find? (fun e => e.1 == 30) = some (30, .if_icmp .gt 2320, 0, 0) := (sk_1 30 rfl).trans rfl
theorem te_368_33 : (pT M_368).find? (fun e => e.1 == 33) = some (33, .aload_n 0, 0, 0) := (sk_1 33 rfl).trans rfl
theorem te_368_34 : (pT M_368).find? (fun e => e.1 == 34) = some (34, .iload 4, 0, 0) := (sk_1 34 rfl).trans rfl
theorem te_368_36 : (pT M_368).find? (fun e => e.1 == 36) = some (36, .iaload, 0, 0) := (sk_1 36 rfl).trans rfl
theorem te_368_37 : (pT M_368).find? (fun e => e.1 == 37) = some (37, .bipush 63, 0, 0) := (sk_1 37 rfl).trans rfl
theorem te_368_39 : (pT M_368).find? (fun e => e.1 == 39) = some (39, .iand, 0, 0) := (sk_1 39 rfl).trans rfl
theorem te_368_40 : (pT M_368).find? (fun e => e.1 == 40) = some (40, .tableswitch 2304 0 48 #[212, 288, 328, 392, 408, 448, 510, 550, 590, 603, 643, 695, 735, 763, 791, 807, 847, 899, 939, 967, 983, 1023, 1075, 1115, 1179, 1231, 1295, 1375, 1427, 1491, 1547, 1615, 1643, 1695, 1771, 1815, 1831, 1859, 1875, 1903, 1931, 1971, 2039, 2091, 2131, 2195, 2223, 2251, 2279], 212, 0) := (sk_2 40 rfl).trans rfl
theorem te_368_252 : (pT M_368).find? (fun e => e.1 == 252) = some (252, .aload_n 1, 0, 0) := (sk_2 252 rfl).trans rfl
theorem te_368_253 : (pT M_368).find? (fun e => e.1 == 253) = some (253, .aload_n 0, 0, 0) := (sk_2 253 rfl).trans rfl
theorem te_368_254 : (pT M_368).find? (fun e => e.1 == 254) = some (254, .iload 4, 0, 0) := (sk_2 254 rfl).trans rfl
theorem te_368_256 : (pT M_368).find? (fun e => e.1 == 256) = some (256, .iconst 1, 0, 0) := (sk_2 256 rfl).trans rfl
theorem te_368_257 : (pT M_368).find? (fun e => e.1 == 257) = some (257, .iadd, 0, 0) := (sk_2 257 rfl).trans rfl
theorem te_368_258 : (pT M_368).find? (fun e => e.1 == 258) = some (258, .iaload, 0, 0) := (sk_2 258 rfl).trans rfl
theorem te_368_259 : (pT M_368).find? (fun e => e.1 == 259) = some (259, .aload_n 0, 0, 0) := (sk_2 259 rfl).trans rfl
theorem te_368_260 : (pT M_368).find? (fun e => e.1 == 260) = some (260, .iload 4, 0, 0) := (sk_2 260 rfl).trans rfl
theorem te_368_262 : (pT M_368).find? (fun e => e.1 == 262) = some (262, .iconst 2, 0, 0) := (sk_2 262 rfl).trans rfl
theorem te_368_263 : (pT M_368).find? (fun e => e.1 == 263) = some (263, .iadd, 0, 0) := (sk_2 263 rfl).trans rfl
theorem te_368_264 : (pT M_368).find? (fun e => e.1 == 264) = some (264, .iaload, 0, 0) := (sk_2 264 rfl).trans rfl
theorem te_368_265 : (pT M_368).find? (fun e => e.1 == 265) = some (265, .aload_n 0, 0, 0) := (sk_3 265 rfl).trans rfl
theorem te_368_266 : (pT M_368).find? (fun e => e.1 == 266) = some (266, .iload 4, 0, 0) := (sk_3 266 rfl).trans rfl
theorem te_368_268 : (pT M_368).find? (fun e => e.1 == 268) = some (268, .iconst 3, 0, 0) := (sk_3 268 rfl).trans rfl
theorem te_368_269 : (pT M_368).find? (fun e => e.1 == 269) = some (269, .iadd, 0, 0) := (sk_3 269 rfl).trans rfl
theorem te_368_270 : (pT M_368).find? (fun e => e.1 == 270) = some (270, .iaload, 0, 0) := (sk_3 270 rfl).trans rfl
theorem te_368_271 : (pT M_368).find? (fun e => e.1 == 271) = some (271, .aload_n 0, 0, 0) := (sk_3 271 rfl).trans rfl
theorem te_368_272 : (pT M_368).find? (fun e => e.1 == 272) = some (272, .iload 4, 0, 0) := (sk_3 272 rfl).trans rfl
theorem te_368_274 : (pT M_368).find? (fun e => e.1 == 274) = some (274, .iconst 4, 0, 0) := (sk_3 274 rfl).trans rfl
theorem te_368_275 : (pT M_368).find? (fun e => e.1 == 275) = some (275, .iadd, 0, 0) := (sk_3 275 rfl).trans rfl
theorem te_368_276 : (pT M_368).find? (fun e => e.1 == 276) = some (276, .iaload, 0, 0) := (sk_3 276 rfl).trans rfl
theorem te_368_277 : (pT M_368).find? (fun e => e.1 == 277) = some (277, .aload_n 0, 0, 0) := (sk_3 277 rfl).trans rfl
theorem te_368_278 : (pT M_368).find? (fun e => e.1 == 278) = some (278, .iload 4, 0, 0) := (sk_3 278 rfl).trans rfl
theorem te_368_280 : (pT M_368).find? (fun e => e.1 == 280) = some (280, .iconst 5, 0, 0) := (sk_4 280 rfl).trans rfl
theorem te_368_281 : (pT M_368).find? (fun e => e.1 == 281) = some (281, .iadd, 0, 0) := (sk_4 281 rfl).trans rfl
theorem te_368_282 : (pT M_368).find? (fun e => e.1 == 282) = some (282, .iaload, 0, 0) := (sk_4 282 rfl).trans rfl
theorem te_368_283 : (pT M_368).find? (fun e => e.1 == 283) = some (283, .aload_n 3, 0, 0) := (sk_4 283 rfl).trans rfl
theorem te_368_284 : (pT M_368).find? (fun e => e.1 == 284) = some (284, .invokestatic 174, 43, 8) := (sk_4 284 rfl).trans rfl
theorem te_368_287 : (pT M_368).find? (fun e => e.1 == 287) = some (287, .istore 5, 0, 0) := (sk_4 287 rfl).trans rfl
theorem te_368_289 : (pT M_368).find? (fun e => e.1 == 289) = some (289, .aload_n 2, 0, 0) := (sk_4 289 rfl).trans rfl
theorem te_368_290 : (pT M_368).find? (fun e => e.1 == 290) = some (290, .aload_n 0, 0, 0) := (sk_4 290 rfl).trans rfl
theorem te_368_291 : (pT M_368).find? (fun e => e.1 == 291) = some (291, .iload 4, 0, 0) := (sk_4 291 rfl).trans rfl
theorem te_368_293 : (pT M_368).find? (fun e => e.1 == 293) = some (293, .iconst 1, 0, 0) := (sk_4 293 rfl).trans rfl
theorem te_368_294 : (pT M_368).find? (fun e => e.1 == 294) = some (294, .iadd, 0, 0) := (sk_4 294 rfl).trans rfl
theorem te_368_295 : (pT M_368).find? (fun e => e.1 == 295) = some (295, .iaload, 0, 0) := (sk_4 295 rfl).trans rfl
theorem te_368_296 : (pT M_368).find? (fun e => e.1 == 296) = some (296, .aload_n 0, 0, 0) := (sk_5 296 rfl).trans rfl
theorem te_368_297 : (pT M_368).find? (fun e => e.1 == 297) = some (297, .iload 4, 0, 0) := (sk_5 297 rfl).trans rfl
theorem te_368_299 : (pT M_368).find? (fun e => e.1 == 299) = some (299, .iconst 2, 0, 0) := (sk_5 299 rfl).trans rfl
theorem te_368_300 : (pT M_368).find? (fun e => e.1 == 300) = some (300, .iadd, 0, 0) := (sk_5 300 rfl).trans rfl
theorem te_368_301 : (pT M_368).find? (fun e => e.1 == 301) = some (301, .iaload, 0, 0) := (sk_5 301 rfl).trans rfl
theorem te_368_302 : (pT M_368).find? (fun e => e.1 == 302) = some (302, .aload_n 0, 0, 0) := (sk_5 302 rfl).trans rfl
theorem te_368_303 : (pT M_368).find? (fun e => e.1 == 303) = some (303, .iload 4, 0, 0) := (sk_5 303 rfl).trans rfl
theorem te_368_305 : (pT M_368).find? (fun e => e.1 == 305) = some (305, .iconst 3, 0, 0) := (sk_5 305 rfl).trans rfl
theorem te_368_306 : (pT M_368).find? (fun e => e.1 == 306) = some (306, .iadd, 0, 0) := (sk_5 306 rfl).trans rfl
theorem te_368_307 : (pT M_368).find? (fun e => e.1 == 307) = some (307, .iaload, 0, 0) := (sk_5 307 rfl).trans rfl
theorem te_368_308 : (pT M_368).find? (fun e => e.1 == 308) = some (308, .aload_n 0, 0, 0) := (sk_5 308 rfl).trans rfl
theorem te_368_309 : (pT M_368).find? (fun e => e.1 == 309) = some (309, .iload 4, 0, 0) := (sk_5 309 rfl).trans rfl
theorem te_368_311 : (pT M_368).find? (fun e => e.1 == 311) = some (311, .iconst 4, 0, 0) := (sk_6 311 rfl).trans rfl
theorem te_368_312 : (pT M_368).find? (fun e => e.1 == 312) = some (312, .iadd, 0, 0) := (sk_6 312 rfl).trans rfl
theorem te_368_313 : (pT M_368).find? (fun e => e.1 == 313) = some (313, .iaload, 0, 0) := (sk_6 313 rfl).trans rfl
theorem te_368_314 : (pT M_368).find? (fun e => e.1 == 314) = some (314, .aload_n 0, 0, 0) := (sk_6 314 rfl).trans rfl
theorem te_368_315 : (pT M_368).find? (fun e => e.1 == 315) = some (315, .iload 4, 0, 0) := (sk_6 315 rfl).trans rfl
theorem te_368_317 : (pT M_368).find? (fun e => e.1 == 317) = some (317, .iconst 5, 0, 0) := (sk_6 317 rfl).trans rfl
theorem te_368_318 : (pT M_368).find? (fun e => e.1 == 318) = some (318, .iadd, 0, 0) := (sk_6 318 rfl).trans rfl
theorem te_368_319 : (pT M_368).find? (fun e => e.1 == 319) = some (319, .iaload, 0, 0) := (sk_6 319 rfl).trans rfl
theorem te_368_320 : (pT M_368).find? (fun e => e.1 == 320) = some (320, .invokevirtual 179, 226, 0) := (sk_6 320 rfl).trans rfl
theorem te_368_323 : (pT M_368).find? (fun e => e.1 == 323) = some (323, .istore 6, 0, 0) := (sk_6 323 rfl).trans rfl
theorem te_368_325 : (pT M_368).find? (fun e => e.1 == 325) = some (325, .goto 2019, 0, 0) := (sk_6 325 rfl).trans rfl
theorem te_368_328 : (pT M_368).find? (fun e => e.1 == 328) = some (328, .aload_n 1, 0, 0) := (sk_6 328 rfl).trans rfl
theorem te_368_329 : (pT M_368).find? (fun e => e.1 == 329) = some (329, .aload_n 0, 0, 0) := (sk_7 329 rfl).trans rfl
theorem te_368_330 : (pT M_368).find? (fun e => e.1 == 330) = some (330, .iload 4, 0, 0) := (sk_7 330 rfl).trans rfl
theorem te_368_332 : (pT M_368).find? (fun e => e.1 == 332) = some (332, .iconst 1, 0, 0) := (sk_7 332 rfl).trans rfl
theorem te_368_333 : (pT M_368).find? (fun e => e.1 == 333) = some (333, .iadd, 0, 0) := (sk_7 333 rfl).trans rfl
theorem te_368_334 : (pT M_368).find? (fun e => e.1 == 334) = some (334, .iaload, 0, 0) := (sk_7 334 rfl).trans rfl
theorem te_368_335 : (pT M_368).find? (fun e => e.1 == 335) = some (335, .aload_n 0, 0, 0) := (sk_7 335 rfl).trans rfl
theorem te_368_336 : (pT M_368).find? (fun e => e.1 == 336) = some (336, .iload 4, 0, 0) := (sk_7 336 rfl).trans rfl
theorem te_368_338 : (pT M_368).find? (fun e => e.1 == 338) = some (338, .iconst 2, 0, 0) := (sk_7 338 rfl).trans rfl
theorem te_368_339 : (pT M_368).find? (fun e => e.1 == 339) = some (339, .iadd, 0, 0) := (sk_7 339 rfl).trans rfl
theorem te_368_340 : (pT M_368).find? (fun e => e.1 == 340) = some (340, .iaload, 0, 0) := (sk_7 340 rfl).trans rfl
theorem te_368_341 : (pT M_368).find? (fun e => e.1 == 341) = some (341, .aload_n 3, 0, 0) := (sk_7 341 rfl).trans rfl
theorem te_368_342 : (pT M_368).find? (fun e => e.1 == 342) = some (342, .invokestatic 180, 48, 8) := (sk_7 342 rfl).trans rfl
theorem te_368_345 : (pT M_368).find? (fun e => e.1 == 345) = some (345, .istore 5, 0, 0) := (sk_8 345 rfl).trans rfl
theorem te_368_347 : (pT M_368).find? (fun e => e.1 == 347) = some (347, .aload_n 2, 0, 0) := (sk_8 347 rfl).trans rfl
theorem te_368_348 : (pT M_368).find? (fun e => e.1 == 348) = some (348, .aload_n 0, 0, 0) := (sk_8 348 rfl).trans rfl
theorem te_368_349 : (pT M_368).find? (fun e => e.1 == 349) = some (349, .iload 4, 0, 0) := (sk_8 349 rfl).trans rfl
theorem te_368_351 : (pT M_368).find? (fun e => e.1 == 351) = some (351, .iconst 1, 0, 0) := (sk_8 351 rfl).trans rfl
theorem te_368_352 : (pT M_368).find? (fun e => e.1 == 352) = some (352, .iadd, 0, 0) := (sk_8 352 rfl).trans rfl
theorem te_368_353 : (pT M_368).find? (fun e => e.1 == 353) = some (353, .iaload, 0, 0) := (sk_8 353 rfl).trans rfl
theorem te_368_354 : (pT M_368).find? (fun e => e.1 == 354) = some (354, .aload_n 0, 0, 0) := (sk_8 354 rfl).trans rfl
theorem te_368_355 : (pT M_368).find? (fun e => e.1 == 355) = some (355, .iload 4, 0, 0) := (sk_8 355 rfl).trans rfl
theorem te_368_357 : (pT M_368).find? (fun e => e.1 == 357) = some (357, .iconst 2, 0, 0) := (sk_8 357 rfl).trans rfl
theorem te_368_358 : (pT M_368).find? (fun e => e.1 == 358) = some (358, .iadd, 0, 0) := (sk_8 358 rfl).trans rfl
theorem te_368_359 : (pT M_368).find? (fun e => e.1 == 359) = some (359, .iaload, 0, 0) := (sk_8 359 rfl).trans rfl
theorem te_368_360 : (pT M_368).find? (fun e => e.1 == 360) = some (360, .invokevirtual 183, 230, 0) := (sk_9 360 rfl).trans rfl
theorem te_368_363 : (pT M_368).find? (fun e => e.1 == 363) = some (363, .istore 6, 0, 0) := (sk_9 363 rfl).trans rfl
theorem te_368_365 : (pT M_368).find? (fun e => e.1 == 365) = some (365, .goto 1979, 0, 0) := (sk_9 365 rfl).trans rfl
theorem te_368_368 : (pT M_368).find? (fun e => e.1 == 368) = some (368, .aload_n 1, 0, 0) := (sk_9 368 rfl).trans rfl
theorem te_368_369 : (pT M_368).find? (fun e => e.1 == 369) = some (369, .aload_n 0, 0, 0) := (sk_9 369 rfl).trans rfl
theorem te_368_370 : (pT M_368).find? (fun e => e.1 == 370) = some (370, .iload 4, 0, 0) := (sk_9 370 rfl).trans rfl
theorem te_368_372 : (pT M_368).find? (fun e => e.1 == 372) = some (372, .iconst 1, 0, 0) := (sk_9 372 rfl).trans rfl
theorem te_368_373 : (pT M_368).find? (fun e => e.1 == 373) = some (373, .iadd, 0, 0) := (sk_9 373 rfl).trans rfl
theorem te_368_374 : (pT M_368).find? (fun e => e.1 == 374) = some (374, .iaload, 0, 0) := (sk_9 374 rfl).trans rfl
theorem te_368_375 : (pT M_368).find? (fun e => e.1 == 375) = some (375, .aload_n 0, 0, 0) := (sk_9 375 rfl).trans rfl
theorem te_368_376 : (pT M_368).find? (fun e => e.1 == 376) = some (376, .iload 4, 0, 0) := (sk_9 376 rfl).trans rfl
theorem te_368_378 : (pT M_368).find? (fun e => e.1 == 378) = some (378, .iconst 2, 0, 0) := (sk_9 378 rfl).trans rfl
theorem te_368_379 : (pT M_368).find? (fun e => e.1 == 379) = some (379, .iadd, 0, 0) := (sk_10 379 rfl).trans rfl
theorem te_368_380 : (pT M_368).find? (fun e => e.1 == 380) = some (380, .iaload, 0, 0) := (sk_10 380 rfl).trans rfl
theorem te_368_381 : (pT M_368).find? (fun e => e.1 == 381) = some (381, .aload_n 0, 0, 0) := (sk_10 381 rfl).trans rfl
theorem te_368_382 : (pT M_368).find? (fun e => e.1 == 382) = some (382, .iload 4, 0, 0) := (sk_10 382 rfl).trans rfl
theorem te_368_384 : (pT M_368).find? (fun e => e.1 == 384) = some (384, .iconst 3, 0, 0) := (sk_10 384 rfl).trans rfl
theorem te_368_385 : (pT M_368).find? (fun e => e.1 == 385) = some (385, .iadd, 0, 0) := (sk_10 385 rfl).trans rfl
theorem te_368_386 : (pT M_368).find? (fun e => e.1 == 386) = some (386, .iaload, 0, 0) := (sk_10 386 rfl).trans rfl
theorem te_368_387 : (pT M_368).find? (fun e => e.1 == 387) = some (387, .aload_n 0, 0, 0) := (sk_10 387 rfl).trans rfl
theorem te_368_388 : (pT M_368).find? (fun e => e.1 == 388) = some (388, .iload 4, 0, 0) := (sk_10 388 rfl).trans rfl
theorem te_368_390 : (pT M_368).find? (fun e => e.1 == 390) = some (390, .iconst 4, 0, 0) := (sk_10 390 rfl).trans rfl
theorem te_368_391 : (pT M_368).find? (fun e => e.1 == 391) = some (391, .iadd, 0, 0) := (sk_10 391 rfl).trans rfl
theorem te_368_392 : (pT M_368).find? (fun e => e.1 == 392) = some (392, .iaload, 0, 0) := (sk_10 392 rfl).trans rfl
theorem te_368_393 : (pT M_368).find? (fun e => e.1 == 393) = some (393, .aload_n 3, 0, 0) := (sk_11 393 rfl).trans rfl
theorem te_368_394 : (pT M_368).find? (fun e => e.1 == 394) = some (394, .invokestatic 184, 51, 8) := (sk_11 394 rfl).trans rfl
theorem te_368_397 : (pT M_368).find? (fun e => e.1 == 397) = some (397, .istore 5, 0, 0) := (sk_11 397 rfl).trans rfl
theorem te_368_399 : (pT M_368).find? (fun e => e.1 == 399) = some (399, .aload_n 2, 0, 0) := (sk_11 399 rfl).trans rfl
theorem te_368_400 : (pT M_368).find? (fun e => e.1 == 400) = some (400, .aload_n 0, 0, 0) := (sk_11 400 rfl).trans rfl
theorem te_368_401 : (pT M_368).find? (fun e => e.1 == 401) = some (401, .iload 4, 0, 0) := (sk_11 401 rfl).trans rfl
theorem te_368_403 : (pT M_368).find? (fun e => e.1 == 403) = some (403, .iconst 1, 0, 0) := (sk_11 403 rfl).trans rfl
theorem te_368_404 : (pT M_368).find? (fun e => e.1 == 404) = some (404, .iadd, 0, 0) := (sk_11 404 rfl).trans rfl
theorem te_368_405 : (pT M_368).find? (fun e => e.1 == 405) = some (405, .iaload, 0, 0) := (sk_11 405 rfl).trans rfl
theorem te_368_406 : (pT M_368).find? (fun e => e.1 == 406) = some (406, .aload_n 0, 0, 0) := (sk_11 406 rfl).trans rfl
theorem te_368_407 : (pT M_368).find? (fun e => e.1 == 407) = some (407, .iload 4, 0, 0) := (sk_11 407 rfl).trans rfl
theorem te_368_409 : (pT M_368).find? (fun e => e.1 == 409) = some (409, .iconst 2, 0, 0) := (sk_11 409 rfl).trans rfl
theorem te_368_410 : (pT M_368).find? (fun e => e.1 == 410) = some (410, .iadd, 0, 0) := (sk_12 410 rfl).trans rfl
theorem te_368_411 : (pT M_368).find? (fun e => e.1 == 411) = some (411, .iaload, 0, 0) := (sk_12 411 rfl).trans rfl
theorem te_368_412 : (pT M_368).find? (fun e => e.1 == 412) = some (412, .aload_n 0, 0, 0) := (sk_12 412 rfl).trans rfl
theorem te_368_413 : (pT M_368).find? (fun e => e.1 == 413) = some (413, .iload 4, 0, 0) := (sk_12 413 rfl).trans rfl
theorem te_368_415 : (pT M_368).find? (fun e => e.1 == 415) = some (415, .iconst 3, 0, 0) := (sk_12 415 rfl).trans rfl
theorem te_368_416 : (pT M_368).find? (fun e => e.1 == 416) = some (416, .iadd, 0, 0) := (sk_12 416 rfl).trans rfl
theorem te_368_417 : (pT M_368).find? (fun e => e.1 == 417) = some (417, .iaload, 0, 0) := (sk_12 417 rfl).trans rfl
theorem te_368_418 : (pT M_368).find? (fun e => e.1 == 418) = some (418, .aload_n 0, 0, 0) := (sk_12 418 rfl).trans rfl
theorem te_368_419 : (pT M_368).find? (fun e => e.1 == 419) = some (419, .iload 4, 0, 0) := (sk_12 419 rfl).trans rfl
theorem te_368_421 : (pT M_368).find? (fun e => e.1 == 421) = some (421, .iconst 4, 0, 0) := (sk_12 421 rfl).trans rfl
theorem te_368_422 : (pT M_368).find? (fun e => e.1 == 422) = some (422, .iadd, 0, 0) := (sk_12 422 rfl).trans rfl
theorem te_368_423 : (pT M_368).find? (fun e => e.1 == 423) = some (423, .iaload, 0, 0) := (sk_12 423 rfl).trans rfl
theorem te_368_424 : (pT M_368).find? (fun e => e.1 == 424) = some (424, .invokevirtual 187, 232, 0) := (sk_13 424 rfl).trans rfl
theorem te_368_427 : (pT M_368).find? (fun e => e.1 == 427) = some (427, .istore 6, 0, 0) := (sk_13 427 rfl).trans rfl
theorem te_368_429 : (pT M_368).find? (fun e => e.1 == 429) = some (429, .goto 1915, 0, 0) := (sk_13 429 rfl).trans rfl
theorem te_368_432 : (pT M_368).find? (fun e => e.1 == 432) = some (432, .aload_n 1, 0, 0) := (sk_13 432 rfl).trans rfl
theorem te_368_433 : (pT M_368).find? (fun e => e.1 == 433) = some (433, .aload_n 3, 0, 0) := (sk_13 433 rfl).trans rfl
theorem te_368_434 : (pT M_368).find? (fun e => e.1 == 434) = some (434, .invokestatic 188, 53, 8) := (sk_13 434 rfl).trans rfl
theorem te_368_437 : (pT M_368).find? (fun e => e.1 == 437) = some (437, .istore 5, 0, 0) := (sk_13 437 rfl).trans rfl
theorem te_368_439 : (pT M_368).find? (fun e => e.1 == 439) = some (439, .aload_n 2, 0, 0) := (sk_13 439 rfl).trans rfl
theorem te_368_440 : (pT M_368).find? (fun e => e.1 == 440) = some (440, .invokevirtual 191, 233, 0) := (sk_13 440 rfl).trans rfl
theorem te_368_443 : (pT M_368).find? (fun e => e.1 == 443) = some (443, .istore 6, 0, 0) := (sk_13 443 rfl).trans rfl
theorem te_368_445 : (pT M_368).find? (fun e => e.1 == 445) = some (445, .goto 1899, 0, 0) := (sk_13 445 rfl).trans rfl
theorem te_368_448 : (pT M_368).find? (fun e => e.1 == 448) = some (448, .aload_n 1, 0, 0) := (sk_13 448 rfl).trans rfl
theorem te_368_449 : (pT M_368).find? (fun e => e.1 == 449) = some (449, .aload_n 0, 0, 0) := (sk_14 449 rfl).trans rfl
theorem te_368_450 : (pT M_368).find? (fun e => e.1 == 450) = some (450, .iload 4, 0, 0) := (sk_14 450 rfl).trans rfl
theorem te_368_452 : (pT M_368).find? (fun e => e.1 == 452) = some (452, .iconst 1, 0, 0) := (sk_14 452 rfl).trans rfl
theorem te_368_453 : (pT M_368).find? (fun e => e.1 == 453) = some (453, .iadd, 0, 0) := (sk_14 453 rfl).trans rfl
theorem te_368_454 : (pT M_368).find? (fun e => e.1 == 454) = some (454, .iaload, 0, 0) := (sk_14 454 rfl).trans rfl
theorem te_368_455 : (pT M_368).find? (fun e => e.1 == 455) = some (455, .aload_n 0, 0, 0) := (sk_14 455 rfl).trans rfl
theorem te_368_456 : (pT M_368).find? (fun e => e.1 == 456) = some (456, .iload 4, 0, 0) := (sk_14 456 rfl).trans rfl
theorem te_368_458 : (pT M_368).find? (fun e => e.1 == 458) = some (458, .iconst 2, 0, 0) := (sk_14 458 rfl).trans rfl
theorem te_368_459 : (pT M_368).find? (fun e => e.1 == 459) = some (459, .iadd, 0, 0) := (sk_14 459 rfl).trans rfl
theorem te_368_460 : (pT M_368).find? (fun e => e.1 == 460) = some (460, .iaload, 0, 0) := (sk_14 460 rfl).trans rfl
theorem te_368_461 : (pT M_368).find? (fun e => e.1 == 461) = some (461, .aload_n 3, 0, 0) := (sk_14 461 rfl).trans rfl
theorem te_368_462 : (pT M_368).find? (fun e => e.1 == 462) = some (462, .invokestatic 192, 55, 8) := (sk_14 462 rfl).trans rfl
theorem te_368_465 : (pT M_368).find? (fun e => e.1 == 465) = some (465, .istore 5, 0, 0) := (sk_15 465 rfl).trans rfl
theorem te_368_467 : (pT M_368).find? (fun e => e.1 == 467) = some (467, .aload_n 2, 0, 0) := (sk_15 467 rfl).trans rfl
theorem te_368_468 : (pT M_368).find? (fun e => e.1 == 468) = some (468, .aload_n 0, 0, 0) := (sk_15 468 rfl).trans rfl
theorem te_368_469 : (pT M_368).find? (fun e => e.1 == 469) = some (469, .iload 4, 0, 0) := (sk_15 469 rfl).trans rfl
theorem te_368_471 : (pT M_368).find? (fun e => e.1 == 471) = some (471, .iconst 1, 0, 0) := (sk_15 471 rfl).trans rfl
theorem te_368_472 : (pT M_368).find? (fun e => e.1 == 472) = some (472, .iadd, 0, 0) := (sk_15 472 rfl).trans rfl
theorem te_368_473 : (pT M_368).find? (fun e => e.1 == 473) = some (473, .iaload, 0, 0) := (sk_15 473 rfl).trans rfl
theorem te_368_474 : (pT M_368).find? (fun e => e.1 == 474) = some (474, .aload_n 0, 0, 0) := (sk_15 474 rfl).trans rfl
theorem te_368_475 : (pT M_368).find? (fun e => e.1 == 475) = some (475, .iload 4, 0, 0) := (sk_15 475 rfl).trans rfl
theorem te_368_477 : (pT M_368).find? (fun e => e.1 == 477) = some (477, .iconst 2, 0, 0) := (sk_15 477 rfl).trans rfl
theorem te_368_478 : (pT M_368).find? (fun e => e.1 == 478) = some (478, .iadd, 0, 0) := (sk_15 478 rfl).trans rfl
theorem te_368_479 : (pT M_368).find? (fun e => e.1 == 479) = some (479, .iaload, 0, 0) := (sk_15 479 rfl).trans rfl
theorem te_368_480 : (pT M_368).find? (fun e => e.1 == 480) = some (480, .invokevirtual 194, 234, 0) := (sk_16 480 rfl).trans rfl
theorem te_368_483 : (pT M_368).find? (fun e => e.1 == 483) = some (483, .istore 6, 0, 0) := (sk_16 483 rfl).trans rfl
theorem te_368_485 : (pT M_368).find? (fun e => e.1 == 485) = some (485, .goto 1859, 0, 0) := (sk_16 485 rfl).trans rfl
theorem te_368_488 : (pT M_368).find? (fun e => e.1 == 488) = some (488, .aload_n 1, 0, 0) := (sk_16 488 rfl).trans rfl
theorem te_368_489 : (pT M_368).find? (fun e => e.1 == 489) = some (489, .aload_n 0, 0, 0) := (sk_16 489 rfl).trans rfl
theorem te_368_490 : (pT M_368).find? (fun e => e.1 == 490) = some (490, .iload 4, 0, 0) := (sk_16 490 rfl).trans rfl
theorem te_368_492 : (pT M_368).find? (fun e => e.1 == 492) = some (492, .iconst 1, 0, 0) := (sk_16 492 rfl).trans rfl
theorem te_368_493 : (pT M_368).find? (fun e => e.1 == 493) = some (493, .iadd, 0, 0) := (sk_16 493 rfl).trans rfl
theorem te_368_494 : (pT M_368).find? (fun e => e.1 == 494) = some (494, .iaload, 0, 0) := (sk_16 494 rfl).trans rfl
theorem te_368_495 : (pT M_368).find? (fun e => e.1 == 495) = some (495, .aload_n 0, 0, 0) := (sk_16 495 rfl).trans rfl
theorem te_368_496 : (pT M_368).find? (fun e => e.1 == 496) = some (496, .iload 4, 0, 0) := (sk_16 496 rfl).trans rfl
theorem te_368_498 : (pT M_368).find? (fun e => e.1 == 498) = some (498, .iconst 2, 0, 0) := (sk_16 498 rfl).trans rfl
theorem te_368_499 : (pT M_368).find? (fun e => e.1 == 499) = some (499, .iadd, 0, 0) := (sk_17 499 rfl).trans rfl
theorem te_368_500 : (pT M_368).find? (fun e => e.1 == 500) = some (500, .iaload, 0, 0) := (sk_17 500 rfl).trans rfl
theorem te_368_501 : (pT M_368).find? (fun e => e.1 == 501) = some (501, .aload_n 0, 0, 0) := (sk_17 501 rfl).trans rfl
theorem te_368_502 : (pT M_368).find? (fun e => e.1 == 502) = some (502, .iload 4, 0, 0) := (sk_17 502 rfl).trans rfl
theorem te_368_504 : (pT M_368).find? (fun e => e.1 == 504) = some (504, .iconst 3, 0, 0) := (sk_17 504 rfl).trans rfl
theorem te_368_505 : (pT M_368).find? (fun e => e.1 == 505) = some (505, .iadd, 0, 0) := (sk_17 505 rfl).trans rfl
theorem te_368_506 : (pT M_368).find? (fun e => e.1 == 506) = some (506, .iaload, 0, 0) := (sk_17 506 rfl).trans rfl
theorem te_368_507 : (pT M_368).find? (fun e => e.1 == 507) = some (507, .aload_n 0, 0, 0) := (sk_17 507 rfl).trans rfl
theorem te_368_508 : (pT M_368).find? (fun e => e.1 == 508) = some (508, .iload 4, 0, 0) := (sk_17 508 rfl).trans rfl
theorem te_368_510 : (pT M_368).find? (fun e => e.1 == 510) = some (510, .iconst 4, 0, 0) := (sk_17 510 rfl).trans rfl
theorem te_368_511 : (pT M_368).find? (fun e => e.1 == 511) = some (511, .iadd, 0, 0) := (sk_17 511 rfl).trans rfl
theorem te_368_512 : (pT M_368).find? (fun e => e.1 == 512) = some (512, .iaload, 0, 0) := (sk_17 512 rfl).trans rfl
theorem te_368_513 : (pT M_368).find? (fun e => e.1 == 513) = some (513, .invokestatic 195, 58, 8) := (sk_18 513 rfl).trans rfl
theorem te_368_516 : (pT M_368).find? (fun e => e.1 == 516) = some (516, .istore 5, 0, 0) := (sk_18 516 rfl).trans rfl
theorem te_368_518 : (pT M_368).find? (fun e => e.1 == 518) = some (518, .aload_n 2, 0, 0) := (sk_18 518 rfl).trans rfl
theorem te_368_519 : (pT M_368).find? (fun e => e.1 == 519) = some (519, .aload_n 0, 0, 0) := (sk_18 519 rfl).trans rfl
theorem te_368_520 : (pT M_368).find? (fun e => e.1 == 520) = some (520, .iload 4, 0, 0) := (sk_18 520 rfl).trans rfl
theorem te_368_522 : (pT M_368).find? (fun e => e.1 == 522) = some (522, .iconst 1, 0, 0) := (sk_18 522 rfl).trans rfl
theorem te_368_523 : (pT M_368).find? (fun e => e.1 == 523) = some (523, .iadd, 0, 0) := (sk_18 523 rfl).trans rfl
theorem te_368_524 : (pT M_368).find? (fun e => e.1 == 524) = some (524, .iaload, 0, 0) := (sk_18 524 rfl).trans rfl
theorem te_368_525 : (pT M_368).find? (fun e => e.1 == 525) = some (525, .aload_n 0, 0, 0) := (sk_18 525 rfl).trans rfl
theorem te_368_526 : (pT M_368).find? (fun e => e.1 == 526) = some (526, .iload 4, 0, 0) := (sk_18 526 rfl).trans rfl
theorem te_368_528 : (pT M_368).find? (fun e => e.1 == 528) = some (528, .iconst 2, 0, 0) := (sk_18 528 rfl).trans rfl
theorem te_368_529 : (pT M_368).find? (fun e => e.1 == 529) = some (529, .iadd, 0, 0) := (sk_18 529 rfl).trans rfl
theorem te_368_530 : (pT M_368).find? (fun e => e.1 == 530) = some (530, .iaload, 0, 0) := (sk_19 530 rfl).trans rfl
theorem te_368_531 : (pT M_368).find? (fun e => e.1 == 531) = some (531, .aload_n 0, 0, 0) := (sk_19 531 rfl).trans rfl
theorem te_368_532 : (pT M_368).find? (fun e => e.1 == 532) = some (532, .iload 4, 0, 0) := (sk_19 532 rfl).trans rfl
theorem te_368_534 : (pT M_368).find? (fun e => e.1 == 534) = some (534, .iconst 3, 0, 0) := (sk_19 534 rfl).trans rfl
theorem te_368_535 : (pT M_368).find? (fun e => e.1 == 535) = some (535, .iadd, 0, 0) := (sk_19 535 rfl).trans rfl
theorem te_368_536 : (pT M_368).find? (fun e => e.1 == 536) = some (536, .iaload, 0, 0) := (sk_19 536 rfl).trans rfl
theorem te_368_537 : (pT M_368).find? (fun e => e.1 == 537) = some (537, .aload_n 0, 0, 0) := (sk_19 537 rfl).trans rfl
theorem te_368_538 : (pT M_368).find? (fun e => e.1 == 538) = some (538, .iload 4, 0, 0) := (sk_19 538 rfl).trans rfl
theorem te_368_540 : (pT M_368).find? (fun e => e.1 == 540) = some (540, .iconst 4, 0, 0) := (sk_19 540 rfl).trans rfl
theorem te_368_541 : (pT M_368).find? (fun e => e.1 == 541) = some (541, .iadd, 0, 0) := (sk_19 541 rfl).trans rfl
theorem te_368_542 : (pT M_368).find? (fun e => e.1 == 542) = some (542, .iaload, 0, 0) := (sk_19 542 rfl).trans rfl
theorem te_368_543 : (pT M_368).find? (fun e => e.1 == 543) = some (543, .invokevirtual 198, 236, 0) := (sk_19 543 rfl).trans rfl
theorem te_368_546 : (pT M_368).find? (fun e => e.1 == 546) = some (546, .pop, 0, 0) := (sk_20 546 rfl).trans rfl
theorem te_368_547 : (pT M_368).find? (fun e => e.1 == 547) = some (547, .goto 1797, 0, 0) := (sk_20 547 rfl).trans rfl
theorem te_368_550 : (pT M_368).find? (fun e => e.1 == 550) = some (550, .aload_n 1, 0, 0) := (sk_20 550 rfl).trans rfl
theorem te_368_551 : (pT M_368).find? (fun e => e.1 == 551) = some (551, .aload_n 0, 0, 0) := (sk_20 551 rfl).trans rfl
theorem te_368_552 : (pT M_368).find? (fun e => e.1 == 552) = some (552, .iload 4, 0, 0) := (sk_20 552 rfl).trans rfl
theorem te_368_554 : (pT M_368).find? (fun e => e.1 == 554) = some (554, .iconst 1, 0, 0) := (sk_20 554 rfl).trans rfl
theorem te_368_555 : (pT M_368).find? (fun e => e.1 == 555) = some (555, .iadd, 0, 0) := (sk_20 555 rfl).trans rfl
theorem te_368_556 : (pT M_368).find? (fun e => e.1 == 556) = some (556, .iaload, 0, 0) := (sk_20 556 rfl).trans rfl
theorem te_368_557 : (pT M_368).find? (fun e => e.1 == 557) = some (557, .aload_n 0, 0, 0) := (sk_20 557 rfl).trans rfl
theorem te_368_558 : (pT M_368).find? (fun e => e.1 == 558) = some (558, .iload 4, 0, 0) := (sk_20 558 rfl).trans rfl
theorem te_368_560 : (pT M_368).find? (fun e => e.1 == 560) = some (560, .iconst 2, 0, 0) := (sk_20 560 rfl).trans rfl
theorem te_368_561 : (pT M_368).find? (fun e => e.1 == 561) = some (561, .iadd, 0, 0) := (sk_20 561 rfl).trans rfl
theorem te_368_562 : (pT M_368).find? (fun e => e.1 == 562) = some (562, .iaload, 0, 0) := (sk_21 562 rfl).trans rfl
theorem te_368_563 : (pT M_368).find? (fun e => e.1 == 563) = some (563, .aload_n 3, 0, 0) := (sk_21 563 rfl).trans rfl
theorem te_368_564 : (pT M_368).find? (fun e => e.1 == 564) = some (564, .invokestatic 200, 61, 8) := (sk_21 564 rfl).trans rfl
theorem te_368_567 : (pT M_368).find? (fun e => e.1 == 567) = some (567, .istore 5, 0, 0) := (sk_21 567 rfl).trans rfl
theorem te_368_569 : (pT M_368).find? (fun e => e.1 == 569) = some (569, .aload_n 2, 0, 0) := (sk_21 569 rfl).trans rfl
theorem te_368_570 : (pT M_368).find? (fun e => e.1 == 570) = some (570, .aload_n 0, 0, 0) := (sk_21 570 rfl).trans rfl
theorem te_368_571 : (pT M_368).find? (fun e => e.1 == 571) = some (571, .iload 4, 0, 0) := (sk_21 571 rfl).trans rfl
theorem te_368_573 : (pT M_368).find? (fun e => e.1 == 573) = some (573, .iconst 1, 0, 0) := (sk_21 573 rfl).trans rfl
theorem te_368_574 : (pT M_368).find? (fun e => e.1 == 574) = some (574, .iadd, 0, 0) := (sk_21 574 rfl).trans rfl
theorem te_368_575 : (pT M_368).find? (fun e => e.1 == 575) = some (575, .iaload, 0, 0) := (sk_21 575 rfl).trans rfl
theorem te_368_576 : (pT M_368).find? (fun e => e.1 == 576) = some (576, .aload_n 0, 0, 0) := (sk_21 576 rfl).trans rfl
theorem te_368_577 : (pT M_368).find? (fun e => e.1 == 577) = some (577, .iload 4, 0, 0) := (sk_21 577 rfl).trans rfl
theorem te_368_579 : (pT M_368).find? (fun e => e.1 == 579) = some (579, .iconst 2, 0, 0) := (sk_22 579 rfl).trans rfl
theorem te_368_580 : (pT M_368).find? (fun e => e.1 == 580) = some (580, .iadd, 0, 0) := (sk_22 580 rfl).trans rfl
theorem te_368_581 : (pT M_368).find? (fun e => e.1 == 581) = some (581, .iaload, 0, 0) := (sk_22 581 rfl).trans rfl
theorem te_368_582 : (pT M_368).find? (fun e => e.1 == 582) = some (582, .invokevirtual 202, 237, 0) := (sk_22 582 rfl).trans rfl
theorem te_368_585 : (pT M_368).find? (fun e => e.1 == 585) = some (585, .istore 6, 0, 0) := (sk_22 585 rfl).trans rfl
theorem te_368_587 : (pT M_368).find? (fun e => e.1 == 587) = some (587, .goto 1757, 0, 0) := (sk_22 587 rfl).trans rfl
theorem te_368_1335 : (pT M_368).find? (fun e => e.1 == 1335) = some (1335, .aload_n 1, 0, 0) := (sk_65 1335 rfl).trans rfl
theorem te_368_1336 : (pT M_368).find? (fun e => e.1 == 1336) = some (1336, .aload_n 0, 0, 0) := (sk_66 1336 rfl).trans rfl
theorem te_368_1337 : (pT M_368).find? (fun e => e.1 == 1337) = some (1337, .iload 4, 0, 0) := (sk_66 1337 rfl).trans rfl
theorem te_368_1339 : (pT M_368).find? (fun e => e.1 == 1339) = some (1339, .iconst 1, 0, 0) := (sk_66 1339 rfl).trans rfl
theorem te_368_1340 : (pT M_368).find? (fun e => e.1 == 1340) = some (1340, .iadd, 0, 0) := (sk_66 1340 rfl).trans rfl
theorem te_368_1341 : (pT M_368).find? (fun e => e.1 == 1341) = some (1341, .iaload, 0, 0) := (sk_66 1341 rfl).trans rfl
theorem te_368_1342 : (pT M_368).find? (fun e => e.1 == 1342) = some (1342, .aload_n 0, 0, 0) := (sk_66 1342 rfl).trans rfl
theorem te_368_1343 : (pT M_368).find? (fun e => e.1 == 1343) = some (1343, .iload 4, 0, 0) := (sk_66 1343 rfl).trans rfl
theorem te_368_1345 : (pT M_368).find? (fun e => e.1 == 1345) = some (1345, .iconst 2, 0, 0) := (sk_66 1345 rfl).trans rfl
theorem te_368_1346 : (pT M_368).find? (fun e => e.1 == 1346) = some (1346, .iadd, 0, 0) := (sk_66 1346 rfl).trans rfl
theorem te_368_1347 : (pT M_368).find? (fun e => e.1 == 1347) = some (1347, .iaload, 0, 0) := (sk_66 1347 rfl).trans rfl
theorem te_368_1348 : (pT M_368).find? (fun e => e.1 == 1348) = some (1348, .aload_n 0, 0, 0) := (sk_66 1348 rfl).trans rfl
theorem te_368_1349 : (pT M_368).find? (fun e => e.1 == 1349) = some (1349, .iload 4, 0, 0) := (sk_66 1349 rfl).trans rfl
theorem te_368_1351 : (pT M_368).find? (fun e => e.1 == 1351) = some (1351, .iconst 3, 0, 0) := (sk_67 1351 rfl).trans rfl
theorem te_368_1352 : (pT M_368).find? (fun e => e.1 == 1352) = some (1352, .iadd, 0, 0) := (sk_67 1352 rfl).trans rfl
theorem te_368_1353 : (pT M_368).find? (fun e => e.1 == 1353) = some (1353, .iaload, 0, 0) := (sk_67 1353 rfl).trans rfl
theorem te_368_1354 : (pT M_368).find? (fun e => e.1 == 1354) = some (1354, .aload_n 3, 0, 0) := (sk_67 1354 rfl).trans rfl
theorem te_368_1355 : (pT M_368).find? (fun e => e.1 == 1355) = some (1355, .invokestatic 264, 165, 8) := (sk_67 1355 rfl).trans rfl
theorem te_368_1358 : (pT M_368).find? (fun e => e.1 == 1358) = some (1358, .istore 5, 0, 0) := (sk_67 1358 rfl).trans rfl
theorem te_368_1360 : (pT M_368).find? (fun e => e.1 == 1360) = some (1360, .aload_n 2, 0, 0) := (sk_67 1360 rfl).trans rfl
theorem te_368_1361 : (pT M_368).find? (fun e => e.1 == 1361) = some (1361, .aload_n 0, 0, 0) := (sk_67 1361 rfl).trans rfl
theorem te_368_1362 : (pT M_368).find? (fun e => e.1 == 1362) = some (1362, .iload 4, 0, 0) := (sk_67 1362 rfl).trans rfl
theorem te_368_1364 : (pT M_368).find? (fun e => e.1 == 1364) = some (1364, .iconst 1, 0, 0) := (sk_67 1364 rfl).trans rfl
theorem te_368_1365 : (pT M_368).find? (fun e => e.1 == 1365) = some (1365, .iadd, 0, 0) := (sk_67 1365 rfl).trans rfl
theorem te_368_1366 : (pT M_368).find? (fun e => e.1 == 1366) = some (1366, .iaload, 0, 0) := (sk_67 1366 rfl).trans rfl
theorem te_368_1367 : (pT M_368).find? (fun e => e.1 == 1367) = some (1367, .aload_n 0, 0, 0) := (sk_68 1367 rfl).trans rfl
theorem te_368_1368 : (pT M_368).find? (fun e => e.1 == 1368) = some (1368, .iload 4, 0, 0) := (sk_68 1368 rfl).trans rfl
theorem te_368_1370 : (pT M_368).find? (fun e => e.1 == 1370) = some (1370, .iconst 2, 0, 0) := (sk_68 1370 rfl).trans rfl
theorem te_368_1371 : (pT M_368).find? (fun e => e.1 == 1371) = some (1371, .iadd, 0, 0) := (sk_68 1371 rfl).trans rfl
theorem te_368_1372 : (pT M_368).find? (fun e => e.1 == 1372) = some (1372, .iaload, 0, 0) := (sk_68 1372 rfl).trans rfl
theorem te_368_1373 : (pT M_368).find? (fun e => e.1 == 1373) = some (1373, .aload_n 0, 0, 0) := (sk_68 1373 rfl).trans rfl
theorem te_368_1374 : (pT M_368).find? (fun e => e.1 == 1374) = some (1374, .iload 4, 0, 0) := (sk_68 1374 rfl).trans rfl
theorem te_368_1376 : (pT M_368).find? (fun e => e.1 == 1376) = some (1376, .iconst 3, 0, 0) := (sk_68 1376 rfl).trans rfl
theorem te_368_1377 : (pT M_368).find? (fun e => e.1 == 1377) = some (1377, .iadd, 0, 0) := (sk_68 1377 rfl).trans rfl
theorem te_368_1378 : (pT M_368).find? (fun e => e.1 == 1378) = some (1378, .iaload, 0, 0) := (sk_68 1378 rfl).trans rfl
theorem te_368_1379 : (pT M_368).find? (fun e => e.1 == 1379) = some (1379, .invokevirtual 266, 325, 0) := (sk_68 1379 rfl).trans rfl
theorem te_368_1382 : (pT M_368).find? (fun e => e.1 == 1382) = some (1382, .istore 6, 0, 0) := (sk_68 1382 rfl).trans rfl
theorem te_368_1384 : (pT M_368).find? (fun e => e.1 == 1384) = some (1384, .aload_n 2, 0, 0) := (sk_69 1384 rfl).trans rfl
theorem te_368_1385 : (pT M_368).find? (fun e => e.1 == 1385) = some (1385, .invokevirtual 267, 225, 0) := (sk_69 1385 rfl).trans rfl
theorem te_368_1388 : (pT M_368).find? (fun e => e.1 == 1388) = some (1388, .iload 5, 0, 0) := (sk_69 1388 rfl).trans rfl
theorem te_368_1390 : (pT M_368).find? (fun e => e.1 == 1390) = some (1390, .if_icmp .eq 5, 0, 0) := (sk_69 1390 rfl).trans rfl
theorem te_368_1395 : (pT M_368).find? (fun e => e.1 == 1395) = some (1395, .iload 5, 0, 0) := (sk_69 1395 rfl).trans rfl
theorem te_368_1397 : (pT M_368).find? (fun e => e.1 == 1397) = some (1397, .ifCond .ne 15, 0, 0) := (sk_69 1397 rfl).trans rfl
theorem te_368_1400 : (pT M_368).find? (fun e => e.1 == 1400) = some (1400, .aload_n 3, 0, 0) := (sk_69 1400 rfl).trans rfl
theorem te_368_1401 : (pT M_368).find? (fun e => e.1 == 1401) = some (1401, .iconst 0, 0, 0) := (sk_69 1401 rfl).trans rfl
theorem te_368_1402 : (pT M_368).find? (fun e => e.1 == 1402) = some (1402, .laload, 0, 0) := (sk_69 1402 rfl).trans rfl
theorem te_368_1403 : (pT M_368).find? (fun e => e.1 == 1403) = some (1403, .iload 6, 0, 0) := (sk_69 1403 rfl).trans rfl
theorem te_368_1405 : (pT M_368).find? (fun e => e.1 == 1405) = some (1405, .i2l, 0, 0) := (sk_70 1405 rfl).trans rfl
theorem te_368_1406 : (pT M_368).find? (fun e => e.1 == 1406) = some (1406, .lcmp, 0, 0) := (sk_70 1406 rfl).trans rfl
theorem te_368_1407 : (pT M_368).find? (fun e => e.1 == 1407) = some (1407, .ifCond .eq 5, 0, 0) := (sk_70 1407 rfl).trans rfl
theorem te_368_1412 : (pT M_368).find? (fun e => e.1 == 1412) = some (1412, .goto 932, 0, 0) := (sk_70 1412 rfl).trans rfl
theorem te_368_2344 : (pT M_368).find? (fun e => e.1 == 2344) = some (2344, .iinc 4 6, 0, 0) := (sk_123 2344 rfl).trans rfl
theorem te_368_2347 : (pT M_368).find? (fun e => e.1 == 2347) = some (2347, .goto (-2324), 0, 0) := (sk_123 2347 rfl).trans rfl
theorem te_368_2350 : (pT M_368).find? (fun e => e.1 == 2350) = some (2350, .iconst 1, 0, 0) := (sk_123 2350 rfl).trans rfl
theorem te_368_2351 : (pT M_368).find? (fun e => e.1 == 2351) = some (2351, .ireturn, 0, 0) := (sk_123 2351 rfl).trans rfl
theorem lg_self (x : Int64) : lg_cmp x x = 0 := by unfold lg_cmp; simp
theorem lc_0 {S : Nat × (Nat → Int32)} {lv : LV} {h : PH} {c s : Nat} {i : Int32} (hS : S.1 ≤ 3072) (hl : LwS lv i) (hi : 0 ≤ i.toInt ∧ i.toInt + 5 < S.1) (hL : LR h) (hc : c + 8 ≤ 601024) (hs : s + 48 ≤ 7293033) (Nx : ∀ lv' h' c' s', LwS lv' i → LR h' → c' ≤ c + 8 → s' ≤ s + 48 → Vx (Ex S 24) S M_368 [] Q1 2344 lv' [] h' c' s') : Vx (Ex S 24) S M_368 [] Q1 252 lv [] h c s := by
  have hC := Ex.mono S 24
  obtain ⟨m, g, hM, hcl, hr, hb⟩ := hL
  refine Vx.go hC te_368_252 ⟨_, hl.2.1, ⟨0, Or.inl rfl⟩, ?_⟩
  refine sc_load hC (k := 1) hl te_368_253 te_368_254 te_368_256 te_368_257 te_368_258 (sc_in hS hi (by decide)) ?_
  refine sc_load hC (k := 2) hl te_368_259 te_368_260 te_368_262 te_368_263 te_368_264 (sc_in hS hi (by decide)) ?_
  refine sc_load hC (k := 3) hl te_368_265 te_368_266 te_368_268 te_368_269 te_368_270 (sc_in hS hi (by decide)) ?_
  refine sc_load hC (k := 4) hl te_368_271 te_368_272 te_368_274 te_368_275 te_368_276 (sc_in hS hi (by decide)) ?_
  refine sc_load hC (k := 5) hl te_368_277 te_368_278 te_368_280 te_368_281 te_368_282 (sc_in hS hi (by decide)) ?_
  refine Vx.go hC te_368_283 ⟨_, hl.2.2.2.1, ⟨173, Or.inl rfl⟩, ?_⟩
  refine Vx.go hC te_368_284 ?_
  refine Or.inr ⟨by decide, ?_⟩
  refine p_call_mk (av := [.ref 0, .int (S.2 (i + Int32.ofInt 1).toNatClampNeg), .int (S.2 (i + Int32.ofInt 2).toNatClampNeg), .int (S.2 (i + Int32.ofInt 3).toNatClampNeg), .int (S.2 (i + Int32.ofInt 4).toNatClampNeg), .int (S.2 (i + Int32.ofInt 5).toNatClampNeg), .ref 173]) (rest := []) mt_43 rfl (by decide) (show c + 2 ≤ 601024 by omega) (show s + 12 ≤ 7293033 by omega) (fun q => by cases q) ?_
  have HH : ∀ (t y : Int) (h1 : PH) (m1 : MM) (g1 : Nat → Int64), LM h1 m1 g1 → Hf0 (S.2 (i + Int32.ofInt 1).toNatClampNeg).toInt (S.2 (i + Int32.ofInt 2).toNatClampNeg).toInt (S.2 (i + Int32.ofInt 3).toNatClampNeg).toInt (S.2 (i + Int32.ofInt 4).toNatClampNeg).toInt (S.2 (i + Int32.ofInt 5).toNatClampNeg).toInt t y m1 → 0 ≤ t ∧ t ≤ 4 → (t = 0 → InI y ∧ g1 0 = ((Int32.ofInt y).toInt64)) → Vx (Ex S 24) S M_368 [] Q1 287 lv [.int (Int32.ofInt t)] h1 (c + 2) (s + 12) := by
    intro t y h1 m1 g1 hM1 hF ht hg
    refine Vx.go hC te_368_287 ⟨by decide, ?_⟩
    have hl2 := LwS.st (j := 5) (v := .int (Int32.ofInt t)) (by omega) hl
    show Vx (Ex S 24) S M_368 [] Q1 289 (px_s1 lv 5 (.int (Int32.ofInt t))) [] h1 (c + 2) (s + 12)
    refine Vx.go hC te_368_289 ⟨_, hl2.2.2.1, ⟨143, Or.inl rfl⟩, ?_⟩
    refine sc_load hC (k := 1) hl2 te_368_290 te_368_291 te_368_293 te_368_294 te_368_295 (sc_in hS hi (by decide)) ?_
    refine sc_load hC (k := 2) hl2 te_368_296 te_368_297 te_368_299 te_368_300 te_368_301 (sc_in hS hi (by decide)) ?_
    refine sc_load hC (k := 3) hl2 te_368_302 te_368_303 te_368_305 te_368_306 te_368_307 (sc_in hS hi (by decide)) ?_
    refine sc_load hC (k := 4) hl2 te_368_308 te_368_309 te_368_311 te_368_312 te_368_313 (sc_in hS hi (by decide)) ?_
    refine sc_load hC (k := 5) hl2 te_368_314 te_368_315 te_368_317 te_368_318 te_368_319 (sc_in hS hi (by decide)) ?_
    refine Vx.go hC te_368_320 ?_
    obtain ⟨gs, hgs⟩ := hM1.obj (A := 143) rfl
    refine p_call_mk (av := [.ref 143, .int (S.2 (i + Int32.ofInt 1).toNatClampNeg), .int (S.2 (i + Int32.ofInt 2).toNatClampNeg), .int (S.2 (i + Int32.ofInt 3).toNatClampNeg), .int (S.2 (i + Int32.ofInt 4).toNatClampNeg), .int (S.2 (i + Int32.ofInt 5).toNatClampNeg)]) (rest := []) mt_226 rfl (by decide) (show c + 2 + 0 ≤ 601024 by omega) (show s + 12 + 0 ≤ 7293033 by omega) (fun _ => ⟨143, gs, rfl, hgs⟩) ?_
    have hcall := callQM (S := S) (n := 24) (μ := 226) (args := [.inr 143, .inl ((S.2 (i + Int32.ofInt 1).toNatClampNeg) : Int32).toInt, .inl ((S.2 (i + Int32.ofInt 2).toNatClampNeg) : Int32).toInt, .inl ((S.2 (i + Int32.ofInt 3).toNatClampNeg) : Int32).toInt, .inl ((S.2 (i + Int32.ofInt 4).toNatClampNeg) : Int32).toInt, .inl ((S.2 (i + Int32.ofInt 5).toNatClampNeg) : Int32).toInt]) (fun v hv => by simp only [List.mem_cons, List.not_mem_nil, or_false] at hv; rcases hv with rfl | rfl | rfl | rfl | rfl | rfl <;> first | trivial | exact wiI _) hM1 (rf0 hF)
    simp only [List.map_cons, List.map_nil, wv, Int32.ofInt_toInt] at hcall
    refine hC _ _ _ _ _ ?_ hcall
    intro r0 h2 hz
    refine hz.elim ?_ (fun ⟨_, _, _, _, hE⟩ => False.elim hE)
    rintro ⟨y2, m2, rfl, hy2, hM2, hc2, hr2, hb2, e2, er⟩
    show Vx (Ex S 24) S M_368 [] Q1 323 (px_s1 lv 5 (.int (Int32.ofInt t))) [.int (Int32.ofInt y2)] h2 (c + 2) (s + 12)
    refine Vx.go hC te_368_323 ⟨by decide, ?_⟩
    have hl3 := LwS.st (j := 6) (v := .int (Int32.ofInt y2)) (by omega) hl2
    show Vx (Ex S 24) S M_368 [] Q1 325 (px_s1 (px_s1 lv 5 (.int (Int32.ofInt t))) 6 (.int (Int32.ofInt y2))) [] h2 (c + 2) (s + 12)
    refine Vx.go hC te_368_325 ⟨by decide, ?_⟩
    exact Nx _ _ _ _ hl3 ⟨m2, g1, hM2, hc2, hr2, hb2⟩ (by omega) (by omega)
  refine gx_43 (n := 6) (K := fun y m' => Hf0 (S.2 (i + Int32.ofInt 1).toNatClampNeg).toInt (S.2 (i + Int32.ofInt 2).toNatClampNeg).toInt (S.2 (i + Int32.ofInt 3).toNatClampNeg).toInt (S.2 (i + Int32.ofInt 4).toNatClampNeg).toInt (S.2 (i + Int32.ofInt 5).toNatClampNeg).toInt 0 y m') (E := fun e m' => (e = 0 ∧ Hf0 (S.2 (i + Int32.ofInt 1).toNatClampNeg).toInt (S.2 (i + Int32.ofInt 2).toNatClampNeg).toInt (S.2 (i + Int32.ofInt 3).toNatClampNeg).toInt (S.2 (i + Int32.ofInt 4).toNatClampNeg).toInt (S.2 (i + Int32.ofInt 5).toNatClampNeg).toInt 1 0 m') ∨ (e = 1 ∧ Hf0 (S.2 (i + Int32.ofInt 1).toNatClampNeg).toInt (S.2 (i + Int32.ofInt 2).toNatClampNeg).toInt (S.2 (i + Int32.ofInt 3).toNatClampNeg).toInt (S.2 (i + Int32.ofInt 4).toNatClampNeg).toInt (S.2 (i + Int32.ofInt 5).toNatClampNeg).toInt 2 0 m')) hM (cl0 hcl hr hb) (fun y h' m' g' hy hL' eg hK => HH 0 y h' m' g' hL' hK (by omega) (fun _ => ⟨hy, eg⟩)) (fun e h' m' hL' hE => ?_)
  rcases hE with ⟨rfl, hE⟩ | ⟨rfl, hE⟩
  · exact Or.inl (⟨rfl, HH 1 0 h' m' g hL' hE (by omega) (fun z => by omega)⟩)
  · exact Or.inr (⟨rfl, HH 2 0 h' m' g hL' hE (by omega) (fun z => by omega)⟩)
theorem lc_1 {S : Nat × (Nat → Int32)} {lv : LV} {h : PH} {c s : Nat} {i : Int32} (hS : S.1 ≤ 3072) (hl : LwS lv i) (hi : 0 ≤ i.toInt ∧ i.toInt + 5 < S.1) (hL : LR h) (hc : c + 8 ≤ 601024) (hs : s + 48 ≤ 7293033) (Nx : ∀ lv' h' c' s', LwS lv' i → LR h' → c' ≤ c + 8 → s' ≤ s + 48 → Vx (Ex S 24) S M_368 [] Q1 2344 lv' [] h' c' s') : Vx (Ex S 24) S M_368 [] Q1 328 lv [] h c s := by
  have hC := Ex.mono S 24
  obtain ⟨m, g, hM, hcl, hr, hb⟩ := hL
  refine Vx.go hC te_368_328 ⟨_, hl.2.1, ⟨0, Or.inl rfl⟩, ?_⟩
  refine sc_load hC (k := 1) hl te_368_329 te_368_330 te_368_332 te_368_333 te_368_334 (sc_in hS hi (by decide)) ?_
  refine sc_load hC (k := 2) hl te_368_335 te_368_336 te_368_338 te_368_339 te_368_340 (sc_in hS hi (by decide)) ?_
  refine Vx.go hC te_368_341 ⟨_, hl.2.2.2.1, ⟨173, Or.inl rfl⟩, ?_⟩
  refine Vx.go hC te_368_342 ?_
  refine Or.inr ⟨by decide, ?_⟩
  refine p_call_mk (av := [.ref 0, .int (S.2 (i + Int32.ofInt 1).toNatClampNeg), .int (S.2 (i + Int32.ofInt 2).toNatClampNeg), .ref 173]) (rest := []) mt_48 rfl (by decide) (show c + 2 ≤ 601024 by omega) (show s + 12 ≤ 7293033 by omega) (fun q => by cases q) ?_
  have HH : ∀ (t y : Int) (h1 : PH) (m1 : MM) (g1 : Nat → Int64), LM h1 m1 g1 → Hf1 (S.2 (i + Int32.ofInt 1).toNatClampNeg).toInt (S.2 (i + Int32.ofInt 2).toNatClampNeg).toInt t y m1 → 0 ≤ t ∧ t ≤ 4 → (t = 0 → InI y ∧ g1 0 = ((Int32.ofInt y).toInt64)) → Vx (Ex S 24) S M_368 [] Q1 345 lv [.int (Int32.ofInt t)] h1 (c + 2) (s + 12) := by
    intro t y h1 m1 g1 hM1 hF ht hg
    refine Vx.go hC te_368_345 ⟨by decide, ?_⟩
    have hl2 := LwS.st (j := 5) (v := .int (Int32.ofInt t)) (by omega) hl
    show Vx (Ex S 24) S M_368 [] Q1 347 (px_s1 lv 5 (.int (Int32.ofInt t))) [] h1 (c + 2) (s + 12)
    refine Vx.go hC te_368_347 ⟨_, hl2.2.2.1, ⟨143, Or.inl rfl⟩, ?_⟩
    refine sc_load hC (k := 1) hl2 te_368_348 te_368_349 te_368_351 te_368_352 te_368_353 (sc_in hS hi (by decide)) ?_
    refine sc_load hC (k := 2) hl2 te_368_354 te_368_355 te_368_357 te_368_358 te_368_359 (sc_in hS hi (by decide)) ?_
    refine Vx.go hC te_368_360 ?_
    obtain ⟨gs, hgs⟩ := hM1.obj (A := 143) rfl
    refine p_call_mk (av := [.ref 143, .int (S.2 (i + Int32.ofInt 1).toNatClampNeg), .int (S.2 (i + Int32.ofInt 2).toNatClampNeg)]) (rest := []) mt_230 rfl (by decide) (show c + 2 + 0 ≤ 601024 by omega) (show s + 12 + 0 ≤ 7293033 by omega) (fun _ => ⟨143, gs, rfl, hgs⟩) ?_
    have hcall := callQM (S := S) (n := 24) (μ := 230) (args := [.inr 143, .inl ((S.2 (i + Int32.ofInt 1).toNatClampNeg) : Int32).toInt, .inl ((S.2 (i + Int32.ofInt 2).toNatClampNeg) : Int32).toInt]) (fun v hv => by simp only [List.mem_cons, List.not_mem_nil, or_false] at hv; rcases hv with rfl | rfl | rfl <;> first | trivial | exact wiI _) hM1 (rf1 hF)
    simp only [List.map_cons, List.map_nil, wv, Int32.ofInt_toInt] at hcall
    refine hC _ _ _ _ _ ?_ hcall
    intro r0 h2 hz
    refine hz.elim ?_ (fun ⟨_, _, _, _, hE⟩ => False.elim hE)
    rintro ⟨y2, m2, rfl, hy2, hM2, hc2, hr2, hb2, e2, er⟩
    show Vx (Ex S 24) S M_368 [] Q1 363 (px_s1 lv 5 (.int (Int32.ofInt t))) [.int (Int32.ofInt y2)] h2 (c + 2) (s + 12)
    refine Vx.go hC te_368_363 ⟨by decide, ?_⟩
    have hl3 := LwS.st (j := 6) (v := .int (Int32.ofInt y2)) (by omega) hl2
    show Vx (Ex S 24) S M_368 [] Q1 365 (px_s1 (px_s1 lv 5 (.int (Int32.ofInt t))) 6 (.int (Int32.ofInt y2))) [] h2 (c + 2) (s + 12)
    refine Vx.go hC te_368_365 ⟨by decide, ?_⟩
    exact Nx _ _ _ _ hl3 ⟨m2, g1, hM2, hc2, hr2, hb2⟩ (by omega) (by omega)
  refine gx_48 (n := 6) (K := fun y m' => Hf1 (S.2 (i + Int32.ofInt 1).toNatClampNeg).toInt (S.2 (i + Int32.ofInt 2).toNatClampNeg).toInt 0 y m') (E := fun e m' => (e = 0 ∧ Hf1 (S.2 (i + Int32.ofInt 1).toNatClampNeg).toInt (S.2 (i + Int32.ofInt 2).toNatClampNeg).toInt 1 0 m') ∨ (e = 1 ∧ Hf1 (S.2 (i + Int32.ofInt 1).toNatClampNeg).toInt (S.2 (i + Int32.ofInt 2).toNatClampNeg).toInt 2 0 m')) hM (cl1 hcl hr hb) (fun y h' m' g' hy hL' eg hK => HH 0 y h' m' g' hL' hK (by omega) (fun _ => ⟨hy, eg⟩)) (fun e h' m' hL' hE => ?_)
  rcases hE with ⟨rfl, hE⟩ | ⟨rfl, hE⟩
  · exact Or.inl (⟨rfl, HH 1 0 h' m' g hL' hE (by omega) (fun z => by omega)⟩)
  · exact Or.inr (⟨rfl, HH 2 0 h' m' g hL' hE (by omega) (fun z => by omega)⟩)
theorem lc_2 {S : Nat × (Nat → Int32)} {lv : LV} {h : PH} {c s : Nat} {i : Int32} (hS : S.1 ≤ 3072) (hl : LwS lv i) (hi : 0 ≤ i.toInt ∧ i.toInt + 5 < S.1) (hL : LR h) (hc : c + 8 ≤ 601024) (hs : s + 48 ≤ 7293033) (Nx : ∀ lv' h' c' s', LwS lv' i → LR h' → c' ≤ c + 8 → s' ≤ s + 48 → Vx (Ex S 24) S M_368 [] Q1 2344 lv' [] h' c' s') : Vx (Ex S 24) S M_368 [] Q1 368 lv [] h c s := by
  have hC := Ex.mono S 24
  obtain ⟨m, g, hM, hcl, hr, hb⟩ := hL
  refine Vx.go hC te_368_368 ⟨_, hl.2.1, ⟨0, Or.inl rfl⟩, ?_⟩
  refine sc_load hC (k := 1) hl te_368_369 te_368_370 te_368_372 te_368_373 te_368_374 (sc_in hS hi (by decide)) ?_
  refine sc_load hC (k := 2) hl te_368_375 te_368_376 te_368_378 te_368_379 te_368_380 (sc_in hS hi (by decide)) ?_
  refine sc_load hC (k := 3) hl te_368_381 te_368_382 te_368_384 te_368_385 te_368_386 (sc_in hS hi (by decide)) ?_
  refine sc_load hC (k := 4) hl te_368_387 te_368_388 te_368_390 te_368_391 te_368_392 (sc_in hS hi (by decide)) ?_
  refine Vx.go hC te_368_393 ⟨_, hl.2.2.2.1, ⟨173, Or.inl rfl⟩, ?_⟩
  refine Vx.go hC te_368_394 ?_
  refine Or.inr ⟨by decide, ?_⟩
  refine p_call_mk (av := [.ref 0, .int (S.2 (i + Int32.ofInt 1).toNatClampNeg), .int (S.2 (i + Int32.ofInt 2).toNatClampNeg), .int (S.2 (i + Int32.ofInt 3).toNatClampNeg), .int (S.2 (i + Int32.ofInt 4).toNatClampNeg), .ref 173]) (rest := []) mt_51 rfl (by decide) (show c + 2 ≤ 601024 by omega) (show s + 12 ≤ 7293033 by omega) (fun q => by cases q) ?_
  have HH : ∀ (t y : Int) (h1 : PH) (m1 : MM) (g1 : Nat → Int64), LM h1 m1 g1 → Hf2 (S.2 (i + Int32.ofInt 1).toNatClampNeg).toInt (S.2 (i + Int32.ofInt 2).toNatClampNeg).toInt (S.2 (i + Int32.ofInt 3).toNatClampNeg).toInt (S.2 (i + Int32.ofInt 4).toNatClampNeg).toInt t y m1 → 0 ≤ t ∧ t ≤ 4 → (t = 0 → InI y ∧ g1 0 = ((Int32.ofInt y).toInt64)) → Vx (Ex S 24) S M_368 [] Q1 397 lv [.int (Int32.ofInt t)] h1 (c + 2) (s + 12) := by
    intro t y h1 m1 g1 hM1 hF ht hg
    refine Vx.go hC te_368_397 ⟨by decide, ?_⟩
    have hl2 := LwS.st (j := 5) (v := .int (Int32.ofInt t)) (by omega) hl
    show Vx (Ex S 24) S M_368 [] Q1 399 (px_s1 lv 5 (.int (Int32.ofInt t))) [] h1 (c + 2) (s + 12)
    refine Vx.go hC te_368_399 ⟨_, hl2.2.2.1, ⟨143, Or.inl rfl⟩, ?_⟩
    refine sc_load hC (k := 1) hl2 te_368_400 te_368_401 te_368_403 te_368_404 te_368_405 (sc_in hS hi (by decide)) ?_
    refine sc_load hC (k := 2) hl2 te_368_406 te_368_407 te_368_409 te_368_410 te_368_411 (sc_in hS hi (by decide)) ?_
    refine sc_load hC (k := 3) hl2 te_368_412 te_368_413 te_368_415 te_368_416 te_368_417 (sc_in hS hi (by decide)) ?_
    refine sc_load hC (k := 4) hl2 te_368_418 te_368_419 te_368_421 te_368_422 te_368_423 (sc_in hS hi (by decide)) ?_
    refine Vx.go hC te_368_424 ?_
    obtain ⟨gs, hgs⟩ := hM1.obj (A := 143) rfl
    refine p_call_mk (av := [.ref 143, .int (S.2 (i + Int32.ofInt 1).toNatClampNeg), .int (S.2 (i + Int32.ofInt 2).toNatClampNeg), .int (S.2 (i + Int32.ofInt 3).toNatClampNeg), .int (S.2 (i + Int32.ofInt 4).toNatClampNeg)]) (rest := []) mt_232 rfl (by decide) (show c + 2 + 0 ≤ 601024 by omega) (show s + 12 + 0 ≤ 7293033 by omega) (fun _ => ⟨143, gs, rfl, hgs⟩) ?_
    have hcall := callQM (S := S) (n := 24) (μ := 232) (args := [.inr 143, .inl ((S.2 (i + Int32.ofInt 1).toNatClampNeg) : Int32).toInt, .inl ((S.2 (i + Int32.ofInt 2).toNatClampNeg) : Int32).toInt, .inl ((S.2 (i + Int32.ofInt 3).toNatClampNeg) : Int32).toInt, .inl ((S.2 (i + Int32.ofInt 4).toNatClampNeg) : Int32).toInt]) (fun v hv => by simp only [List.mem_cons, List.not_mem_nil, or_false] at hv; rcases hv with rfl | rfl | rfl | rfl | rfl <;> first | trivial | exact wiI _) hM1 (rf2 hF)
    simp only [List.map_cons, List.map_nil, wv, Int32.ofInt_toInt] at hcall
    refine hC _ _ _ _ _ ?_ hcall
    intro r0 h2 hz
    refine hz.elim ?_ (fun ⟨_, _, _, _, hE⟩ => False.elim hE)
    rintro ⟨y2, m2, rfl, hy2, hM2, hc2, hr2, hb2, e2, er⟩
    show Vx (Ex S 24) S M_368 [] Q1 427 (px_s1 lv 5 (.int (Int32.ofInt t))) [.int (Int32.ofInt y2)] h2 (c + 2) (s + 12)
    refine Vx.go hC te_368_427 ⟨by decide, ?_⟩
    have hl3 := LwS.st (j := 6) (v := .int (Int32.ofInt y2)) (by omega) hl2
    show Vx (Ex S 24) S M_368 [] Q1 429 (px_s1 (px_s1 lv 5 (.int (Int32.ofInt t))) 6 (.int (Int32.ofInt y2))) [] h2 (c + 2) (s + 12)
    refine Vx.go hC te_368_429 ⟨by decide, ?_⟩
    exact Nx _ _ _ _ hl3 ⟨m2, g1, hM2, hc2, hr2, hb2⟩ (by omega) (by omega)
  refine gx_51 (n := 6) (K := fun y m' => Hf2 (S.2 (i + Int32.ofInt 1).toNatClampNeg).toInt (S.2 (i + Int32.ofInt 2).toNatClampNeg).toInt (S.2 (i + Int32.ofInt 3).toNatClampNeg).toInt (S.2 (i + Int32.ofInt 4).toNatClampNeg).toInt 0 y m') (E := fun e m' => (e = 0 ∧ Hf2 (S.2 (i + Int32.ofInt 1).toNatClampNeg).toInt (S.2 (i + Int32.ofInt 2).toNatClampNeg).toInt (S.2 (i + Int32.ofInt 3).toNatClampNeg).toInt (S.2 (i + Int32.ofInt 4).toNatClampNeg).toInt 1 0 m') ∨ (e = 1 ∧ Hf2 (S.2 (i + Int32.ofInt 1).toNatClampNeg).toInt (S.2 (i + Int32.ofInt 2).toNatClampNeg).toInt (S.2 (i + Int32.ofInt 3).toNatClampNeg).toInt (S.2 (i + Int32.ofInt 4).toNatClampNeg).toInt 2 0 m')) hM (cl2 hcl hr hb) (fun y h' m' g' hy hL' eg hK => HH 0 y h' m' g' hL' hK (by omega) (fun _ => ⟨hy, eg⟩)) (fun e h' m' hL' hE => ?_)
  rcases hE with ⟨rfl, hE⟩ | ⟨rfl, hE⟩
  · exact Or.inl (⟨rfl, HH 1 0 h' m' g hL' hE (by omega) (fun z => by omega)⟩)
  · exact Or.inr (⟨rfl, HH 2 0 h' m' g hL' hE (by omega) (fun z => by omega)⟩)
theorem lc_3 {S : Nat × (Nat → Int32)} {lv : LV} {h : PH} {c s : Nat} {i : Int32} (hS : S.1 ≤ 3072) (hl : LwS lv i) (hi : 0 ≤ i.toInt ∧ i.toInt + 5 < S.1) (hL : LR h) (hc : c + 8 ≤ 601024) (hs : s + 48 ≤ 7293033) (Nx : ∀ lv' h' c' s', LwS lv' i → LR h' → c' ≤ c + 8 → s' ≤ s + 48 → Vx (Ex S 24) S M_368 [] Q1 2344 lv' [] h' c' s') : Vx (Ex S 24) S M_368 [] Q1 432 lv [] h c s := by
  have hC := Ex.mono S 24
  obtain ⟨m, g, hM, hcl, hr, hb⟩ := hL
  refine Vx.go hC te_368_432 ⟨_, hl.2.1, ⟨0, Or.inl rfl⟩, ?_⟩
  refine Vx.go hC te_368_433 ⟨_, hl.2.2.2.1, ⟨173, Or.inl rfl⟩, ?_⟩
  refine Vx.go hC te_368_434 ?_
  refine Or.inr ⟨by decide, ?_⟩
  refine p_call_mk (av := [.ref 0, .ref 173]) (rest := []) mt_53 rfl (by decide) (show c + 1 ≤ 601024 by omega) (show s + 6 ≤ 7293033 by omega) (fun q => by cases q) ?_
  have HH : ∀ (t y : Int) (h1 : PH) (m1 : MM) (g1 : Nat → Int64), LM h1 m1 g1 → Hf3 t y m1 → 0 ≤ t ∧ t ≤ 4 → (t = 0 → InI y ∧ g1 0 = ((Int32.ofInt y).toInt64)) → Vx (Ex S 24) S M_368 [] Q1 437 lv [.int (Int32.ofInt t)] h1 (c + 1) (s + 6) := by
    intro t y h1 m1 g1 hM1 hF ht hg
    refine Vx.go hC te_368_437 ⟨by decide, ?_⟩
    have hl2 := LwS.st (j := 5) (v := .int (Int32.ofInt t)) (by omega) hl
    show Vx (Ex S 24) S M_368 [] Q1 439 (px_s1 lv 5 (.int (Int32.ofInt t))) [] h1 (c + 1) (s + 6)
    refine Vx.go hC te_368_439 ⟨_, hl2.2.2.1, ⟨143, Or.inl rfl⟩, ?_⟩
    refine Vx.go hC te_368_440 ?_
    obtain ⟨gs, hgs⟩ := hM1.obj (A := 143) rfl
    refine p_call_mk (av := [.ref 143]) (rest := []) mt_233 rfl (by decide) (show c + 1 + 0 ≤ 601024 by omega) (show s + 6 + 0 ≤ 7293033 by omega) (fun _ => ⟨143, gs, rfl, hgs⟩) ?_
    have hcall := callQM (S := S) (n := 24) (μ := 233) (args := [.inr 143]) (fun v hv => by simp only [List.mem_cons, List.not_mem_nil, or_false] at hv; rw [hv]; trivial) hM1 (rf3 hF)
    simp only [List.map_cons, List.map_nil, wv, Int32.ofInt_toInt] at hcall
    refine hC _ _ _ _ _ ?_ hcall
    intro r0 h2 hz
    refine hz.elim ?_ (fun ⟨_, _, _, _, hE⟩ => False.elim hE)
    rintro ⟨y2, m2, rfl, hy2, hM2, hc2, hr2, hb2, e2, er⟩
    show Vx (Ex S 24) S M_368 [] Q1 443 (px_s1 lv 5 (.int (Int32.ofInt t))) [.int (Int32.ofInt y2)] h2 (c + 1) (s + 6)
    refine Vx.go hC te_368_443 ⟨by decide, ?_⟩
    have hl3 := LwS.st (j := 6) (v := .int (Int32.ofInt y2)) (by omega) hl2
    show Vx (Ex S 24) S M_368 [] Q1 445 (px_s1 (px_s1 lv 5 (.int (Int32.ofInt t))) 6 (.int (Int32.ofInt y2))) [] h2 (c + 1) (s + 6)
    refine Vx.go hC te_368_445 ⟨by decide, ?_⟩
    exact Nx _ _ _ _ hl3 ⟨m2, g1, hM2, hc2, hr2, hb2⟩ (by omega) (by omega)
  refine gx_53 (n := 6) (K := fun y m' => Hf3 0 y m') (E := fun e m' => (e = 1 ∧ Hf3 1 0 m')) hM (cl3 hcl hr hb) (fun y h' m' g' hy hL' eg hK => HH 0 y h' m' g' hL' hK (by omega) (fun _ => ⟨hy, eg⟩)) (fun e h' m' hL' hE => ?_)
  obtain ⟨rfl, hE⟩ := hE
  exact ⟨rfl, HH 1 0 h' m' g hL' hE (by omega) (fun z => by omega)⟩
theorem lc_4 {S : Nat × (Nat → Int32)} {lv : LV} {h : PH} {c s : Nat} {i : Int32} (hS : S.1 ≤ 3072) (hl : LwS lv i) (hi : 0 ≤ i.toInt ∧ i.toInt + 5 < S.1) (hL : LR h) (hc : c + 8 ≤ 601024) (hs : s + 48 ≤ 7293033) (Nx : ∀ lv' h' c' s', LwS lv' i → LR h' → c' ≤ c + 8 → s' ≤ s + 48 → Vx (Ex S 24) S M_368 [] Q1 2344 lv' [] h' c' s') : Vx (Ex S 24) S M_368 [] Q1 448 lv [] h c s := by
  have hC := Ex.mono S 24
  obtain ⟨m, g, hM, hcl, hr, hb⟩ := hL
  refine Vx.go hC te_368_448 ⟨_, hl.2.1, ⟨0, Or.inl rfl⟩, ?_⟩
  refine sc_load hC (k := 1) hl te_368_449 te_368_450 te_368_452 te_368_453 te_368_454 (sc_in hS hi (by decide)) ?_
  refine sc_load hC (k := 2) hl te_368_455 te_368_456 te_368_458 te_368_459 te_368_460 (sc_in hS hi (by decide)) ?_
  refine Vx.go hC te_368_461 ⟨_, hl.2.2.2.1, ⟨173, Or.inl rfl⟩, ?_⟩
  refine Vx.go hC te_368_462 ?_
  refine Or.inr ⟨by decide, ?_⟩
  refine p_call_mk (av := [.ref 0, .int (S.2 (i + Int32.ofInt 1).toNatClampNeg), .int (S.2 (i + Int32.ofInt 2).toNatClampNeg), .ref 173]) (rest := []) mt_55 rfl (by decide) (show c + 2 ≤ 601024 by omega) (show s + 12 ≤ 7293033 by omega) (fun q => by cases q) ?_
  have HH : ∀ (t y : Int) (h1 : PH) (m1 : MM) (g1 : Nat → Int64), LM h1 m1 g1 → Hf4 (S.2 (i + Int32.ofInt 1).toNatClampNeg).toInt (S.2 (i + Int32.ofInt 2).toNatClampNeg).toInt t y m1 → 0 ≤ t ∧ t ≤ 4 → (t = 0 → InI y ∧ g1 0 = ((Int32.ofInt y).toInt64)) → Vx (Ex S 24) S M_368 [] Q1 465 lv [.int (Int32.ofInt t)] h1 (c + 2) (s + 12) := by
    intro t y h1 m1 g1 hM1 hF ht hg
    refine Vx.go hC te_368_465 ⟨by decide, ?_⟩
    have hl2 := LwS.st (j := 5) (v := .int (Int32.ofInt t)) (by omega) hl
    show Vx (Ex S 24) S M_368 [] Q1 467 (px_s1 lv 5 (.int (Int32.ofInt t))) [] h1 (c + 2) (s + 12)
    refine Vx.go hC te_368_467 ⟨_, hl2.2.2.1, ⟨143, Or.inl rfl⟩, ?_⟩
    refine sc_load hC (k := 1) hl2 te_368_468 te_368_469 te_368_471 te_368_472 te_368_473 (sc_in hS hi (by decide)) ?_
    refine sc_load hC (k := 2) hl2 te_368_474 te_368_475 te_368_477 te_368_478 te_368_479 (sc_in hS hi (by decide)) ?_
    refine Vx.go hC te_368_480 ?_
    obtain ⟨gs, hgs⟩ := hM1.obj (A := 143) rfl
    refine p_call_mk (av := [.ref 143, .int (S.2 (i + Int32.ofInt 1).toNatClampNeg), .int (S.2 (i + Int32.ofInt 2).toNatClampNeg)]) (rest := []) mt_234 rfl (by decide) (show c + 2 + 0 ≤ 601024 by omega) (show s + 12 + 0 ≤ 7293033 by omega) (fun _ => ⟨143, gs, rfl, hgs⟩) ?_
    have hcall := callQM (S := S) (n := 24) (μ := 234) (args := [.inr 143, .inl ((S.2 (i + Int32.ofInt 1).toNatClampNeg) : Int32).toInt, .inl ((S.2 (i + Int32.ofInt 2).toNatClampNeg) : Int32).toInt]) (fun v hv => by simp only [List.mem_cons, List.not_mem_nil, or_false] at hv; rcases hv with rfl | rfl | rfl <;> first | trivial | exact wiI _) hM1 (rf4 hF)
    simp only [List.map_cons, List.map_nil, wv, Int32.ofInt_toInt] at hcall
    refine hC _ _ _ _ _ ?_ hcall
    intro r0 h2 hz
    refine hz.elim ?_ (fun ⟨_, _, _, _, hE⟩ => False.elim hE)
    rintro ⟨y2, m2, rfl, hy2, hM2, hc2, hr2, hb2, e2, er⟩
    show Vx (Ex S 24) S M_368 [] Q1 483 (px_s1 lv 5 (.int (Int32.ofInt t))) [.int (Int32.ofInt y2)] h2 (c + 2) (s + 12)
    refine Vx.go hC te_368_483 ⟨by decide, ?_⟩
    have hl3 := LwS.st (j := 6) (v := .int (Int32.ofInt y2)) (by omega) hl2
    show Vx (Ex S 24) S M_368 [] Q1 485 (px_s1 (px_s1 lv 5 (.int (Int32.ofInt t))) 6 (.int (Int32.ofInt y2))) [] h2 (c + 2) (s + 12)
    refine Vx.go hC te_368_485 ⟨by decide, ?_⟩
    exact Nx _ _ _ _ hl3 ⟨m2, g1, hM2, hc2, hr2, hb2⟩ (by omega) (by omega)
  refine gx_55 (n := 6) (K := fun y m' => Hf4 (S.2 (i + Int32.ofInt 1).toNatClampNeg).toInt (S.2 (i + Int32.ofInt 2).toNatClampNeg).toInt 0 y m') (E := fun e m' => (e = 2 ∧ Hf4 (S.2 (i + Int32.ofInt 1).toNatClampNeg).toInt (S.2 (i + Int32.ofInt 2).toNatClampNeg).toInt 1 0 m') ∨ (e = 0 ∧ Hf4 (S.2 (i + Int32.ofInt 1).toNatClampNeg).toInt (S.2 (i + Int32.ofInt 2).toNatClampNeg).toInt 2 0 m')) hM (cl4 hcl hr hb) (fun y h' m' g' hy hL' eg hK => HH 0 y h' m' g' hL' hK (by omega) (fun _ => ⟨hy, eg⟩)) (fun e h' m' hL' hE => ?_)
  rcases hE with ⟨rfl, hE⟩ | ⟨rfl, hE⟩
  · exact Or.inl (⟨rfl, HH 1 0 h' m' g hL' hE (by omega) (fun z => by omega)⟩)
  · exact Or.inr (⟨rfl, HH 2 0 h' m' g hL' hE (by omega) (fun z => by omega)⟩)
theorem lc_5 {S : Nat × (Nat → Int32)} {lv : LV} {h : PH} {c s : Nat} {i : Int32} (hS : S.1 ≤ 3072) (hl : LwS lv i) (hi : 0 ≤ i.toInt ∧ i.toInt + 5 < S.1) (hL : LR h) (hc : c + 8 ≤ 601024) (hs : s + 48 ≤ 7293033) (Nx : ∀ lv' h' c' s', LwS lv' i → LR h' → c' ≤ c + 8 → s' ≤ s + 48 → Vx (Ex S 24) S M_368 [] Q1 2344 lv' [] h' c' s') : Vx (Ex S 24) S M_368 [] Q1 488 lv [] h c s := by
  have hC := Ex.mono S 24
  obtain ⟨m, g, hM, hcl, hr, hb⟩ := hL
  refine Vx.go hC te_368_488 ⟨_, hl.2.1, ⟨0, Or.inl rfl⟩, ?_⟩
  refine sc_load hC (k := 1) hl te_368_489 te_368_490 te_368_492 te_368_493 te_368_494 (sc_in hS hi (by decide)) ?_
  refine sc_load hC (k := 2) hl te_368_495 te_368_496 te_368_498 te_368_499 te_368_500 (sc_in hS hi (by decide)) ?_
  refine sc_load hC (k := 3) hl te_368_501 te_368_502 te_368_504 te_368_505 te_368_506 (sc_in hS hi (by decide)) ?_
  refine sc_load hC (k := 4) hl te_368_507 te_368_508 te_368_510 te_368_511 te_368_512 (sc_in hS hi (by decide)) ?_
  refine Vx.go hC te_368_513 ?_
  refine Or.inr ⟨by decide, ?_⟩
  refine p_call_mk (av := [.ref 0, .int (S.2 (i + Int32.ofInt 1).toNatClampNeg), .int (S.2 (i + Int32.ofInt 2).toNatClampNeg), .int (S.2 (i + Int32.ofInt 3).toNatClampNeg), .int (S.2 (i + Int32.ofInt 4).toNatClampNeg)]) (rest := []) mt_58 rfl (by decide) (show c + 2 ≤ 601024 by omega) (show s + 12 ≤ 7293033 by omega) (fun q => by cases q) ?_
  have HH : ∀ (t y : Int) (h1 : PH) (m1 : MM) (g1 : Nat → Int64), LM h1 m1 g1 → Hf5 (S.2 (i + Int32.ofInt 1).toNatClampNeg).toInt (S.2 (i + Int32.ofInt 2).toNatClampNeg).toInt (S.2 (i + Int32.ofInt 3).toNatClampNeg).toInt (S.2 (i + Int32.ofInt 4).toNatClampNeg).toInt t y m1 → 0 ≤ t ∧ t ≤ 4 → (t = 0 → True) → Vx (Ex S 24) S M_368 [] Q1 516 lv [.int (Int32.ofInt t)] h1 (c + 2) (s + 12) := by
    intro t y h1 m1 g1 hM1 hF ht hg
    refine Vx.go hC te_368_516 ⟨by decide, ?_⟩
    have hl2 := LwS.st (j := 5) (v := .int (Int32.ofInt t)) (by omega) hl
    show Vx (Ex S 24) S M_368 [] Q1 518 (px_s1 lv 5 (.int (Int32.ofInt t))) [] h1 (c + 2) (s + 12)
    refine Vx.go hC te_368_518 ⟨_, hl2.2.2.1, ⟨143, Or.inl rfl⟩, ?_⟩
    refine sc_load hC (k := 1) hl2 te_368_519 te_368_520 te_368_522 te_368_523 te_368_524 (sc_in hS hi (by decide)) ?_
    refine sc_load hC (k := 2) hl2 te_368_525 te_368_526 te_368_528 te_368_529 te_368_530 (sc_in hS hi (by decide)) ?_
    refine sc_load hC (k := 3) hl2 te_368_531 te_368_532 te_368_534 te_368_535 te_368_536 (sc_in hS hi (by decide)) ?_
    refine sc_load hC (k := 4) hl2 te_368_537 te_368_538 te_368_540 te_368_541 te_368_542 (sc_in hS hi (by decide)) ?_
    refine Vx.go hC te_368_543 ?_
    obtain ⟨gs, hgs⟩ := hM1.obj (A := 143) rfl
    refine p_call_mk (av := [.ref 143, .int (S.2 (i + Int32.ofInt 1).toNatClampNeg), .int (S.2 (i + Int32.ofInt 2).toNatClampNeg), .int (S.2 (i + Int32.ofInt 3).toNatClampNeg), .int (S.2 (i + Int32.ofInt 4).toNatClampNeg)]) (rest := []) mt_236 rfl (by decide) (show c + 2 + 0 ≤ 601024 by omega) (show s + 12 + 0 ≤ 7293033 by omega) (fun _ => ⟨143, gs, rfl, hgs⟩) ?_
    have hcall := callQM (S := S) (n := 24) (μ := 236) (args := [.inr 143, .inl ((S.2 (i + Int32.ofInt 1).toNatClampNeg) : Int32).toInt, .inl ((S.2 (i + Int32.ofInt 2).toNatClampNeg) : Int32).toInt, .inl ((S.2 (i + Int32.ofInt 3).toNatClampNeg) : Int32).toInt, .inl ((S.2 (i + Int32.ofInt 4).toNatClampNeg) : Int32).toInt]) (fun v hv => by simp only [List.mem_cons, List.not_mem_nil, or_false] at hv; rcases hv with rfl | rfl | rfl | rfl | rfl <;> first | trivial | exact wiI _) hM1 (rf5 hF)
    simp only [List.map_cons, List.map_nil, wv, Int32.ofInt_toInt] at hcall
    refine hC _ _ _ _ _ ?_ hcall
    intro r0 h2 hz
    refine hz.elim ?_ (fun ⟨_, _, _, _, hE⟩ => False.elim hE)
    rintro ⟨y2, m2, rfl, hy2, hM2, hc2, hr2, hb2, e2, er⟩
    show Vx (Ex S 24) S M_368 [] Q1 546 (px_s1 lv 5 (.int (Int32.ofInt t))) [.int (Int32.ofInt y2)] h2 (c + 2) (s + 12)
    refine Vx.go hC te_368_546 ⟨_, _, rfl, rfl, ?_⟩
    show Vx (Ex S 24) S M_368 [] Q1 547 (px_s1 lv 5 (.int (Int32.ofInt t))) [] h2 (c + 2) (s + 12)
    refine Vx.go hC te_368_547 ⟨by decide, ?_⟩
    exact Nx _ _ _ _ hl2 ⟨m2, g1, hM2, hc2, hr2, hb2⟩ (by omega) (by omega)
  refine gx_58 (n := 6) (K := fun m' => Hf5 (S.2 (i + Int32.ofInt 1).toNatClampNeg).toInt (S.2 (i + Int32.ofInt 2).toNatClampNeg).toInt (S.2 (i + Int32.ofInt 3).toNatClampNeg).toInt (S.2 (i + Int32.ofInt 4).toNatClampNeg).toInt 0 0 m') (E := fun e m' => (e = 2 ∧ Hf5 (S.2 (i + Int32.ofInt 1).toNatClampNeg).toInt (S.2 (i + Int32.ofInt 2).toNatClampNeg).toInt (S.2 (i + Int32.ofInt 3).toNatClampNeg).toInt (S.2 (i + Int32.ofInt 4).toNatClampNeg).toInt 1 0 m') ∨ (e = 0 ∧ Hf5 (S.2 (i + Int32.ofInt 1).toNatClampNeg).toInt (S.2 (i + Int32.ofInt 2).toNatClampNeg).toInt (S.2 (i + Int32.ofInt 3).toNatClampNeg).toInt (S.2 (i + Int32.ofInt 4).toNatClampNeg).toInt 2 0 m')) hM (cl5 hcl hr hb) (fun h' m' hL' hK => HH 0 0 h' m' g hL' hK (by omega) (fun _ => True.intro)) (fun e h' m' hL' hE => ?_)
  rcases hE with ⟨rfl, hE⟩ | ⟨rfl, hE⟩
  · exact Or.inl (⟨rfl, HH 1 0 h' m' g hL' hE (by omega) (fun z => by omega)⟩)
  · exact Or.inr (⟨rfl, HH 2 0 h' m' g hL' hE (by omega) (fun z => by omega)⟩)
theorem lc_6 {S : Nat × (Nat → Int32)} {lv : LV} {h : PH} {c s : Nat} {i : Int32} (hS : S.1 ≤ 3072) (hl : LwS lv i) (hi : 0 ≤ i.toInt ∧ i.toInt + 5 < S.1) (hL : LR h) (hc : c + 8 ≤ 601024) (hs : s + 48 ≤ 7293033) (Nx : ∀ lv' h' c' s', LwS lv' i → LR h' → c' ≤ c + 8 → s' ≤ s + 48 → Vx (Ex S 24) S M_368 [] Q1 2344 lv' [] h' c' s') : Vx (Ex S 24) S M_368 [] Q1 550 lv [] h c s := by
  have hC := Ex.mono S 24
  obtain ⟨m, g, hM, hcl, hr, hb⟩ := hL
  refine Vx.go hC te_368_550 ⟨_, hl.2.1, ⟨0, Or.inl rfl⟩, ?_⟩
  refine sc_load hC (k := 1) hl te_368_551 te_368_552 te_368_554 te_368_555 te_368_556 (sc_in hS hi (by decide)) ?_
  refine sc_load hC (k := 2) hl te_368_557 te_368_558 te_368_560 te_368_561 te_368_562 (sc_in hS hi (by decide)) ?_
  refine Vx.go hC te_368_563 ⟨_, hl.2.2.2.1, ⟨173, Or.inl rfl⟩, ?_⟩
  refine Vx.go hC te_368_564 ?_
  refine Or.inr ⟨by decide, ?_⟩
  refine p_call_mk (av := [.ref 0, .int (S.2 (i + Int32.ofInt 1).toNatClampNeg), .int (S.2 (i + Int32.ofInt 2).toNatClampNeg), .ref 173]) (rest := []) mt_61 rfl (by decide) (show c + 2 ≤ 601024 by omega) (show s + 12 ≤ 7293033 by omega) (fun q => by cases q) ?_
  have HH : ∀ (t y : Int) (h1 : PH) (m1 : MM) (g1 : Nat → Int64), LM h1 m1 g1 → Hf6 (S.2 (i + Int32.ofInt 1).toNatClampNeg).toInt (S.2 (i + Int32.ofInt 2).toNatClampNeg).toInt t y m1 → 0 ≤ t ∧ t ≤ 4 → (t = 0 → InI y ∧ g1 0 = ((Int32.ofInt y).toInt64)) → Vx (Ex S 24) S M_368 [] Q1 567 lv [.int (Int32.ofInt t)] h1 (c + 2) (s + 12) := by
    intro t y h1 m1 g1 hM1 hF ht hg
    refine Vx.go hC te_368_567 ⟨by decide, ?_⟩
    have hl2 := LwS.st (j := 5) (v := .int (Int32.ofInt t)) (by omega) hl
    show Vx (Ex S 24) S M_368 [] Q1 569 (px_s1 lv 5 (.int (Int32.ofInt t))) [] h1 (c + 2) (s + 12)
    refine Vx.go hC te_368_569 ⟨_, hl2.2.2.1, ⟨143, Or.inl rfl⟩, ?_⟩
    refine sc_load hC (k := 1) hl2 te_368_570 te_368_571 te_368_573 te_368_574 te_368_575 (sc_in hS hi (by decide)) ?_
    refine sc_load hC (k := 2) hl2 te_368_576 te_368_577 te_368_579 te_368_580 te_368_581 (sc_in hS hi (by decide)) ?_
    refine Vx.go hC te_368_582 ?_
    obtain ⟨gs, hgs⟩ := hM1.obj (A := 143) rfl
    refine p_call_mk (av := [.ref 143, .int (S.2 (i + Int32.ofInt 1).toNatClampNeg), .int (S.2 (i + Int32.ofInt 2).toNatClampNeg)]) (rest := []) mt_237 rfl (by decide) (show c + 2 + 0 ≤ 601024 by omega) (show s + 12 + 0 ≤ 7293033 by omega) (fun _ => ⟨143, gs, rfl, hgs⟩) ?_
    have hcall := callQM (S := S) (n := 24) (μ := 237) (args := [.inr 143, .inl ((S.2 (i + Int32.ofInt 1).toNatClampNeg) : Int32).toInt, .inl ((S.2 (i + Int32.ofInt 2).toNatClampNeg) : Int32).toInt]) (fun v hv => by simp only [List.mem_cons, List.not_mem_nil, or_false] at hv; rcases hv with rfl | rfl | rfl <;> first | trivial | exact wiI _) hM1 (rf6 hF)
    simp only [List.map_cons, List.map_nil, wv, Int32.ofInt_toInt] at hcall
    refine hC _ _ _ _ _ ?_ hcall
    intro r0 h2 hz
    refine hz.elim ?_ (fun ⟨_, _, _, _, hE⟩ => False.elim hE)
    rintro ⟨y2, m2, rfl, hy2, hM2, hc2, hr2, hb2, e2, er⟩
    show Vx (Ex S 24) S M_368 [] Q1 585 (px_s1 lv 5 (.int (Int32.ofInt t))) [.int (Int32.ofInt y2)] h2 (c + 2) (s + 12)
    refine Vx.go hC te_368_585 ⟨by decide, ?_⟩
    have hl3 := LwS.st (j := 6) (v := .int (Int32.ofInt y2)) (by omega) hl2
    show Vx (Ex S 24) S M_368 [] Q1 587 (px_s1 (px_s1 lv 5 (.int (Int32.ofInt t))) 6 (.int (Int32.ofInt y2))) [] h2 (c + 2) (s + 12)
    refine Vx.go hC te_368_587 ⟨by decide, ?_⟩
    exact Nx _ _ _ _ hl3 ⟨m2, g1, hM2, hc2, hr2, hb2⟩ (by omega) (by omega)
  refine gx_61 (n := 6) (K := fun y m' => Hf6 (S.2 (i + Int32.ofInt 1).toNatClampNeg).toInt (S.2 (i + Int32.ofInt 2).toNatClampNeg).toInt 0 y m') (E := fun e m' => (e = 2 ∧ Hf6 (S.2 (i + Int32.ofInt 1).toNatClampNeg).toInt (S.2 (i + Int32.ofInt 2).toNatClampNeg).toInt 1 0 m') ∨ (e = 0 ∧ Hf6 (S.2 (i + Int32.ofInt 1).toNatClampNeg).toInt (S.2 (i + Int32.ofInt 2).toNatClampNeg).toInt 2 0 m')) hM (cl6 hcl hr hb) (fun y h' m' g' hy hL' eg hK => HH 0 y h' m' g' hL' hK (by omega) (fun _ => ⟨hy, eg⟩)) (fun e h' m' hL' hE => ?_)
  rcases hE with ⟨rfl, hE⟩ | ⟨rfl, hE⟩
  · exact Or.inl (⟨rfl, HH 1 0 h' m' g hL' hE (by omega) (fun z => by omega)⟩)
  · exact Or.inr (⟨rfl, HH 2 0 h' m' g hL' hE (by omega) (fun z => by omega)⟩)
theorem lc_26 {S : Nat × (Nat → Int32)} {lv : LV} {h : PH} {c s : Nat} {i : Int32} (hS : S.1 ≤ 3072) (hl : LwS lv i) (hi : 0 ≤ i.toInt ∧ i.toInt + 5 < S.1) (hL : LR h) (hc : c + 8 ≤ 601024) (hs : s + 48 ≤ 7293033) (Nx : ∀ lv' h' c' s', LwS lv' i → LR h' → c' ≤ c + 8 → s' ≤ s + 48 → Vx (Ex S 24) S M_368 [] Q1 2344 lv' [] h' c' s') : Vx (Ex S 24) S M_368 [] Q1 1335 lv [] h c s := by
  have hC := Ex.mono S 24
  obtain ⟨m, g, hM, hcl, hr, hb⟩ := hL
  refine Vx.go hC te_368_1335 ⟨_, hl.2.1, ⟨0, Or.inl rfl⟩, ?_⟩
  refine sc_load hC (k := 1) hl te_368_1336 te_368_1337 te_368_1339 te_368_1340 te_368_1341 (sc_in hS hi (by decide)) ?_
  refine sc_load hC (k := 2) hl te_368_1342 te_368_1343 te_368_1345 te_368_1346 te_368_1347 (sc_in hS hi (by decide)) ?_
  refine sc_load hC (k := 3) hl te_368_1348 te_368_1349 te_368_1351 te_368_1352 te_368_1353 (sc_in hS hi (by decide)) ?_
  refine Vx.go hC te_368_1354 ⟨_, hl.2.2.2.1, ⟨173, Or.inl rfl⟩, ?_⟩
  refine Vx.go hC te_368_1355 ?_
  refine Or.inr ⟨by decide, ?_⟩
  refine p_call_mk (av := [.ref 0, .int (S.2 (i + Int32.ofInt 1).toNatClampNeg), .int (S.2 (i + Int32.ofInt 2).toNatClampNeg), .int (S.2 (i + Int32.ofInt 3).toNatClampNeg), .ref 173]) (rest := []) mt_165 rfl (by decide) (show c + 7 ≤ 601024 by omega) (show s + 42 ≤ 7293033 by omega) (fun q => by cases q) ?_
  have HH : ∀ (t y : Int) (h1 : PH) (m1 : MM) (g1 : Nat → Int64), LM h1 m1 g1 → Hf26 (S.2 (i + Int32.ofInt 1).toNatClampNeg).toInt (S.2 (i + Int32.ofInt 2).toNatClampNeg).toInt (S.2 (i + Int32.ofInt 3).toNatClampNeg).toInt t y m1 → 0 ≤ t ∧ t ≤ 4 → (t = 0 → InI y ∧ g1 0 = ((Int32.ofInt y).toInt64)) → Vx (Ex S 24) S M_368 [] Q1 1358 lv [.int (Int32.ofInt t)] h1 (c + 7) (s + 42) := by
    intro t y h1 m1 g1 hM1 hF ht hg
    refine Vx.go hC te_368_1358 ⟨by decide, ?_⟩
    have hl2 := LwS.st (j := 5) (v := .int (Int32.ofInt t)) (by omega) hl
    show Vx (Ex S 24) S M_368 [] Q1 1360 (px_s1 lv 5 (.int (Int32.ofInt t))) [] h1 (c + 7) (s + 42)
    refine Vx.go hC te_368_1360 ⟨_, hl2.2.2.1, ⟨143, Or.inl rfl⟩, ?_⟩
    refine sc_load hC (k := 1) hl2 te_368_1361 te_368_1362 te_368_1364 te_368_1365 te_368_1366 (sc_in hS hi (by decide)) ?_
    refine sc_load hC (k := 2) hl2 te_368_1367 te_368_1368 te_368_1370 te_368_1371 te_368_1372 (sc_in hS hi (by decide)) ?_
    refine sc_load hC (k := 3) hl2 te_368_1373 te_368_1374 te_368_1376 te_368_1377 te_368_1378 (sc_in hS hi (by decide)) ?_
    refine Vx.go hC te_368_1379 ?_
    obtain ⟨gs, hgs⟩ := hM1.obj (A := 143) rfl
    refine p_call_mk (av := [.ref 143, .int (S.2 (i + Int32.ofInt 1).toNatClampNeg), .int (S.2 (i + Int32.ofInt 2).toNatClampNeg), .int (S.2 (i + Int32.ofInt 3).toNatClampNeg)]) (rest := []) mt_325 rfl (by decide) (show c + 7 + 0 ≤ 601024 by omega) (show s + 42 + 0 ≤ 7293033 by omega) (fun _ => ⟨143, gs, rfl, hgs⟩) ?_
    have hcall := callQM (S := S) (n := 24) (μ := 325) (args := [.inr 143, .inl ((S.2 (i + Int32.ofInt 1).toNatClampNeg) : Int32).toInt, .inl ((S.2 (i + Int32.ofInt 2).toNatClampNeg) : Int32).toInt, .inl ((S.2 (i + Int32.ofInt 3).toNatClampNeg) : Int32).toInt]) (fun v hv => by simp only [List.mem_cons, List.not_mem_nil, or_false] at hv; rcases hv with rfl | rfl | rfl | rfl <;> first | trivial | exact wiI _) hM1 (rf26 hF)
    simp only [List.map_cons, List.map_nil, wv, Int32.ofInt_toInt] at hcall
    refine hC _ _ _ _ _ ?_ hcall
    intro r0 h2 hz
    refine hz.elim ?_ (fun ⟨_, _, _, _, hE⟩ => False.elim hE)
    rintro ⟨y2, m2, rfl, hy2, hM2, hc2, hr2, hb2, e2, er⟩
    show Vx (Ex S 24) S M_368 [] Q1 1382 (px_s1 lv 5 (.int (Int32.ofInt t))) [.int (Int32.ofInt y2)] h2 (c + 7) (s + 42)
    refine Vx.go hC te_368_1382 ⟨by decide, ?_⟩
    have hl3 := LwS.st (j := 6) (v := .int (Int32.ofInt y2)) (by omega) hl2
    show Vx (Ex S 24) S M_368 [] Q1 1384 (px_s1 (px_s1 lv 5 (.int (Int32.ofInt t))) 6 (.int (Int32.ofInt y2))) [] h2 (c + 7) (s + 42)
    refine Vx.go hC te_368_1384 ⟨_, hl3.2.2.1, ⟨143, Or.inl rfl⟩, ?_⟩
    refine Vx.go hC te_368_1385 ?_
    obtain ⟨gs2, hgs2⟩ := hM2.obj (A := 143) rfl
    refine p_call_mk (av := [.ref 143]) (rest := []) mt_225 rfl (by decide) (show c + 7 + 0 ≤ 601024 by omega) (show s + 42 + 0 ≤ 7293033 by omega) (fun _ => ⟨143, gs2, rfl, hgs2⟩) ?_
    have hcall2 := callQM (S := S) (n := 24) (μ := 225) (args := [.inr 143]) (fun v hv => by simp only [List.mem_cons, List.not_mem_nil, or_false] at hv; rw [hv]; trivial) hM2 ((f_225 (S := S) (n := 23) (mem := m2) (K := fun z m' => z = m2 143 0 ∧ m' = m2) ⟨rfl, rfl⟩).q (E := fun _ _ => False) (Ex.mono S 24))
    simp only [List.map_cons, List.map_nil, wv] at hcall2
    refine hC _ _ _ _ _ ?_ hcall2
    intro r1 h3 hz
    refine hz.elim ?_ (fun ⟨_, _, _, _, hE⟩ => False.elim hE)
    rintro ⟨y3, m3, rfl, hy3, hM3, e3, e4⟩
    subst e4
    rw [e2] at e3
    subst e3
    show Vx (Ex S 24) S M_368 [] Q1 1388 (px_s1 (px_s1 lv 5 (.int (Int32.ofInt y3))) 6 (.int (Int32.ofInt y2))) [.int (Int32.ofInt y3)] h3 (c + 7) (s + 42)
    have e5 : px_g (px_s1 (px_s1 lv 5 (.int (Int32.ofInt y3))) 6 (.int (Int32.ofInt y2))) 5 = some (.int (Int32.ofInt y3)) := pg_ne2 (by omega) (pg_self _ _ _) (fun _ => rfl)
    refine Vx.go hC te_368_1388 ⟨_, e5, ?_⟩
    refine Vx.go hC te_368_1390 ?_
    refine ⟨by decide, fun _ => ?_, fun q => absurd rfl q⟩
    show Vx (Ex S 24) S M_368 [] Q1 1395 (px_s1 (px_s1 lv 5 (.int (Int32.ofInt y3))) 6 (.int (Int32.ofInt y2))) [] h3 (c + 7) (s + 42)
    refine Vx.go hC te_368_1395 ⟨_, e5, ?_⟩
    refine Vx.go hC te_368_1397 ?_
    refine ⟨by decide, fun q => ?_, fun q => ?_⟩
    · show Vx (Ex S 24) S M_368 [] Q1 1412 (px_s1 (px_s1 lv 5 (.int (Int32.ofInt y3))) 6 (.int (Int32.ofInt y2))) [] h3 (c + 7) (s + 42)
      refine Vx.go hC te_368_1412 ⟨by decide, ?_⟩
      exact Nx _ _ _ _ hl3 ⟨m3, g1, hM3, hc2, hr2, hb2⟩ (by omega) (by omega)
    · show Vx (Ex S 24) S M_368 [] Q1 1400 (px_s1 (px_s1 lv 5 (.int (Int32.ofInt y3))) 6 (.int (Int32.ofInt y2))) [] h3 (c + 7) (s + 42)
      have z : y3 = 0 := by
        have q1 : Int32.ofInt y3 = 0 := Classical.byContradiction q
        have q2 := wi (x := y3) (by unfold InI; omega)
        rw [q1] at q2
        exact q2.symm
      obtain ⟨hy, eg⟩ := hg z
      have er := er z
      subst er
      have e6 : px_g (px_s1 (px_s1 lv 5 (.int (Int32.ofInt y3))) 6 (.int (Int32.ofInt y2))) 6 = some (.int (Int32.ofInt y2)) := pg_self _ _ _
      refine Vx.go hC te_368_1400 ⟨_, hl3.2.2.2.1, ⟨173, Or.inl rfl⟩, ?_⟩
      refine Vx.go hC te_368_1401 ?_
      refine Vx.go hC te_368_1402 (show p_lald h3 _ (fun st => Vx (Ex S 24) S M_368 [] Q1 1403 (px_s1 (px_s1 lv 5 (.int (Int32.ofInt y3))) 6 (.int (Int32.ofInt y2))) st h3 (c + 7) (s + 42)) from lald_mk hM3.2.1 vp00 ?_)
      rw [show (Int32.ofInt 0).toNatClampNeg = 0 by decide, eg]
      refine Vx.go hC te_368_1403 ⟨_, e6, ?_⟩
      refine Vx.go hC te_368_1405 ?_
      refine Vx.go hC te_368_1406 ?_
      show Vx (Ex S 24) S M_368 [] Q1 1407 (px_s1 (px_s1 lv 5 (.int (Int32.ofInt y3))) 6 (.int (Int32.ofInt y2))) [.int (lg_cmp (Int32.ofInt y2).toInt64 (Int32.ofInt y2).toInt64)] h3 (c + 7) (s + 42)
      rw [lg_self]
      refine Vx.go hC te_368_1407 ?_
      refine ⟨by decide, fun _ => ?_, fun q => absurd rfl q⟩
      show Vx (Ex S 24) S M_368 [] Q1 1412 (px_s1 (px_s1 lv 5 (.int (Int32.ofInt y3))) 6 (.int (Int32.ofInt y2))) [] h3 (c + 7) (s + 42)
      refine Vx.go hC te_368_1412 ⟨by decide, ?_⟩
      exact Nx _ _ _ _ hl3 ⟨m3, g1, hM3, hc2, hr2, hb2⟩ (by omega) (by omega)
  refine gx_165 (n := 6) (K := fun y m' => Hf26 (S.2 (i + Int32.ofInt 1).toNatClampNeg).toInt (S.2 (i + Int32.ofInt 2).toNatClampNeg).toInt (S.2 (i + Int32.ofInt 3).toNatClampNeg).toInt 0 y m') (E := fun e m' => (e = 2 ∧ Hf26 (S.2 (i + Int32.ofInt 1).toNatClampNeg).toInt (S.2 (i + Int32.ofInt 2).toNatClampNeg).toInt (S.2 (i + Int32.ofInt 3).toNatClampNeg).toInt 1 0 m') ∨ (e = 0 ∧ Hf26 (S.2 (i + Int32.ofInt 1).toNatClampNeg).toInt (S.2 (i + Int32.ofInt 2).toNatClampNeg).toInt (S.2 (i + Int32.ofInt 3).toNatClampNeg).toInt 2 0 m') ∨ (e = 1 ∧ Hf26 (S.2 (i + Int32.ofInt 1).toNatClampNeg).toInt (S.2 (i + Int32.ofInt 2).toNatClampNeg).toInt (S.2 (i + Int32.ofInt 3).toNatClampNeg).toInt 3 0 m')) hM (cl26 hcl hr hb) (fun y h' m' g' hy hL' eg hK => HH 0 y h' m' g' hL' hK (by omega) (fun _ => ⟨hy, eg⟩)) (fun e h' m' hL' hE => ?_)
  rcases hE with ⟨rfl, hE⟩ | ⟨rfl, hE⟩ | ⟨rfl, hE⟩
  · exact Or.inl (⟨rfl, HH 1 0 h' m' g hL' hE (by omega) (fun z => by omega)⟩)
  · exact Or.inr (Or.inl (⟨rfl, HH 2 0 h' m' g hL' hE (by omega) (fun z => by omega)⟩))
  · exact Or.inr (Or.inr (⟨rfl, HH 3 0 h' m' g hL' hE (by omega) (fun z => by omega)⟩))
end
section
/-! the law's loop -/
theorem add_I {i : Int32} {k : Int} (h : InI (i.toInt + k)) : (i + Int32.ofInt k).toInt = i.toInt + k := by
  rw [show i + Int32.ofInt k = Int32.ofInt (i.toInt + k) by rw [Int32.ofInt_add, Int32.ofInt_toInt]]
  exact wi h
theorem len_I {L : Nat} (h : L ≤ 3072) : (Int32.ofNat L - (Int8.ofInt 6).toInt32).toInt = (L : Int) - 6 := by
  rw [show Int32.ofNat L - (Int8.ofInt 6).toInt32 = Int32.ofInt ((L : Int) - 6) by rw [Int32.ofInt_sub]; rfl]
  exact wi (by unfold InI; omega)
theorem law_loop {S : Nat × (Nat → Int32)} (hS : S.1 ≤ 3072) : ∀ (N : Nat) (i : Int32) (lv : LV) (h : PH) (c s : Nat), LwS lv i → LR h → 0 ≤ i.toInt → i.toInt ≤ 3078 → ((S.1 : Int) + 6 - i.toInt).toNat < N → (c : Int) ≤ 1000 + 2 * i.toInt → (s : Int) ≤ 20000 + 8 * i.toInt → Vx (Ex S 24) S M_368 [] Q1 23 lv [] h c s := by
  intro N
  induction N with
  | zero => intros; omega
  | succ N ih =>
    intro i lv h c s hl hL h0 h1 hN hc hs
    have hC := Ex.mono S 24
    refine Vx.go hC te_368_23 ⟨_, hl.2.2.2.2, ?_⟩
    refine Vx.go hC te_368_25 ⟨_, hl.1, ⟨0, Or.inr rfl⟩, ?_⟩
    refine Vx.go hC te_368_26 ?_
    show Vx (Ex S 24) S M_368 [] Q1 27 lv [.int (Int32.ofNat S.1), .int i] h c s
    refine Vx.go hC te_368_27 (Vx.go hC te_368_29 (Vx.go hC te_368_30 ?_))
    refine ⟨by decide, fun q => ?_, fun q => ?_⟩
    · show Vx (Ex S 24) S M_368 [] Q1 2350 lv [] h c s
      exact Vx.go hC te_368_2350 (Vx.go hC te_368_2351 ⟨_, rfl, ⟨_, rfl, rfl⟩, rfl⟩)
    · have q : ¬ (Int32.ofNat S.1 - (Int8.ofInt 6).toInt32 < i) := q
      rw [Int32.lt_iff_toInt_lt, len_I hS] at q
      have hi : 0 ≤ i.toInt ∧ i.toInt + 5 < S.1 := by omega
      have Nx : ∀ lv' h' c' s', LwS lv' i → LR h' → c' ≤ c + 8 → s' ≤ s + 48 → Vx (Ex S 24) S M_368 [] Q1 2344 lv' [] h' c' s' := by
        intro lv' h' c' s' hl' hL' hc' hs'
        have e := add_I (i := i) (k := 6) (by unfold InI; omega)
        refine Vx.go hC te_368_2344 ⟨by decide, _, hl'.2.2.2.2, ?_⟩
        refine Vx.go hC te_368_2347 ⟨by decide, ?_⟩
        exact ih (i + Int32.ofInt 6) _ h' c' s' hl'.inc hL' (by rw [e]; omega) (by rw [e]; omega) (by rw [e]; omega) (by rw [e]; omega) (by rw [e]; omega)
      show Vx (Ex S 24) S M_368 [] Q1 33 lv [] h c s
      refine Vx.go hC te_368_33 ⟨_, hl.1, ⟨0, Or.inr rfl⟩, ?_⟩
      refine Vx.go hC te_368_34 ⟨_, hl.2.2.2.2, ?_⟩
      refine Vx.go hC te_368_36 ⟨vp_in_iff.mpr (by omega), ?_⟩
      show Vx (Ex S 24) S M_368 [] Q1 37 lv [.int (S.2 i.toNatClampNeg)] h c s
      refine Vx.go hC te_368_37 (Vx.go hC te_368_39 ?_)
      show Vx (Ex S 24) S M_368 [] Q1 40 lv [.int (S.2 i.toNatClampNeg &&& (Int8.ofInt 63).toInt32)] h c s
      generalize S.2 i.toNatClampNeg &&& (Int8.ofInt 63).toInt32 = x
      refine Vx.go hC te_368_40 ⟨fun _ => ⟨by decide, Nx _ _ _ _ hl hL (by omega) (by omega)⟩, fun q1 q2 => ?_⟩
      have hj : (x.toInt - 0).toNat < 49 := by omega
      generalize (x.toInt - 0).toNat = j at hj ⊢
      have a : j = 0 ∨ j = 1 ∨ j = 2 ∨ j = 3 ∨ j = 4 ∨ j = 5 ∨ j = 6 ∨ j = 7 ∨ j = 8 ∨ j = 9 ∨ j = 10 ∨ j = 11 ∨ j = 12 ∨ j = 13 ∨ j = 14 ∨ j = 15 ∨ j = 16 ∨ j = 17 ∨ j = 18 ∨ j = 19 ∨ j = 20 ∨ j = 21 ∨ j = 22 ∨ j = 23 ∨ j = 24 ∨ j = 25 ∨ j = 26 ∨ j = 27 ∨ j = 28 ∨ j = 29 ∨ j = 30 ∨ j = 31 ∨ j = 32 ∨ j = 33 ∨ j = 34 ∨ j = 35 ∨ j = 36 ∨ j = 37 ∨ j = 38 ∨ j = 39 ∨ j = 40 ∨ j = 41 ∨ j = 42 ∨ j = 43 ∨ j = 44 ∨ j = 45 ∨ j = 46 ∨ j = 47 ∨ j = 48 := by omega
      rcases a with rfl | rfl | rfl | rfl | rfl | rfl | rfl | rfl | rfl | rfl | rfl | rfl | rfl | rfl | rfl | rfl | rfl | rfl | rfl | rfl | rfl | rfl | rfl | rfl | rfl | rfl | rfl | rfl | rfl | rfl | rfl | rfl | rfl | rfl | rfl | rfl | rfl | rfl | rfl | rfl | rfl | rfl | rfl | rfl | rfl | rfl | rfl | rfl | rfl
      · exact ⟨_, rfl, by decide, lc_0 hS hl hi hL (by omega) (by omega) Nx⟩
      · exact ⟨_, rfl, by decide, lc_1 hS hl hi hL (by omega) (by omega) Nx⟩
      · exact ⟨_, rfl, by decide, lc_2 hS hl hi hL (by omega) (by omega) Nx⟩
      · exact ⟨_, rfl, by decide, lc_3 hS hl hi hL (by omega) (by omega) Nx⟩
      · exact ⟨_, rfl, by decide, lc_4 hS hl hi hL (by omega) (by omega) Nx⟩
      · exact ⟨_, rfl, by decide, lc_5 hS hl hi hL (by omega) (by omega) Nx⟩
      · exact ⟨_, rfl, by decide, lc_6 hS hl hi hL (by omega) (by omega) Nx⟩
      · exact ⟨_, rfl, by decide, lc_7 hS hl hi hL (by omega) (by omega) Nx⟩
      · exact ⟨_, rfl, by decide, lc_8 hS hl hi hL (by omega) (by omega) Nx⟩
      · exact ⟨_, rfl, by decide, lc_9 hS hl hi hL (by omega) (by omega) Nx⟩
      · exact ⟨_, rfl, by decide, lc_10 hS hl hi hL (by omega) (by omega) Nx⟩
      · exact ⟨_, rfl, by decide, lc_11 hS hl hi hL (by omega) (by omega) Nx⟩
      · exact ⟨_, rfl, by decide, lc_12 hS hl hi hL (by omega) (by omega) Nx⟩
      · exact ⟨_, rfl, by decide, lc_13 hS hl hi hL (by omega) (by omega) Nx⟩
      · exact ⟨_, rfl, by decide, lc_14 hS hl hi hL (by omega) (by omega) Nx⟩
      · exact ⟨_, rfl, by decide, lc_15 hS hl hi hL (by omega) (by omega) Nx⟩
      · exact ⟨_, rfl, by decide, lc_16 hS hl hi hL (by omega) (by omega) Nx⟩
      · exact ⟨_, rfl, by decide, lc_17 hS hl hi hL (by omega) (by omega) Nx⟩
      · exact ⟨_, rfl, by decide, lc_18 hS hl hi hL (by omega) (by omega) Nx⟩
      · exact ⟨_, rfl, by decide, lc_19 hS hl hi hL (by omega) (by omega) Nx⟩
      · exact ⟨_, rfl, by decide, lc_20 hS hl hi hL (by omega) (by omega) Nx⟩
      · exact ⟨_, rfl, by decide, lc_21 hS hl hi hL (by omega) (by omega) Nx⟩
      · exact ⟨_, rfl, by decide, lc_22 hS hl hi hL (by omega) (by omega) Nx⟩
      · exact ⟨_, rfl, by decide, lc_23 hS hl hi hL (by omega) (by omega) Nx⟩
      · exact ⟨_, rfl, by decide, lc_24 hS hl hi hL (by omega) (by omega) Nx⟩
      · exact ⟨_, rfl, by decide, lc_25 hS hl hi hL (by omega) (by omega) Nx⟩
      · exact ⟨_, rfl, by decide, lc_26 hS hl hi hL (by omega) (by omega) Nx⟩
      · exact ⟨_, rfl, by decide, lc_27 hS hl hi hL (by omega) (by omega) Nx⟩
      · exact ⟨_, rfl, by decide, lc_28 hS hl hi hL (by omega) (by omega) Nx⟩
      · exact ⟨_, rfl, by decide, lc_29 hS hl hi hL (by omega) (by omega) Nx⟩
      · exact ⟨_, rfl, by decide, lc_30 hS hl hi hL (by omega) (by omega) Nx⟩
      · exact ⟨_, rfl, by decide, lc_31 hS hl hi hL (by omega) (by omega) Nx⟩
      · exact ⟨_, rfl, by decide, lc_32 hS hl hi hL (by omega) (by omega) Nx⟩
      · exact ⟨_, rfl, by decide, lc_33 hS hl hi hL (by omega) (by omega) Nx⟩
      · exact ⟨_, rfl, by decide, lc_34 hS hl hi hL (by omega) (by omega) Nx⟩
      · exact ⟨_, rfl, by decide, lc_35 hS hl hi hL (by omega) (by omega) Nx⟩
      · exact ⟨_, rfl, by decide, lc_36 hS hl hi hL (by omega) (by omega) Nx⟩
      · exact ⟨_, rfl, by decide, lc_37 hS hl hi hL (by omega) (by omega) Nx⟩
      · exact ⟨_, rfl, by decide, lc_38 hS hl hi hL (by omega) (by omega) Nx⟩
      · exact ⟨_, rfl, by decide, lc_39 hS hl hi hL (by omega) (by omega) Nx⟩
      · exact ⟨_, rfl, by decide, lc_40 hS hl hi hL (by omega) (by omega) Nx⟩
      · exact ⟨_, rfl, by decide, lc_41 hS hl hi hL (by omega) (by omega) Nx⟩
      · exact ⟨_, rfl, by decide, lc_42 hS hl hi hL (by omega) (by omega) Nx⟩
      · exact ⟨_, rfl, by decide, lc_43 hS hl hi hL (by omega) (by omega) Nx⟩
      · exact ⟨_, rfl, by decide, lc_44 hS hl hi hL (by omega) (by omega) Nx⟩
      · exact ⟨_, rfl, by decide, lc_45 hS hl hi hL (by omega) (by omega) Nx⟩
      · exact ⟨_, rfl, by decide, lc_46 hS hl hi hL (by omega) (by omega) Nx⟩
      · exact ⟨_, rfl, by decide, lc_47 hS hl hi hL (by omega) (by omega) Nx⟩
      · exact ⟨_, rfl, by decide, lc_48 hS hl hi hL (by omega) (by omega) Nx⟩
end
section
/-! steps of the pure machine by hand, for loops that are known whole -/
theorem lR.ref {θ : Nat → Int32} {lv : LW} {lv' : LV} (h : lR θ lv lv') {i a : Nat} (hi : lv[i]? = some (.inr (.inr (.ref a)))) : px_g lv' i = some (.ref a) := by
  rcases h i _ hi with q | ⟨w, g1, g2, -⟩
  · cases q
  · rw [g1, show w = .ref a from g2]
abbrev MAF : Type := EV → LW → LW → HT → (List EV → Bool) → (Nat → LW → LW → HT → Bool) → Bool → Bool
def o_mac (f : MAF) (op : OPF) : OPF := fun X env lv st m h c s go cut call ret => match Nat.ble c (pC X.2.1) && Nat.ble s (pS X.2.1) with
  | true => f env lv st h cut (fun pc lv st h => go pc lv st m h c s) (op X env lv st m h c s go cut call ret)
  | false => op X env lv st m h c s go cut call ret
def MOK (θ : Nat → Int32) (L : Nat) (C : Nat → List Value → PH → (Rs → PH → Prop) → Prop) (M : PM) (hd : HD4) (Q : Rs → PH → Prop) (pc : Nat) (f : MAF) : Prop :=
  ∀ (env : EV) (lv st : LW) (m : Nat) (h : HT) (c s : Nat) (cut : List EV → Bool) (go : Nat → LW → LW → HT → Bool) (els : Bool) (lv' : LV) (st' : List Value) (h' : PH),
    eR θ env → lR θ lv lv' → A2 (vR θ) st st' → hR θ m h h' →
    (∀ pc2 lv2 st2 h2, go pc2 lv2 st2 h2 = true → ∀ lv2' st2' h2', lR θ lv2 lv2' → A2 (vR θ) st2 st2' → hR θ m h2 h2' → Vx C (L, θ) M hd Q pc2 lv2' st2' h2' c s) →
    c ≤ pC M ∧ s ≤ pS M → f env lv st h cut go els = true → els = true ∨ CUT θ cut ∨ Vx C (L, θ) M hd Q pc lv' st' h' c s
theorem SOK.mac {θ : Nat → Int32} {L : Nat} {C : Nat → List Value → PH → (Rs → PH → Prop) → Prop} {M : PM} {hd : HD4} {Q : Rs → PH → Prop} {pc : Nat} {f : MAF} {op : OPF} (hf : MOK θ L C M hd Q pc f) (hop : SOK θ L C M hd Q pc op) : SOK θ L C M hd Q pc (o_mac f op) := by
  intro env lv st m h c s go cut call ret lv' st' h' he hlv hst hh hgo hcall hret H
  unfold o_mac at H
  split at H
  · rename_i hb
    rw [Bool.and_eq_true, Nat.ble_eq, Nat.ble_eq] at hb
    rcases hf env lv st m h c s cut _ _ lv' st' h' he hlv hst hh (fun pc2 lv2 st2 h2 H2 => hgo pc2 lv2 st2 m h2 c s H2) hb H with q | q | q
    · exact hop env lv st m h c s go cut call ret lv' st' h' he hlv hst hh hgo hcall hret q
    · exact Or.inl q
    · exact Or.inr q
  · exact hop env lv st m h c s go cut call ret lv' st' h' he hlv hst hh hgo hcall hret H
end
section
/-! a table of functions is that of a method -/
noncomputable def mkM (ml : List (Nat × MAF)) (te : TE) : Nat × OPF := (te.1, match ml.find? (fun q => q.1 == te.1) with
  | some q => o_mac q.2 (mkO te)
  | none => mkO te)
def EOK (θ : Nat → Int32) (L μ : Nat) (N : MEn) : Prop := MT[μ]? = some N.1 ∧ N.2.1 = (if pK N.1 = 3 then hdOf μ else []) ∧ (∀ v ∈ N.2.2.1, v = aU) ∧ pN N.1 ≤ pL N.1 ∧ ∀ (n : Nat) (Q : Rs → PH → Prop), ∀ e ∈ N.2.2.2, SOK θ L (Ex (L, θ) (n + 4)) N.1 N.2.1 Q e.1 e.2
theorem SOK.tab {θ : Nat → Int32} {L : Nat} {C : Nat → List Value → PH → (Rs → PH → Prop) → Prop} {M : PM} {hd : HD4} {Q : Rs → PH → Prop} {ml : List (Nat × MAF)} (hC : Cmono C) (ht : tInc (pT M) = true) (hml : ∀ q ∈ ml, MOK θ L C M hd Q q.1 q.2) {te : TE} (hte : te ∈ pT M) : SOK θ L C M hd Q (mkM ml te).1 (mkM ml te).2 := by
  have hf := tInc.find ht hte
  have h0 : SOK θ L C M hd Q te.1 (mkO te) := SOK.of hC hf
  unfold mkM
  dsimp only
  split
  · rename_i q hq
    have h1 := hml q (List.mem_of_find?_eq_some hq)
    have h2 : q.1 = te.1 := by have h3 := List.find?_some hq; simpa using h3
    rw [h2] at h1
    exact SOK.mac h1 h0
  · exact h0
theorem EOK.of {θ : Nat → Int32} {L μ : Nat} {M : PM} {hd : HD4} {pad : LW} {T : List (Nat × OPF)} {ml : List (Nat × MAF)} (h1 : MT[μ]? = some M) (h2 : hd = if pK M = 3 then hdOf μ else []) (h3 : pad.all isU = true) (h4 : Nat.ble (pN M) (pL M) = true) (hT : T = (pT M).map (mkM ml)) (ht : tInc (pT M) = true) (hml : ∀ (n : Nat) (Q : Rs → PH → Prop), ∀ q ∈ ml, MOK θ L (Ex (L, θ) (n + 4)) M hd Q q.1 q.2) : EOK θ L μ (M, hd, pad, T) := by
  refine ⟨h1, h2, fun v hv => isU_ok (List.all_eq_true.mp h3 v hv), Nat.le_of_ble_eq_true h4, fun n Q e he => ?_⟩
  have he : e ∈ T := he
  rw [hT] at he
  obtain ⟨te, h5, rfl⟩ := List.mem_map.mp he
  exact SOK.tab (Ex.mono _ _) ht (hml n Q) h5
def ROKa (θ : Nat → Int32) (L : Nat) : Nat → List MEn → Prop
  | _, [] => True
  | k, N :: l => (N.2.2.2 = [] ∨ EOK θ L k N) ∧ ROKa θ L (k + 1) l
theorem ROKa.get {θ : Nat → Int32} {L : Nat} : ∀ {l : List MEn} {k j : Nat} {N : MEn}, ROKa θ L k l → l[j]? = some N → N.2.2.2 = [] ∨ EOK θ L (k + j) N
  | [], k, j, N, _, h => by simp at h
  | M :: l, k, 0, N, h, hN => by simp at hN; subst hN; exact h.1
  | M :: l, k, j + 1, N, h, hN => by
    have := ROKa.get h.2 (show l[j]? = some N by simpa using hN)
    rwa [show k + 1 + j = k + (j + 1) by omega] at this
def RRa (θ : Nat → Int32) (L : Nat) : Nat → List (List MEn) → Prop
  | _, [] => True
  | r, l :: rs => ROKa θ L (20 * r) l ∧ RRa θ L (r + 1) rs
theorem RRa.get {θ : Nat → Int32} {L : Nat} : ∀ {rs : List (List MEn)} {r j : Nat} {l : List MEn}, RRa θ L r rs → rs[j]? = some l → ROKa θ L (20 * (r + j)) l
  | [], r, j, l, _, h => by simp at h
  | x :: rs, r, 0, l, h, hl => by simp at hl; subst hl; exact h.1
  | x :: rs, r, j + 1, l, h, hl => by
    have := RRa.get h.2 (show rs[j]? = some l by simpa using hl)
    rwa [show r + 1 + j = r + (j + 1) by omega] at this
theorem mtOK_of {θ : Nat → Int32} {L : Nat} {mt : List (List MEn)} (h : RRa θ L 0 mt) : mtOK θ L mt := by
  intro μ N hN
  unfold mget at hN
  rw [lget_eq] at hN
  split at hN
  · rename_i r hr
    rw [lget_eq] at hN
    have h1 := (RRa.get h hr).get hN
    have e : 20 * (0 + μ.div 20) + μ.mod 20 = μ := by
      have := Nat.div_add_mod μ 20
      show 20 * (0 + μ / 20) + μ % 20 = μ
      omega
    rw [e] at h1
    exact h1
  · cases hN
end
