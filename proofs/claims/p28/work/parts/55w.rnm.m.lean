section
/-! RUN keeps to PLAIN: the model -/
def tch (A : Acc) (N s t r p : Nat) : Prop := s < N ∧ A.1 s = 5 ∧ (A.2.1 s).toNat = r ∧ ((t : Int) + A.2.2.1 s).toNat = p
def lx (t s t2 s2 : Nat) : Prop := t < t2 ∨ (t = t2 ∧ s < s2)
def acW (A : Acc) (N o t : Nat) : Int := acM A (opsM A (trM A N t) t o) o t
def cel0 (r p : Nat) : Int := if r = 0 then 3 * (p : Int) + 1 else 7 * (p : Int) - 5
section RNM
variable {A : Acc} {T D P : Nat → Int} {N n : Nat} {d c : Int}
theorem opsM_2 {s : PSt} {t o' t' : Nat} : ∀ o, (opsM A s t o).2 o' t' = if o' < o ∧ t' = t then acM A (opsM A s t o') o' t else s.2 o' t'
  | 0 => by
    rw [if_neg (by omega)]
    rfl
  | o + 1 => by
    show up2 (opsM A s t o).2 o t (acM A (opsM A s t o) o t) o' t' = _
    unfold up2
    by_cases q : o' = o ∧ t' = t
    · obtain ⟨rfl, rfl⟩ := q
      rw [if_pos ⟨rfl, rfl⟩, if_pos ⟨by omega, rfl⟩]
    · rw [if_neg q, opsM_2 o]
      by_cases w : o' < o ∧ t' = t
      · rw [if_pos w, if_pos ⟨by omega, w.2⟩]
      · rw [if_neg w, if_neg (by omega)]
theorem trM_2 {o t : Nat} : ∀ n, (trM A N n).2 o t = if t < n ∧ o < N then acW A N o t else 0
  | 0 => by
    rw [if_neg (by omega)]
    rfl
  | n + 1 => by
    show (opsM A (trM A N n) n N).2 o t = _
    rw [opsM_2]
    by_cases q : o < N ∧ t = n
    · obtain ⟨q1, rfl⟩ := q
      rw [if_pos ⟨q1, rfl⟩, if_pos ⟨by omega, q1⟩]
      rfl
    · rw [if_neg q, trM_2 n]
      by_cases w : t < n ∧ o < N
      · rw [if_pos w, if_pos ⟨by omega, w.2⟩]
      · rw [if_neg w, if_neg (by omega)]
theorem st_2 {o t o' t' : Nat} (h : dn N t o o' t') : (opsM A (trM A N t) t o).2 o' t' = acW A N o' t' := by
  unfold dn at h
  rw [opsM_2]
  by_cases q : o' < o ∧ t' = t
  · obtain ⟨q1, rfl⟩ := q
    rw [if_pos ⟨q1, rfl⟩]
    rfl
  · rw [if_neg q, trM_2, if_pos (by omega)]
def CeP (A : Acc) (N t o r p : Nat) (v : Int) : Prop := ((∀ s' t', tch A N s' t' r p → ¬ lx t' s' t o) ∧ v = cel0 r p) ∨ ∃ s' t', tch A N s' t' r p ∧ lx t' s' t o ∧ (∀ s2 t2, tch A N s2 t2 r p → lx t2 s2 t o → lx t2 s2 t' s' ∨ (t2 = t' ∧ s2 = s')) ∧ v = acW A N s' t'
theorem CeP.cg {t o t' o' r p : Nat} {v : Int} (h : CeP A N t o r p v) (e : ∀ s2 t2, tch A N s2 t2 r p → (lx t2 s2 t o ↔ lx t2 s2 t' o')) : CeP A N t' o' r p v := by
  rcases h with ⟨h1, h2⟩ | ⟨s, z, h1, h2, h3, h4⟩
  · exact Or.inl ⟨fun s2 t2 q w => h1 s2 t2 q ((e s2 t2 q).mpr w), h2⟩
  · exact Or.inr ⟨s, z, h1, (e s z h1).mp h2, fun s2 t2 q w => h3 s2 t2 q ((e s2 t2 q).mpr w), h4⟩
theorem CeP.ops {t r p : Nat} (h : CeP A N t 0 r p ((trM A N t).1 r p)) : ∀ o, o ≤ N → CeP A N t o r p ((opsM A (trM A N t) t o).1 r p)
  | 0, _ => h
  | o + 1, ho => by
    have ih := CeP.ops h o (by omega)
    show CeP A N t (o + 1) r p ((if A.1 o = 5 then up2 (opsM A (trM A N t) t o).1 (A.2.1 o).toNat (t + A.2.2.1 o).toNat (acM A (opsM A (trM A N t) t o) o t) else (opsM A (trM A N t) t o).1) r p)
    by_cases k : A.1 o = 5 ∧ r = (A.2.1 o).toNat ∧ p = ((t : Int) + A.2.2.1 o).toNat
    · rw [if_pos k.1]
      unfold up2
      rw [if_pos k.2]
      refine Or.inr ⟨o, t, ⟨by omega, k.1, k.2.1.symm, k.2.2.symm⟩, Or.inr ⟨rfl, by omega⟩, fun s2 t2 q w => ?_, rfl⟩
      unfold lx at w ⊢
      omega
    · have e : (if A.1 o = 5 then up2 (opsM A (trM A N t) t o).1 (A.2.1 o).toNat (t + A.2.2.1 o).toNat (acM A (opsM A (trM A N t) t o) o t) else (opsM A (trM A N t) t o).1) r p = (opsM A (trM A N t) t o).1 r p := by
        by_cases k5 : A.1 o = 5
        · rw [if_pos k5]
          unfold up2
          rw [if_neg (fun z => k ⟨k5, z⟩)]
        · rw [if_neg k5]
      rw [e]
      refine ih.cg (fun s2 t2 q => ?_)
      unfold lx
      by_cases z : s2 = o ∧ t2 = t
      · obtain ⟨rfl, rfl⟩ := z
        exact absurd ⟨q.2.1, q.2.2.1.symm, q.2.2.2.symm⟩ k
      · omega
theorem CeP.tr {r p : Nat} : ∀ t, CeP A N t 0 r p ((trM A N t).1 r p)
  | 0 => Or.inl ⟨fun s' t' _ q => by unfold lx at q; omega, rfl⟩
  | t + 1 => (CeP.ops (CeP.tr t) N (Nat.le_refl N)).cg (fun s2 t2 q => by
      have := q.1
      unfold lx
      omega)
theorem CeP.all {t o r p : Nat} (ho : o ≤ N) : CeP A N t o r p ((opsM A (trM A N t) t o).1 r p) := CeP.ops (CeP.tr t) o ho
def dlv (D : Nat → Int) (d c : Int) (o u : Nat) (t : Int) : Prop := D u + d * t < c ∨ (D u + d * t = c ∧ u < o)
theorem dlv.nx {u o : Nat} {t : Int} (hu : u < o) : dlv D d c o u t ↔ dlv D d (c + 1) 0 u t := by
  unfold dlv
  omega
theorem dlv.ne {u o : Nat} {t : Int} (hu : ¬ u = o) : dlv D d c o u t ↔ dlv D d c (o + 1) u t := by
  unfold dlv
  omega
def CeR (A : Acc) (D : Nat → Int) (d : Int) (N n : Nat) (c : Int) (o r p : Nat) (v : Int) : Prop := ((∀ s t, tch A N s t r p → t < n → ¬ dlv D d c o s t) → v = cel0 r p) ∧ ∀ s t, tch A N s t r p → t < n → dlv D d c o s t → (∀ s2 t2 : Nat, tch A N s2 t2 r p → t2 < n → dlv D d c o s2 t2 → D s2 + d * t2 < D s + d * t ∨ (D s2 + d * t2 = D s + d * t ∧ s2 ≤ s)) → v = acW A N s t
theorem CeR.cg {c c' : Int} {o o' r p : Nat} {v : Int} (h : CeR A D d N n c o r p v) (e : ∀ s2 t2 : Nat, tch A N s2 t2 r p → t2 < n → (dlv D d c o s2 t2 ↔ dlv D d c' o' s2 t2)) : CeR A D d N n c' o' r p v :=
  ⟨fun q => h.1 (fun s t a b w => q s t a b ((e s t a b).mp w)), fun s t a b w q => h.2 s t a b ((e s t a b).mpr w) (fun s2 t2 a2 b2 w2 => q s2 t2 a2 b2 ((e s2 t2 a2 b2).mp w2))⟩
theorem CeR.ini {r p : Nat} {v : Int} (hD : ∀ o, o < N → 0 ≤ D o) (hd : 0 ≤ d) (e : v = cel0 r p) : CeR A D d N n 0 0 r p v := by
  refine ⟨fun _ => e, fun s t a _ w => ?_⟩
  have := hD s a.1
  have := Int.mul_nonneg hd (show 0 ≤ (t : Int) by omega)
  unfold dlv at w
  omega
theorem mul_inj {d a b : Int} (hd : 0 < d) (h : d * a = d * b) : a = b := Int.eq_of_mul_eq_mul_left (by omega) h
theorem mul_le {d a b : Int} (hd : 0 < d) (h : d * a ≤ d * b) : a ≤ b := Int.le_of_mul_le_mul_left h hd
theorem CeR.st {o t r p : Nat} {v v' : Int} (h : CeR A D d N n c o r p v) (hd : 0 < d) (ho : o < N) (ht : t < n) (hc : D o + d * t = c) (k5 : A.1 o = 5) (e1 : r = (A.2.1 o).toNat ∧ p = ((t : Int) + A.2.2.1 o).toNat → v' = acW A N o t) (e2 : ¬ (r = (A.2.1 o).toNat ∧ p = ((t : Int) + A.2.2.1 o).toNat) → v' = v) : CeR A D d N n c (o + 1) r p v' := by
  by_cases k : r = (A.2.1 o).toNat ∧ p = ((t : Int) + A.2.2.1 o).toNat
  · have to : tch A N o t r p := ⟨ho, k5, k.1.symm, k.2.symm⟩
    have dt : dlv D d c (o + 1) o t := Or.inr ⟨hc, by omega⟩
    refine ⟨fun q => absurd dt (q o t to ht), fun s t2 a b w q => ?_⟩
    have g := q o t to ht dt
    unfold dlv at w
    have es : s = o := by omega
    subst es
    have et : d * (t2 : Int) = d * (t : Int) := by omega
    have et2 := mul_inj hd et
    rw [show t2 = t by omega]
    exact e1 k
  · rw [e2 k]
    refine h.cg (fun s2 t2 a b => ?_)
    by_cases z : s2 = o
    · subst z
      unfold dlv
      constructor
      · omega
      · rintro (w | w)
        · exact Or.inl w
        · have et : d * (t2 : Int) = d * (t : Int) := by omega
          have et2 := mul_inj hd et
          have et3 : t2 = t := by omega
          subst et3
          exact absurd ⟨a.2.2.1.symm, a.2.2.2.symm⟩ k
    · exact dlv.ne z
theorem CeR.no {o r p : Nat} {v : Int} (h : CeR A D d N n c o r p v) (q : A.1 o = 5 → ∀ t : Nat, t < n → ¬ D o + d * t = c) : CeR A D d N n c (o + 1) r p v := h.cg (fun s2 t2 a b => by
  by_cases z : s2 = o
  · subst z
    have := q a.2.1 t2 b
    unfold dlv
    omega
  · exact dlv.ne z)
theorem CeR.nx {r p : Nat} {v : Int} (h : CeR A D d N n c N r p v) : CeR A D d N n (c + 1) 0 r p v := h.cg (fun _ _ a _ => dlv.nx a.1)
def RnH (A : Acc) (T D P : Nat → Int) (d : Int) (N : Nat) : Prop := (1 ≤ d ∧ d ≤ 12) ∧ (∀ o, o < N → (0 ≤ T o ∧ T o + 1 ≤ D o) ∧ (A.1 o = 4 ∨ A.1 o = 5 → (0 ≤ A.2.1 o ∧ A.2.1 o ≤ 1) ∧ 0 ≤ A.2.2.1 o ∧ A.2.2.1 o ≤ 7) ∧ (¬ A.1 o = 5 → 1 ≤ P o ∧ P o ≤ 45)) ∧ (∀ o k : Nat, o < N → ¬ A.1 o = 4 → k < 2 → (A.1 o = 5 → k = 0) → -2 ≤ A.2.2.2.2.1 o k ∧ (0 ≤ A.2.2.2.2.1 o k → (A.2.2.2.2.1 o k).toNat < N ∧ ¬ A.1 (A.2.2.2.2.1 o k).toNat = 5 ∧ 0 ≤ A.2.2.2.2.2 o k ∧ (0 < A.2.2.2.2.2 o k ∨ A.2.2.2.2.1 o k < o) ∧ D (A.2.2.2.2.1 o k).toNat ≤ T o + d * A.2.2.2.2.2 o k ∧ T o + d * A.2.2.2.2.2 o k + 1 ≤ D (A.2.2.2.2.1 o k).toNat + d * P (A.2.2.2.2.1 o k).toNat)) ∧ (∀ s u : Nat, s < N → u < N → A.1 s = 5 → A.1 u = 4 → A.2.1 u = A.2.1 s → ((A.2.2.1 u < A.2.2.1 s ∨ (A.2.2.1 s = A.2.2.1 u ∧ s < u)) → D s ≤ T u + d * (A.2.2.1 s - A.2.2.1 u)) ∧ (¬ (A.2.2.1 u < A.2.2.1 s ∨ (A.2.2.1 s = A.2.2.1 u ∧ s < u)) → T u + 1 ≤ D s + d * (A.2.2.1 u - A.2.2.1 s))) ∧ ∀ s u : Nat, s < N → u < N → ¬ s = u → A.1 s = 5 → A.1 u = 5 → A.2.1 u = A.2.1 s → (A.2.2.1 u < A.2.2.1 s ∨ (A.2.2.1 s = A.2.2.1 u ∧ s < u)) → D s + 1 ≤ D u + d * (A.2.2.1 s - A.2.2.1 u)
theorem RnH.df {s u t t' r p : Nat} (h : RnH A T D P d N) (hs : s < N) (hu : u < N) (k1 : A.1 s = 5) (k2 : A.1 u = 4 ∨ A.1 u = 5) (e1 : (A.2.1 s).toNat = r) (e2 : (A.2.1 u).toNat = r) (e3 : ((t' : Int) + A.2.2.1 s).toNat = p) (e4 : ((t : Int) + A.2.2.1 u).toNat = p) : A.2.1 u = A.2.1 s ∧ (t : Int) - t' = A.2.2.1 s - A.2.2.1 u ∧ d * (A.2.2.1 s - A.2.2.1 u) = d * t - d * t' ∧ d * (A.2.2.1 u - A.2.2.1 s) = d * t' - d * t ∧ ((A.2.2.1 u < A.2.2.1 s ∨ (A.2.2.1 s = A.2.2.1 u ∧ s < u)) ↔ lx t' s t u) := by
  have a := (h.2.1 s hs).2.1 (Or.inr k1)
  have b := (h.2.1 u hu).2.1 k2
  have e : (t : Int) - t' = A.2.2.1 s - A.2.2.1 u := by omega
  refine ⟨by omega, e, by rw [← e, Int.mul_sub], by rw [show A.2.2.1 u - A.2.2.1 s = (t' : Int) - t by omega, Int.mul_sub], ?_⟩
  unfold lx
  omega
theorem RnH.ss {s u t t' r p : Nat} (h : RnH A T D P d N) (a : tch A N s t' r p) (b : tch A N u t r p) (q : lx t' s t u) : D s + d * t' < D u + d * t := by
  obtain ⟨g1, g2, g3, g4, g5⟩ := h.df a.1 b.1 a.2.1 (Or.inr b.2.1) a.2.2.1 b.2.2.1 a.2.2.2 b.2.2.2
  by_cases z : s = u
  · subst z
    have hd := h.1.1
    have : d * ((t' : Int) + 1) ≤ d * (t : Int) := Int.mul_le_mul_of_nonneg_left (by unfold lx at q; omega) (by omega)
    rw [Int.mul_add, Int.mul_one] at this
    omega
  · have := h.2.2.2.2 s u a.1 b.1 z a.2.1 b.2.1 g1 (g5.mpr q)
    omega
theorem CeR.eq {o o' t r p : Nat} {v w : Int} (h : CeR A D d N n c o r p v) (g : CeP A N t o' r p w) (hH : RnH A T D P d N) (e : ∀ s t2, tch A N s t2 r p → (t2 < n ∧ dlv D d c o s t2 ↔ lx t2 s t o')) : v = w := by
  rcases g with ⟨g1, g2⟩ | ⟨s, z, g1, g2, g3, g4⟩
  · rw [g2]
    exact h.1 (fun s t2 a b q => g1 s t2 a ((e s t2 a).mp ⟨b, q⟩))
  · rw [g4]
    have ez := (e s z g1).mpr g2
    refine h.2 s z g1 ez.1 ez.2 (fun s2 t2 a2 b2 w2 => ?_)
    rcases g3 s2 t2 a2 ((e s2 t2 a2).mp ⟨b2, w2⟩) with q | ⟨q1, q2⟩
    · exact Or.inl (hH.ss a2 g1 q)
    · subst q1
      subst q2
      exact Or.inr ⟨rfl, Nat.le_refl _⟩
theorem CeR.ld {u t : Nat} {v : Int} (h : CeR A D d N n (T u + d * t) N (A.2.1 u).toNat ((t : Int) + A.2.2.1 u).toNat v) (hH : RnH A T D P d N) (hu : u < N) (ht : t < n) (k4 : A.1 u = 4) : v = acW A N u t := by
  have g := CeP.all (A := A) (t := t) (r := (A.2.1 u).toNat) (p := ((t : Int) + A.2.2.1 u).toNat) (Nat.le_of_lt hu)
  have e := h.eq g hH (fun s t2 a => by
    obtain ⟨g1, g2, g3, g4, g5⟩ := hH.df a.1 hu a.2.1 (Or.inl k4) a.2.2.1 rfl a.2.2.2 rfl
    obtain ⟨n1, n2⟩ := hH.2.2.2.1 s u a.1 hu a.2.1 k4 g1
    have sN := a.1
    constructor
    · rintro ⟨-, q⟩
      refine g5.mp (Classical.byContradiction (fun w => ?_))
      have := n2 w
      unfold dlv at q
      omega
    · intro q
      have := n1 (g5.mpr q)
      refine ⟨by unfold lx at q; omega, ?_⟩
      unfold dlv
      omega)
  rw [e]
  unfold acW acM
  rw [if_pos k4]
theorem CeR.fin {r p : Nat} {v : Int} (h : CeR A D d N n c 0 r p v) (hH : RnH A T D P d N) (hc : ∀ o, o < N → ∀ t : Nat, t < n → D o + d * t < c) : v = (trM A N n).1 r p :=
  h.eq (CeP.tr n) hH (fun s t2 a => by
    have := hc s a.1 t2
    unfold lx dlv
    constructor
    · omega
    · intro q
      exact ⟨by omega, Or.inl (this (by omega))⟩)
theorem md_eq {a b P : Int} (hP : 0 < P) (h : a % P = b % P) (h1 : b - P < a) (h2 : a ≤ b) : a = b := by
  have e1 := Int.mul_ediv_add_emod a P
  have e2 := Int.mul_ediv_add_emod b P
  have q : P * (b / P - a / P) = b - a := by rw [Int.mul_sub]; omega
  by_cases z : b / P - a / P ≤ 0
  · have w := Int.mul_le_mul_of_nonneg_left z (show 0 ≤ P by omega)
    rw [Int.mul_zero] at w
    omega
  · have w := Int.mul_le_mul_of_nonneg_left (show 1 ≤ b / P - a / P by omega) (show 0 ≤ P by omega)
    rw [Int.mul_one] at w
    omega
def valW (A : Acc) (N u : Nat) (t : Int) : Int := if t < 0 then A.2.2.2.1 u else acW A N u t.toNat
def NameR (A : Acc) (D P : Nat → Int) (d : Int) (N n : Nat) (c : Int) (o : Nat) (nm : Nat → Int → Int) : Prop := ∀ u : Nat, u < N → ¬ A.1 u = 5 → ∀ t : Int, t < n → (t < 0 ∨ dlv D d c o u t) → ¬ dlv D d c o u (t + P u) → nm u (t % P u) = valW A N u t
theorem NameR.ini {nm : Nat → Int → Int} (hD : ∀ o, o < N → 0 ≤ D o) (hd : 0 ≤ d) (e : ∀ u : Nat, u < N → ¬ A.1 u = 5 → ∀ t : Int, nm u (t % P u) = A.2.2.2.1 u) : NameR A D P d N n 0 0 nm := fun u hu k t ht q _ => by
  rw [e u hu k t]
  unfold valW
  rcases q with q | q
  · rw [if_pos q]
  · by_cases z : t < 0
    · rw [if_pos z]
    · have := hD u hu
      have := Int.mul_nonneg hd (show 0 ≤ t by omega)
      unfold dlv at q
      omega
theorem NameR.nx {nm : Nat → Int → Int} (h : NameR A D P d N n c N nm) : NameR A D P d N n (c + 1) 0 nm := fun u hu k t ht q w => h u hu k t ht (q.imp id (dlv.nx hu).mpr) (fun z => w ((dlv.nx hu).mp z))
theorem NameR.no {nm : Nat → Int → Int} {o : Nat} (h : NameR A D P d N n c o nm) (q : ¬ A.1 o = 5 → ∀ t : Nat, t < n → ¬ D o + d * t = c) : NameR A D P d N n c (o + 1) nm := fun u hu k t ht a b => by
  by_cases z : u = o
  · subst z
    refine h u hu k t ht ?_ (fun w => b ?_)
    · by_cases t0 : t < 0
      · exact Or.inl t0
      · have := q k t.toNat (by omega)
        rw [show ((t.toNat : Nat) : Int) = t by omega] at this
        unfold dlv at a ⊢
        omega
    · unfold dlv at w ⊢
      omega
  · exact h u hu k t ht (a.imp id (dlv.ne z).mpr) (fun w => b ((dlv.ne z).mp w))
theorem NameR.st {nm nm' : Nat → Int → Int} {o t0 : Nat} (h : NameR A D P d N n c o nm) (hd : 0 < d) (hP : 0 < P o) (hc : D o + d * t0 = c) (e1 : nm' o ((t0 : Int) % P o) = acW A N o t0) (e2 : ∀ u : Nat, u < N → ∀ t : Int, ¬ (u = o ∧ t % P u = (t0 : Int) % P o) → ¬ A.1 u = 5 → nm' u (t % P u) = nm u (t % P u)) : NameR A D P d N n c (o + 1) nm' := fun u hu k t ht a b => by
  by_cases z : u = o
  · subst z
    have le : t ≤ t0 := by
      rcases a with a | a
      · omega
      · exact mul_le hd (by unfold dlv at a; omega)
    have gt : (t0 : Int) < t + P u := Decidable.byContradiction (fun w => b (by
      have := Int.mul_le_mul_of_nonneg_left (show t + P u ≤ t0 by omega) (show 0 ≤ d by omega)
      unfold dlv
      omega))
    by_cases m : t % P u = (t0 : Int) % P u
    · have et := md_eq hP m (by omega) le
      rw [m, e1]
      unfold valW
      rw [if_neg (by omega), show t.toNat = t0 by omega]
    · rw [e2 u hu t (fun w => m w.2) k]
      have lt : t < t0 := by
        by_cases e : t = t0
        · exact absurd (by rw [e]) m
        · omega
      refine h u hu k t ht (Or.inr (Or.inl ?_)) (fun w => b ?_)
      · have := Int.mul_le_mul_of_nonneg_left (show t + 1 ≤ t0 by omega) (show 0 ≤ d by omega)
        rw [Int.mul_add, Int.mul_one] at this
        omega
      · unfold dlv at w ⊢
        omega
  · rw [e2 u hu t (fun w => z w.1) k]
    exact h u hu k t ht (a.imp id (dlv.ne z).mpr) (fun w => b ((dlv.ne z).mp w))
theorem NameR.lk {nm : Nat → Int → Int} {u k t : Nat} (h : NameR A D P d N n (T u + d * t) N nm) (hH : RnH A T D P d N) (hu : u < N) (ht : t < n) (k4 : ¬ A.1 u = 4) (hk : k < 2) (k5 : A.1 u = 5 → k = 0) (q : 0 ≤ A.2.2.2.2.1 u k) : nm (A.2.2.2.2.1 u k).toNat (((t : Int) - A.2.2.2.2.2 u k) % P (A.2.2.2.2.1 u k).toNat) = valW A N (A.2.2.2.2.1 u k).toNat ((t : Int) - A.2.2.2.2.2 u k) := by
  obtain ⟨g1, g2, g3, g4, g5, g6⟩ := (hH.2.2.1 u k hu k4 hk k5).2 q
  have e : d * ((t : Int) - A.2.2.2.2.2 u k) = d * t - d * A.2.2.2.2.2 u k := Int.mul_sub _ _ _
  refine h _ g1 g2 _ (by omega) (Or.inr ?_) (fun w => ?_)
  · unfold dlv
    rw [e]
    omega
  · unfold dlv at w
    rw [Int.mul_add, e] at w
    omega
theorem lkW_eq {u k t : Nat} (hH : RnH A T D P d N) (hu : u < N) (k4 : ¬ A.1 u = 4) (hk : k < 2) (k5 : A.1 u = 5 → k = 0) : lkM A (opsM A (trM A N t) t u).2 u k t = if A.2.2.2.2.1 u k = -1 then (t : Int) else if A.2.2.2.2.1 u k = -2 then A.2.2.2.2.2 u k else valW A N (A.2.2.2.2.1 u k).toNat ((t : Int) - A.2.2.2.2.2 u k) := by
  have g := hH.2.2.1 u k hu k4 hk k5
  unfold lkM valW
  by_cases a : A.2.2.2.2.1 u k = -1
  · rw [if_pos a, if_pos a]
  · rw [if_neg a, if_neg a]
    by_cases b : A.2.2.2.2.1 u k = -2
    · rw [if_pos b, if_pos b]
    · rw [if_neg b, if_neg b]
      by_cases z : (t : Int) - A.2.2.2.2.2 u k < 0
      · rw [if_pos z, if_pos z]
      · rw [if_neg z, if_neg z]
        obtain ⟨g1, g2, g3, g4, -⟩ := g.2 (by omega)
        refine st_2 ?_
        unfold dn
        omega
end RNM
end
section
/-! laid by wip/hand/tg.py: run, comes of the class, exactly -/
theorem ClS.e_play {m m' : MM} (h : ClS m) (hF : Frm pPl m m') : ClS m' := ⟨CJ.e_play h.1 hF, fun a b => by
  rw [hF 0 11 (by unfold pPl; omega)] at a
  rw [hF 0 10 (by unfold pPl; omega)] at b
  exact ⟨(h.2.1 a b).1.fr (fun A i q => hF A i (by unfold pPl; omega)), (h.2.1 a b).2.fr (fun A i q => hF A i (by unfold pPl; omega))⟩, fun a => SX.fr (h.2.2 (by rw [hF 0 11 (by unfold pPl; omega)] at a; exact a)) (hF 0 10 (by unfold pPl; omega)) (fun A i a b => hF A i (by unfold pPl; omega))⟩
theorem FiC.play {m m' : MM} {d : Int} {Q : Nat} (h : FiC m d Q) (hQ : 38 ≤ Q ∧ Q ≤ 122) (hF : Frm pPl m m') : FiC m' d Q := by
  obtain ⟨h1, h2, h3, h4⟩ := h
  refine ⟨h1.fr (fun A i a b => hF A i (by unfold pPl; omega)), h2.fr (fun A i q => hF A i (by unfold pPl; omega)), ?_, h4.fr (fun A i q => hF A i (by unfold pPl; omega))⟩
  rw [hF 9 5 (by unfold pPl; omega), hF 9 6 (by unfold pPl; omega)]
  exact h3
theorem f_167n {S : Nat × (Nat → Int32)} {n : Nat} {mem : MM} {K : MM → Prop} {E : Nat → MM → Prop} (hB : BodyOK mem) {o : Int} (ho : 0 ≤ o ∧ o < mem 1 0) (H : ¬ mem 2 o.toNat = 5 → K mem) (HE : mem 2 o.toNat = 5 → E 0 mem) : CQV (Ex S (n + 1)) 167 [.inr 0, .inl o] mem K E := by
  refine CY.of (k := 0) mt_167 rfl rfl (fun hv => ?_)
  have hC := Ex.mono S n
  have ii_o : InI o := hv (.inl o) (by simp)
  unfold InI at ii_o
  clear hv
  have h8 := hB.1
  show Tx (Ex S n) S M_167 (kV K E) 0 0 0 [some (.inr 0), some (.inl o)] [] mem
  refine Tx.aload_n hC te_167_0 rfl ?_
  refine Tx.getR hC te_167_1 rfl rfl rfl ?_
  refine Tx.getR hC te_167_4 rfl rfl rfl ?_
  refine Tx.iload_n hC te_167_7 rfl ?_
  refine Tx.iald hC te_167_8 rfl (by omega) (fun v1 v1e v1i => ?_)
  unfold InI at v1i
  refine Tx.iconst hC te_167_9 rfl ?_
  refine Tx.icmp hC (t := 24) te_167_10 (by decide) (fun q2 => ?_) (fun q2 => ?_)
  · replace q2 : ¬ (v1 : Int) = 5 := q2
    exact Tx.vret hC te_167_24 rfl (show K mem from H (by omega))
  · replace q2 : ¬ (¬ (v1 : Int) = 5) := q2
    exact Tx.thr hC te_167_13 rfl rfl rfl rfl rfl (show E 0 mem from HE (by omega))
theorem f_166x {S : Nat × (Nat → Int32)} {n : Nat} {mem : MM} {K : Int → MM → Prop} {E : Nat → MM → Prop} (hI : ClS mem) {p0 p1 p2 : Int} (H : (0 ≤ p0 ∧ p0 < mem 1 0) → (¬ mem 2 p0.toNat = 5 ∧ (1 ≤ p1 ∧ p1 ≤ 12) ∧ 0 ≤ p2 ∧ p2 ≤ 40) → ∀ m' Q, ClS m' → Frm pNb mem m' → (38 ≤ Q ∧ Q ≤ 122) → FiC m' p1 Q → ∀ r, r = (if p2 = 0 then m' 4 p0.toNat else (trM (acsC m') (m' 1 0).toNat p2.toNat).2 p0.toNat (p2 - 1).toNat) → K r m') (HE2 : ¬ (0 ≤ p0 ∧ p0 < mem 1 0) → E 2 mem) (HE0 : (0 ≤ p0 ∧ p0 < mem 1 0) → ¬ (¬ mem 2 p0.toNat = 5 ∧ (1 ≤ p1 ∧ p1 ≤ 12) ∧ 0 ≤ p2 ∧ p2 ≤ 40) → E 0 mem) (HE1 : (0 ≤ p0 ∧ p0 < mem 1 0) → (¬ mem 2 p0.toNat = 5 ∧ (1 ≤ p1 ∧ p1 ≤ 12) ∧ 0 ≤ p2 ∧ p2 ≤ 40) → ∀ m', ClS m' → Frm pNb mem m' → NoC m' p1 → E 1 m') : CQI (Ex S (n + 17)) 166 [.inr 0, .inl p0, .inl p1, .inl p2] mem K E := by
  refine CY.of (k := 0) mt_166 rfl rfl (fun hv => ?_)
  have hC := Ex.mono S (n + 16)
  have ii_p0 : InI p0 := hv (.inl p0) (by simp)
  unfold InI at ii_p0
  have ii_p1 : InI p1 := hv (.inl p1) (by simp)
  unfold InI at ii_p1
  have ii_p2 : InI p2 := hv (.inl p2) (by simp)
  unfold InI at ii_p2
  clear hv
  have h8 := hI.1.b.1
  show Tx (Ex S (n + 16)) S M_166 (kI K E) 0 0 0 [some (.inr 0), some (.inl p0), some (.inl p1), some (.inl p2)] [] mem
  refine Tx.aload_n hC te_166_0 rfl ?_
  refine Tx.iload_n hC te_166_1 rfl ?_
  refine Tx.virtV hC te_166_2 mt_57 (args := [.inr 0, .inl p0]) (rest := []) (c' := 1) (s' := 6) rfl rfl rfl rfl rfl rfl rfl rfl rfl rfl ?_
  refine f_57n (fun r1a => ?_) (fun r1n => HE2 r1n)
  refine Tx.aload_n hC te_166_5 rfl ?_
  refine Tx.iload_n hC te_166_6 rfl ?_
  refine Tx.virtV hC te_166_7 mt_167 (args := [.inr 0, .inl p0]) (rest := []) (c' := 2) (s' := 12) rfl rfl rfl rfl rfl rfl rfl rfl rfl rfl ?_
  refine f_167n hI.1.b (by omega) (fun r4a => ?_) (fun r4n => HE0 (by omega) (by omega))
  refine Tx.iload_n hC te_166_10 rfl ?_
  refine Tx.statV hC te_166_11 (by decide) mt_74 (args := [.inl p1]) (rest := []) (c' := 3) (s' := 18) rfl rfl rfl rfl rfl rfl rfl ?_
  refine f_74n (fun r7a => ?_) (fun r7n => HE0 (by omega) (by omega))
  refine Tx.iload_n hC te_166_14 rfl ?_
  refine Tx.statV hC te_166_15 (by decide) mt_151 (args := [.inl p2]) (rest := []) (c' := 4) (s' := 24) rfl rfl rfl rfl rfl rfl rfl ?_
  refine f_151n (fun r10a => ?_) (fun r10n => HE0 (by omega) (by omega))
  refine Tx.aload_n hC te_166_18 rfl ?_
  refine Tx.iload_n hC te_166_19 rfl ?_
  refine Tx.virtR hC te_166_20 mt_115 (args := [.inr 0, .inl p1]) (rest := []) (c' := 7) (s' := 42) rfl rfl rfl rfl rfl rfl rfl rfl rfl rfl ?_
  refine f_115x hI (fun Q m14 hQ r13C hF15 r13d r13W => ?_) (fun r13n => absurd r13n (by omega)) (fun r13d m14 r13C hF15 r13n => HE1 (by omega) (by omega) _ r13C hF15 r13n)
  have hq8 := hQ.rg
  have r13O := r13C.1.ch Q hQ
  have r13g := r13W.2.2.2.rg r13O r13C.1.b r13d
  have r13h := r13W.2.2.2.1
  have r138 := r13C.1.b.1
  have k10 : m14 1 0 = mem 1 0 := hF15 1 0 (by unfold pNb; omega)
  have k80 : ∀ i, m14 8 i = mem 8 i := fun i => hF15 8 i (by unfold pNb; omega)
  have hF15n : Frm pNb mem m14 := hF15
  refine Tx.pop hC te_166_23 ?_
  refine Tx.aload_n hC te_166_24 rfl ?_
  refine Tx.getR hC te_166_25 rfl rfl rfl ?_
  refine Tx.aload_n hC te_166_28 rfl ?_
  refine Tx.getR hC te_166_29 rfl rfl rfl ?_
  refine Tx.iload_n hC te_166_32 rfl ?_
  refine Tx.virtV hC te_166_33 mt_161 (args := [.inr 134, .inr 1, .inl p2]) (rest := []) (c' := 7) (s' := 42) rfl rfl rfl rfl rfl rfl rfl rfl rfl rfl ?_
  refine f_161x r13C.1.b r13W.1 (by omega) (fun m17 hF18x r16p => ?_)
  have hF18 : Frm pPl m14 m17 := hF18x.mono (fun A i q => by unfold pPx at q; unfold pPl; omega)
  have r16C := ClS.e_play r13C hF18
  have r16W := FiC.play r13W (by omega) hF18
  have r16a : acsC m17 = acsC m14 := acsC_fr (fun A i a b => hF18x A i (by unfold pPx; omega))
  have r16z : m17 1 0 = m14 1 0 := hF18x 1 0 (by unfold pPx; omega)
  have hF18n : Frm pNb mem m17 := hF15n.tr (hF18.mono (fun A i q => by unfold pPl at q; unfold pNb; omega))
  refine Tx.aload_n hC te_166_36 rfl ?_
  refine Tx.getR hC te_166_37 rfl rfl rfl ?_
  refine Tx.aload_n hC te_166_40 rfl ?_
  refine Tx.getR hC te_166_41 rfl rfl rfl ?_
  refine Tx.iload_n hC te_166_44 rfl ?_
  refine Tx.iload_n hC te_166_45 rfl ?_
  refine Tx.iconst hC te_166_46 rfl ?_
  refine Tx.isubW hC te_166_47 (fun z19 z19i z19e => ?_)
  unfold InI at z19i z19e
  first | replace z19e := z19e (by omega) | clear z19e
  refine Tx.virtI hC te_166_48 mt_164 (args := [.inr 134, .inr 1, .inl p0, .inl z19]) (rest := []) (c' := 7) (s' := 42) rfl rfl rfl rfl rfl rfl rfl rfl rfl rfl ?_
  refine f_164x (by omega) (by omega) (fun r20 r20e r20i => ?_)
  rw [show z19 = p2 - 1 by omega] at r20e
  unfold InI at r20i
  exact Tx.ireturn hC te_166_51 rfl (fun hr => show K r20 m17 from H (by omega) (by omega) _ _ r16C hF18n hq8 r16W _ (by
    by_cases z : p2 = 0
    · rw [if_pos z, r20e, if_pos (by omega)]
    · rw [if_neg z, r20e, if_neg (by omega), r16a, r16z]
      exact r16p.2 _ _ (by unfold dn; omega)))
end
section
/-! what holds of the heap between the law's calls, with what both sides tell of ops -/
def LM (h : PH) (m : MM) (g : Nat → Int64) : Prop := RA h ∧ h[173]? = some (.inl (1, 1, .inr (.inl g))) ∧ RH h h m
def LR (h : PH) : Prop := ∃ m g, LM h m g ∧ ClS m ∧ RefOK m ∧ RelB m
theorem RH.self {h0 h : PH} {mem : MM} (H : RH h0 h mem) : RH h h mem := ⟨fun _ _ => rfl, H.2⟩
theorem LM.step {h h' : PH} {m m' : MM} {g : Nat → Int64} (hL : LM h m g) (H : RH h h' m') : LM h' m' g := by
  obtain ⟨h1, h2, -⟩ := hL
  exact ⟨RA.at h1 H, by rw [H.1 173 rfl]; exact h2, H.self⟩
theorem LM.out {h : PH} {m : MM} {g g2 : Nat → Int64} (hL : LM h m g) : LM (h.set 173 (.inl (1, 1, .inr (.inl g2)))) m g2 := by
  obtain ⟨h1, h2, H⟩ := hL
  have hl := (List.getElem?_eq_some_iff.mp h2).1
  have e : ∀ A, ¬ A = 173 → (h.set 173 (.inl (1, 1, .inr (.inl g2))))[A]? = h[A]? := fun A q => List.getElem?_set_ne (fun z => q z.symm)
  refine ⟨?_, List.getElem?_set_self hl, ⟨fun _ _ => rfl, fun A s hA => ?_⟩⟩
  · unfold RA
    rw [e 37 (by decide), e 135 (by decide)]; exact h1
  · obtain ⟨y, a, b⟩ := H.2 A s hA
    exact ⟨y, by rw [e A (fun z => by rw [z] at hA; cases hA)]; exact a, b⟩
theorem LM.obj {h : PH} {m : MM} {g : Nat → Int64} (hL : LM h m g) {A ci : Nat} {fs : List (Option Nat)} (hA : shA A = some (.inr (ci, fs))) : ∃ gs, h[A]? = some (.inr (ci, gs)) := by
  obtain ⟨gs, g, -⟩ := hL.2.2.obj hA
  exact ⟨gs, g⟩
theorem callQM {S : Nat × (Nat → Int32)} {n μ : Nat} {args : List WV} {h : PH} {m : MM} {g : Nat → Int64} {K : Int → MM → Prop} {E : Nat → MM → Prop} (ha : ∀ v ∈ args, vOK v) (hL : LM h m g) (spec : CQI (Ex S n) μ args m K E) : Ex S n μ (args.map wv) h (fun r h' => (∃ y m', r = .inl (some (.int (Int32.ofInt y))) ∧ InI y ∧ LM h' m' g ∧ K y m') ∨ ∃ e m', r = .inr e ∧ LM h' m' g ∧ E e m') := by
  refine Ex.mono S n _ _ _ _ _ ?_ (spec ha h h hL.1 hL.2.2)
  rintro r h' ⟨x, m', rfl, k2, k3, k4⟩
  cases x with
  | inr e => exact Or.inr ⟨e, m', rfl, hL.step k3, k4⟩
  | inl o => cases o with
    | none => exact False.elim k4
    | some v => cases v with
      | inr A => exact False.elim k4
      | inl y => exact Or.inl ⟨y, m', rfl, k2, hL.step k3, k4⟩
theorem callQV {S : Nat × (Nat → Int32)} {n μ : Nat} {args : List WV} {h : PH} {m : MM} {g : Nat → Int64} {K : MM → Prop} {E : Nat → MM → Prop} (ha : ∀ v ∈ args, vOK v) (hL : LM h m g) (spec : CQV (Ex S n) μ args m K E) : Ex S n μ (args.map wv) h (fun r h' => (∃ m', r = .inl none ∧ LM h' m' g ∧ K m') ∨ ∃ e m', r = .inr e ∧ LM h' m' g ∧ E e m') := by
  refine Ex.mono S n _ _ _ _ _ ?_ (spec ha h h hL.1 hL.2.2)
  rintro r h' ⟨x, m', rfl, k2, k3, k4⟩
  cases x with
  | inr e => exact Or.inr ⟨e, m', rfl, hL.step k3, k4⟩
  | inl o => cases o with
    | some v => cases v <;> exact False.elim k4
    | none => exact Or.inl ⟨m', rfl, hL.step k3, k4⟩
def pRf (A _i : Nat) : Prop := 143 ≤ A
theorem CJ.e_ref {m m' : MM} (h : CJ m) (hF : Frm pRf m m') : CJ m' := by
  exact ⟨h.b.fr (fun A i a b => hF A i (by unfold pRf; omega)), h.w.fr (fun A i a b => hF A i (by unfold pRf; omega)), h.w2.fr (fun A i a b => hF A i (by unfold pRf; omega)), by rw [hF 19 0 (by unfold pRf; omega)]; exact h.r, h.hs.fr (fun A i a b => hF A i (by unfold pRf; omega)), fun o ho => by rw [hF 24 o (by unfold pRf; omega), hF 22 o (by unfold pRf; omega)]; exact h.us o ho, fun Q' hQ' => (h.ch Q' hQ').fr3 (fun A i q => hF A i (by have := hQ'.rg; unfold pRf; omega)), by rw [hF 0 10 (by unfold pRf; omega)]; exact h.so, by rw [hF 0 11 (by unfold pRf; omega)]; exact h.st⟩
theorem Rdy.e_ref {m m' : MM} (h : Rdy m) (hF : Frm pRf m m') : Rdy m' := by
  exact ⟨CJ.e_ref h.1 hF , ⟨by rw [hF 0 11 (by unfold pRf; omega)]; exact h.2.1.1, h.2.1.2.fr (fun A i q => hF A i (by unfold pRf; omega))⟩, by rw [hF 0 10 (by unfold pRf; omega)]; exact h.2.2.1, h.2.2.2.1.fr (fun A i q => hF A i (by unfold pRf; omega)), h.2.2.2.2.fr (fun A i a b => hF A i (by unfold pRf; omega))⟩
theorem RfC.e_ref {m m' : MM} (h : RfC m) (hF : Frm pRf m m') : RfC m' := by
  exact ⟨CJ.e_ref h.1 hF , by rw [hF 0 11 (by unfold pRf; omega)]; exact h.2.1, fun z => by
    rw [hF 0 10 (by unfold pRf; omega)] at z
    exact (h.2.2.1 z).fr (fun A i q => hF A i (by unfold pRf; omega)), SX.fr h.2.2.2 (hF 0 10 (by unfold pRf; omega)) (fun A i a b => hF A i (by unfold pRf; omega))⟩
theorem ClS.ref {m m' : MM} (h : ClS m) (hF : Frm pRf m m') : ClS m' := ⟨CJ.e_ref h.1 hF, fun a b => by
  rw [hF 0 11 (by unfold pRf; omega)] at a
  rw [hF 0 10 (by unfold pRf; omega)] at b
  exact ⟨(h.2.1 a b).1.fr (fun A i q => hF A i (by unfold pRf; omega)), (h.2.1 a b).2.fr (fun A i q => hF A i (by unfold pRf; omega))⟩, fun a => SX.fr (h.2.2 (by rw [hF 0 11 (by unfold pRf; omega)] at a; exact a)) (hF 0 10 (by unfold pRf; omega)) (fun A i a b => hF A i (by unfold pRf; omega))⟩
theorem RefOK.fr {m m' : MM} (h : RefOK m) (e : ∀ A i, 143 ≤ A → A ≤ 172 → m' A i = m A i) : RefOK m' :=
  Kp.rest (fun A i q => e A i (by omega) (by omega)) h (fun o ho => by rw [e 160 o (by omega) (by omega)]; exact h.sl o ho) (fun j hj => by rw [e _ _ (by omega) (by omega), e _ _ (by omega) (by omega), e _ _ (by omega) (by omega), e _ _ (by omega) (by omega)]; exact h.r48 j hj) (by rw [e 143 12 (by omega) (by omega)]; exact h.nd)
theorem p_call_mk {C : CXW} {M N : PM} {hd : List (Nat × Nat × Nat × Int)} {Q : Rs → PH → Prop} {K : Kt} {pc μ : Nat} {virt : Bool} {lv : LV} {av rest : List Value} {h : PH} {c s : Nat} (hN : MT[μ]? = some N) (hl : av.length = pN N) (hr : (rest.map Value.category).sum ≤ 8) (hc : c + pC N ≤ pC M) (hs : s + pS N ≤ pS M) (hv : virt = true → ∃ a fs, av[0]? = some (.ref a) ∧ h[a]? = some (.inr (pO N, fs))) (H : C μ av h (p_back M hd Q K pc lv rest (c + pC N) (s + pS N))) : p_call C M hd Q K pc μ virt lv (av.reverse ++ rest) h c s := by
  unfold p_call
  rw [hN]
  have el : av.reverse.length = pN N := by rw [List.length_reverse]; exact hl
  have e1 : (av.reverse ++ rest).take (pN N) = av.reverse := by rw [← el, List.take_left]
  have e2 : (av.reverse ++ rest).drop (pN N) = rest := by rw [← el, List.drop_left]
  simp only [e1, e2, List.reverse_reverse]
  refine ⟨by rw [List.length_append, el]; omega, hr, hc, hs, fun q => ?_, H⟩
  obtain ⟨a, fs, g1, g2⟩ := hv q
  exact ⟨a, fs, by rw [List.getLast?_reverse, List.head?_eq_getElem?]; exact g1, g2⟩
theorem vp00 : vp_in (Int32.ofInt 0) 1 := vp_in_iff.mpr (by decide)
theorem st_last {C : CXW} (hC : Cmono C) {S : Nat × (Nat → Int32)} {M : PM} {hd : List (Nat × Nat × Nat × Int)} {Q : Rs → PH → Prop} {pc : Nat} {lv : LV} {r : List Value} {h : PH} {c s : Nat} {x : Int64} {g : Nat → Int64} (ht : (pT M).find? (fun e => e.1 == pc) = some (pc, .lastore, 0, 0)) (hg : h[173]? = some (.inl (1, 1, .inr (.inl g)))) (H : ∀ g2 : Nat → Int64, g2 0 = x → Vx C S M hd Q (pc + 1) lv r (h.set 173 (.inl (1, 1, .inr (.inl g2)))) c s) : Vx C S M hd Q pc lv (.long x :: .int (Int32.ofInt 0) :: .ref 173 :: r) h c s := Vx.go hC ht (show p_last h _ (fun st h => Vx C S M hd Q (pc + 1) lv st h c s) from last_mk hg vp00 (H _ (by
  show vp_updL g (Int32.ofInt 0).toNatClampNeg x 0 = x
  rw [show (Int32.ofInt 0).toNatClampNeg = 0 by decide]
  unfold vp_updL
  simp)))
theorem LR.cls {h' : PH} {m m' : MM} {g' : Nat → Int64} (hL : LM h' m' g') (hr : RefOK m) (hb : RelB m) (hc : ClS m') (hF : Frm pNb m m') : LR h' := ⟨m', g', hL, hc, hr.fr (fun A i a b => hF A i (by unfold pNb; omega)), hb.fr (fun A i q => hF A i (by unfold pNb; omega))⟩
theorem LR.refq {h' : PH} {m m' : MM} {g' : Nat → Int64} (hL : LM h' m' g') (hc : ClS m) (hb : RelB m) (hr : RefOK m') (hF : FrQ m m') : LR h' := ⟨m', g', hL, hc.ref (fun A i q => hF A i (by unfold pRf at q; omega)), hr, hb.fr (fun A i q => hF A i (by omega))⟩
end
