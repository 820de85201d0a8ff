section
/-! a loop turn by turn: the model, and sums that go round told exactly -/
def wr (t : Int) : Int := (Int32.ofInt t).toInt
abbrev Acc : Type := (Nat → Int) × (Nat → Int) × (Nat → Int) × (Nat → Int) × (Nat → Nat → Int) × (Nat → Nat → Int)
abbrev PSt : Type := (Nat → Nat → Int) × (Nat → Nat → Int)
def lkM (A : Acc) (cm : Nat → Nat → Int) (o k : Nat) (t : Int) : Int := if A.2.2.2.2.1 o k = -1 then t else if A.2.2.2.2.1 o k = -2 then A.2.2.2.2.2 o k else if t - A.2.2.2.2.2 o k < 0 then A.2.2.2.1 (A.2.2.2.2.1 o k).toNat else cm (A.2.2.2.2.1 o k).toNat (t - A.2.2.2.2.2 o k).toNat
def opM (k a b : Int) : Int := if k = 0 then wr (a + b) else if k = 1 then wr (a - b) else if k = 2 then wr (a * b) else min a b
def acM (A : Acc) (s : PSt) (o t : Nat) : Int := if A.1 o = 4 then s.1 (A.2.1 o).toNat (t + A.2.2.1 o).toNat else if A.1 o = 5 then lkM A s.2 o 0 t else opM (A.1 o) (lkM A s.2 o 0 t) (lkM A s.2 o 1 t)
def up2 (f : Nat → Nat → Int) (a b : Nat) (v : Int) : Nat → Nat → Int := fun i j => if i = a ∧ j = b then v else f i j
def stM (A : Acc) (s : PSt) (o t : Nat) : PSt := (if A.1 o = 5 then up2 s.1 (A.2.1 o).toNat (t + A.2.2.1 o).toNat (acM A s o t) else s.1, up2 s.2 o t (acM A s o t))
def dn (N t o o' t' : Nat) : Prop := o' < N ∧ (t' < t ∨ (t' = t ∧ o' < o))
theorem lkM.cg {A B : Acc} {cm : Nat → Nat → Int} {o k : Nat} {t : Int} (h1 : A.2.2.2.2.1 o k = B.2.2.2.2.1 o k) (h2 : A.2.2.2.2.2 o k = B.2.2.2.2.2 o k) (h3 : 0 ≤ A.2.2.2.2.1 o k → A.2.2.2.1 (A.2.2.2.2.1 o k).toNat = B.2.2.2.1 (A.2.2.2.2.1 o k).toNat) (h4 : -2 ≤ A.2.2.2.2.1 o k) : lkM A cm o k t = lkM B cm o k t := by
  unfold lkM
  rw [← h1, ← h2]
  by_cases a : A.2.2.2.2.1 o k = -1
  · rw [if_pos a, if_pos a]
  · rw [if_neg a, if_neg a]
    by_cases b : A.2.2.2.2.1 o k = -2
    · rw [if_pos b, if_pos b]
    · rw [if_neg b, if_neg b, h3 (by omega)]
def AgO (A B : Acc) (o : Nat) : Prop := A.1 o = B.1 o ∧ (A.1 o = 4 ∨ A.1 o = 5 → A.2.1 o = B.2.1 o ∧ A.2.2.1 o = B.2.2.1 o) ∧ ∀ k, k < 2 → A.2.2.2.2.1 o k = B.2.2.2.2.1 o k ∧ A.2.2.2.2.2 o k = B.2.2.2.2.2 o k ∧ (0 ≤ A.2.2.2.2.1 o k → A.2.2.2.1 (A.2.2.2.2.1 o k).toNat = B.2.2.2.1 (A.2.2.2.2.1 o k).toNat) ∧ -2 ≤ A.2.2.2.2.1 o k
theorem AgO.lk {A B : Acc} {o : Nat} (h : AgO A B o) {cm : Nat → Nat → Int} {k : Nat} (hk : k < 2) {t : Int} : lkM A cm o k t = lkM B cm o k t := by
  have q := h.2.2 k hk
  exact lkM.cg q.1 q.2.1 q.2.2.1 q.2.2.2
theorem AgO.ac {A B : Acc} {o : Nat} (h : AgO A B o) {s : PSt} {t : Nat} : acM A s o t = acM B s o t := by
  unfold acM
  rw [← h.1, h.lk (k := 0) (by omega), h.lk (k := 1) (by omega)]
  by_cases a : A.1 o = 4
  · rw [if_pos a, if_pos a, (h.2.1 (Or.inl a)).1, (h.2.1 (Or.inl a)).2]
  · rw [if_neg a, if_neg a]
theorem AgO.st {A B : Acc} {o : Nat} (h : AgO A B o) {s : PSt} {t : Nat} : stM A s o t = stM B s o t := by
  unfold stM
  rw [h.ac, ← h.1]
  by_cases a : A.1 o = 5
  · rw [if_pos a, if_pos a, (h.2.1 (Or.inr a)).1, (h.2.1 (Or.inr a)).2]
  · rw [if_neg a, if_neg a]
def acsC (m : MM) : Acc := (m 2, rowB m, plcB m, m 4, fun o k => m 3 (4 * o + 2 * k), fun o k => m 3 (4 * o + 2 * k + 1))
def acsR (m : MM) : Acc := (m 144, rowF m, plcF m, m 149, fun o k => srcA m o k, fun o k => srcB m o k)
def SrcK (A : Acc) (N : Nat) (o k : Nat) : Prop := A.2.2.2.2.1 o k < 0 ∨ (A.2.2.2.2.1 o k < N ∧ (0 < A.2.2.2.2.2 o k ∨ A.2.2.2.2.1 o k < o) ∧ 0 ≤ A.2.2.2.2.2 o k)
theorem lkM.dnq {A : Acc} {N o k t : Nat} {cm cm2 : Nat → Nat → Int} (hs : SrcK A N o k) (h2 : -2 ≤ A.2.2.2.2.1 o k) (ho : o < N) (h : ∀ o' t', dn N t o o' t' → cm o' t' = cm2 o' t') : lkM A cm o k t = lkM A cm2 o k t := by
  unfold lkM SrcK at *
  by_cases a : A.2.2.2.2.1 o k = -1
  · rw [if_pos a, if_pos a]
  · rw [if_neg a, if_neg a]
    by_cases b : A.2.2.2.2.1 o k = -2
    · rw [if_pos b, if_pos b]
    · rw [if_neg b, if_neg b]
      by_cases c : (t : Int) - A.2.2.2.2.2 o k < 0
      · rw [if_pos c, if_pos c]
      · rw [if_neg c, if_neg c, h]
        unfold dn
        omega
def PlC (m : MM) (s : PSt) (N t o : Nat) : Prop := (∀ r p : Nat, r < 2 → p < 64 → m (136 + r) p = s.1 r p) ∧ ∀ o' t' : Nat, dn N t o o' t' → m 138 (40 * o' + t') = s.2 o' t'
def PlR (m : MM) (s : PSt) (N t o : Nat) : Prop := (∀ r p : Nat, r < 2 → p < 64 → m 165 (64 * r + p) = s.1 r p) ∧ ∀ o' t' : Nat, dn N t o o' t' → m 167 (41 * o' + t') = s.2 o' t'
def acC (m : MM) (o t : Nat) : Int := acM (acsC m) (fun r p => m (136 + r) p, fun o t => m 138 (40 * o + t)) o t
def acR (m : MM) (o t : Nat) : Int := acM (acsR m) (fun r p => m 165 (64 * r + p), fun o t => m 167 (41 * o + t)) o t
theorem acM.eq {A : Acc} {s s2 : PSt} {N t o : Nat} (ho : o < N) (hs : ¬ A.1 o = 4 → SrcK A N o 0 ∧ (¬ A.1 o = 5 → SrcK A N o 1)) (h2 : ¬ A.1 o = 4 → -2 ≤ A.2.2.2.2.1 o 0 ∧ (¬ A.1 o = 5 → -2 ≤ A.2.2.2.2.1 o 1)) (hr : A.1 o = 4 → s.1 (A.2.1 o).toNat (t + A.2.2.1 o).toNat = s2.1 (A.2.1 o).toNat (t + A.2.2.1 o).toNat) (h : ∀ o' t', dn N t o o' t' → s.2 o' t' = s2.2 o' t') : acM A s o t = acM A s2 o t := by
  unfold acM
  by_cases a : A.1 o = 4
  · rw [if_pos a, if_pos a, hr a]
  · rw [if_neg a, if_neg a]
    have q := hs a
    rw [lkM.dnq q.1 (h2 a).1 ho h]
    by_cases b : A.1 o = 5
    · rw [if_pos b, if_pos b]
    · rw [if_neg b, if_neg b, lkM.dnq (q.2 b) ((h2 a).2 b) ho h]
end
section
/-! laid by wip/hand/tg.py: a loop turn by turn -/
theorem dn_next {N t o o' t' : Nat} (h : dn N t (o + 1) o' t') : dn N t o o' t' ∨ (o' = o ∧ t' = t) := by unfold dn at *; omega
theorem acsC_fr {m m' : MM} (e : ∀ A i, 0 < A → A < 9 → m' A i = m A i) : acsC m' = acsC m := by
  have h := bd_fr (q := 0) (fun A i a b _ => e A i a b)
  unfold acsC
  rw [h.2.1, h.2.2.1, show m' 2 = m 2 from funext fun i => e 2 i (by omega) (by omega), show m' 4 = m 4 from funext fun i => e 4 i (by omega) (by omega), show m' 3 = m 3 from funext fun i => e 3 i (by omega) (by omega)]
theorem PlC.ac {m m0 : MM} {N t o : Nat} {s : PSt} (h : PlC m s N t o) (hB : BodyOK m0) (hs : SndX m0) (e : ∀ A i, 0 < A → A < 9 → m A i = m0 A i) (hN : N = (m0 1 0).toNat) (ho : o < N) (ht : t < 40) : acC m o t = acM (acsC m0) s o t := by
  have h8 := hB.1
  have hop := hB.2.1 o (by omega)
  unfold acC
  rw [acsC_fr e]
  unfold BOp at hop
  have sk : ∀ k : Nat, (k : Int) < csN m0 o → SrcK (acsC m0) N o k := fun k hk => by
    have q := hs o k (by omega) hk
    have w := hB.src (o := o) (k := k) (by omega) hk
    unfold SrcC at q
    unfold srcOK at w
    unfold SrcK acsC
    simp only
    omega
  refine acM.eq ho (fun k4 => ⟨sk 0 ?_, fun k5 => sk 1 ?_⟩) (fun k4 => ⟨?_, fun k5 => ?_⟩) (fun k4 => ?_) (fun o' t' hd => h.2 o' t' hd)
  · have k4 : ¬ m0 2 o = 4 := k4
    unfold csN; rw [if_neg k4]; split <;> omega
  · have k4 : ¬ m0 2 o = 4 := k4
    have k5 : ¬ m0 2 o = 5 := k5
    unfold csN; rw [if_neg k4, if_neg k5]; omega
  · have k4 : ¬ m0 2 o = 4 := k4
    show -2 ≤ m0 3 (4 * o)
    unfold srcOK at hop
    omega
  · have k4 : ¬ m0 2 o = 4 := k4
    have k5 : ¬ m0 2 o = 5 := k5
    show -2 ≤ m0 3 (4 * o + 2)
    unfold srcOK at hop
    omega
  · have k4 : m0 2 o = 4 := k4
    have w := hop.2.2.1 k4
    have er : rowB m0 o = m0 3 (4 * o) := by unfold rowB; rw [if_neg (by omega)]
    have ep : plcB m0 o = m0 3 (4 * o + 1) := by unfold plcB; rw [if_neg (by omega)]
    exact h.1 (rowB m0 o).toNat ((t : Int) + plcB m0 o).toNat (by omega) (by omega)
theorem PlC.step {m m0 : MM} {N t o : Nat} {s : PSt} (h : PlC m s N t o) (hB : BodyOK m0) (hs : SndX m0) (e : ∀ A i, 0 < A → A < 9 → m A i = m0 A i) (hN : N = (m0 1 0).toNat) (ho : o < N) (ht : t < 40) {m2 : MM} (h2 : m2 = upm (if m 2 o = 5 then upm m (136 + (rowB m o).toNat) ((t : Int) + plcB m o).toNat (acC m o t) else m) 138 (40 * o + t) (acC m o t)) : PlC m2 (stM (acsC m0) s o t) N t (o + 1) := by
  have h8 := hB.1
  have hop := hB.2.1 o (by omega)
  have ea := h.ac hB hs e hN ho ht
  have ek := e 2 o (by omega) (by omega)
  have eb := bd_fr (q := 0) (fun A i a b _ => e A i a b)
  unfold BOp at hop
  rw [ea, ek, eb.2.1, eb.2.2.1] at h2
  generalize acM (acsC m0) s o t = v at h2 ea ⊢
  have hv : stM (acsC m0) s o t = (if m0 2 o = 5 then up2 s.1 (rowB m0 o).toNat ((t : Int) + plcB m0 o).toNat v else s.1, up2 s.2 o t v) := by
    have ea2 := h.ac hB hs e hN ho ht
    unfold stM
    rw [← ea2, ea]
    rfl
  rw [hv]
  refine ⟨fun r p hr hp => ?_, fun o' t' hd => ?_⟩
  · rw [h2, upm_ne (by omega)]
    by_cases k5 : m0 2 o = 5
    · rw [if_pos k5]
      show _ = (if m0 2 o = 5 then up2 s.1 (rowB m0 o).toNat ((t : Int) + plcB m0 o).toNat v else s.1) r p
      rw [if_pos k5]
      unfold up2
      by_cases w : r = (rowB m0 o).toNat ∧ p = ((t : Int) + plcB m0 o).toNat
      · rw [if_pos w, w.1, w.2]; exact upm_eq
      · rw [if_neg w, upm_ne (by omega)]; exact h.1 r p hr hp
    · rw [if_neg k5]
      show _ = (if m0 2 o = 5 then up2 s.1 (rowB m0 o).toNat ((t : Int) + plcB m0 o).toNat v else s.1) r p
      rw [if_neg k5]; exact h.1 r p hr hp
  · rw [h2]
    show _ = up2 s.2 o t v o' t'
    unfold up2
    have hd' := hd
    unfold dn at hd'
    by_cases w : o' = o ∧ t' = t
    · rw [if_pos w, w.1, w.2]; exact upm_eq
    · rw [if_neg w, upm_ne (by omega)]
      have hd2 := (dn_next hd).resolve_right w
      by_cases k5 : m0 2 o = 5
      · rw [if_pos k5]
        have q := hop.2.2.2 k5
        have er : rowB m0 o = m0 3 (4 * o + 2) := by unfold rowB; rw [if_pos k5]
        rw [upm_ne (by omega)]; exact h.2 o' t' hd2
      · rw [if_neg k5]; exact h.2 o' t' hd2
theorem RefOK.rw {m : MM} (h : RefOK m) {o : Nat} (ho : o < 8) (hk : m 144 o = 4 ∨ m 144 o = 5) : (0 ≤ rowF m o ∧ rowF m o ≤ 1) ∧ 0 ≤ plcF m o ∧ plcF m o ≤ 7 := by
  have q := h.ops.2.1 o ho
  unfold OpOK at q
  unfold rowF plcF
  rcases hk with k | k
  · have := q.2.2.2.1 k
    rw [if_pos k, if_pos k]; omega
  · have := q.2.2.2.2 k
    rw [if_neg (by omega), if_neg (by omega)]; omega
theorem acsR_fr {m m' : MM} (e : ∀ A i, 143 < A → A < 154 → m' A i = m A i) : acsR m' = acsR m := by
  unfold acsR rowF plcF srcA srcB
  rw [show m' 144 = m 144 from funext fun i => e 144 i (by omega) (by omega), show m' 145 = m 145 from funext fun i => e 145 i (by omega) (by omega), show m' 146 = m 146 from funext fun i => e 146 i (by omega) (by omega), show m' 147 = m 147 from funext fun i => e 147 i (by omega) (by omega), show m' 148 = m 148 from funext fun i => e 148 i (by omega) (by omega), show m' 149 = m 149 from funext fun i => e 149 i (by omega) (by omega)]
theorem PlR.ac {m m0 : MM} {N t o : Nat} {s : PSt} (h : PlR m s N t o) (hr : RefOK m0) (hs : SoundM m0) (e : ∀ A i, 143 < A → A < 154 → m A i = m0 A i) (hN : N = (m0 143 1).toNat) (ho : o < N) (ht : t < 40) : acR m o t = acM (acsR m0) s o t := by
  have h8 := hr.ops.1
  have hop := hr.ops.2.1 o (by omega)
  have hab := hr.ab o (by omega)
  unfold acR
  rw [acsR_fr e]
  unfold OpOK at hop
  have sk : ∀ k : Nat, (k : Int) < srcN m0 o → SrcK (acsR m0) N o k := fun k hk => by
    have q := hs o (by omega) k (by omega) hk
    have w := hr.ops.src (o := o) (by omega) (k := (k : Int)) (by omega) hk
    unfold SrcS at q
    unfold srcOK at w
    unfold SrcK acsR
    simp only
    omega
  refine acM.eq ho (fun k4 => ⟨sk 0 ?_, fun k5 => sk 1 ?_⟩) (fun _ => ⟨hab.1.1, fun _ => hab.2.1⟩) (fun k4 => ?_) (fun o' t' hd => h.2 o' t' hd)
  · have k4 : ¬ m0 144 o = 4 := k4
    unfold srcN; rw [if_neg k4]; split <;> omega
  · have k4 : ¬ m0 144 o = 4 := k4
    have k5 : ¬ m0 144 o = 5 := k5
    unfold srcN; rw [if_neg k4, if_neg k5]; omega
  · have k4 : m0 144 o = 4 := k4
    have w := hr.rw (o := o) (by omega) (Or.inl k4)
    exact h.1 (rowF m0 o).toNat ((t : Int) + plcF m0 o).toNat (by omega) (by omega)
theorem PlR.step {m m0 : MM} {N t o : Nat} {s : PSt} (h : PlR m s N t o) (hr : RefOK m0) (hs : SoundM m0) (e : ∀ A i, 143 < A → A < 154 → m A i = m0 A i) (hN : N = (m0 143 1).toNat) (ho : o < N) (ht : t < 40) {m2 : MM} (h2 : m2 = if m 144 o = 5 then upm (upm m 167 (41 * o + t) (acR m o t)) 165 (64 * (rowF m o).toNat + ((t : Int) + plcF m o).toNat) (acR m o t) else upm m 167 (41 * o + t) (acR m o t)) : PlR m2 (stM (acsR m0) s o t) N t (o + 1) := by
  have h8 := hr.ops.1
  have ea := h.ac hr hs e hN ho ht
  have ek := e 144 o (by omega) (by omega)
  have eb : rowF m o = rowF m0 o ∧ plcF m o = plcF m0 o := by
    have q := acsR_fr e
    exact ⟨congrFun (congrArg (fun A : Acc => A.2.1) q) o, congrFun (congrArg (fun A : Acc => A.2.2.1) q) o⟩
  rw [ea, ek, eb.1, eb.2] at h2
  generalize hvv : acM (acsR m0) s o t = v at h2 ea
  have hv : stM (acsR m0) s o t = (if m0 144 o = 5 then up2 s.1 (rowF m0 o).toNat ((t : Int) + plcF m0 o).toNat v else s.1, up2 s.2 o t v) := by
    unfold stM
    rw [hvv]
    rfl
  rw [hv]
  have hw : m0 144 o = 5 → (0 ≤ rowF m0 o ∧ rowF m0 o ≤ 1) ∧ 0 ≤ plcF m0 o ∧ plcF m0 o ≤ 7 := fun k5 => hr.rw (o := o) (by omega) (Or.inr k5)
  refine ⟨fun r p hr2 hp => ?_, fun o' t' hd => ?_⟩
  · by_cases k5 : m0 144 o = 5
    · have q := hw k5
      rw [h2, if_pos k5]
      show _ = (if m0 144 o = 5 then up2 s.1 (rowF m0 o).toNat ((t : Int) + plcF m0 o).toNat v else s.1) r p
      rw [if_pos k5]
      unfold up2
      by_cases w : r = (rowF m0 o).toNat ∧ p = ((t : Int) + plcF m0 o).toNat
      · rw [if_pos w, w.1, w.2]; exact upm_eq
      · rw [if_neg w, upm_ne (by omega), upm_ne (by omega)]; exact h.1 r p hr2 hp
    · rw [h2, if_neg k5, upm_ne (by omega)]
      show _ = (if m0 144 o = 5 then up2 s.1 (rowF m0 o).toNat ((t : Int) + plcF m0 o).toNat v else s.1) r p
      rw [if_neg k5]; exact h.1 r p hr2 hp
  · show _ = up2 s.2 o t v o' t'
    unfold up2
    have hd' := hd
    unfold dn at hd'
    have eA : m2 167 (41 * o' + t') = upm m 167 (41 * o + t) v 167 (41 * o' + t') := by
      by_cases k5 : m0 144 o = 5
      · rw [h2, if_pos k5, upm_ne (by omega)]
      · rw [h2, if_neg k5]
    rw [eA]
    by_cases w : o' = o ∧ t' = t
    · rw [if_pos w, w.1, w.2]; exact upm_eq
    · rw [if_neg w, upm_ne (by omega)]; exact h.2 o' t' ((dn_next hd).resolve_right w)
end
section
/-! what holds of the heap between the law's calls, with what both sides tell of ops -/
def LM (h : PH) (m : MM) (g : Nat → Int64) : Prop := RA h ∧ h[173]? = some (.inl (1, 1, .inr (.inl g))) ∧ RH h h m
def LR (h : PH) : Prop := ∃ m g, LM h m g ∧ ClS m ∧ RefOK m ∧ RelB m
theorem RH.self {h0 h : PH} {mem : MM} (H : RH h0 h mem) : RH h h mem := ⟨fun _ _ => rfl, H.2⟩
theorem LM.step {h h' : PH} {m m' : MM} {g : Nat → Int64} (hL : LM h m g) (H : RH h h' m') : LM h' m' g := by
  obtain ⟨h1, h2, -⟩ := hL
  exact ⟨RA.at h1 H, by rw [H.1 173 rfl]; exact h2, H.self⟩
theorem LM.out {h : PH} {m : MM} {g g2 : Nat → Int64} (hL : LM h m g) : LM (h.set 173 (.inl (1, 1, .inr (.inl g2)))) m g2 := by
  obtain ⟨h1, h2, H⟩ := hL
  have hl := (List.getElem?_eq_some_iff.mp h2).1
  have e : ∀ A, ¬ A = 173 → (h.set 173 (.inl (1, 1, .inr (.inl g2))))[A]? = h[A]? := fun A q => List.getElem?_set_ne (fun z => q z.symm)
  refine ⟨?_, List.getElem?_set_self hl, ⟨fun _ _ => rfl, fun A s hA => ?_⟩⟩
  · unfold RA
    rw [e 37 (by decide), e 135 (by decide)]; exact h1
  · obtain ⟨y, a, b⟩ := H.2 A s hA
    exact ⟨y, by rw [e A (fun z => by rw [z] at hA; cases hA)]; exact a, b⟩
theorem LM.obj {h : PH} {m : MM} {g : Nat → Int64} (hL : LM h m g) {A ci : Nat} {fs : List (Option Nat)} (hA : shA A = some (.inr (ci, fs))) : ∃ gs, h[A]? = some (.inr (ci, gs)) := by
  obtain ⟨gs, g, -⟩ := hL.2.2.obj hA
  exact ⟨gs, g⟩
theorem callQM {S : Nat × (Nat → Int32)} {n μ : Nat} {args : List WV} {h : PH} {m : MM} {g : Nat → Int64} {K : Int → MM → Prop} {E : Nat → MM → Prop} (ha : ∀ v ∈ args, vOK v) (hL : LM h m g) (spec : CQI (Ex S n) μ args m K E) : Ex S n μ (args.map wv) h (fun r h' => (∃ y m', r = .inl (some (.int (Int32.ofInt y))) ∧ InI y ∧ LM h' m' g ∧ K y m') ∨ ∃ e m', r = .inr e ∧ LM h' m' g ∧ E e m') := by
  refine Ex.mono S n _ _ _ _ _ ?_ (spec ha h h hL.1 hL.2.2)
  rintro r h' ⟨x, m', rfl, k2, k3, k4⟩
  cases x with
  | inr e => exact Or.inr ⟨e, m', rfl, hL.step k3, k4⟩
  | inl o => cases o with
    | none => exact False.elim k4
    | some v => cases v with
      | inr A => exact False.elim k4
      | inl y => exact Or.inl ⟨y, m', rfl, k2, hL.step k3, k4⟩
theorem callQV {S : Nat × (Nat → Int32)} {n μ : Nat} {args : List WV} {h : PH} {m : MM} {g : Nat → Int64} {K : MM → Prop} {E : Nat → MM → Prop} (ha : ∀ v ∈ args, vOK v) (hL : LM h m g) (spec : CQV (Ex S n) μ args m K E) : Ex S n μ (args.map wv) h (fun r h' => (∃ m', r = .inl none ∧ LM h' m' g ∧ K m') ∨ ∃ e m', r = .inr e ∧ LM h' m' g ∧ E e m') := by
  refine Ex.mono S n _ _ _ _ _ ?_ (spec ha h h hL.1 hL.2.2)
  rintro r h' ⟨x, m', rfl, k2, k3, k4⟩
  cases x with
  | inr e => exact Or.inr ⟨e, m', rfl, hL.step k3, k4⟩
  | inl o => cases o with
    | some v => cases v <;> exact False.elim k4
    | none => exact Or.inl ⟨m', rfl, hL.step k3, k4⟩
def pRf (A _i : Nat) : Prop := 143 ≤ A
theorem CJ.e_ref {m m' : MM} (h : CJ m) (hF : Frm pRf m m') : CJ m' := by
  exact ⟨h.b.fr (fun A i a b => hF A i (by unfold pRf; omega)), h.w.fr (fun A i a b => hF A i (by unfold pRf; omega)), h.w2.fr (fun A i a b => hF A i (by unfold pRf; omega)), by rw [hF 19 0 (by unfold pRf; omega)]; exact h.r, h.hs.fr (fun A i a b => hF A i (by unfold pRf; omega)), fun o ho => by rw [hF 24 o (by unfold pRf; omega), hF 22 o (by unfold pRf; omega)]; exact h.us o ho, fun Q' hQ' => (h.ch Q' hQ').fr3 (fun A i q => hF A i (by have := hQ'.rg; unfold pRf; omega)), by rw [hF 0 10 (by unfold pRf; omega)]; exact h.so, by rw [hF 0 11 (by unfold pRf; omega)]; exact h.st⟩
theorem Rdy.e_ref {m m' : MM} (h : Rdy m) (hF : Frm pRf m m') : Rdy m' := by
  exact ⟨CJ.e_ref h.1 hF , ⟨by rw [hF 0 11 (by unfold pRf; omega)]; exact h.2.1.1, h.2.1.2.fr (fun A i q => hF A i (by unfold pRf; omega))⟩, by rw [hF 0 10 (by unfold pRf; omega)]; exact h.2.2.1, h.2.2.2.1.fr (fun A i q => hF A i (by unfold pRf; omega)), h.2.2.2.2.fr (fun A i a b => hF A i (by unfold pRf; omega))⟩
theorem RfC.e_ref {m m' : MM} (h : RfC m) (hF : Frm pRf m m') : RfC m' := by
  exact ⟨CJ.e_ref h.1 hF , by rw [hF 0 11 (by unfold pRf; omega)]; exact h.2.1, fun z => by
    rw [hF 0 10 (by unfold pRf; omega)] at z
    exact (h.2.2.1 z).fr (fun A i q => hF A i (by unfold pRf; omega)), SX.fr h.2.2.2 (hF 0 10 (by unfold pRf; omega)) (fun A i a b => hF A i (by unfold pRf; omega))⟩
theorem ClS.ref {m m' : MM} (h : ClS m) (hF : Frm pRf m m') : ClS m' := ⟨CJ.e_ref h.1 hF, fun a b => by
  rw [hF 0 11 (by unfold pRf; omega)] at a
  rw [hF 0 10 (by unfold pRf; omega)] at b
  exact ⟨(h.2.1 a b).1.fr (fun A i q => hF A i (by unfold pRf; omega)), (h.2.1 a b).2.fr (fun A i q => hF A i (by unfold pRf; omega))⟩, fun a => SX.fr (h.2.2 (by rw [hF 0 11 (by unfold pRf; omega)] at a; exact a)) (hF 0 10 (by unfold pRf; omega)) (fun A i a b => hF A i (by unfold pRf; omega))⟩
theorem RefOK.fr {m m' : MM} (h : RefOK m) (e : ∀ A i, 143 ≤ A → A ≤ 172 → m' A i = m A i) : RefOK m' :=
  Kp.rest (fun A i q => e A i (by omega) (by omega)) h (fun o ho => by rw [e 160 o (by omega) (by omega)]; exact h.sl o ho) (fun j hj => by rw [e _ _ (by omega) (by omega), e _ _ (by omega) (by omega), e _ _ (by omega) (by omega), e _ _ (by omega) (by omega)]; exact h.r48 j hj) (by rw [e 143 12 (by omega) (by omega)]; exact h.nd)
theorem p_call_mk {C : CXW} {M N : PM} {hd : List (Nat × Nat × Nat × Int)} {Q : Rs → PH → Prop} {K : Kt} {pc μ : Nat} {virt : Bool} {lv : LV} {av rest : List Value} {h : PH} {c s : Nat} (hN : MT[μ]? = some N) (hl : av.length = pN N) (hr : (rest.map Value.category).sum ≤ 8) (hc : c + pC N ≤ pC M) (hs : s + pS N ≤ pS M) (hv : virt = true → ∃ a fs, av[0]? = some (.ref a) ∧ h[a]? = some (.inr (pO N, fs))) (H : C μ av h (p_back M hd Q K pc lv rest (c + pC N) (s + pS N))) : p_call C M hd Q K pc μ virt lv (av.reverse ++ rest) h c s := by
  unfold p_call
  rw [hN]
  have el : av.reverse.length = pN N := by rw [List.length_reverse]; exact hl
  have e1 : (av.reverse ++ rest).take (pN N) = av.reverse := by rw [← el, List.take_left]
  have e2 : (av.reverse ++ rest).drop (pN N) = rest := by rw [← el, List.drop_left]
  simp only [e1, e2, List.reverse_reverse]
  refine ⟨by rw [List.length_append, el]; omega, hr, hc, hs, fun q => ?_, H⟩
  obtain ⟨a, fs, g1, g2⟩ := hv q
  exact ⟨a, fs, by rw [List.getLast?_reverse, List.head?_eq_getElem?]; exact g1, g2⟩
theorem vp00 : vp_in (Int32.ofInt 0) 1 := vp_in_iff.mpr (by decide)
theorem st_last {C : CXW} (hC : Cmono C) {S : Nat × (Nat → Int32)} {M : PM} {hd : List (Nat × Nat × Nat × Int)} {Q : Rs → PH → Prop} {pc : Nat} {lv : LV} {r : List Value} {h : PH} {c s : Nat} {x : Int64} {g : Nat → Int64} (ht : (pT M).find? (fun e => e.1 == pc) = some (pc, .lastore, 0, 0)) (hg : h[173]? = some (.inl (1, 1, .inr (.inl g)))) (H : ∀ g2 : Nat → Int64, g2 0 = x → Vx C S M hd Q (pc + 1) lv r (h.set 173 (.inl (1, 1, .inr (.inl g2)))) c s) : Vx C S M hd Q pc lv (.long x :: .int (Int32.ofInt 0) :: .ref 173 :: r) h c s := Vx.go hC ht (show p_last h _ (fun st h => Vx C S M hd Q (pc + 1) lv st h c s) from last_mk hg vp00 (H _ (by
  show vp_updL g (Int32.ofInt 0).toNatClampNeg x 0 = x
  rw [show (Int32.ofInt 0).toNatClampNeg = 0 by decide]
  unfold vp_updL
  simp)))
theorem LR.cls {h' : PH} {m m' : MM} {g' : Nat → Int64} (hL : LM h' m' g') (hr : RefOK m) (hb : RelB m) (hc : ClS m') (hF : Frm pNb m m') : LR h' := ⟨m', g', hL, hc, hr.fr (fun A i a b => hF A i (by unfold pNb; omega)), hb.fr (fun A i q => hF A i (by unfold pNb; omega))⟩
theorem LR.refq {h' : PH} {m m' : MM} {g' : Nat → Int64} (hL : LM h' m' g') (hc : ClS m) (hb : RelB m) (hr : RefOK m') (hF : FrQ m m') : LR h' := ⟨m', g', hL, hc.ref (fun A i q => hF A i (by unfold pRf at q; omega)), hr, hb.fr (fun A i q => hF A i (by omega))⟩
end
