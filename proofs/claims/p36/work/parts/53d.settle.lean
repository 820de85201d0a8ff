/-! settle by its depth; take: what stands at its heads -/
theorem f_96 {S : Nat × (Nat → Int32)} {n : Nat} {d : Int} : ∀ (c : Nat) (y : Int) (mem : MM) (K : Int → MM → Prop) (E : Nat → MM → Prop), y + c = 9 → SkO mem d → (∀ r m', r = 0 ∨ r = 1 → FrS mem m' → K r m') → CQI (Ex S (n + c + 4)) 96 [.inr 21, .inl y] mem K E := by
  intro c
  induction c with
  | zero => intro y mem K E hy hS H; exact g_96 hS (fun z _ h => absurd h (by omega)) H
  | succ c ih => intro y mem K E hy hS H; exact g_96 (n := n + (c + 1)) hS (fun z hz _ m K' E' h1 h2 => ih z m K' E' (by omega) h1 h2) H
theorem f_96z {S : Nat × (Nat → Int32)} {n : Nat} {d : Int} {mem : MM} {K : Int → MM → Prop} {E : Nat → MM → Prop} (hS : SkO mem d) (H : ∀ r m', r = 0 ∨ r = 1 → FrS mem m' → K r m') : CQI (Ex S (n + 13)) 96 [.inr 21, .inl 0] mem K E := f_96 (n := n) 9 0 mem K E (by omega) hS H
theorem upm_rg {m : MM} {A i B j : Nat} {x lo hi : Int} (h1 : B = A ∧ j = i → lo ≤ x ∧ x ≤ hi) (h2 : ¬ (B = A ∧ j = i) → lo ≤ m B j ∧ m B j ≤ hi) : lo ≤ upm m A i x B j ∧ upm m A i x B j ≤ hi := by
  by_cases q : B = A ∧ j = i
  · rw [q.1, q.2, upm_eq]; exact h1 q
  · rw [upm_ne q]; exact h2 q
def pBz (o : Int) (A i : Nat) : Prop := A = 27 ∧ 4 * o.toNat ≤ i ∧ i < 4 * o.toNat + 4
def pK7 (A _i : Nat) : Prop := A = 21 ∨ (24 ≤ A ∧ A ≤ 28)
def TkI (mem m : MM) (d c x : Int) : Prop := (m 21 0 = mem 1 0 ∧ m 21 1 = d) ∧ (∀ o, o < 8 → 0 ≤ m 24 o ∧ m 24 o ≤ 2) ∧ (∀ u : Nat, (u : Int) < c → 1 ≤ m 25 u ∧ m 25 u ≤ 3) ∧ ∀ o r : Nat, (o : Int) < x → r < 4 → 0 ≤ m 27 (4 * o + r) ∧ m 27 (4 * o + r) ≤ m 25 (m 24 o).toNat
theorem TkI.le {mem m : MM} {d c x c' x' : Int} (h : TkI mem m d c x) (h1 : c' ≤ c) (h2 : x' ≤ x) : TkI mem m d c' x' := ⟨h.1, h.2.1, fun u hu => h.2.2.1 u (by omega), fun o r ho hr => h.2.2.2 o r (by omega) hr⟩
theorem TkI.up0 {mem m : MM} {d c x v : Int} {A i : Nat} (h : TkI mem m d c x) (q : ¬ (A = 21 ∧ i < 2) ∧ ¬ A = 24 ∧ ¬ A = 25 ∧ ¬ A = 27) : TkI mem (upm m A i v) d c x := by
  refine ⟨?_, fun o ho => ?_, fun u hu => ?_, fun o r ho hr => ?_⟩
  · rw [upm_ne (by omega), upm_ne (by omega)]; exact h.1
  · rw [upm_ne (by omega)]; exact h.2.1 o ho
  · rw [upm_ne (by omega)]; exact h.2.2.1 u hu
  · rw [upm_ne (by omega), upm_ne (A := A) (B := 24) (by omega), upm_ne (by omega)]; exact h.2.2.2 o r ho hr
theorem TkI.up25 {mem m : MM} {d c v : Int} {i : Nat} (h : TkI mem m d c 0) (hv : 1 ≤ v ∧ v ≤ 3) (hi : c = (i : Int)) : TkI mem (upm m 25 i v) d (c + 1) 0 := by
  refine ⟨?_, fun o ho => ?_, fun u hu => ?_, fun o r ho hr => absurd ho (by omega)⟩
  · rw [upm_ne (by omega), upm_ne (by omega)]; exact h.1
  · rw [upm_ne (by omega)]; exact h.2.1 o ho
  · exact upm_rg (fun _ => hv) (fun q => h.2.2.1 u (by omega))
theorem TkI.up24 {mem m : MM} {d c x v : Int} {i : Nat} (h : TkI mem m d c x) (hv : 0 ≤ v ∧ v ≤ 2) (hi : x = (i : Int)) : TkI mem (upm m 24 i v) d c x := by
  refine ⟨?_, fun o ho => ?_, fun u hu => ?_, fun o r ho hr => ?_⟩
  · rw [upm_ne (by omega), upm_ne (by omega)]; exact h.1
  · exact upm_rg (fun _ => hv) (fun q => h.2.1 o ho)
  · rw [upm_ne (by omega)]; exact h.2.2.1 u hu
  · rw [upm_ne (by omega), upm_ne (A := 24) (B := 24) (by omega), upm_ne (by omega)]; exact h.2.2.2 o r ho hr
theorem TkI.asks {mem m m' : MM} {d x : Int} (h : TkI mem m d 3 x) (hx : 0 ≤ x) (hF : Frm (pBz x) m m') (ha : ∀ k, k < 4 → 0 ≤ m' 27 (4 * x.toNat + k) ∧ m' 27 (4 * x.toNat + k) ≤ m 25 (m 24 x.toNat).toNat) : TkI mem m' d 3 (x + 1) := by
  have e : ∀ A i, ¬ A = 27 → m' A i = m A i := fun A i q => hF A i (by unfold pBz; omega)
  refine ⟨?_, fun o ho => ?_, fun u hu => ?_, fun o r ho hr => ?_⟩
  · rw [e _ _ (by omega), e _ _ (by omega)]; exact h.1
  · rw [e _ _ (by omega)]; exact h.2.1 o ho
  · rw [e _ _ (by omega)]; exact h.2.2.1 u hu
  · rw [e 24 _ (by omega), e 25 _ (by omega)]
    by_cases q : o = x.toNat
    · rw [q]; exact ha r hr
    · rw [hF 27 _ (by unfold pBz; omega)]; exact h.2.2.2 o r (by omega) hr
theorem TkI.start {mem : MM} {d v f g : Int} (hU : ∀ o, o < 8 → 0 ≤ mem 24 o ∧ mem 24 o ≤ 2) (e : v = mem 1 0) : TkI mem (upm (upm (upm (upm mem 21 0 v) 21 1 d) 21 2 f) 21 4 g) d 0 0 := by
  refine ⟨⟨?_, ?_⟩, fun o ho => ?_, fun u hu => absurd hu (by omega), fun o r ho hr => absurd ho (by omega)⟩
  · rw [upm_ne (by omega), upm_ne (by omega), upm_ne (by omega), upm_eq]; exact e
  · rw [upm_ne (by omega), upm_ne (by omega), upm_eq]
  · rw [upm_ne (by omega), upm_ne (by omega), upm_ne (by omega), upm_ne (by omega)]; exact hU o ho
theorem TkI.sko {mem m : MM} {d x : Int} (h : TkI mem m d 3 x) (hx : m 21 0 ≤ x) (h8 : 0 ≤ mem 1 0 ∧ mem 1 0 ≤ 8) (hd : 1 ≤ d ∧ d ≤ 12) : SkO m d := by
  have e := h.1.1
  exact ⟨by omega, ⟨h.1.2, hd⟩, h.2.1, fun u hu => h.2.2.1 u (by omega), fun o r ho hr => h.2.2.2 o r (by omega) hr⟩
