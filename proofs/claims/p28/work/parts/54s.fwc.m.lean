section
/-! ways of needs: the greatest of all walks; how both sides draw them -/
def WyV (E : Nat → Nat → Int → Prop) (nn : Int) (a b : Nat) (w : Int) : Prop := (w = nn ∧ ∀ p v, ¬ Wk E a p b v) ∨ (¬ w = nn ∧ (∃ p, Wk E a p b w) ∧ ∀ p v, Wk E a p b v → v ≤ w)
theorem WyV.eq {E : Nat → Nat → Int → Prop} {n1 n2 w1 w2 : Int} {a b : Nat} (h1 : WyV E n1 a b w1) (h2 : WyV E n2 a b w2) : (w1 = n1 ∧ w2 = n2) ∨ (¬ w1 = n1 ∧ ¬ w2 = n2 ∧ w1 = w2) := by
  rcases h1 with ⟨e1, g1⟩ | ⟨e1, ⟨p1, g1⟩, k1⟩
  · rcases h2 with ⟨e2, g2⟩ | ⟨e2, ⟨p2, g2⟩, k2⟩
    · exact Or.inl ⟨e1, e2⟩
    · exact absurd g2 (g1 _ _)
  · rcases h2 with ⟨e2, g2⟩ | ⟨e2, ⟨p2, g2⟩, k2⟩
    · exact absurd g1 (g2 _ _)
    · have a1 := k1 _ _ g2
      have a2 := k2 _ _ g1
      exact Or.inr ⟨e1, e2, by omega⟩
def FwH (E : Nat → Nat → Int → Prop) (k : Nat) : Prop := k ≤ 8 ∧ NoUp E ∧ ∀ a b x, E a b x → (a < k ∧ b < k) ∧ -89 ≤ x ∧ x ≤ 6
def FwC (E : Nat → Nat → Int → Prop) (k A : Nat) (nn : Int) (mem : MM) (m a b : Nat) : Prop :=
  (∀ a' b', a' < k → b' < k → WM mem A a' b' = nn ∨ ∃ p, (∀ c ∈ p, c < m ∨ (c = m ∧ (a' < a ∨ (a' = a ∧ b' < b)))) ∧ Wk E a' p b' (WM mem A a' b')) ∧
  (∀ a' b', a' < k → b' < k → ∀ p v, p.Nodup → (∀ c ∈ p, c < m) → Wk E a' p b' v → v ≤ WM mem A a' b') ∧
  (∀ a' b', a' < k → b' < k → (a' < a ∨ (a' = a ∧ b' < b)) → ∀ p v, p.Nodup → (∀ c ∈ p, c < m + 1) → Wk E a' p b' v → v ≤ WM mem A a' b')
section FWC
variable {E : Nat → Nat → Int → Prop} {k A : Nat} {nn : Int} {mem : MM} {m a b : Nat}
theorem Wk.red (hU : NoUp E) : ∀ (p : List Nat) (a b : Nat) (v : Int), Wk E a p b v → ∃ p' v', p'.Nodup ∧ (∀ c ∈ p', c ∈ p) ∧ Wk E a p' b v' ∧ v ≤ v'
  | [], a, b, v, h => ⟨[], v, List.nodup_nil, fun _ h => h, h, Int.le_refl _⟩
  | c :: q, a, b, v, ⟨x, y, h1, h2, h3⟩ => by
    obtain ⟨q', y', g1, g2, g3, g4⟩ := Wk.red hU q c b y h2
    by_cases hc : c ∈ q'
    · obtain ⟨q1, q2, rfl⟩ := List.append_of_mem hc
      obtain ⟨x1, y2, k1, k2, k3⟩ := Wk.split g3
      rw [List.nodup_append] at g1
      have up := hU c q1 x1 g1.1 k1
      refine ⟨c :: q2, x + y2, g1.2.1, fun e he => ?_, ⟨x, y2, h1, k2, rfl⟩, by omega⟩
      rcases List.mem_cons.mp he with rfl | he
      · exact List.mem_cons_self
      · exact List.mem_cons_of_mem _ (g2 e (List.mem_append_right _ (List.mem_cons_of_mem _ he)))
    · refine ⟨c :: q', x + y', List.nodup_cons.mpr ⟨hc, g1⟩, fun e he => ?_, ⟨x, y', h1, g3, rfl⟩, by omega⟩
      rcases List.mem_cons.mp he with rfl | he
      · exact List.mem_cons_self
      · exact List.mem_cons_of_mem _ (g2 e he)
theorem Wk.ge {c : Int} (hc : 0 ≤ c) (hE : ∀ a b x, E a b x → -c ≤ x) : ∀ {p : List Nat} {a b : Nat} {v : Int}, Wk E a p b v → -(c * ((p.length : Int) + 1)) ≤ v
  | [], a, b, v, h => by have := hE a b v h; simp; omega
  | e :: p, a, b, v, ⟨x, y, h1, h2, h3⟩ => by
    have := hE _ _ _ h1
    have := Wk.ge hc hE h2
    rw [List.length_cons]
    have e1 : c * ((p.length + 1 : Nat) + 1 : Int) = c * (p.length + 1) + c := by
      rw [Int.natCast_add]
      show c * ((p.length : Int) + 1 + 1) = _
      rw [Int.mul_add, Int.mul_one]
    omega
theorem FwH.v (h : FwH E k) (a b : Nat) (x : Int) (e : E a b x) : a < k ∧ b < k := (h.2.2 a b x e).1
theorem FwH.rg (h : FwH E k) {p : List Nat} {a b : Nat} {v : Int} (hn : p.Nodup) (hw : Wk E a p b v) : -801 ≤ v ∧ v ≤ 54 := by
  have l := nd_len (k := 8) hn (fun x hx => by have := (Wk.ends h.v hw).2.2 x hx; have := h.1; omega)
  have g := Wk.ge (c := 89) (by omega) (fun a b x e => by have := h.2.2 a b x e; omega) hw
  have u := Wk.le6 (c := 6) (by omega) (fun a b x e => (h.2.2 a b x e).2.2) hw
  omega
theorem FwH.up (h : FwH E k) {p : List Nat} {a b : Nat} {v : Int} (hw : Wk E a p b v) : v ≤ 54 := by
  obtain ⟨p', v', g1, -, g3, g4⟩ := Wk.red h.2.1 p a b v hw
  have := h.rg g1 g3
  omega
theorem FwC.rg (h : FwH E k) (hI : FwC E k A nn mem m a b) {a' b' : Nat} (ha : a' < k) (hb : b' < k) : WM mem A a' b' = nn ∨ (-801 ≤ WM mem A a' b' ∧ WM mem A a' b' ≤ 54) := by
  rcases hI.1 a' b' ha hb with e | ⟨p, h1, h2⟩
  · exact Or.inl e
  · right
    obtain ⟨p', v', g1, g2, g3, g4⟩ := Wk.red h.2.1 p a' b' _ h2
    have r := h.rg g1 g3
    have u := h.up h2
    by_cases q : a' < a ∨ (a' = a ∧ b' < b)
    · have := hI.2.2 a' b' ha hb q p' v' g1 (fun c hc => by have := h1 c (g2 c hc); omega) g3
      omega
    · have := hI.2.1 a' b' ha hb p' v' g1 (fun c hc => by have := h1 c (g2 c hc); omega) g3
      omega
theorem FwC.le {p : List Nat} {v : Int} (hI : FwC E k A nn mem m a b) (h : FwH E k) (hn : nn < -801) (hm : m < k) (ha : a < k) (hb : b < k) {x : Int} (hx : x = nn ∨ ∃ p, (∀ c ∈ p, c < m + 1) ∧ Wk E a p m x) (hl : ∀ p v, p.Nodup → (∀ c ∈ p, c < m) → Wk E a p m v → v ≤ x) (h1 : p.Nodup) (h2 : ∀ c ∈ p, c < m + 1) (h3 : Wk E a p b v) : v ≤ WM mem A a b ∨ (¬ x = nn ∧ ¬ WM mem A m b = nn ∧ v ≤ x + WM mem A m b) := by
  by_cases hmp : m ∈ p
  · right
    obtain ⟨p1, p2, rfl⟩ := List.append_of_mem hmp
    obtain ⟨v1, v2, g1, g2, g3⟩ := Wk.split h3
    rw [List.nodup_append, List.nodup_cons] at h1
    obtain ⟨n1, ⟨n2, n3⟩, n4⟩ := h1
    have k1 := hl p1 v1 n1 (fun c hc => by
      have := h2 c (List.mem_append_left _ hc)
      have : ¬ c = m := fun e => n4 c hc m List.mem_cons_self e
      omega) g1
    have k2 := hI.2.1 m b hm hb p2 v2 n3 (fun c hc => by
      have := h2 c (List.mem_append_right _ (List.mem_cons_of_mem _ hc))
      have : ¬ c = m := fun e => by subst e; exact n2 hc
      omega) g2
    have r1 := h.rg n1 g1
    have r2 := h.rg n3 g2
    exact ⟨by omega, by omega, by omega⟩
  · exact Or.inl (hI.2.1 a b ha hb p v h1 (fun c hc => by
      have := h2 c hc
      have : ¬ c = m := fun e => by subst e; exact hmp hc
      omega) h3)
theorem FwC.skip (hI : FwC E k A nn mem m a b) (h : FwH E k) (hn : nn < -801) (hm : m < k) (ha : a < k) (hb : b < k) {x : Int} (hx : x = nn ∨ ∃ p, (∀ c ∈ p, c < m + 1) ∧ Wk E a p m x) (hl : ∀ p v, p.Nodup → (∀ c ∈ p, c < m) → Wk E a p m v → v ≤ x) (q : x = nn ∨ WM mem A m b = nn) : FwC E k A nn mem m a (b + 1) := by
  refine ⟨fun i j hi hj => ?_, hI.2.1, fun i j hi hj hl2 p v h1 h2 h3 => ?_⟩
  · rcases hI.1 i j hi hj with e | ⟨p, g1, g2⟩
    · exact Or.inl e
    · exact Or.inr ⟨p, fun c hc => by have := g1 c hc; omega, g2⟩
  · by_cases w : i < a ∨ (i = a ∧ j < b)
    · exact hI.2.2 i j hi hj w p v h1 h2 h3
    · have e1 : i = a := by omega
      have e2 : j = b := by omega
      subst e1
      subst e2
      rcases hI.le h hn hm ha hb hx hl h1 h2 h3 with g | ⟨g1, g2, -⟩
      · exact g
      · exact absurd q (fun z => z.elim g1 g2)
theorem FwC.row (hI : FwC E k A nn mem m a 0) (h : FwH E k) (hn : nn < -801) (hm : m < k) (ha : a < k) (q : WM mem A a m = nn) : FwC E k A nn mem m (a + 1) 0 := by
  refine ⟨fun i j hi hj => ?_, hI.2.1, fun i j hi hj hl2 p v h1 h2 h3 => ?_⟩
  · rcases hI.1 i j hi hj with e | ⟨p, g1, g2⟩
    · exact Or.inl e
    · exact Or.inr ⟨p, fun c hc => by have := g1 c hc; omega, g2⟩
  · by_cases w : i < a
    · exact hI.2.2 i j hi hj (Or.inl w) p v h1 h2 h3
    · have e1 : i = a := by omega
      subst e1
      have hJ : FwC E k A nn mem m i j := ⟨fun i' j' hi' hj' => by
        rcases hI.1 i' j' hi' hj' with e | ⟨p, g1, g2⟩
        · exact Or.inl e
        · exact Or.inr ⟨p, fun c hc => by have := g1 c hc; omega, g2⟩, hI.2.1, fun i' j' hi' hj' w2 p' v' a1 a2 a3 => by
        by_cases w3 : i' < i
        · exact hI.2.2 i' j' hi' hj' (Or.inl w3) p' v' a1 a2 a3
        · have e : i' = i := by omega
          subst e
          by_cases hmp : m ∈ p'
          · obtain ⟨p1, p2, rfl⟩ := List.append_of_mem hmp
            obtain ⟨v1, v2, g1, g2, g3⟩ := Wk.split a3
            rw [List.nodup_append, List.nodup_cons] at a1
            obtain ⟨n1, ⟨n2, n3⟩, n4⟩ := a1
            have k1 := hI.2.1 i' m hi' hm p1 v1 n1 (fun c hc => by
              have := a2 c (List.mem_append_left _ hc)
              have : ¬ c = m := fun e => n4 c hc m List.mem_cons_self e
              omega) g1
            have r1 := h.rg n1 g1
            omega
          · exact hI.2.1 i' j' hi' hj' p' v' a1 (fun c hc => by
              have := a2 c hc
              have : ¬ c = m := fun e => by subst e; exact hmp hc
              omega) a3⟩
      have hx : WM mem A i m = nn ∨ ∃ p, (∀ c ∈ p, c < m + 1) ∧ Wk E i p m (WM mem A i m) := Or.inl q
      rcases hJ.le h hn hm hi hj hx (fun p v b1 b2 b3 => hI.2.1 i m hi hm p v b1 b2 b3) h1 h2 h3 with g | ⟨g1, -, -⟩
      · exact g
      · exact absurd q g1
theorem FwC.upd (hI : FwC E k A nn mem m a b) (h : FwH E k) (hn : nn < -801) (hm : m < k) (ha : a < k) (hb : b < k) {x r : Int} {i : Nat} (hx : ∃ p, (∀ c ∈ p, c < m + 1) ∧ Wk E a p m x) (hl : ∀ p v, p.Nodup → (∀ c ∈ p, c < m) → Wk E a p m v → v ≤ x) (hx2 : -801 ≤ x) (q2 : ¬ WM mem A m b = nn) (hi : i = 8 * a + b) (hr : r = max (WM mem A a b) (x + WM mem A m b)) : FwC E k A nn (upm mem A i r) m a (b + 1) := by
  subst hi
  subst hr
  have k8 := h.1
  have r0 := hI.rg h ha hb
  have r2 := hI.rg h hm hb
  obtain ⟨px, px1, px2⟩ := hx
  have ew : ∀ i j, j < 8 → WM (upm mem A (8 * a + b) (max (WM mem A a b) (x + WM mem A m b))) A i j = if i = a ∧ j = b then max (WM mem A a b) (x + WM mem A m b) else WM mem A i j := fun i j hj => WM_up (by omega) hj
  have ge : ∀ i j, j < 8 → WM mem A i j ≤ WM (upm mem A (8 * a + b) (max (WM mem A a b) (x + WM mem A m b))) A i j := fun i j hj => by
    rw [ew i j hj]
    split
    · rename_i q; obtain ⟨rfl, rfl⟩ := q; omega
    · exact Int.le_refl _
  refine ⟨fun i j hi hj => ?_, fun i j hi hj p v h1 h2 h3 => Int.le_trans (hI.2.1 i j hi hj p v h1 h2 h3) (ge i j (by omega)), fun i j hi hj hl2 p v h1 h2 h3 => ?_⟩
  · rw [ew i j (by omega)]
    by_cases w : i = a ∧ j = b
    · rw [if_pos w]
      obtain ⟨rfl, rfl⟩ := w
      by_cases z : x + WM mem A m j ≤ WM mem A i j
      · rw [show max (WM mem A i j) (x + WM mem A m j) = WM mem A i j by omega]
        rcases hI.1 i j hi hj with e | ⟨p, g1, g2⟩
        · exact Or.inl e
        · exact Or.inr ⟨p, fun c hc => by have := g1 c hc; omega, g2⟩
      · rw [show max (WM mem A i j) (x + WM mem A m j) = x + WM mem A m j by omega]
        rcases hI.1 m j hm hj with e | ⟨p, g1, g2⟩
        · exact absurd e q2
        · refine Or.inr ⟨px ++ m :: p, fun c hc => ?_, Wk.app px2 g2⟩
          rcases List.mem_append.mp hc with hc | hc
          · have := px1 c hc; omega
          · rcases List.mem_cons.mp hc with rfl | hc
            · omega
            · have := g1 c hc; omega
    · rw [if_neg w]
      rcases hI.1 i j hi hj with e | ⟨p, g1, g2⟩
      · exact Or.inl e
      · exact Or.inr ⟨p, fun c hc => by have := g1 c hc; omega, g2⟩
  · by_cases w : i < a ∨ (i = a ∧ j < b)
    · exact Int.le_trans (hI.2.2 i j hi hj w p v h1 h2 h3) (ge i j (by omega))
    · have e1 : i = a := by omega
      have e2 : j = b := by omega
      subst e1
      subst e2
      rw [ew i j (by omega), if_pos ⟨rfl, rfl⟩]
      rcases hI.le h hn hm ha hb (Or.inr ⟨px, px1, px2⟩) hl h1 h2 h3 with g | ⟨-, -, g⟩
      · omega
      · omega
theorem FwC.nextA (h : FwC E k A nn mem m a k) : FwC E k A nn mem m (a + 1) 0 := by
  refine ⟨fun i j hi hj => ?_, h.2.1, fun i j hi hj q => h.2.2 i j hi hj (by omega)⟩
  rcases h.1 i j hi hj with e | ⟨p, g1, g2⟩
  · exact Or.inl e
  · exact Or.inr ⟨p, fun c hc => by have := g1 c hc; omega, g2⟩
theorem FwC.nextM {b : Nat} (h : FwC E k A nn mem m k b) : FwC E k A nn mem (m + 1) 0 0 := by
  refine ⟨fun i j hi hj => ?_, fun i j hi hj => h.2.2 i j hi hj (Or.inl hi), fun i j hi hj q => by omega⟩
  rcases h.1 i j hi hj with e | ⟨p, g1, g2⟩
  · exact Or.inl e
  · exact Or.inr ⟨p, fun c hc => by have := g1 c hc; omega, g2⟩
theorem FwC.ahd (hI : FwC E k A nn mem m a b) (hm : m < k) (ha : a < k) : (WM mem A a m = nn ∨ ∃ p, (∀ c ∈ p, c < m + 1) ∧ Wk E a p m (WM mem A a m)) ∧ ∀ p v, p.Nodup → (∀ c ∈ p, c < m) → Wk E a p m v → v ≤ WM mem A a m := by
  refine ⟨?_, fun p v h1 h2 h3 => hI.2.1 a m ha hm p v h1 h2 h3⟩
  rcases hI.1 a m ha hm with e | ⟨p, g1, g2⟩
  · exact Or.inl e
  · exact Or.inr ⟨p, fun c hc => by have := g1 c hc; omega, g2⟩
theorem FwC.fin (hI : FwC E k A nn mem k 0 0) (h : FwH E k) (hn : nn < -801) {a b : Nat} (ha : a < k) (hb : b < k) : WyV E nn a b (WM mem A a b) := by
  have all : ∀ p v, Wk E a p b v → ∃ p' v', p'.Nodup ∧ Wk E a p' b v' ∧ v ≤ v' ∧ v' ≤ WM mem A a b := fun p v hw => by
    obtain ⟨p', v', g1, g2, g3, g4⟩ := Wk.red h.2.1 p a b v hw
    exact ⟨p', v', g1, g3, g4, hI.2.1 a b ha hb p' v' g1 (fun c hc => (Wk.ends h.v g3).2.2 c hc) g3⟩
  by_cases e : WM mem A a b = nn
  · refine Or.inl ⟨e, fun p v hw => ?_⟩
    obtain ⟨p', v', g1, g2, -, g4⟩ := all p v hw
    have := h.rg g1 g2
    omega
  · refine Or.inr ⟨e, ?_, fun p v hw => ?_⟩
    · rcases hI.1 a b ha hb with z | ⟨p, -, g⟩
      · exact absurd z e
      · exact ⟨p, g⟩
    · obtain ⟨p', v', -, -, g3, g4⟩ := all p v hw
      omega
end FWC
def FwE (c : Nat → Q4) (d : Int) (k A : Nat) (nn : Int) (mem : MM) (j : Nat) : Prop := ∀ a b, a < k → b < k → (WM mem A a b = nn ∨ EdQ c j d a b (WM mem A a b)) ∧ ∀ x, EdQ c j d a b x → x ≤ WM mem A a b
theorem FwE.fwc {c : Nat → Q4} {d nn : Int} {k A j : Nat} {mem : MM} (h : FwE c d k A nn mem j) : FwC (EdQ c j d) k A nn mem 0 0 0 := by
  refine ⟨fun a b ha hb => ?_, fun a b ha hb p v h1 h2 h3 => ?_, fun a b ha hb q => by omega⟩
  · rcases (h a b ha hb).1 with e | e
    · exact Or.inl e
    · exact Or.inr ⟨[], fun c hc => absurd hc List.not_mem_nil, e⟩
  · cases p with
    | nil => exact (h a b ha hb).2 v h3
    | cons c p => exact absurd (h2 c List.mem_cons_self) (by omega)
theorem EdQ_st {c : Nat → Q4} {j : Nat} {d : Int} {a b : Nat} {x : Int} : EdQ c (j + 1) d a b x ↔ EdQ c j d a b x ∨ ((c j).1 = a ∧ (c j).2.1 = b ∧ x = (c j).2.2.2 - d * (c j).2.2.1) := by
  constructor
  · rintro ⟨i, h1, h2⟩
    by_cases e : i = j
    · subst e; exact Or.inr h2
    · exact Or.inl ⟨i, by omega, h2⟩
  · rintro (⟨i, h1, h2⟩ | h2)
    · exact ⟨i, by omega, h2⟩
    · exact ⟨j, by omega, h2⟩
theorem FwE.step {c : Nat → Q4} {d nn r : Int} {k A j i : Nat} {mem : MM} (h : FwE c d k A nn mem j) (k8 : k ≤ 8) {u w : Nat} (hu : (c j).1 = u) (hw : (c j).2.1 = w) (hk : w < k) (hi : i = 8 * u + w) (hn : nn < (c j).2.2.2 - d * (c j).2.2.1) (hr : r = max (WM mem A u w) ((c j).2.2.2 - d * (c j).2.2.1)) : FwE c d k A nn (upm mem A i r) (j + 1) := by
  subst hi
  subst hr
  intro a b ha hb
  have ew : WM (upm mem A (8 * u + w) (max (WM mem A u w) ((c j).2.2.2 - d * (c j).2.2.1))) A a b = if a = u ∧ b = w then max (WM mem A u w) ((c j).2.2.2 - d * (c j).2.2.1) else WM mem A a b := WM_up (by omega) (by omega)
  rw [ew]
  have q := h a b ha hb
  by_cases z : a = u ∧ b = w
  · rw [if_pos z]
    obtain ⟨rfl, rfl⟩ := z
    refine ⟨?_, fun x hx => ?_⟩
    · by_cases z2 : (c j).2.2.2 - d * (c j).2.2.1 ≤ WM mem A a b
      · rw [show max (WM mem A a b) ((c j).2.2.2 - d * (c j).2.2.1) = WM mem A a b by omega]
        rcases q.1 with e | e
        · omega
        · exact Or.inr (EdQ_st.mpr (Or.inl e))
      · rw [show max (WM mem A a b) ((c j).2.2.2 - d * (c j).2.2.1) = (c j).2.2.2 - d * (c j).2.2.1 by omega]
        exact Or.inr (EdQ_st.mpr (Or.inr ⟨hu, hw, rfl⟩))
    · rcases EdQ_st.mp hx with e | ⟨-, -, e⟩
      · have := q.2 x e; omega
      · omega
  · rw [if_neg z]
    refine ⟨q.1.imp id (fun e => EdQ_st.mpr (Or.inl e)), fun x hx => ?_⟩
    rcases EdQ_st.mp hx with e | ⟨e1, e2, -⟩
    · exact q.2 x e
    · exact absurd ⟨by omega, by omega⟩ z
theorem FwE.ini {c : Nat → Q4} {d nn : Int} {k A : Nat} {mem : MM} (k8 : k ≤ 8) (h : ∀ i, i < 64 → mem A i = nn) : FwE c d k A nn mem 0 := fun a b ha hb => ⟨Or.inl (h _ (by omega)), fun x ⟨j, hj, _⟩ => by omega⟩
theorem EdQ.fwh {c : Nat → Q4} {n o : Nat} {d : Int} (ho : o ≤ 8) (hd : 0 ≤ d ∧ d ≤ 12) (hV : EdV c n o) (hR : ∀ j, j < n → (c j).2.2.1 ≤ 7 ∧ -5 ≤ (c j).2.2.2 ∧ (c j).2.2.2 ≤ 6) (hU : NoUp (EdQ c n d)) : FwH (EdQ c n d) o := by
  refine ⟨ho, hU, fun a b x h => ⟨EdQ.v hV a b x h, ?_⟩⟩
  obtain ⟨j, h1, h2, h3, h4⟩ := h
  have r := hR j h1
  have v := (hV j h1).2.1
  have m1 := Int.mul_nonneg hd.1 v
  have m2 := Int.mul_le_mul hd.2 r.1 v (by omega)
  omega
def RchX (m : MM) : Prop := m 19 1 = 0 ∨ (m 19 0 = m 1 0 ∧ ∀ a b : Nat, (a : Int) < m 1 0 → (b : Int) < m 1 0 → WyV (EdQ (cwq m 9) (m 9 0).toNat (m 19 1)) (-100000) a b (WM m 20 a b))
theorem RchX.fr {m m' : MM} (h : RchX m) (e : ∀ A i, (A = 19 ∧ i < 2) ∨ A = 20 ∨ (A = 9 ∧ i = 0) ∨ (10 ≤ A ∧ A ≤ 13) ∨ (A = 1 ∧ i = 0) → m' A i = m A i) : RchX m' := by
  have ec : cwq m' 9 = cwq m 9 := funext fun i => by
    unfold cwq
    rw [e (9 + 1) i (by omega), e (9 + 2) i (by omega), e (9 + 3) i (by omega), e (9 + 4) i (by omega)]
  have ew : ∀ a b, WM m' 20 a b = WM m 20 a b := fun a b => by
    unfold WM
    rw [e 20 _ (by omega)]
  rcases h with h | ⟨h1, h2⟩
  · exact Or.inl (by rw [e 19 1 (by omega)]; exact h)
  · refine Or.inr ⟨by rw [e 19 0 (by omega), e 1 0 (by omega)]; exact h1, fun a b ha hb => ?_⟩
    rw [e 1 0 (by omega)] at ha hb
    rw [ec, e 9 0 (by omega), e 19 1 (by omega), ew]
    exact h2 a b ha hb
end
section
/-! ways of the reference, exactly -/
theorem FwC.sum {E : Nat → Nat → Int → Prop} {k A : Nat} {nn : Int} {mem : MM} {m a b : Nat} (hI : FwC E k A nn mem m a b) (h : FwH E k) {i j l : Nat} (hi : i < k) (hj : j < k) (hl : l < k) (q1 : ¬ WM mem A i j = nn) (q2 : ¬ WM mem A j l = nn) : WM mem A i j + WM mem A j l ≤ 54 := by
  rcases hI.1 i j hi hj with e | ⟨p1, -, g1⟩
  · exact absurd e q1
  · rcases hI.1 j l hj hl with e | ⟨p2, -, g2⟩
    · exact absurd e q2
    · exact h.up (Wk.app g1 g2)
def WyA (m : MM) (d : Int) : Prop := ∀ a b : Nat, (a : Int) < m 143 1 → (b : Int) < m 143 1 → WyV (EdQ (rq m) (m 143 12).toNat d) (-1000) a b (WM m 158 a b)
section RWAY
variable {S : Nat × (Nat → Int32)} {n : Nat} {m0 : MM} {d : Int}
theorem lw_130x (hN : NdsOK m0) {E : Nat → Nat → Int → Prop} (hE : FwH E (m0 143 1).toNat) {Kk : WK} (H : ∀ m', Fr1 158 m0 m' → FwC E (m0 143 1).toNat 158 (-1000) m' (m0 143 1).toNat 0 0 → Kk none m') : ∀ (N : Nat) (m a b : Nat) (mem : MM), (m : Int) < m0 143 1 → (a : Int) < m0 143 1 → (b : Int) ≤ m0 143 1 → 81 * (m0 143 1 - m) + 9 * (m0 143 1 - a) + (m0 143 1 - b) < N → Fr1 158 m0 mem → FwC E (m0 143 1).toNat 158 (-1000) mem m a b → Wx (Ex S (n + 1)) S M_256 Kk 130 [some (.inr 143), some (.inl d), some (.inl (m : Int)), some (.inl (a : Int)), some (.inl (b : Int)), none, none] [] mem := by
  intro N
  induction N with
  | zero => intros; omega
  | succ N ih =>
    intro m a b mem hm ha hb hNN hF hI
    have h8 := hN.1
    have eops : mem 143 1 = m0 143 1 := hF _ _ (by omega)
    have go : ∀ mem', Fr1 158 mem mem' → (b : Int) < m0 143 1 → FwC E (m0 143 1).toNat 158 (-1000) mem' m a (b + 1) → InI ((b : Int) + 1) ∧ Wx (Ex S (n + 1)) S M_256 Kk 130 [some (.inr 143), some (.inl d), some (.inl (m : Int)), some (.inl (a : Int)), some (.inl ((b : Int) + 1)), none, none] [] mem' := fun mem' h1 h2 h3 => ⟨by unfold InI; omega, ih m a (b + 1) mem' hm ha (by omega) (by omega) (hF.tr h1) h3⟩
    refine w_256_130 (Ex.mono S (n + 1)) (fun v e _ => ⟨fun q => ⟨by unfold InI; omega, ?_⟩, fun q => ?_⟩)
    · rw [show b = (m0 143 1).toNat by omega] at hI
      have hI := hI.nextA
      refine w_256_119 (Ex.mono S (n + 1)) (fun v e _ => ⟨fun q2 => ⟨by unfold InI; omega, ?_⟩, fun q2 => ?_⟩)
      · rw [show a + 1 = (m0 143 1).toNat by omega] at hI
        have hI := hI.nextM
        refine w_256_109 (Ex.mono S (n + 1)) (fun v e _ => ⟨fun q3 => H mem hF ?_, fun q3 => ?_⟩)
        · rw [show m + 1 = (m0 143 1).toNat by omega] at hI
          exact hI
        · refine w_256_119 (Ex.mono S (n + 1)) (fun v e _ => ⟨fun q4 => by omega, fun q4 => ?_⟩)
          exact ih (m + 1) 0 0 mem (by omega) (by omega) (by omega) (by omega) hF hI
      · exact ih m (a + 1) 0 mem hm (by omega) (by omega) (by omega) hF hI
    · have hb2 : (b : Int) < m0 143 1 := by omega
      have r1 := hI.rg hE (a' := a) (b' := m) (by omega) (by omega)
      have r2 := hI.rg hE (a' := m) (b' := b) (by omega) (by omega)
      have r0 := hI.rg hE (a' := a) (b' := b) (by omega) (by omega)
      obtain ⟨c1, c2⟩ := hI.ahd (show m < (m0 143 1).toNat by omega) (show a < (m0 143 1).toNat by omega)
      have hi : ∀ x y : Nat, (x : Int) < m0 143 1 → (y : Int) < m0 143 1 → InI (8 * (x : Int)) ∧ InI (8 * (x : Int) + y) ∧ (0 ≤ 8 * (x : Int) + y ∧ 8 * (x : Int) + y < 64) := fun x y h1 h2 => by unfold InI; omega
      obtain ⟨i1, i2, i3⟩ := hi a m ha hm
      obtain ⟨j1, j2, j3⟩ := hi m b hm hb2
      obtain ⟨k1, k2, k3⟩ := hi a b ha hb2
      refine ⟨i1, i2, i3, fun v2 e2 _ => ⟨j1, j2, j3, fun v3 e3 _ => ?_⟩⟩
      have e2 : v2 = WM mem 158 a m := by rw [e2, ix8]; rfl
      have e3 : v3 = WM mem 158 m b := by rw [e3, ix8]; rfl
      refine ⟨fun q2 => go mem Fr1.rf hb2 (hI.skip hE (by omega) (by omega) (by omega) (by omega) c1 c2 (Or.inl (by omega))), fun q2 => ⟨fun q3 => go mem Fr1.rf hb2 (hI.skip hE (by omega) (by omega) (by omega) (by omega) c1 c2 (Or.inr (by omega))), fun q3 => ⟨k1, k2, k1, k2, k3, fun v4 e4 _ => ⟨by unfold InI; omega, ?_⟩⟩⟩⟩
      have e4 : v4 = WM mem 158 a b := by rw [e4, ix8]; rfl
      have sm := hI.sum hE (i := a) (j := m) (l := b) (by omega) (by omega) (by omega) (by omega) (by omega)
      refine f_258 (fun _ _ => f_257 (fun _ _ => ⟨k3, ?_⟩))
      rw [ix8]
      exact go _ Fr1.up hb2 (hI.upd hE (by omega) (by omega) (by omega) (by omega) (c1.resolve_left (by omega)) c2 (by omega) (by omega) rfl (by omega))
theorem lw_25x (hN : NdsOK m0) (h18 : m0 143 18 = -1) (hd : 1 ≤ d ∧ d ≤ 12) (hE : FwH (EdQ (rq m0) (m0 143 12).toNat d) (m0 143 1).toNat) {Kk : WK} (H : ∀ m', Fr1 158 m0 m' → FwC (EdQ (rq m0) (m0 143 12).toNat d) (m0 143 1).toNat 158 (-1000) m' (m0 143 1).toNat 0 0 → Kk none m') : ∀ (N : Nat) (k : Nat) (mem : MM), (k : Int) ≤ m0 143 12 → m0 143 12 - k < N → Fr1 158 m0 mem → FwE (rq m0) d (m0 143 1).toNat 158 (-1000) mem k → Wx (Ex S (n + 1)) S M_256 Kk 25 [some (.inr 143), some (.inl d), some (.inl (k : Int)), none, none, none, none] [] mem := by
  intro N
  induction N with
  | zero => intros; omega
  | succ N ih =>
    intro k mem hk hNN hF hI
    have h8 := hN.1
    have h48 := hN.2.1
    have eops : mem 143 1 = m0 143 1 := hF _ _ (by omega)
    refine w_256_25 (Ex.mono S (n + 1)) (fun v e _ => ⟨fun q => ?_, fun q v2 e2 _ => ?_⟩)
    · have e : v = m0 143 12 := by rw [e]; exact hF _ _ (by omega)
      have hJ := hI.fwc
      rw [show k = (m0 143 12).toNat by omega] at hJ
      refine w_256_109 (Ex.mono S (n + 1)) (fun v e _ => ⟨fun q3 => H mem hF ?_, fun q3 => ?_⟩)
      · rw [show (m0 143 1).toNat = 0 by omega]
        rw [show (m0 143 1).toNat = 0 by omega] at hJ
        exact hJ
      · refine w_256_119 (Ex.mono S (n + 1)) (fun v e _ => ⟨fun q4 => by omega, fun q4 => ?_⟩)
        exact lw_130x hN hE H (81 * 8 + 9 * 8 + 8 + 1) 0 0 0 mem (by omega) (by omega) (by omega) (by omega) hF hJ
    · have e : v = m0 143 12 := by rw [e]; exact hF _ _ (by omega)
      have e2 : v2 = m0 143 18 := by rw [e2]; exact hF _ _ (by omega)
      refine ⟨fun q2 => by omega, fun q2 => ?_⟩
      have hk48 : 0 ≤ (k : Int) ∧ (k : Int) < 48 := by omega
      obtain ⟨p1, p2, p3, p4, p5, p6, p7, p8, p9⟩ := hN.2.2 k (by omega)
      have f4 : mem 154 k = m0 154 k := hF _ _ (by omega)
      have f5 : mem 155 k = m0 155 k := hF _ _ (by omega)
      have f6 : mem 156 k = m0 156 k := hF _ _ (by omega)
      have f7 : mem 157 k = m0 157 k := hF _ _ (by omega)
      have dm := dmul (d := d) (by omega) ⟨p5, p6⟩
      have d1 := Int.mul_nonneg (show 0 ≤ d by omega) p5
      have d2 := Int.mul_le_mul (show d ≤ 12 by omega) p6 p5 (by omega)
      refine ⟨hk48, fun v3 e3 _ => ?_⟩
      rw [Int.toNat_natCast, f4] at e3
      refine ⟨by unfold InI; omega, hk48, fun v4 e4 _ => ?_⟩
      rw [Int.toNat_natCast, f5] at e4
      refine ⟨by unfold InI; omega, hk48, fun v5 e5 _ => ?_⟩
      rw [Int.toNat_natCast, f4] at e5
      refine ⟨by unfold InI; omega, hk48, fun v6 e6 _ => ?_⟩
      rw [Int.toNat_natCast, f5] at e6
      refine ⟨by unfold InI; omega, by omega, fun v7 e7 _ => ⟨hk48, fun v8 e8 _ => ?_⟩⟩
      rw [Int.toNat_natCast, f7] at e8
      refine ⟨hk48, fun v9 e9 _ => ?_⟩
      rw [Int.toNat_natCast, f6] at e9
      subst e9
      refine ⟨by unfold InI; omega, by unfold InI; omega, f_257 (fun _ _ => ⟨by omega, by unfold InI; omega, ?_⟩)⟩
      have e7 : v7 = WM mem 158 (m0 154 k).toNat (m0 155 k).toNat := by
        rw [e7]
        unfold WM
        congr 1
        omega
      have c1 : (rq m0 k).1 = ((m0 154 k).toNat : Int) := by show m0 154 k = _; omega
      have c2 : (rq m0 k).2.1 = ((m0 155 k).toNat : Int) := by show m0 155 k = _; omega
      have c4 : (rq m0 k).2.2.2 - d * (rq m0 k).2.2.1 = m0 157 k - d * m0 156 k := rfl
      exact ih (k + 1) _ (by omega) (by omega) (hF.tr Fr1.up) (hI.step (by omega) c1 c2 (by omega) (by omega) (by rw [c4]; omega) (by rw [c4]; omega))
theorem NdsOK.fwh (hN : NdsOK m0) (hd : 0 ≤ d ∧ d ≤ 12) (hU : NoUp (EdQ (rq m0) (m0 143 12).toNat d)) : FwH (EdQ (rq m0) (m0 143 12).toNat d) (m0 143 1).toNat := by
  refine EdQ.fwh (by have := hN.1; omega) hd hN.v (fun j hj => ?_) hU
  obtain ⟨p1, p2, p3, p4, p5, p6, p7, p8, p9⟩ := hN.2.2 j (by omega)
  exact ⟨p6, p7, p8⟩
theorem f_256x {K : MM → Prop} (hN : NdsOK m0) (h18 : m0 143 18 = -1) (hd : 1 ≤ d ∧ d ≤ 12) (hU : NoUp (NdE m0 d)) (H : ∀ m', Fr1 158 m0 m' → WyA m' d → K m') : CWV (Ex S (n + 2)) 256 [.inr 143, .inl d] m0 K := by
  rw [NdE.q h18 hN.2.1.1] at hU
  have hE := hN.fwh (by omega) hU
  have h8 := hN.1
  refine CW.of (k := 5) mt_256 rfl rfl (w_256_0 (Ex.mono S (n + 1)) ?_)
  have key : ∀ (N : Nat) (k : Nat) (mem : MM), k ≤ 64 → 64 - k < N → Fr1 158 m0 mem → (∀ i, i < k → mem 158 i = -1000) → Wx (Ex S (n + 1)) S M_256 (fun r m => r = none ∧ K m) 2 [some (.inr 143), some (.inl d), some (.inl (k : Int)), none, none, none, none] [] mem := by
    intro N
    induction N with
    | zero => intros; omega
    | succ N ih =>
      intro k mem hk hNN hF hA
      refine w_256_2 (Ex.mono S (n + 1)) ⟨fun q => ?_, fun q => ⟨by omega, by unfold InI; omega, ?_⟩⟩
      · refine lw_25x hN h18 hd hE (fun m' h1 h2 => ⟨rfl, H m' h1 (fun a b ha hb => ?_)⟩) 49 0 mem (by have := hN.2.1; omega) (by have := hN.2.1; omega) hF (FwE.ini (by omega) (fun i hi => hA i (by omega)))
        rw [h1 143 1 (by omega)] at ha hb
        have eq : rq m' = rq m0 := funext fun i => by
          unfold rq
          rw [h1 154 i (by omega), h1 155 i (by omega), h1 156 i (by omega), h1 157 i (by omega)]
        rw [eq, h1 143 12 (by omega)]
        exact h2.fin hE (by omega) (by omega) (by omega)
      · refine ih (k + 1) _ (by omega) (by omega) (hF.tr Fr1.up) (fun i hi => ?_)
        rw [Int.toNat_natCast]
        by_cases e : i = k
        · subst e; exact upm_eq
        · rw [upm_ne (fun q => e q.2)]; exact hA i (by omega)
  exact key 65 0 m0 (by omega) (by omega) Fr1.rf (fun i hi => by omega)
end RWAY
end
section
/-! slots: what a plan asks of them; the least of all -/
def us1 (d s bu k : Int) : Int := (if bu % 2 = 1 ∧ s % d = k then 1 else 0) + (if bu / 2 % 2 = 1 ∧ (s + 1) % d = k then 1 else 0) + (if bu / 4 % 2 = 1 ∧ (s + 2) % d = k then 1 else 0) + (if bu / 8 % 2 = 1 ∧ (s + 3) % d = k then 1 else 0)
theorem us1_rg {d s bu k : Int} : 0 ≤ us1 d s bu k ∧ us1 d s bu k ≤ 4 := by
  unfold us1
  split <;> split <;> split <;> split <;> omega
noncomputable def cIf (c : Prop) (a b : Int) : Int := @ite Int c (Classical.propDecidable c) a b
theorem cIf.y {c : Prop} {a b : Int} (h : c) : cIf c a b = a := if_pos h
theorem cIf.n {c : Prop} {a b : Int} (h : ¬ c) : cIf c a b = b := if_neg h
theorem cIf.rg {c : Prop} {a b lo hi : Int} (h1 : lo ≤ a ∧ a ≤ hi) (h2 : lo ≤ b ∧ b ≤ hi) : lo ≤ cIf c a b ∧ cIf c a b ≤ hi := by
  by_cases q : c
  · rw [cIf.y q]; exact h1
  · rw [cIf.n q]; exact h2
noncomputable def usM (M : Nat → Prop) (un bu : Nat → Int) (d : Int) (s : Nat → Int) (u k : Int) : Nat → Int
  | 0 => 0
  | n + 1 => usM M un bu d s u k n + cIf (M n ∧ un n = u) (us1 d (s n) (bu n) k) 0
theorem usM_cg {M M' : Nat → Prop} {un bu : Nat → Int} {d : Int} {s s' : Nat → Int} {u k : Int} : ∀ n, (∀ o, o < n → un o = u → (M o ↔ M' o) ∧ (M o → s o = s' o)) → usM M un bu d s u k n = usM M' un bu d s' u k n
  | 0, _ => rfl
  | n + 1, h => by
    unfold usM
    rw [usM_cg n (fun o ho => h o (by omega))]
    congr 1
    by_cases e : un n = u
    · have q := h n (by omega) e
      by_cases w : M n
      · rw [cIf.y ⟨w, e⟩, cIf.y ⟨q.1.mp w, e⟩, q.2 w]
      · rw [cIf.n (fun z => w z.1), cIf.n (fun z => w (q.1.mpr z.1))]
    · rw [cIf.n (fun z => e z.2), cIf.n (fun z => e z.2)]
theorem usM_ge {M : Nat → Prop} {un bu : Nat → Int} {d : Int} {s : Nat → Int} {u k : Int} : ∀ n, 0 ≤ usM M un bu d s u k n
  | 0 => Int.le_refl _
  | n + 1 => by
    have := usM_ge (M := M) (un := un) (bu := bu) (d := d) (s := s) (u := u) (k := k) n
    have r := us1_rg (d := d) (s := s n) (bu := bu n) (k := k)
    have := cIf.rg (c := M n ∧ un n = u) r (show (0 : Int) ≤ 0 ∧ (0 : Int) ≤ 4 by omega)
    unfold usM
    omega
theorem usM_mono {M M' : Nat → Prop} {un bu : Nat → Int} {d : Int} {s : Nat → Int} {u k : Int} : ∀ n, (∀ o, o < n → M o → M' o) → usM M un bu d s u k n ≤ usM M' un bu d s u k n
  | 0, _ => Int.le_refl _
  | n + 1, h => by
    have i := usM_mono (un := un) (bu := bu) (d := d) (s := s) (u := u) (k := k) n (fun o ho => h o (by omega))
    have r := us1_rg (d := d) (s := s n) (bu := bu n) (k := k)
    unfold usM
    by_cases w : M n ∧ un n = u
    · rw [cIf.y w, cIf.y ⟨h n (by omega) w.1, w.2⟩]; omega
    · have := cIf.rg (c := M' n ∧ un n = u) r (show (0 : Int) ≤ 0 ∧ (0 : Int) ≤ 4 by omega)
      rw [cIf.n w]; omega
theorem usM_len {M : Nat → Prop} {un bu : Nat → Int} {d : Int} {s : Nat → Int} {u k : Int} {m : Nat} : ∀ n, m ≤ n → usM M un bu d s u k m ≤ usM M un bu d s u k n
  | 0, h => by
    have e : m = 0 := by omega
    subst e
    exact Int.le_refl _
  | n + 1, h => by
    by_cases e : m = n + 1
    · subst e; exact Int.le_refl _
    · have i := usM_len (M := M) (un := un) (bu := bu) (d := d) (s := s) (u := u) (k := k) n (show m ≤ n by omega)
      have r := us1_rg (d := d) (s := s n) (bu := bu n) (k := k)
      have := cIf.rg (c := M n ∧ un n = u) r (show (0 : Int) ≤ 0 ∧ (0 : Int) ≤ 4 by omega)
      show _ ≤ usM M un bu d s u k n + cIf _ _ _
      omega
abbrev Prb : Type := Nat × (Nat → Int) × (Nat → Int) × (Nat → Int) × Int × (Nat → Nat → Int → Prop)
def Prb.n (p : Prb) : Nat := p.1
def Prb.un (p : Prb) : Nat → Int := p.2.1
def Prb.bu (p : Prb) : Nat → Int := p.2.2.1
def Prb.ct (p : Prb) : Nat → Int := p.2.2.2.1
def Prb.d (p : Prb) : Int := p.2.2.2.2.1
def Prb.E (p : Prb) : Nat → Nat → Int → Prop := p.2.2.2.2.2
noncomputable def Prb.us (p : Prb) (s : Nat → Int) (u k : Int) : Nat → Int := usM (fun _ => True) p.un p.bu p.d s u k
def UnP (p : Prb) (s : Nat → Int) : Prop := ∀ u k : Int, 0 ≤ u → u < 3 → 0 ≤ k → k < p.d → p.us s u k p.n ≤ p.ct u.toNat
def TuP (p : Prb) (s t : Nat → Int) : Prop := ∀ a b x, p.E a b x → s a + p.d * t a + x ≤ s b + p.d * t b
def SlP (p : Prb) (s : Nat → Int) : Prop := ∀ o, o < p.n → 0 ≤ s o ∧ s o < p.d
def Fsb (p : Prb) (s : Nat → Int) : Prop := SlP p s ∧ UnP p s ∧ ∃ t, TuP p s t
def LstP (p : Prb) (s : Nat → Int) : Prop := Fsb p s ∧ ∀ v, Fsb p v → ∀ j, j < p.n → (∀ i, i < j → v i = s i) → s j ≤ v j
theorem LstP.eq {p : Prb} {s v : Nat → Int} (h : LstP p s) (g : LstP p v) : ∀ j, j < p.n → s j = v j := by
  intro j
  induction j using Nat.strongRecOn with
  | _ j ih =>
    intro hj
    have a := h.2 v g.1 j hj (fun i hi => (ih i hi (by omega)).symm)
    have b := g.2 s h.1 j hj (fun i hi => ih i hi (by omega))
    omega
def PrbE (p q : Prb) : Prop := p.n = q.n ∧ p.d = q.d ∧ (∀ o, o < p.n → p.un o = q.un o ∧ p.bu o = q.bu o) ∧ (∀ u, u < 3 → p.ct u = q.ct u) ∧ ∀ a b x, p.E a b x ↔ q.E a b x
theorem PrbE.symm {p q : Prb} (h : PrbE p q) : PrbE q p := ⟨h.1.symm, h.2.1.symm, fun o ho => ⟨(h.2.2.1 o (by rw [h.1]; exact ho)).1.symm, (h.2.2.1 o (by rw [h.1]; exact ho)).2.symm⟩, fun u hu => (h.2.2.2.1 u hu).symm, fun a b x => (h.2.2.2.2 a b x).symm⟩
theorem usM_pq {M : Nat → Prop} {un bu un' bu' : Nat → Int} {d : Int} {s : Nat → Int} {u k : Int} : ∀ n, (∀ o, o < n → un o = un' o ∧ bu o = bu' o) → usM M un bu d s u k n = usM M un' bu' d s u k n
  | 0, _ => rfl
  | n + 1, h => by
    unfold usM
    rw [usM_pq n (fun o ho => h o (by omega)), (h n (by omega)).1, (h n (by omega)).2]
theorem PrbE.fsb {p q : Prb} (h : PrbE p q) {s : Nat → Int} (g : Fsb p s) : Fsb q s := by
  obtain ⟨h1, h2, h3, h4, h5⟩ := h
  obtain ⟨g1, g2, t, g3⟩ := g
  refine ⟨fun o ho => by rw [← h2]; exact g1 o (by omega), fun u k a b c e => ?_, t, fun a b x hx => ?_⟩
  · have w := g2 u k a b c (by omega)
    rw [h4 u.toNat (by omega)] at w
    unfold Prb.us at w ⊢
    rw [← h1, ← h2, ← usM_pq p.n (fun o ho => h3 o ho)]
    exact w
  · rw [← h2]
    exact g3 a b x ((h5 a b x).mpr hx)
def TmP (p : Prb) (s T : Nat → Int) : Prop := (∀ o, o < p.n → ∃ t : Int, 0 ≤ t ∧ T o = s o + p.d * t) ∧ ∀ a b x, p.E a b x → T a + x ≤ T b
def TmL (p : Prb) (s T : Nat → Int) : Prop := TmP p s T ∧ ∀ T', TmP p s T' → ∀ o, o < p.n → T o ≤ T' o
theorem TmL.eq {p : Prb} {s T T' : Nat → Int} (h : TmL p s T) (g : TmL p s T') : ∀ o, o < p.n → T o = T' o := fun o ho => by
  have a := h.2 T' g.1 o ho
  have b := g.2 T h.1 o ho
  omega
theorem TmP.cg {p : Prb} {s s' T : Nat → Int} (e : ∀ o, o < p.n → s o = s' o) (h : TmP p s T) : TmP p s' T := ⟨fun o ho => by
  rw [← e o ho]; exact h.1 o ho, h.2⟩
theorem TmL.cg {p : Prb} {s s' T : Nat → Int} (e : ∀ o, o < p.n → s o = s' o) (h : TmL p s T) : TmL p s' T := ⟨h.1.cg e, fun T' hT' o ho => h.2 T' (hT'.cg (fun o ho => (e o ho).symm)) o ho⟩
theorem Wk.tu {p : Prb} {s t : Nat → Int} (h : TuP p s t) : ∀ {l : List Nat} {a b : Nat} {v : Int}, Wk p.E a l b v → s a + p.d * t a + v ≤ s b + p.d * t b
  | [], a, b, v, g => h a b v g
  | c :: l, a, b, v, ⟨x, y, g1, g2, g3⟩ => by
    have := h _ _ _ g1
    have := Wk.tu h g2
    omega
end
section
/-! slots by groups: rings of needs apart, mixing, turning round, twins -/
def cdv (z d : Int) : Int := -((-z) / d)
theorem cdv_le {z d y : Int} (hd : 0 < d) : cdv z d ≤ y ↔ z ≤ d * y := by
  have h := Int.le_ediv_iff_mul_le (a := -y) (b := -z) hd
  rw [Int.neg_mul, Int.mul_comm] at h
  unfold cdv
  constructor
  · intro q
    have := h.mp (by omega)
    omega
  · intro q
    have := h.mpr (by omega)
    omega
def Rch (E : Nat → Nat → Int → Prop) (a b : Nat) : Prop := ∃ l v, Wk E a l b v
theorem Rch.tr {E : Nat → Nat → Int → Prop} {a b c : Nat} (h : Rch E a b) (g : Rch E b c) : Rch E a c := by
  obtain ⟨l, v, h⟩ := h
  obtain ⟨l', v', g⟩ := g
  exact ⟨_, _, Wk.app h g⟩
theorem Rch.ed {E : Nat → Nat → Int → Prop} {a b : Nat} {x : Int} (h : E a b x) : Rch E a b := ⟨[], x, h⟩
def tie (E : Nat → Nat → Int → Prop) (a b : Nat) : Prop := ¬ a = b ∧ Rch E a b ∧ Rch E b a
def scc (E : Nat → Nat → Int → Prop) (a b : Nat) : Prop := a = b ∨ tie E a b
theorem tie.sy {E : Nat → Nat → Int → Prop} {a b : Nat} (h : tie E a b) : tie E b a := ⟨fun e => h.1 e.symm, h.2.2, h.2.1⟩
theorem scc.rf {E : Nat → Nat → Int → Prop} {a : Nat} : scc E a a := Or.inl rfl
theorem scc.sy {E : Nat → Nat → Int → Prop} {a b : Nat} (h : scc E a b) : scc E b a := h.imp Eq.symm tie.sy
theorem scc.tr {E : Nat → Nat → Int → Prop} {a b c : Nat} (h : scc E a b) (g : scc E b c) : scc E a c := by
  rcases h with rfl | h
  · exact g
  · rcases g with rfl | g
    · exact Or.inr h
    · by_cases e : a = c
      · exact Or.inl e
      · exact Or.inr ⟨e, h.2.1.tr g.2.1, g.2.2.tr h.2.2⟩
theorem scc.ti {E : Nat → Nat → Int → Prop} {a b : Nat} (h : scc E a b) (e : ¬ a = b) : tie E a b := h.resolve_left e
def PrW (p : Prb) : Prop := 0 < p.d ∧ (∀ a b x, p.E a b x → (a < p.n ∧ b < p.n) ∧ x ≤ 6) ∧ (∀ u, u < 3 → 0 ≤ p.ct u) ∧ NoUp p.E
theorem tie.v {p : Prb} (hP : PrW p) {a b : Nat} (h : tie p.E a b) : a < p.n ∧ b < p.n := by
  obtain ⟨l, v, g⟩ := h.2.1
  exact ⟨(Wk.ends (fun a b x e => (hP.2.1 a b x e).1) g).1, (Wk.ends (fun a b x e => (hP.2.1 a b x e).1) g).2.1⟩
def TuL (p : Prb) (s : Nat → Int) (C : Nat → Prop) (t : Nat → Int) : Prop := ∀ a b x, p.E a b x → C a → C b → s a + p.d * t a + x ≤ s b + p.d * t b
theorem TuL.cg {p : Prb} {s s' t : Nat → Int} {C : Nat → Prop} (h : TuL p s C t) (e : ∀ o, C o → s o = s' o) : TuL p s' C t := fun a b x hx ha hb => by
  rw [← e a ha, ← e b hb]; exact h a b x hx ha hb
def CEd (p : Prb) (s : Nat → Int) (a b : Nat) (y : Int) : Prop := ∃ x, p.E a b x ∧ y = cdv (x + s a - s b) p.d
theorem CEd.le {p : Prb} {s t : Nat → Int} (hP : PrW p) {a b : Nat} {x : Int} (h : s a + p.d * t a + x ≤ s b + p.d * t b) : t a + cdv (x + s a - s b) p.d ≤ t b := by
  have := (cdv_le (z := x + s a - s b) (y := t b - t a) hP.1).mpr (by rw [Int.mul_sub]; omega)
  omega
theorem CEd.tu {p : Prb} {s t : Nat → Int} (hP : PrW p) (h : ∀ a b y, CEd p s a b y → t a + y ≤ t b) : TuP p s t := fun a b x hx => by
  have g := h a b _ ⟨x, hx, rfl⟩
  have := (cdv_le (z := x + s a - s b) (y := t b - t a) hP.1).mp (by omega)
  rw [Int.mul_sub] at this
  omega
theorem CEd.rch {p : Prb} {s : Nat → Int} : ∀ {l : List Nat} {a b : Nat} {v : Int}, Wk (CEd p s) a l b v → Rch p.E a b
  | [], a, b, v, ⟨x, h, _⟩ => Rch.ed h
  | c :: l, a, b, v, ⟨x, y, ⟨x', h1, _⟩, h2, _⟩ => (Rch.ed h1).tr (CEd.rch h2)
theorem CEd.wk {p : Prb} {s t : Nat → Int} (hP : PrW p) {r : Nat} (ht : TuL p s (scc p.E r) t) : ∀ {l : List Nat} {a b : Nat} {v : Int}, (r = a ∨ Rch p.E r a) → (b = r ∨ Rch p.E b r) → Wk (CEd p s) a l b v → t a + v ≤ t b
  | [], a, b, v, ha, hb, ⟨x, h1, h2⟩ => by
    have e := Rch.ed h1
    have ba : b = r ∨ Rch p.E b r := hb
    have ra : Rch p.E r b := ha.elim (fun q => by rw [q]; exact e) (fun q => q.tr e)
    have ar : Rch p.E a r := hb.elim (fun q => by rw [← q]; exact e) (fun q => e.tr q)
    have sa : scc p.E r a := by
      by_cases q : r = a
      · exact Or.inl q
      · exact Or.inr ⟨q, ha.resolve_left q, ar⟩
    have sb : scc p.E r b := by
      by_cases q : r = b
      · exact Or.inl q
      · exact Or.inr ⟨q, ra, hb.resolve_left (fun z => q z.symm)⟩
    rw [h2]
    exact CEd.le hP (ht a b x h1 sa sb)
  | c :: l, a, b, v, ha, hb, ⟨y1, y2, ⟨x, h1, h2⟩, g, e2⟩ => by
    have e := Rch.ed h1
    have rc : Rch p.E r c := ha.elim (fun q => by rw [q]; exact e) (fun q => q.tr e)
    have cb := CEd.rch g
    have cr : Rch p.E c r := hb.elim (fun q => by rw [← q]; exact cb) (fun q => cb.tr q)
    have sa : scc p.E r a := by
      by_cases q : r = a
      · exact Or.inl q
      · exact Or.inr ⟨q, ha.resolve_left q, e.tr cr⟩
    have sc : scc p.E r c := by
      by_cases q : r = c
      · exact Or.inl q
      · exact Or.inr ⟨q, rc, cr⟩
    have k1 := CEd.le hP (ht a c x h1 sa sc)
    have k2 := CEd.wk hP ht (Or.inr rc) hb g
    rw [e2, h2]
    omega
theorem tu_glob {p : Prb} {s : Nat → Int} (hP : PrW p) (hS : SlP p s) (h : ∀ a, a < p.n → ∃ t, TuL p s (scc p.E a) t) : ∃ t, TuP p s t := by
  have hd := hP.1
  have ub : ∀ a b y, CEd p s a b y → y ≤ 6 + p.d := fun a b y ⟨x, h1, h2⟩ => by
    have v := hP.2.1 a b x h1
    have sa := hS a v.1.1
    have sb := hS b v.1.2
    rw [h2]
    refine (cdv_le hd).mpr ?_
    have q : (6 + p.d) * 1 ≤ (6 + p.d) * p.d := Int.mul_le_mul_of_nonneg_left (by omega) (by omega)
    rw [Int.mul_one, Int.mul_comm (6 + p.d) p.d] at q
    omega
  obtain ⟨P, -, p2⟩ := pot (E := CEd p s) (k := p.n) (B := ((6 + p.d) * ((p.n : Int) + 1)).toNat) (fun a b y ⟨x, h1, _⟩ => (hP.2.1 a b x h1).1) (fun a l v ha _ _ hw => by
    obtain ⟨t, ht⟩ := h a ha
    have := CEd.wk hP ht (Or.inl rfl) (Or.inl rfl) hw
    omega) (fun a l b v hb n1 n2 hw => by
    have l1 := nd_len (k := p.n) n1 (fun c hc => by
      rcases List.mem_cons.mp hc with rfl | hc
      · exact hb
      · exact n2 c hc)
    rw [List.length_cons, List.length_cons] at l1
    have g := Wk.le6 (c := 6 + p.d) (by omega) ub hw
    have := Int.mul_le_mul_of_nonneg_left (show (l.length : Int) + 1 ≤ (p.n : Int) + 1 by omega) (show 0 ≤ 6 + p.d by omega)
    omega)
  exact ⟨P, CEd.tu hP p2⟩
def ClG (p : Prb) (M : Nat → Prop) : Prop := (∀ a b, a < p.n → b < p.n → p.un a = p.un b → M a → M b) ∧ ∀ a b, tie p.E a b → M a → M b
theorem ClG.no {p : Prb} {M : Nat → Prop} (h : ClG p M) : ClG p (fun o => ¬ M o) := ⟨fun a b ha hb e q w => q (h.1 b a hb ha e.symm w), fun a b t q w => q (h.2 b a t.sy w)⟩
theorem ClG.sc {p : Prb} {M : Nat → Prop} (h : ClG p M) {a b : Nat} (g : scc p.E a b) (ha : M a) : M b := g.elim (fun e => e ▸ ha) (fun t => h.2 a b t ha)
def FsbM (p : Prb) (M : Nat → Prop) (s : Nat → Int) : Prop := (∀ o, o < p.n → M o → 0 ≤ s o ∧ s o < p.d) ∧ (∀ u k : Int, 0 ≤ u → u < 3 → 0 ≤ k → k < p.d → usM M p.un p.bu p.d s u k p.n ≤ p.ct u.toNat) ∧ ∀ a, a < p.n → M a → ∃ t, TuL p s (scc p.E a) t
theorem Fsb.m {p : Prb} {s : Nat → Int} (h : Fsb p s) (M : Nat → Prop) : FsbM p M s := by
  obtain ⟨h1, h2, t, h3⟩ := h
  refine ⟨fun o ho _ => h1 o ho, fun u k a b c e => ?_, fun a _ _ => ⟨t, fun a b x hx _ _ => h3 a b x hx⟩⟩
  exact Int.le_trans (usM_mono p.n (fun o _ _ => trivial)) (h2 u k a b c e)
theorem FsbM.cg {p : Prb} {M : Nat → Prop} {s s' : Nat → Int} (hM : ClG p M) (h : FsbM p M s) (hv : ∀ a b, tie p.E a b → b < p.n) (e : ∀ o, o < p.n → M o → s o = s' o) : FsbM p M s' := by
  refine ⟨fun o ho m => by rw [← e o ho m]; exact h.1 o ho m, fun u k a b c w => ?_, fun a ha m => ?_⟩
  · rw [← usM_cg (s := s) (s' := s') p.n (fun o ho _ => ⟨Iff.rfl, fun m => e o ho m⟩)]
    exact h.2.1 u k a b c w
  · obtain ⟨t, ht⟩ := h.2.2 a ha m
    refine ⟨t, ht.cg (fun o ho => e o ?_ (hM.sc ho m))⟩
    rcases ho with rfl | ho
    · exact ha
    · exact hv _ _ ho
theorem usM_none {M : Nat → Prop} {un bu : Nat → Int} {d : Int} {s : Nat → Int} {u k : Int} : ∀ n, (∀ o, o < n → ¬ (M o ∧ un o = u)) → usM M un bu d s u k n = 0
  | 0, _ => rfl
  | n + 1, h => by
    unfold usM
    rw [usM_none n (fun o ho => h o (by omega)), cIf.n (h n (by omega)), Int.add_zero]
theorem fsb_all {p : Prb} {s : Nat → Int} (hP : PrW p) (h : ∀ a, a < p.n → ∃ M, M a ∧ ClG p M ∧ FsbM p M s) : Fsb p s := by
  have hS : SlP p s := fun o ho => by
    obtain ⟨M, m, -, f⟩ := h o ho
    exact f.1 o ho m
  refine ⟨hS, fun u k a b c e => ?_, tu_glob hP hS (fun a ha => ?_)⟩
  · unfold Prb.us
    by_cases q : ∃ o, o < p.n ∧ p.un o = u
    · obtain ⟨o, ho, hu⟩ := q
      obtain ⟨M, m, hM, f⟩ := h o ho
      rw [usM_cg (M' := M) (s' := s) p.n (fun o2 h2 e2 => ⟨⟨fun _ => hM.1 o o2 ho h2 (by rw [hu, e2]) m, fun _ => trivial⟩, fun _ => rfl⟩)]
      exact f.2.1 u k a b c e
    · rw [usM_none p.n (fun o ho w => q ⟨o, ho, w.2⟩)]
      exact hP.2.2.1 u.toNat (by omega)
  · obtain ⟨M, m, -, f⟩ := h a ha
    exact f.2.2 a ha m
noncomputable def mixS (M : Nat → Prop) (w s : Nat → Int) : Nat → Int := fun o => cIf (M o) (w o) (s o)
theorem mixS.y {M : Nat → Prop} {w s : Nat → Int} {o : Nat} (h : M o) : mixS M w s o = w o := cIf.y h
theorem mixS.n {M : Nat → Prop} {w s : Nat → Int} {o : Nat} (h : ¬ M o) : mixS M w s o = s o := cIf.n h
theorem mix_fsb {p : Prb} {M : Nat → Prop} {w s : Nat → Int} (hP : PrW p) (hM : ClG p M) (h : FsbM p M w) (g : Fsb p s) : Fsb p (mixS M w s) := by
  refine fsb_all hP (fun a ha => ?_)
  by_cases m : M a
  · exact ⟨M, m, hM, h.cg hM (fun a b t => (t.v hP).2) (fun o _ mo => (mixS.y mo).symm)⟩
  · exact ⟨fun o => ¬ M o, m, hM.no, (g.m _).cg hM.no (fun a b t => (t.v hP).2) (fun o _ mo => (mixS.n mo).symm)⟩
/-! turned round -/
theorem rot1 {d x c r k : Int} (hd : 0 < d) (hk : 0 ≤ k ∧ k < d) : ((x + c) % d + r) % d = k ↔ (x + r) % d = (k - c) % d := by
  rw [Int.emod_add_emod]
  have e := Int.emod_eq_of_lt hk.1 hk.2
  constructor
  · intro h
    have q := Int.emod_eq_emod_iff_emod_sub_eq_zero.mp (h.trans e.symm)
    exact Int.emod_eq_emod_iff_emod_sub_eq_zero.mpr (by rw [show x + r - (k - c) = x + c + r - k by omega]; exact q)
  · intro h
    have q := Int.emod_eq_emod_iff_emod_sub_eq_zero.mp h
    have := Int.emod_eq_emod_iff_emod_sub_eq_zero.mpr (show (x + c + r - k) % d = 0 by rw [show x + c + r - k = x + r - (k - c) by omega]; exact q)
    rw [this, e]
theorem rot_us1 {d x c bu k : Int} (hd : 0 < d) (hk : 0 ≤ k ∧ k < d) : us1 d ((x + c) % d) bu k = us1 d x bu ((k - c) % d) := by
  have h0 := rot1 (x := x) (c := c) (r := 0) hd hk
  have h1 := rot1 (x := x) (c := c) (r := 1) hd hk
  have h2 := rot1 (x := x) (c := c) (r := 2) hd hk
  have h3 := rot1 (x := x) (c := c) (r := 3) hd hk
  rw [Int.add_zero, Int.add_zero] at h0
  unfold us1
  simp only [h0, h1, h2, h3]
theorem rot_usM {M : Nat → Prop} {un bu : Nat → Int} {d c : Int} {s : Nat → Int} {u k : Int} (hd : 0 < d) (hk : 0 ≤ k ∧ k < d) : ∀ n, usM M un bu d (fun o => (s o + c) % d) u k n = usM M un bu d s u ((k - c) % d) n
  | 0 => rfl
  | n + 1 => by
    unfold usM
    rw [rot_usM hd hk n, rot_us1 hd hk]
theorem rot_fsb {p : Prb} {M : Nat → Prop} {s : Nat → Int} (c : Int) (hd : 0 < p.d) (h : FsbM p M s) : FsbM p M (fun o => (s o + c) % p.d) := by
  refine ⟨fun o _ _ => ⟨Int.emod_nonneg _ (by omega), Int.emod_lt_of_pos _ hd⟩, fun u k a b e f => ?_, fun a ha m => ?_⟩
  · rw [rot_usM hd ⟨e, f⟩]
    exact h.2.1 u _ a b (Int.emod_nonneg _ (by omega)) (Int.emod_lt_of_pos _ hd)
  · obtain ⟨t, ht⟩ := h.2.2 a ha m
    refine ⟨fun o => t o + (s o + c) / p.d, fun a b x hx ca cb => ?_⟩
    have g := ht a b x hx ca cb
    have e1 := Int.mul_ediv_add_emod (s a + c) p.d
    have e2 := Int.mul_ediv_add_emod (s b + c) p.d
    show (s a + c) % p.d + p.d * (t a + (s a + c) / p.d) + x ≤ (s b + c) % p.d + p.d * (t b + (s b + c) / p.d)
    rw [Int.mul_add, Int.mul_add]
    omega
/-! twins -/
def Twn (p : Prb) (i j : Nat) : Prop := p.un i = p.un j ∧ (∀ x k, us1 p.d x (p.bu i) k = us1 p.d x (p.bu j) k) ∧ (∀ o, ¬ tie p.E i o) ∧ ∀ o, ¬ tie p.E j o
def swS (i j : Nat) (s : Nat → Int) : Nat → Int := fun o => if o = i then s j else if o = j then s i else s o
theorem us_st {p : Prb} {s : Nat → Int} {u k : Int} {m : Nat} : p.us s u k (m + 1) = p.us s u k m + cIf (p.un m = u) (us1 p.d (s m) (p.bu m) k) 0 := by
  show p.us s u k m + cIf _ _ _ = _
  by_cases q : p.un m = u
  · rw [cIf.y q, cIf.y ⟨trivial, q⟩]
  · rw [cIf.n q, cIf.n (fun z => q z.2)]
theorem sw_us {p : Prb} {s : Nat → Int} {i j : Nat} (h : Twn p i j) (hij : ¬ i = j) (u k : Int) : ∀ m, p.us (swS i j s) u k m = p.us s u k m + cIf (p.un i = u) (cIf (i < m) (us1 p.d (s j) (p.bu i) k - us1 p.d (s i) (p.bu i) k) 0 + cIf (j < m) (us1 p.d (s i) (p.bu i) k - us1 p.d (s j) (p.bu i) k) 0) 0
  | 0 => by
    rw [cIf.n (show ¬ i < 0 by omega), cIf.n (show ¬ j < 0 by omega)]
    show (0 : Int) = 0 + _
    by_cases q : p.un i = u
    · rw [cIf.y q]; rfl
    · rw [cIf.n q]; rfl
  | m + 1 => by
    have ih := sw_us (s := s) h hij u k m
    rw [us_st, us_st, ih]
    have tw := h.2.1
    have un := h.1
    by_cases e1 : m = i
    · subst e1
      have s1 : swS m j s m = s j := if_pos rfl
      rw [s1]
      by_cases q : p.un m = u
      · rw [cIf.y q, cIf.y q, cIf.y q, cIf.y q, cIf.n (Nat.lt_irrefl m), cIf.y (Nat.lt_succ_self m)]
        by_cases w : j < m
        · rw [cIf.y w, cIf.y (show j < m + 1 by omega)]; omega
        · rw [cIf.n w, cIf.n (show ¬ j < m + 1 by omega)]; omega
      · rw [cIf.n q, cIf.n q, cIf.n q, cIf.n q]
    · by_cases e2 : m = j
      · subst e2
        have s1 : swS i m s m = s i := by unfold swS; rw [if_neg e1, if_pos rfl]
        rw [s1]
        by_cases q : p.un m = u
        · rw [cIf.y q, cIf.y q, cIf.y (un.trans q), cIf.y (un.trans q), cIf.n (Nat.lt_irrefl m), cIf.y (Nat.lt_succ_self m), ← tw (s i) k, ← tw (s m) k]
          by_cases w : i < m
          · rw [cIf.y w, cIf.y (show i < m + 1 by omega)]; omega
          · rw [cIf.n w, cIf.n (show ¬ i < m + 1 by omega)]; omega
        · rw [cIf.n q, cIf.n q, cIf.n (fun z => q (un.symm.trans z)), cIf.n (fun z => q (un.symm.trans z))]
      · have s1 : swS i j s m = s m := by unfold swS; rw [if_neg e1, if_neg e2]
        have c1 : (i < m + 1) = (i < m) := propext (by omega)
        have c2 : (j < m + 1) = (j < m) := propext (by omega)
        rw [s1, c1, c2]
        exact Int.add_right_comm _ _ _
theorem swap_fsb {p : Prb} {s : Nat → Int} {i j : Nat} (hP : PrW p) (h : Twn p i j) (hij : ¬ i = j) (hi : i < p.n) (hj : j < p.n) (g : Fsb p s) : Fsb p (swS i j s) := by
  obtain ⟨g1, g2, t, g3⟩ := g
  have hS : SlP p (swS i j s) := fun o ho => by
    unfold swS
    split
    · exact g1 j hj
    · split
      · exact g1 i hi
      · exact g1 o ho
  refine ⟨hS, fun u k a b c e => ?_, tu_glob hP hS (fun a ha => ⟨t, fun x y v hv hx hy => ?_⟩)⟩
  · have w := g2 u k a b c e
    rw [sw_us h hij u k p.n, cIf.y hi, cIf.y hj]
    by_cases q : p.un i = u
    · rw [cIf.y q]; omega
    · rw [cIf.n q]; omega
  · have o := g3 x y v hv
    by_cases q : x = y
    · subst q; omega
    · have xy : tie p.E x y := ((hx.sy).tr hy).ti q
      have n1 : ∀ z, tie p.E x z ∨ tie p.E z x → swS i j s x = s x := fun z hz => by
        unfold swS
        rw [if_neg (fun e => by subst e; exact hz.elim (h.2.2.1 z) (fun w => h.2.2.1 z w.sy)), if_neg (fun e => by subst e; exact hz.elim (h.2.2.2 z) (fun w => h.2.2.2 z w.sy))]
      have n2 : swS i j s y = s y := by
        unfold swS
        rw [if_neg (fun e => by subst e; exact h.2.2.1 x xy.sy), if_neg (fun e => by subst e; exact h.2.2.2 x xy.sy)]
      rw [n1 y (Or.inl xy), n2]
      exact o
/-! the least -/
theorem least_nat {Q : Nat → Prop} : ∀ N, (∃ x, x < N ∧ Q x) → ∃ x, Q x ∧ ∀ y, Q y → x ≤ y
  | 0, ⟨x, h, _⟩ => by omega
  | N + 1, ⟨x, h, q⟩ => by
    by_cases w : ∃ x, x < N ∧ Q x
    · exact least_nat N w
    · refine ⟨x, q, fun y hy => ?_⟩
      by_cases e : x ≤ y
      · exact e
      · exact absurd ⟨y, by omega, hy⟩ w
theorem lst_ex {p : Prb} {s : Nat → Int} (h : Fsb p s) : ∃ L, LstP p L := by
  have key : ∀ j, j ≤ p.n → ∃ v, Fsb p v ∧ ∀ w, Fsb p w → ∀ i, i < j → (∀ l, l < i → w l = v l) → v i ≤ w i := by
    intro j
    induction j with
    | zero => exact fun _ => ⟨s, h, fun w _ i hi => by omega⟩
    | succ j ih =>
      intro hj
      obtain ⟨v, h1, h2⟩ := ih (by omega)
      have r := h1.1 j (by omega)
      obtain ⟨x, ⟨w, g1, g2, g3⟩, g4⟩ := least_nat (Q := fun x => ∃ w, Fsb p w ∧ (∀ l, l < j → w l = v l) ∧ w j = (x : Int)) ((v j).toNat + 1) ⟨(v j).toNat, by omega, v, h1, fun l _ => rfl, by omega⟩
      refine ⟨w, g1, fun w2 k1 i hi k2 => ?_⟩
      by_cases e : i = j
      · subst e
        have r2 := k1.1 i (by omega)
        have := g4 (w2 i).toNat ⟨w2, k1, fun l hl => (k2 l hl).trans (g2 l hl), by omega⟩
        omega
      · rw [g2 i (by omega)]
        exact h2 w2 k1 i (by omega) (fun l hl => (k2 l hl).trans (g2 l (by omega)))
  obtain ⟨v, h1, h2⟩ := key p.n (Nat.le_refl _)
  exact ⟨v, h1, fun w hw j hj e => h2 w hw j hj e⟩
theorem LstP.tw {p : Prb} {L : Nat → Int} (hP : PrW p) (h : LstP p L) {i j : Nat} (ht : Twn p i j) (hij : i < j) (hj : j < p.n) : L i ≤ L j := by
  have g := swap_fsb hP ht (by omega) (by omega) hj h.1
  have := h.2 _ g i (by omega) (fun l hl => by
    unfold swS
    rw [if_neg (by omega), if_neg (by omega)])
  unfold swS at this
  rw [if_pos rfl] at this
  exact this
theorem LstP.le {p : Prb} {L w : Nat → Int} {M : Nat → Prop} (hP : PrW p) (h : LstP p L) (hM : ClG p M) (g : FsbM p M w) {op : Nat} (ho : op < p.n) (e : ∀ o, o < op → M o → w o = L o) (m : M op) : L op ≤ w op := by
  have := h.2 _ (mix_fsb hP hM g h.1) op ho (fun o hl => by
    by_cases q : M o
    · rw [mixS.y q]; exact e o hl q
    · exact mixS.n q)
  rw [mixS.y m] at this
  exact this
theorem LstP.lead {p : Prb} {L : Nat → Int} {M : Nat → Prop} (hP : PrW p) (h : LstP p L) (hM : ClG p M) {op : Nat} (ho : op < p.n) (e : ∀ o, o < op → ¬ M o) (m : M op) : L op = 0 := by
  have := h.le hP hM (rot_fsb (-(L op)) hP.1 (h.1.m M)) ho (fun o hl q => absurd q (e o hl)) m
  have r := h.1.1 op ho
  rw [show L op + -(L op) = 0 by omega, Int.zero_emod] at this
  omega
end
section
/-! bits of numbers; uses of an op by the slots behind its own -/
def Bt (t : Int) (i : Nat) : Prop := (Int32.ofInt t).toBitVec.getLsbD i = true
theorem Bt_of {x : Int32} {i : Nat} : Bt x.toInt i ↔ x.toBitVec.getLsbD i = true := by
  unfold Bt
  rw [Int32.ofInt_toInt]
theorem Bt_ge {t : Int} {i : Nat} (h : 32 ≤ i) : ¬ Bt t i := by
  unfold Bt
  rw [BitVec.getLsbD_of_ge _ _ h]
  exact Bool.false_ne_true
theorem Bt_and {t y b : Int} {i : Nat} (e : b = ((fun (x y : Int32) => x &&& y) (Int32.ofInt t) (Int32.ofInt y)).toInt) : Bt b i ↔ Bt t i ∧ Bt y i := by
  rw [e, Bt_of]
  show ((Int32.ofInt t).toBitVec &&& (Int32.ofInt y).toBitVec).getLsbD i = true ↔ _
  rw [BitVec.getLsbD_and, Bool.and_eq_true]
  exact Iff.rfl
theorem Bt_or {t y b : Int} {i : Nat} (e : b = ((fun (x y : Int32) => x ||| y) (Int32.ofInt t) (Int32.ofInt y)).toInt) : Bt b i ↔ Bt t i ∨ Bt y i := by
  rw [e, Bt_of]
  show ((Int32.ofInt t).toBitVec ||| (Int32.ofInt y).toBitVec).getLsbD i = true ↔ _
  rw [BitVec.getLsbD_or, Bool.or_eq_true]
  exact Iff.rfl
theorem m1_bits : (Int32.ofInt (-1)).toBitVec = BitVec.allOnes 32 := by decide
theorem Bt_not {t b : Int} {i : Nat} (e : b = ((fun (x y : Int32) => x ^^^ y) (Int32.ofInt t) (Int32.ofInt (-1))).toInt) (hi : i < 32) : Bt b i ↔ ¬ Bt t i := by
  rw [e, Bt_of]
  show ((Int32.ofInt t).toBitVec ^^^ (Int32.ofInt (-1)).toBitVec).getLsbD i = true ↔ _
  unfold Bt
  rw [BitVec.getLsbD_xor, m1_bits, BitVec.getLsbD_allOnes, decide_eq_true hi]
  cases (Int32.ofInt t).toBitVec.getLsbD i <;> simp
theorem sh31 : ∀ k, k < 32 → ((Int32.ofInt ((k : Nat) : Int) &&& 31).toBitVec.smod (32 : BitVec 32)) = BitVec.ofNat 32 k := by decide +kernel
theorem Bt_shl {t y b : Int} {i : Nat} (hy : 0 ≤ y ∧ y < 32) (e : b = ((fun (x y : Int32) => x <<< (y &&& 31)) (Int32.ofInt t) (Int32.ofInt y)).toInt) : Bt b i ↔ y.toNat ≤ i ∧ i < 32 ∧ Bt t (i - y.toNat) := by
  rw [e, Bt_of]
  show ((Int32.ofInt t).toBitVec <<< ((Int32.ofInt y &&& 31).toBitVec.smod (32 : BitVec 32))).getLsbD i = true ↔ _
  have q := sh31 y.toNat (by omega)
  rw [show ((y.toNat : Nat) : Int) = y by omega] at q
  rw [q, BitVec.shiftLeft_eq', BitVec.getLsbD_shiftLeft, BitVec.toNat_ofNat, Nat.mod_eq_of_lt (by omega)]
  unfold Bt
  rw [Bool.and_eq_true, Bool.and_eq_true, decide_eq_true_eq, Bool.not_eq_true', decide_eq_false_iff_not]
  exact ⟨fun ⟨⟨a, b⟩, c⟩ => ⟨by omega, a, c⟩, fun ⟨a, b, c⟩ => ⟨⟨b, by omega⟩, c⟩⟩
theorem Bt_shr {t y b : Int} {i : Nat} (ht : ¬ Bt t 31) (hy : 0 ≤ y ∧ y < 32) (e : b = ((fun (x y : Int32) => x >>> (y &&& 31)) (Int32.ofInt t) (Int32.ofInt y)).toInt) : Bt b i ↔ Bt t (i + y.toNat) := by
  by_cases hi : 32 ≤ i
  · exact ⟨fun h => absurd h (Bt_ge hi), fun h => absurd h (Bt_ge (by omega))⟩
  rw [e, Bt_of]
  show ((Int32.ofInt t).toBitVec.sshiftRight ((Int32.ofInt y &&& 31).toBitVec.smod (32 : BitVec 32)).toNat).getLsbD i = true ↔ _
  have q := sh31 y.toNat (by omega)
  rw [show ((y.toNat : Nat) : Int) = y by omega] at q
  rw [q, BitVec.toNat_ofNat, Nat.mod_eq_of_lt (show y.toNat < 2 ^ 32 by omega), BitVec.getLsbD_sshiftRight, BitVec.msb_eq_getLsbD_last]
  rw [decide_eq_false hi]
  by_cases w : y.toNat + i < 32
  · rw [if_pos w, Nat.add_comm y.toNat i]
    exact ⟨fun h => h, fun h => h⟩
  · rw [if_neg w]
    refine ⟨fun h => absurd h ?_, fun h => absurd h (Bt_ge (by omega))⟩
    exact ht
theorem Bt_z {x : Int32} {b : Int} (e : b = x.toInt) : b = 0 ↔ ∀ i, ¬ Bt b i := by
  rw [e, tI0]
  constructor
  · intro h i
    rw [h, Bt_of]
    show ¬ (0#32).getLsbD i = true
    rw [BitVec.getLsbD_zero]
    exact Bool.false_ne_true
  · intro h
    refine Int32.toBitVec_inj.1 (BitVec.eq_of_getLsbD_eq (fun i _ => ?_))
    have q := h i
    rw [Bt_of] at q
    show x.toBitVec.getLsbD i = (0#32).getLsbD i
    rw [BitVec.getLsbD_zero]
    exact Bool.eq_false_iff.mpr q
theorem one_bits : ∀ i, i < 32 → ((Int32.ofInt 1).toBitVec.getLsbD i = true ↔ i = 0) := by decide +kernel
theorem Bt_1 {i : Nat} : Bt 1 i ↔ i = 0 := by
  by_cases h : i < 32
  · exact one_bits i h
  · exact ⟨fun q => absurd q (Bt_ge (by omega)), fun q => by omega⟩
theorem Bt_0 {i : Nat} : ¬ Bt 0 i := (Bt_z (x := 0) (b := 0) rfl).mp rfl i
theorem Bt_bit {o b : Int} {i : Nat} (ho : 0 ≤ o ∧ o < 32) (e : b = ((fun (x y : Int32) => x <<< (y &&& 31)) (Int32.ofInt 1) (Int32.ofInt o)).toInt) : Bt b i ↔ (i : Int) = o := by
  rw [Bt_shl ho e, Bt_1]
  omega
theorem Bt_tst {t o b1 b2 : Int} (ho : 0 ≤ o ∧ o < 32) (e1 : b1 = ((fun (x y : Int32) => x <<< (y &&& 31)) (Int32.ofInt 1) (Int32.ofInt o)).toInt) (e2 : b2 = ((fun (x y : Int32) => x &&& y) (Int32.ofInt t) (Int32.ofInt b1)).toInt) : ¬ b2 = 0 ↔ Bt t o.toNat := by
  rw [Bt_z e2]
  constructor
  · intro h
    by_cases q : Bt t o.toNat
    · exact q
    · refine absurd (fun i w => ?_) h
      rw [Bt_and e2, Bt_bit ho e1] at w
      rw [show i = o.toNat by omega] at w
      exact q w.1
  · intro h q
    have := q o.toNat
    rw [Bt_and e2, Bt_bit ho e1] at this
    exact this ⟨h, by omega⟩
theorem full13 : ∀ k, k < 14 → ∀ i, i < 32 → ((Int32.ofInt ((Int32.ofInt 1 <<< (Int32.ofInt ((k : Nat) : Int) &&& 31)).toInt - 1)).toBitVec.getLsbD i = true ↔ i < k) := by decide +kernel
theorem Bt_full {d b z : Int} {i : Nat} (hd : 0 ≤ d ∧ d < 14) (e1 : b = ((fun (x y : Int32) => x <<< (y &&& 31)) (Int32.ofInt 1) (Int32.ofInt d)).toInt) (e2 : z = b - 1) : Bt z i ↔ (i : Int) < d := by
  by_cases h : i < 32
  · have q := full13 d.toNat (by omega) i h
    rw [show ((d.toNat : Nat) : Int) = d by omega] at q
    rw [e2, e1]
    show (Int32.ofInt ((Int32.ofInt 1 <<< (Int32.ofInt d &&& 31)).toInt - 1)).toBitVec.getLsbD i = true ↔ _
    rw [q]
    omega
  · exact ⟨fun q => absurd q (Bt_ge (by omega)), fun q => by omega⟩
theorem upto13 : ∀ k, k < 13 → ∀ i, i < 32 → ((Int32.ofInt ((Int32.ofInt 2 <<< (Int32.ofInt ((k : Nat) : Int) &&& 31)).toInt - 1)).toBitVec.getLsbD i = true ↔ i ≤ k) := by decide +kernel
theorem Bt_upto {s b z : Int} {i : Nat} (hs : 0 ≤ s ∧ s < 13) (e1 : b = ((fun (x y : Int32) => x <<< (y &&& 31)) (Int32.ofInt 2) (Int32.ofInt s)).toInt) (e2 : z = b - 1) : Bt z i ↔ (i : Int) ≤ s := by
  by_cases h : i < 32
  · have q := upto13 s.toNat (by omega) i h
    rw [show ((s.toNat : Nat) : Int) = s by omega] at q
    rw [e2, e1]
    show (Int32.ofInt ((Int32.ofInt 2 <<< (Int32.ofInt s &&& 31)).toInt - 1)).toBitVec.getLsbD i = true ↔ _
    rw [q]
    omega
  · exact ⟨fun q => absurd q (Bt_ge (by omega)), fun q => by omega⟩
/-! bits of 4 -/
def pw4 : Nat → Int
  | 0 => 1
  | 1 => 2
  | 2 => 4
  | _ => 8
theorem bit4 : ∀ b, b < 16 → ∀ r, r < 4 → ((((Int32.ofInt ((b : Nat) : Int)) >>> ((Int32.ofInt ((r : Nat) : Int)) &&& 31)) &&& (Int32.ofInt 1)).toInt = 1 ↔ (b : Int) / pw4 r % 2 = 1) := by decide +kernel
theorem bitr {bu r b3 b4 : Int} (hb : 0 ≤ bu ∧ bu ≤ 15) (hr : 0 ≤ r ∧ r < 4) (e3 : b3 = ((fun (x y : Int32) => x >>> (y &&& 31)) (Int32.ofInt bu) (Int32.ofInt r)).toInt) (e4 : b4 = ((fun (x y : Int32) => x &&& y) (Int32.ofInt b3) (Int32.ofInt 1)).toInt) : b4 = 1 ↔ bu / pw4 r.toNat % 2 = 1 := by
  have h := bit4 bu.toNat (by omega) r.toNat (by omega)
  rw [show ((bu.toNat : Nat) : Int) = bu by omega, show ((r.toNat : Nat) : Int) = r by omega] at h
  rw [e4, e3]
  show (Int32.ofInt (Int32.ofInt bu >>> (Int32.ofInt r &&& 31)).toInt &&& Int32.ofInt 1).toInt = 1 ↔ _
  rw [Int32.ofInt_toInt]
  exact h
theorem bit4t : ∀ b, b < 16 → ∀ r, r < 4 → ((Int32.ofInt ((b : Nat) : Int)).toBitVec.getLsbD r = true ↔ (b : Int) / pw4 r % 2 = 1) := by decide +kernel
theorem Bt_4 {bu : Int} {r : Nat} (hb : 0 ≤ bu ∧ bu ≤ 15) (hr : r < 4) : Bt bu r ↔ bu / pw4 r % 2 = 1 := by
  have h := bit4t bu.toNat (by omega) r hr
  rw [show ((bu.toNat : Nat) : Int) = bu by omega] at h
  exact h
def uzR (d s bu k : Int) : Nat → Int
  | 0 => 0
  | r + 1 => uzR d s bu k r + (if bu / pw4 r % 2 = 1 ∧ (s + (r : Int)) % d = k then 1 else 0)
theorem uzR4 {d s bu k : Int} : uzR d s bu k 4 = us1 d s bu k := by
  show 0 + (if bu / 1 % 2 = 1 ∧ (s + 0) % d = k then 1 else 0) + (if bu / 2 % 2 = 1 ∧ (s + 1) % d = k then 1 else 0) + (if bu / 4 % 2 = 1 ∧ (s + 2) % d = k then 1 else 0) + (if bu / 8 % 2 = 1 ∧ (s + 3) % d = k then 1 else 0) = _
  rw [Int.ediv_one, Int.add_zero, Int.zero_add]
  rfl
theorem uzR_rg {d s bu k : Int} : ∀ r : Nat, 0 ≤ uzR d s bu k r ∧ uzR d s bu k r ≤ r
  | 0 => by
    show (0 : Int) ≤ 0 ∧ (0 : Int) ≤ ((0 : Nat) : Int)
    omega
  | r + 1 => by
    have := uzR_rg (d := d) (s := s) (bu := bu) (k := k) r
    unfold uzR
    split <;> omega
def askN (d bu r : Int) : Nat → Int
  | 0 => 0
  | j + 1 => askN d bu r j + (if bu / pw4 j % 2 = 1 ∧ (j : Int) % d = r then 1 else 0)
def ask (d bu r : Int) : Int := askN d bu r 4
theorem askN_rg {d bu r : Int} : ∀ j : Nat, 0 ≤ askN d bu r j ∧ askN d bu r j ≤ j
  | 0 => by
    show (0 : Int) ≤ 0 ∧ (0 : Int) ≤ ((0 : Nat) : Int)
    omega
  | j + 1 => by
    have := askN_rg (d := d) (bu := bu) (r := r) j
    unfold askN
    split <;> omega
theorem ask_rg {d bu r : Int} : 0 ≤ ask d bu r ∧ ask d bu r ≤ 4 := askN_rg 4
theorem askN_le {d bu r : Int} {i : Nat} : ∀ j : Nat, i ≤ j → askN d bu r i ≤ askN d bu r j
  | 0, h => by
    have e : i = 0 := by omega
    subst e
    exact Int.le_refl _
  | j + 1, h => by
    by_cases e : i = j + 1
    · subst e; exact Int.le_refl _
    · have := askN_le (d := d) (bu := bu) (r := r) (i := i) j (by omega)
      show _ ≤ askN d bu r j + (if _ then 1 else 0)
      split <;> omega
def spr (d s k : Int) (A : Int → Int) : Int := (if s % d = k then A 0 else 0) + (if (s + 1) % d = k then A 1 else 0) + (if (s + 2) % d = k then A 2 else 0) + (if (s + 3) % d = k then A 3 else 0)
theorem if_add {c : Prop} {_ : Decidable c} {a b : Int} : (if c then a + b else 0) = (if c then a else 0) + (if c then b else 0) := by
  split <;> omega
theorem spr_add {d s k : Int} {A B : Int → Int} : spr d s k (fun r => A r + B r) = spr d s k A + spr d s k B := by
  unfold spr
  rw [if_add, if_add, if_add, if_add]
  omega
theorem spr_one {d s k : Int} (hd : 0 < d) {P : Prop} {_ : Decidable P} {j : Nat} (hj : j < 4) : spr d s k (fun r => if P ∧ (j : Int) % d = r then 1 else 0) = if P ∧ (s + (j : Int)) % d = k then 1 else 0 := by
  have r1 := Int.emod_nonneg (j : Int) (show d ≠ 0 by omega)
  have r2 : (j : Int) % d ≤ j := by
    have e1 := Int.mul_ediv_add_emod (j : Int) d
    have e2 := Int.mul_nonneg (show 0 ≤ d by omega) (Int.ediv_nonneg (show 0 ≤ (j : Int) by omega) (show 0 ≤ d by omega))
    omega
  have e : (s + (j : Int)) % d = (s + (j : Int) % d) % d := by rw [Int.add_emod_emod]
  rw [e]
  have q : (j : Int) % d = 0 ∨ (j : Int) % d = 1 ∨ (j : Int) % d = 2 ∨ (j : Int) % d = 3 := by omega
  unfold spr
  by_cases p : P
  · rcases q with q | q | q | q <;> rw [q] <;> simp [p]
  · simp [p]
theorem us1_spr {d s bu k : Int} (hd : 0 < d) : us1 d s bu k = spr d s k (ask d bu) := by
  have key : ∀ j : Nat, j ≤ 4 → spr d s k (fun r => askN d bu r j) = uzR d s bu k j := by
    intro j
    induction j with
    | zero =>
      intro _
      show spr d s k (fun _ => 0) = 0
      unfold spr
      simp
    | succ j ih =>
      intro hj
      show spr d s k (fun r => askN d bu r j + (if bu / pw4 j % 2 = 1 ∧ (j : Int) % d = r then 1 else 0)) = uzR d s bu k j + (if bu / pw4 j % 2 = 1 ∧ (s + (j : Int)) % d = k then 1 else 0)
      rw [spr_add, ih (by omega), spr_one hd (by omega)]
  rw [← uzR4]
  exact (key 4 (by omega)).symm
theorem ask_out {d bu r : Int} (hd : 0 < d) (h : d ≤ r ∨ r < 0) : ask d bu r = 0 := by
  have key : ∀ j : Nat, askN d bu r j = 0 := by
    intro j
    induction j with
    | zero => rfl
    | succ j ih =>
      have r1 := Int.emod_nonneg (j : Int) (show d ≠ 0 by omega)
      have r2 := Int.emod_lt_of_pos (j : Int) hd
      show askN d bu r j + (if _ ∧ _ then 1 else 0) = 0
      rw [ih, if_neg (fun z => by have := z.2; omega)]
      rfl
  exact key 4
theorem rot_inj {d s a b : Int} (ha : 0 ≤ a ∧ a < d) (hb : 0 ≤ b ∧ b < d) (h : (s + a) % d = (s + b) % d) : a = b := by
  have q := Int.emod_eq_emod_iff_emod_sub_eq_zero.mp h
  rw [show s + a - (s + b) = a - b by omega] at q
  obtain ⟨c, hc⟩ := Int.dvd_of_emod_eq_zero q
  have c0 : c = 0 := by
    by_cases p : 1 ≤ c
    · have := Int.mul_le_mul_of_nonneg_left p (show 0 ≤ d by omega)
      omega
    · by_cases p2 : c ≤ -1
      · have := Int.mul_le_mul_of_nonneg_left p2 (show 0 ≤ d by omega)
        omega
      · omega
  rw [c0, Int.mul_zero] at hc
  omega
theorem spr_at {d s bu : Int} (hd : 0 < d) {r : Int} (hr : 0 ≤ r ∧ r < 4 ∧ r < d) : spr d s ((s + r) % d) (ask d bu) = ask d bu r := by
  have z : ∀ j : Int, 0 ≤ j → ¬ j = r → (if (s + j) % d = (s + r) % d then ask d bu j else 0) = 0 := by
    intro j hj hn
    by_cases w : j < d
    · exact if_neg (fun q => hn (rot_inj ⟨hj, w⟩ ⟨hr.1, hr.2.2⟩ q))
    · rw [ask_out hd (Or.inl (by omega))]
      split <;> rfl
  have e0 : (if s % d = (s + r) % d then ask d bu 0 else 0) = (if (s + 0) % d = (s + r) % d then ask d bu 0 else 0) := by rw [Int.add_zero]
  unfold spr
  rw [e0]
  have q : r = 0 ∨ r = 1 ∨ r = 2 ∨ r = 3 := by omega
  rcases q with q | q | q | q
  · rw [z 1 (by omega) (by omega), z 2 (by omega) (by omega), z 3 (by omega) (by omega), q, if_pos rfl]; omega
  · rw [z 0 (by omega) (by omega), z 2 (by omega) (by omega), z 3 (by omega) (by omega), q, if_pos rfl]; omega
  · rw [z 0 (by omega) (by omega), z 1 (by omega) (by omega), z 3 (by omega) (by omega), q, if_pos rfl]; omega
  · rw [z 0 (by omega) (by omega), z 1 (by omega) (by omega), z 2 (by omega) (by omega), q, if_pos rfl]; omega
theorem spr_off {d s bu k : Int} (hd : 0 < d) (h : ∀ r : Int, 0 ≤ r → r < 4 → 0 < ask d bu r → ¬ (s + r) % d = k) : spr d s k (ask d bu) = 0 := by
  have z : ∀ j : Int, 0 ≤ j → j < 4 → (if (s + j) % d = k then ask d bu j else 0) = 0 := by
    intro j h1 h2
    have := ask_rg (d := d) (bu := bu) (r := j)
    by_cases w : 0 < ask d bu j
    · exact if_neg (h j h1 h2 w)
    · rw [show ask d bu j = 0 by omega]
      split <;> rfl
  have e0 : (if s % d = k then ask d bu 0 else 0) = (if (s + 0) % d = k then ask d bu 0 else 0) := by rw [Int.add_zero]
  unfold spr
  rw [e0, z 0 (by omega) (by omega), z 1 (by omega) (by omega), z 2 (by omega) (by omega), z 3 (by omega) (by omega)]
  rfl
end
section
/-! ties of ops on one ring of needs, and what follows for them from slots -/
def many (E : Nat → Nat → Int → Prop) (a : Nat) : Prop := ∃ b c, ¬ b = c ∧ tie E a b ∧ tie E a c
theorem scc.of {E : Nat → Nat → Int → Prop} {a b c : Nat} (h : tie E a b) (g : tie E a c) : scc E b c := scc.tr (Or.inr h.sy) (Or.inr g)
theorem many.sc {E : Nat → Nat → Int → Prop} {a b : Nat} (h : many E a) (t : tie E a b) : many E b := by
  obtain ⟨b1, b2, h1, h2, h3⟩ := h
  by_cases q : b1 = b
  · exact ⟨a, b2, fun e => h3.1 e, t.sy, (scc.of t h3).ti (fun e => h1 (q.trans e))⟩
  · exact ⟨a, b1, fun e => h2.1 e, t.sy, (scc.of t h2).ti (fun e => q e.symm)⟩
def PSol (E : Nat → Nat → Int → Prop) (W : Nat → Nat → Int) (d : Int) (s : Nat → Int) (P : Nat → Prop) (a : Nat) (τ : Nat → Int) : Prop := (∀ b c, scc E a b → scc E a c → ¬ b = c → τ b + W b c ≤ τ c) ∧ ∀ b, P b → scc E a b → ∃ q, τ b = s b + d * q
theorem PSol.sc {E : Nat → Nat → Int → Prop} {W : Nat → Nat → Int} {d : Int} {s : Nat → Int} {P : Nat → Prop} {a b : Nat} {τ : Nat → Int} (h : PSol E W d s P a τ) (g : scc E a b) : PSol E W d s P b τ := ⟨fun c e hc he => h.1 c e (g.tr hc) (g.tr he), fun c hc hg => h.2 c hc (g.tr hg)⟩
theorem TuL.wk {p : Prb} {s t : Nat → Int} {r : Nat} (ht : TuL p s (scc p.E r) t) : ∀ {l : List Nat} {a b : Nat} {v : Int}, (r = a ∨ Rch p.E r a) → (b = r ∨ Rch p.E b r) → Wk p.E a l b v → s a + p.d * t a + v ≤ s b + p.d * t b
  | [], a, b, v, ha, hb, h1 => by
    have e : Rch p.E a b := ⟨[], v, h1⟩
    have ra : Rch p.E r b := ha.elim (fun q => by rw [q]; exact e) (fun q => q.tr e)
    have ar : Rch p.E a r := hb.elim (fun q => by rw [← q]; exact e) (fun q => e.tr q)
    have sa : scc p.E r a := by
      by_cases q : r = a
      · exact Or.inl q
      · exact Or.inr ⟨q, ha.resolve_left q, ar⟩
    have sb : scc p.E r b := by
      by_cases q : r = b
      · exact Or.inl q
      · exact Or.inr ⟨q, ra, hb.resolve_left (fun z => q z.symm)⟩
    exact ht a b v h1 sa sb
  | c :: l, a, b, v, ha, hb, ⟨x, y2, h1, g, e2⟩ => by
    have e := Rch.ed h1
    have rc : Rch p.E r c := ha.elim (fun q => by rw [q]; exact e) (fun q => q.tr e)
    have cb : Rch p.E c b := ⟨l, y2, g⟩
    have cr : Rch p.E c r := hb.elim (fun q => by rw [← q]; exact cb) (fun q => cb.tr q)
    have sa : scc p.E r a := by
      by_cases q : r = a
      · exact Or.inl q
      · exact Or.inr ⟨q, ha.resolve_left q, e.tr cr⟩
    have sc : scc p.E r c := by
      by_cases q : r = c
      · exact Or.inl q
      · exact Or.inr ⟨q, rc, cr⟩
    have k1 := ht a c x h1 sa sc
    have k2 := TuL.wk ht (Or.inr rc) hb g
    rw [e2]
    omega
def WyC (p : Prb) (W : Nat → Nat → Int) (nn : Int) : Prop := ∀ a b, a < p.n → b < p.n → WyV p.E nn a b (W a b)
theorem WyC.tie {p : Prb} {W : Nat → Nat → Int} {nn : Int} (hP : PrW p) (h : WyC p W nn) {a b : Nat} (t : tie p.E a b) : ¬ W a b = nn ∧ (∃ l, Wk p.E a l b (W a b)) ∧ ∀ l v, Wk p.E a l b v → v ≤ W a b := by
  obtain ⟨l, v, g⟩ := t.2.1
  rcases h a b (t.v hP).1 (t.v hP).2 with ⟨-, q⟩ | q
  · exact absurd g (q l v)
  · exact q
theorem TuL.sol {p : Prb} {W : Nat → Nat → Int} {nn : Int} (hP : PrW p) (hW : WyC p W nn) {s t : Nat → Int} {r : Nat} (ht : TuL p s (scc p.E r) t) (P : Nat → Prop) : PSol p.E W p.d s P r (fun o => s o + p.d * t o) := by
  refine ⟨fun b c hb hc hn => ?_, fun b _ _ => ⟨t b, rfl⟩⟩
  have bc : tie p.E b c := ((hb.sy).tr hc).ti hn
  obtain ⟨-, ⟨l, g⟩, -⟩ := hW.tie hP bc
  refine TuL.wk ht ?_ ?_ g
  · rcases hb with rfl | hb
    · exact Or.inl rfl
    · exact Or.inr hb.2.1
  · rcases hc with rfl | hc
    · exact Or.inl rfl
    · exact Or.inr hc.2.2
theorem PSol.tu {p : Prb} {W : Nat → Nat → Int} {nn : Int} (hP : PrW p) (hW : WyC p W nn) {s τ : Nat → Int} {r : Nat} {P : Nat → Prop} (hA : ∀ b, scc p.E r b → P b) (h : PSol p.E W p.d s P r τ) : ∃ t, TuL p s (scc p.E r) t := by
  have g : ∀ b, ∃ q, scc p.E r b → τ b = s b + p.d * q := fun b => by
    by_cases w : scc p.E r b
    · obtain ⟨q, e⟩ := h.2 b (hA b w) w
      exact ⟨q, fun _ => e⟩
    · exact ⟨0, fun z => absurd z w⟩
  refine ⟨fun b => Classical.choose (g b), fun a b x hx ha hb => ?_⟩
  have ea := Classical.choose_spec (g a) ha
  have eb := Classical.choose_spec (g b) hb
  rw [← ea, ← eb]
  by_cases q : a = b
  · subst q
    have := hP.2.2.2 a [] x List.nodup_nil hx
    omega
  · have ab : tie p.E a b := ((ha.sy).tr hb).ti q
    have := (hW.tie hP ab).2.2 [] x hx
    have := h.1 a b ha hb q
    omega
def TiX (E : Nat → Nat → Int → Prop) (W : Nat → Nat → Int) (d : Int) (s : Nat → Int) (P : Nat → Prop) (T : Nat → Nat → Int) : Prop :=
  (∀ a τ, PSol E W d s P a τ → ∀ b c, scc E a b → scc E a c → ¬ b = c → τ b + T b c ≤ τ c) ∧
  (∀ b c, tie E b c → W b c ≤ T b c) ∧
  (∀ b c, tie E b c → ¬ many E b → T b c = W b c) ∧
  (∀ a b, P a → P b → tie E a b → many E a → (∃ q, s a + T a b + d * q = s b) ∧ T a b + T b a ≤ 0 ∧ ∀ c, P c → tie E a c → tie E c b → T a c + T c b ≤ T a b) ∧
  (∀ b c, tie E b c → -801 ≤ T b c ∧ T b c ≤ 1602)
def AlnX (E : Nat → Nat → Int → Prop) (W : Nat → Nat → Int) (d : Int) (s : Nat → Int) (P : Nat → Prop) (T : Nat → Nat → Int) (op : Nat) (x : Int) (I O : Nat → Int) : Prop :=
  (∀ i, tie E op i → T i op ≤ I i ∧ T op i ≤ O i ∧ I i + O i ≤ 0) ∧
  (∀ i, tie E op i → P i → (∃ q, s i + I i + d * q = x) ∧ ∃ q, x + O i + d * q = s i) ∧
  (∀ i j, tie E op i → tie E op j → P i → P j → ¬ i = j → T i j + I j ≤ I i ∧ O j + T j i ≤ O i) ∧
  (∀ τ, PSol E W d s P op τ → (∃ q, τ op = x + d * q) → ∀ i, tie E op i → τ i + I i ≤ τ op ∧ τ op + O i ≤ τ i)
def TgtX (E : Nat → Nat → Int → Prop) (T : Nat → Nat → Int) (op : Nat) (I O : Nat → Int) (T' : Nat → Nat → Int) : Prop :=
  (∀ i, tie E op i → T' i op = I i ∧ T' op i = O i) ∧
  (∀ i j, tie E op i → tie E op j → ¬ i = j → T' i j = max (T i j) (I i + O j)) ∧
  (∀ i j, tie E i j → ¬ tie E op i → ¬ op = i → T' i j = T i j)
section TIES
variable {E : Nat → Nat → Int → Prop} {W : Nat → Nat → Int} {d : Int} {s : Nat → Int} {P : Nat → Prop} {T T' : Nat → Nat → Int} {op : Nat} {x : Int} {I O : Nat → Int}
def plusS (s : Nat → Int) (op : Nat) (x : Int) : Nat → Int := fun o => if o = op then x else s o
def plusP (P : Nat → Prop) (op : Nat) : Nat → Prop := fun o => P o ∨ o = op
theorem plusS.ne {o : Nat} (h : ¬ o = op) : plusS s op x o = s o := if_neg h
theorem plusS.eq : plusS s op x op = x := if_pos rfl
theorem PSol.less (hop : ¬ P op) {a : Nat} {τ : Nat → Int} (h : PSol E W d (plusS s op x) (plusP P op) a τ) : PSol E W d s P a τ := ⟨h.1, fun b hb hg => by
  have e : ¬ b = op := fun e => by subst e; exact hop hb
  have := h.2 b (Or.inl hb) hg
  rw [plusS.ne e] at this
  exact this⟩
theorem PSol.at {τ : Nat → Int} (h : PSol E W d (plusS s op x) (plusP P op) op τ) : ∃ q, τ op = x + d * q := by
  have := h.2 op (Or.inr rfl) scc.rf
  rw [plusS.eq] at this
  exact this
theorem cng_add {d a b c x y : Int} (h : ∃ q, a + x + d * q = b) (g : ∃ q, b + y + d * q = c) : ∃ q, a + (x + y) + d * q = c := by
  obtain ⟨q, h⟩ := h
  obtain ⟨r, g⟩ := g
  exact ⟨q + r, by rw [Int.mul_add]; omega⟩
theorem cng_max {d a b x y : Int} (h : ∃ q, a + x + d * q = b) (g : ∃ q, a + y + d * q = b) : ∃ q, a + max x y + d * q = b := by
  by_cases w : x ≤ y
  · rw [Int.max_eq_right w]; exact g
  · rw [Int.max_eq_left (by omega)]; exact h
theorem TiX.step (hW : ∀ b c, tie E b c → -801 ≤ W b c) (h : TiX E W d s P T) (hop : ¬ P op) (hm : many E op) (hA : AlnX E W d s P T op x I O) (hT : TgtX E T op I O T') : TiX E W d (plusS s op x) (plusP P op) T' := by
  obtain ⟨h1, h2, h3, h4, h5⟩ := h
  obtain ⟨a1, a2, a3, a4⟩ := hA
  obtain ⟨t1, t2, t3⟩ := hT
  -- how a tie is told now
  have tl : ∀ b c, tie E b c → (b = op ∧ tie E op c ∧ T' b c = O c) ∨ (c = op ∧ tie E op b ∧ T' b c = I b) ∨ (tie E op b ∧ tie E op c ∧ T' b c = max (T b c) (I b + O c)) ∨ (¬ tie E op b ∧ ¬ op = b ∧ ¬ tie E op c ∧ ¬ op = c ∧ T' b c = T b c) := by
    intro b c hbc
    by_cases e1 : op = b
    · subst e1; exact Or.inl ⟨rfl, hbc, (t1 c hbc).2⟩
    · by_cases e2 : op = c
      · subst e2; exact Or.inr (Or.inl ⟨rfl, hbc.sy, (t1 b hbc.sy).1⟩)
      · by_cases w : tie E op b
        · have wc : tie E op c := (scc.tr (Or.inr w) (Or.inr hbc)).ti e2
          exact Or.inr (Or.inr (Or.inl ⟨w, wc, t2 b c w wc hbc.1⟩))
        · have wc : ¬ tie E op c := fun q => w ((scc.tr (Or.inr q) (Or.inr hbc.sy)).ti e1)
          exact Or.inr (Or.inr (Or.inr ⟨w, e1, wc, e2, t3 b c hbc w e1⟩))
  have up : ∀ b c, tie E b c → T b c ≤ T' b c := by
    intro b c hbc
    rcases tl b c hbc with ⟨rfl, w, e⟩ | ⟨rfl, w, e⟩ | ⟨w1, w2, e⟩ | ⟨-, -, -, -, e⟩
    · rw [e]; exact (a1 c w).2.1
    · rw [e]; exact (a1 b w).1
    · rw [e]; omega
    · rw [e]; exact Int.le_refl _
  have Ib : ∀ i, tie E op i → -801 ≤ I i ∧ I i ≤ 801 ∧ -801 ≤ O i ∧ O i ≤ 801 := by
    intro i hi
    have := a1 i hi
    have := h2 i op hi.sy
    have := h2 op i hi
    have := hW i op hi.sy
    have := hW op i hi
    omega
  have pP : ∀ o, plusP P op o → ¬ o = op → P o := fun o h e => h.resolve_right e
  refine ⟨?_, fun b c hbc => Int.le_trans (h2 b c hbc) (up b c hbc), fun b c hbc hn => ?_, ?_, fun b c hbc => ?_⟩
  · intro a τ hτ b c hb hc hn
    have hτ0 := hτ.less hop
    have bc : tie E b c := ((hb.sy).tr hc).ti hn
    have g0 := h1 a τ hτ0 b c hb hc hn
    rcases tl b c bc with ⟨rfl, w, e⟩ | ⟨rfl, w, e⟩ | ⟨w1, w2, e⟩ | ⟨-, -, -, -, e⟩
    · have := (a4 τ (hτ0.sc hb) ((hτ.sc hb).at) c w).2
      rw [e]; exact this
    · have := (a4 τ (hτ0.sc hc) ((hτ.sc hc).at) b w).1
      rw [e]; exact this
    · have ho : scc E a op := hb.tr (Or.inr w1.sy)
      have g1 := (a4 τ (hτ0.sc ho) ((hτ.sc ho).at) b w1).1
      have g2 := (a4 τ (hτ0.sc ho) ((hτ.sc ho).at) c w2).2
      rw [e]; omega
    · rw [e]; exact g0
  · rcases tl b c hbc with ⟨rfl, w, e⟩ | ⟨rfl, w, e⟩ | ⟨w1, w2, e⟩ | ⟨-, -, -, -, e⟩
    · exact absurd hm hn
    · exact absurd (hm.sc w) hn
    · exact absurd (hm.sc w1) hn
    · rw [e]; exact h3 b c hbc hn
  · intro a b pa pb hab hma
    rcases tl a b hab with ⟨rfl, w, e⟩ | ⟨rfl, w, e⟩ | ⟨w1, w2, e⟩ | ⟨n1, n2, n3, n4, e⟩
    · -- from op
      have hb := pP b pb (fun z => hab.1 z.symm)
      have c2 := a2 b w hb
      have c1 := a1 b w
      rw [e, (t1 b w).1, plusS.eq, plusS.ne (fun z => hab.1 z.symm)]
      refine ⟨c2.2, by omega, fun c pc hac hcb => ?_⟩
      have hc := pP c pc (fun z => hac.1 z.symm)
      have k := (a3 b c w hac hb hc (fun z => hcb.1 z.symm)).2
      have kc := a1 c hac
      rw [(t1 c hac).2, t2 c b hac w hcb.1]
      omega
    · -- to op
      have ha := pP a pa hab.1
      have c2 := a2 a w ha
      have c1 := a1 a w
      rw [e, (t1 a w).2, plusS.eq, plusS.ne hab.1]
      refine ⟨c2.1, by omega, fun c pc hac hcb => ?_⟩
      have hc := pP c pc hcb.1
      have k := (a3 a c w hcb.sy ha hc hac.1).1
      have kc := a1 c hcb.sy
      rw [(t1 c hcb.sy).1, t2 a c w hcb.sy hac.1]
      omega
    · have na : ¬ a = op := fun z => w1.1 z.symm
      have nb : ¬ b = op := fun z => w2.1 z.symm
      have ha := pP a pa na
      have hb := pP b pb nb
      obtain ⟨g1, g2, g3⟩ := h4 a b ha hb hab hma
      have k1 := a3 a b w1 w2 ha hb hab.1
      have k2 := a3 b a w2 w1 hb ha (fun z => hab.1 z.symm)
      have ca := a1 a w1
      have cb := a1 b w2
      rw [e, t2 b a w2 w1 (fun z => hab.1 z.symm), plusS.ne na, plusS.ne nb]
      refine ⟨cng_max g1 (cng_add (a2 a w1 ha).1 (a2 b w2 hb).2), by omega, fun c pc hac hcb => ?_⟩
      by_cases q : c = op
      · subst q
        rw [(t1 a w1).1, (t1 b w2).2]
        omega
      · have hc := pP c pc q
        have w3 : tie E op c := (scc.tr (Or.inr w1) (Or.inr hac)).ti (fun z => q z.symm)
        have k3 := g3 c hc hac hcb
        have k4 := a3 a c w1 w3 ha hc hac.1
        have k5 := a3 b c w2 w3 hb hc (fun z => hcb.1 z.symm)
        have cc := a1 c w3
        rw [t2 a c w1 w3 hac.1, t2 c b w3 w2 hcb.1]
        omega
    · have na : ¬ a = op := fun z => n2 z.symm
      have nb : ¬ b = op := fun z => n4 z.symm
      obtain ⟨g1, g2, g3⟩ := h4 a b (pP a pa na) (pP b pb nb) hab hma
      rw [e, t3 b a hab.sy n3 n4, plusS.ne na, plusS.ne nb]
      refine ⟨g1, g2, fun c pc hac hcb => ?_⟩
      have nc : ¬ op = c := fun z => n1 (by rw [z]; exact hac.sy)
      have mc : ¬ tie E op c := fun z => n1 ((scc.tr (Or.inr z) (Or.inr hac.sy)).ti n2)
      have k3 := g3 c (pP c pc (fun z => nc z.symm)) hac hcb
      rw [t3 a c hac n1 n2, t3 c b hcb mc nc]
      exact k3
  · have := h5 b c hbc
    rcases tl b c hbc with ⟨rfl, w, e⟩ | ⟨rfl, w, e⟩ | ⟨w1, w2, e⟩ | ⟨-, -, -, -, e⟩
    · have := Ib c w; omega
    · have := Ib b w; omega
    · have := Ib b w1; have := Ib c w2; omega
    · omega
theorem TiX.cls (h : TiX E W d s P T) {a : Nat} (hP : P a) (hm : many E a) : ∃ τ : Nat → Int, (∀ b c, P b → P c → scc E a b → scc E a c → ¬ b = c → τ b + W b c ≤ τ c) ∧ ∀ b, P b → scc E a b → ∃ q, τ b = s b + d * q := by
  obtain ⟨-, h2, -, h4, -⟩ := h
  refine ⟨fun c => if c = a then s a else s a + T a c, fun b c pb pc hb hc hn => ?_, fun b pb hb => ?_⟩
  · show (if b = a then s a else s a + T a b) + W b c ≤ (if c = a then s a else s a + T a c)
    have bc : tie E b c := ((hb.sy).tr hc).ti hn
    have lw := h2 b c bc
    by_cases q : b = a
    · subst q
      rw [if_pos rfl, if_neg (fun z => hn z.symm)]
      omega
    · have ab : tie E a b := hb.ti (fun z => q z.symm)
      rw [if_neg q]
      by_cases q2 : c = a
      · subst q2
        rw [if_pos rfl]
        have := (h4 c b hP pb ab hm).2.1
        omega
      · have ac : tie E a c := hc.ti (fun z => q2 z.symm)
        rw [if_neg q2]
        have := (h4 a c hP pc ac hm).2.2 b pb ab bc
        omega
  · show ∃ q, (if b = a then s a else s a + T a b) = s b + d * q
    by_cases q : b = a
    · subst q
      exact ⟨0, by rw [if_pos rfl, Int.mul_zero]; omega⟩
    · have ab : tie E a b := hb.ti (fun z => q z.symm)
      obtain ⟨r, e⟩ := (h4 a b hP pb ab hm).1
      exact ⟨-r, by rw [if_neg q, Int.mul_neg]; omega⟩
end TIES
end
