/-! ways in a graph of few places: walks, rings that are not above 0, heights -/
/-- a walk from a over p to b, of a value -/
def Wk (E : Nat → Nat → Int → Prop) : Nat → List Nat → Nat → Int → Prop
  | a, [], b, v => E a b v
  | a, c :: p, b, v => ∃ x y, E a c x ∧ Wk E c p b y ∧ v = x + y
section WALK
variable {E : Nat → Nat → Int → Prop}
theorem Wk.app : ∀ {p : List Nat} {a c b : Nat} {q : List Nat} {x y : Int}, Wk E a p c x → Wk E c q b y → Wk E a (p ++ c :: q) b (x + y)
  | [], a, c, b, q, x, y, h1, h2 => ⟨x, y, h1, h2, rfl⟩
  | e :: p, a, c, b, q, x, y, ⟨u, v, g1, g2, g3⟩, h2 => ⟨u, v + y, g1, Wk.app g2 h2, by omega⟩
theorem Wk.split : ∀ {p : List Nat} {a c b : Nat} {q : List Nat} {z : Int}, Wk E a (p ++ c :: q) b z → ∃ x y, Wk E a p c x ∧ Wk E c q b y ∧ z = x + y
  | [], a, c, b, q, z, ⟨x, y, h1, h2, h3⟩ => ⟨x, y, h1, h2, h3⟩
  | e :: p, a, c, b, q, z, ⟨u, v, g1, g2, g3⟩ => by
    obtain ⟨x, y, h1, h2, h3⟩ := Wk.split g2
    exact ⟨u + x, y, ⟨u, x, g1, h1, rfl⟩, h2, by omega⟩
theorem Wk.le (hE : ∀ a b x, E a b x → x ≤ 99) : ∀ {p : List Nat} {a b : Nat} {v : Int}, Wk E a p b v → v ≤ 99 * (p.length + 1)
  | [], a, b, v, h => by have := hE a b v h; simp; omega
  | c :: p, a, b, v, ⟨x, y, h1, h2, h3⟩ => by
    have := hE _ _ _ h1
    have := Wk.le hE h2
    rw [List.length_cons]; omega
theorem Wk.le6 {c : Int} (hc : 0 ≤ c) (hE : ∀ a b x, E a b x → x ≤ c) : ∀ {p : List Nat} {a b : Nat} {v : Int}, Wk E a p b v → v ≤ c * (p.length + 1)
  | [], a, b, v, h => by have := hE a b v h; simp; omega
  | e :: p, a, b, v, ⟨x, y, h1, h2, h3⟩ => by
    have := hE _ _ _ h1
    have := Wk.le6 hc hE h2
    rw [List.length_cons]
    have e1 : c * ((p.length + 1 : Nat) + 1 : Int) = c * (p.length + 1) + c := by
      rw [Int.natCast_add]
      show c * ((p.length : Int) + 1 + 1) = _
      rw [Int.mul_add, Int.mul_one]
    omega
/-- at a potential a walk is no more than what lies between -/
theorem Wk.pot {φ : Nat → Int} (hφ : ∀ a b x, E a b x → φ a + x ≤ φ b) : ∀ {p : List Nat} {a b : Nat} {v : Int}, Wk E a p b v → φ a + v ≤ φ b
  | [], a, b, v, h => hφ a b v h
  | c :: p, a, b, v, ⟨x, y, h1, h2, h3⟩ => by
    have := hφ _ _ _ h1
    have := Wk.pot hφ h2
    omega
theorem nd_len : ∀ {k : Nat} {l : List Nat}, l.Nodup → (∀ x ∈ l, x < k) → l.length ≤ k
  | 0, l, _, h => by
    cases l with
    | nil => simp
    | cons x l => exact absurd (h x List.mem_cons_self) (by omega)
  | k + 1, l, hn, h => by
    by_cases hk : k ∈ l
    · have := nd_len (k := k) (l := l.erase k) (hn.erase k) (fun x hx => by
        have h1 := h x (List.mem_of_mem_erase hx)
        have h2 : x ≠ k := fun e => by subst e; exact hn.not_mem_erase hx
        omega)
      rw [List.length_erase_of_mem hk] at this
      omega
    · have := nd_len (k := k) hn (fun x hx => by
        have h1 := h x hx
        have h2 : x ≠ k := fun e => by subst e; exact hk hx
        omega)
      omega
/-- W is no less, from a to b, than walks over places below m -/
def Low (E : Nat → Nat → Int → Prop) (m : Nat) (W : Nat → Nat → Int) (a b : Nat) : Prop := ∀ p v, p.Nodup → (∀ c ∈ p, c < m) → Wk E a p b v → -999 + 99 * (p.length : Int) ≤ v → v ≤ W a b
theorem Low.piv {m a b : Nat} {W : Nat → Nat → Int} (hE : ∀ a b x, E a b x → x ≤ 99) (h1 : Low E m W a b) (h2 : Low E m W a m) (h3 : Low E m W m b) {p : List Nat} {v : Int} (hn : p.Nodup) (hp : ∀ c ∈ p, c < m + 1) (hw : Wk E a p b v) (hv : -999 + 99 * (p.length : Int) ≤ v) : v ≤ W a b ∨ (-1000 < W a m ∧ -1000 < W m b ∧ v ≤ W a m + W m b ∧ m ∈ p) := by
  by_cases hm : m ∈ p
  · right
    obtain ⟨p1, p2, rfl⟩ := List.append_of_mem hm
    obtain ⟨x, y, g1, g2, g3⟩ := Wk.split hw
    rw [List.nodup_append, List.nodup_cons] at hn
    obtain ⟨n1, ⟨n2, n3⟩, n4⟩ := hn
    have l1 := Wk.le hE g1
    have l2 := Wk.le hE g2
    rw [List.length_append, List.length_cons] at hv
    have k1 := h2 p1 x n1 (fun c hc => by
      have := hp c (List.mem_append_left _ hc)
      have : c ≠ m := fun e => n4 c hc m List.mem_cons_self e
      omega) g1 (by omega)
    have k2 := h3 p2 y n3 (fun c hc => by
      have := hp c (List.mem_append_right _ (List.mem_cons_of_mem _ hc))
      have : c ≠ m := fun e => by subst e; exact n2 hc
      omega) g2 (by omega)
    exact ⟨by omega, by omega, by omega, hm⟩
  · exact Or.inl (h1 p v hn (fun c hc => by
      have := hp c hc
      have : c ≠ m := fun e => by subst e; exact hm hc
      omega) hw hv)
/-- no ring above 0, ways of a bounded value: there are heights -/
theorem pot {k : Nat} {B : Nat} (hV : ∀ a b x, E a b x → a < k ∧ b < k) (hR : ∀ a p v, a < k → p.Nodup → (∀ c ∈ p, c < k) → Wk E a p a v → v ≤ 0) (hB : ∀ a p b v, b < k → (b :: a :: p).Nodup → (∀ c ∈ a :: p, c < k) → Wk E a p b v → v ≤ B) : ∃ φ : Nat → Int, (∀ b, 0 ≤ φ b ∧ φ b ≤ B) ∧ ∀ a b x, E a b x → φ a + x ≤ φ b := by
  have key : ∀ (N : Nat) (φ : Nat → Int), (∀ b, 0 ≤ φ b ∧ φ b ≤ B) → (∀ b, φ b = 0 ∨ ∃ a p v, b < k ∧ (∀ c ∈ a :: p, c < k) ∧ (b :: a :: p).Nodup ∧ Wk E a p b v ∧ φ b ≤ v) → smN (fun b => (B - φ b).toNat) k < N → ∃ φ : Nat → Int, (∀ b, 0 ≤ φ b ∧ φ b ≤ B) ∧ ∀ a b x, E a b x → φ a + x ≤ φ b := by
    intro N
    induction N with
    | zero => intros; omega
    | succ N ih =>
      intro φ h1 h2 hN
      by_cases hf : ∀ a b x, E a b x → φ a + x ≤ φ b
      · exact ⟨φ, h1, hf⟩
      · simp only [Classical.not_forall] at hf
        obtain ⟨a, b, x, hE, hlt⟩ := hf
        obtain ⟨ha, hb⟩ := hV a b x hE
        have hab : ¬ b = a := fun e => by
          subst e
          have := hR b [] x hb List.nodup_nil (fun c hc => by cases hc) hE
          omega
        -- a way to b of that value
        have hw : ∃ s p v, (∀ c ∈ s :: p, c < k) ∧ (b :: s :: p).Nodup ∧ Wk E s p b v ∧ φ a + x ≤ v := by
          rcases h2 a with h0 | ⟨s, p, v, g1, g2, g3, g4, g5⟩
          · refine ⟨a, [], x, fun c hc => ?_, ?_, hE, by omega⟩
            · rcases List.mem_cons.mp hc with rfl | hc
              · exact ha
              · cases hc
            · simp [hab]
          · have g3' := List.nodup_cons.mp g3
            have g3'' := List.nodup_cons.mp g3'.2
            have wx : Wk E s (p ++ [a]) b (v + x) := Wk.app g4 hE
            have nd : (p ++ [a]).Nodup := by
              rw [List.nodup_append]
              refine ⟨g3''.2, by simp, fun c hc e he => ?_⟩
              have : e = a := by simpa using he
              subst this
              intro q
              subst q
              exact g3'.1 (List.mem_cons_of_mem _ hc)
            have lt : ∀ c ∈ p ++ [a], c < k := fun c hc => by
              rcases List.mem_append.mp hc with hc | hc
              · exact g2 c (List.mem_cons_of_mem _ hc)
              · have : c = a := by simpa using hc
                subst this; exact ha
            by_cases hbs : b = s
            · exfalso
              subst hbs
              have := hR b _ _ hb nd lt wx
              have := h1 b
              omega
            · by_cases hbp : b ∈ p
              · obtain ⟨p1, p2, rfl⟩ := List.append_of_mem hbp
                obtain ⟨u, w, k1, k2, k3⟩ := Wk.split g4
                have wy : Wk E b (p2 ++ [a]) b (w + x) := Wk.app k2 hE
                have nda := List.nodup_append.mp g3''.2
                have ndb := List.nodup_cons.mp nda.2.1
                have nd2 : (p2 ++ [a]).Nodup := by
                  rw [List.append_assoc] at nd
                  exact (List.nodup_cons.mp (List.nodup_append.mp nd).2.1).2
                have := hR b _ _ hb nd2 (fun c hc => lt c (by
                  rw [List.append_assoc]
                  exact List.mem_append_right _ (List.mem_cons_of_mem _ hc))) wy
                refine ⟨s, p1, u, fun c hc => ?_, ?_, k1, by omega⟩
                · rcases List.mem_cons.mp hc with rfl | hc
                  · exact g2 _ List.mem_cons_self
                  · exact g2 c (List.mem_cons_of_mem _ (List.mem_append_left _ hc))
                · rw [List.nodup_cons, List.nodup_cons]
                  refine ⟨fun q => ?_, fun q => g3''.1 (List.mem_append_left _ q), nda.1⟩
                  rcases List.mem_cons.mp q with q | q
                  · exact hbs q
                  · exact nda.2.2 b q b List.mem_cons_self rfl
              · refine ⟨s, p ++ [a], v + x, fun c hc => ?_, ?_, wx, by omega⟩
                · rcases List.mem_cons.mp hc with rfl | hc
                  · exact g2 _ List.mem_cons_self
                  · exact lt c hc
                · rw [List.nodup_cons, List.nodup_cons]
                  refine ⟨fun q => ?_, fun q => ?_, nd⟩
                  · rcases List.mem_cons.mp q with q | q
                    · exact hbs q
                    · rcases List.mem_append.mp q with q | q
                      · exact hbp q
                      · exact hab (by simpa using q)
                  · rcases List.mem_append.mp q with q | q
                    · exact g3''.1 q
                    · have : s = a := by simpa using q
                      exact g3'.1 (by rw [← this]; exact List.mem_cons_self)
        obtain ⟨s, p, v, w1, w2, w3, w4⟩ := hw
        have hvB := hB s p b v hb w2 w1 w3
        refine ih (fun c => if c = b then φ a + x else φ c) (fun c => ?_) (fun c => ?_) ?_
        · split
          · have := h1 b; have := h1 a; omega
          · exact h1 c
        · split
          · rename_i e
            subst e
            exact Or.inr ⟨s, p, v, hb, w1, w2, w3, w4⟩
          · exact h2 c
        · have hd : ∀ j, smN (fun c => (B - (if c = b then φ a + x else φ c)).toNat) j ≤ smN (fun c => (B - φ c).toNat) j ∧ (b < j → smN (fun c => (B - (if c = b then φ a + x else φ c)).toNat) j < smN (fun c => (B - φ c).toNat) j) := by
            intro j
            induction j with
            | zero => exact ⟨Nat.le_refl _, fun q => by omega⟩
            | succ j ihj =>
              simp only [smN]
              by_cases e : j = b
              · subst e
                rw [if_pos rfl]
                have := h1 j
                exact ⟨by omega, fun _ => by omega⟩
              · rw [if_neg e]
                exact ⟨by omega, fun q => by have := ihj.2 (by omega); omega⟩
          have := (hd k).2 hb
          omega
  exact key _ (fun _ => 0) (fun b => ⟨by omega, by omega⟩) (fun b => Or.inl rfl) (Nat.lt_succ_self _)
end WALK
