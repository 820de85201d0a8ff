/-! rings that are gone round, edge by edge, are the closed walks: no ring is above d times its distances just if no closed walk is above 0 -/
/-- edges by d: the first so many needs -/
def EdQ (c : Nat → Q4) (n : Nat) (d : Int) (a b : Nat) (x : Int) : Prop := ∃ j : Nat, j < n ∧ (c j).1 = a ∧ (c j).2.1 = b ∧ x = (c j).2.2.2 - d * (c j).2.2.1
/-- ends of needs are ops; what is of no distance goes up -/
def EdV (c : Nat → Q4) (n o : Nat) : Prop := ∀ j, j < n → (∃ a b : Nat, (c j).1 = a ∧ (c j).2.1 = b ∧ a < o ∧ b < o) ∧ 0 ≤ (c j).2.2.1 ∧ ((c j).2.2.1 = 0 → (c j).1 < (c j).2.1)
def NoUp (E : Nat → Nat → Int → Prop) : Prop := ∀ a p v, p.Nodup → Wk E a p a v → v ≤ 0
theorem fmN_mem {f : Nat → List Rg3} {r : Rg3} : ∀ n, r ∈ fmN f n ↔ ∃ i, i < n ∧ r ∈ f i
  | 0 => ⟨fun h => absurd h List.not_mem_nil, fun ⟨i, h, _⟩ => by omega⟩
  | n + 1 => by
    show r ∈ fmN f n ++ f n ↔ _
    rw [List.mem_append, fmN_mem n]
    constructor
    · rintro (⟨i, h1, h2⟩ | h)
      · exact ⟨i, by omega, h2⟩
      · exact ⟨n, by omega, h⟩
    · rintro ⟨i, h1, h2⟩
      by_cases e : i = n
      · subst e; exact Or.inr h2
      · exact Or.inl ⟨i, by omega, h2⟩
theorem ringsAll_mem {c : Nat → Q4} {n : Nat} {r : Rg3} : ∀ o, r ∈ ringsAll c n o ↔ ∃ s : Nat, s < o ∧ r ∈ dfs c n (s : Int) 9 (s : Int) [] 0 0
  | 0 => ⟨fun h => absurd h List.not_mem_nil, fun ⟨i, h, _⟩ => by omega⟩
  | o + 1 => by
    show r ∈ ringsAll c n o ++ dfs c n (o : Int) 9 (o : Int) [] 0 0 ↔ _
    rw [List.mem_append, ringsAll_mem o]
    constructor
    · rintro (⟨i, h1, h2⟩ | h)
      · exact ⟨i, by omega, h2⟩
      · exact ⟨o, by omega, h⟩
    · rintro ⟨i, h1, h2⟩
      by_cases e : i = o
      · subst e; exact Or.inr h2
      · exact Or.inl ⟨i, by omega, h2⟩
section RNG
variable {c : Nat → Q4} {n o : Nat} {d : Int}
/-- what a need on the way brings, by cases -/
theorem dfE_mem {st a : Nat} {vis : List Int} {D W : Int} {rec : Int → List Int → Int → Int → List Rg3} {i : Nat} {b : Nat} (hb : (c i).2.1 = b) {r : Rg3} (h : r ∈ dfE (st : Int) (a : Int) vis D W rec (c i)) : (c i).1 = a ∧ st ≤ b ∧ ((b = st ∧ r = (D + (c i).2.2.2, W + (c i).2.2.1, X1 (st : Int) ||| pmK vis)) ∨ (¬ b = st ∧ ¬ (b : Int) ∈ vis ∧ r ∈ rec (b : Int) ((b : Int) :: vis) (D + (c i).2.2.2) (W + (c i).2.2.1))) := by
  unfold dfE at h
  by_cases q1 : ¬ (c i).1 = a ∨ (c i).2.1 < (st : Int)
  · rw [if_pos q1] at h
    exact absurd h List.not_mem_nil
  · rw [if_neg q1] at h
    refine ⟨by omega, by omega, ?_⟩
    by_cases q2 : (c i).2.1 = (st : Int)
    · rw [if_pos q2] at h
      exact Or.inl ⟨by omega, List.mem_singleton.mp h⟩
    · rw [if_neg q2] at h
      by_cases q3 : (c i).2.1 ∈ vis
      · rw [if_pos q3] at h
        exact absurd h List.not_mem_nil
      · rw [if_neg q3] at h
        rw [hb] at q3 h
        exact Or.inr ⟨by omega, q3, h⟩
/-- a ring is a closed walk -/
theorem dfs_wk (hV : EdV c n o) {st : Nat} : ∀ (f : Nat) (a : Nat) (vis : List Int) (D W : Int) (r : Rg3), r ∈ dfs c n (st : Int) f (a : Int) vis D W → ∃ p v, p.Nodup ∧ (∀ x ∈ p, st < x ∧ ¬ (x : Int) ∈ vis) ∧ Wk (EdQ c n d) a p st v ∧ r.1 - d * r.2.1 = D - d * W + v
  | 0, a, vis, D, W, r, h => absurd h List.not_mem_nil
  | f + 1, a, vis, D, W, r, h => by
    obtain ⟨i, hi, hr⟩ := (fmN_mem n).mp h
    obtain ⟨⟨u, b, hu, hb, -, -⟩, -, -⟩ := hV i hi
    obtain ⟨e1, e2, h⟩ := dfE_mem hb hr
    have ed : EdQ c n d a b ((c i).2.2.2 - d * (c i).2.2.1) := ⟨i, hi, e1, hb, rfl⟩
    rcases h with ⟨e3, e4⟩ | ⟨e3, e4, e5⟩
    · subst e3
      subst e4
      refine ⟨[], _, List.nodup_nil, fun x hx => absurd hx List.not_mem_nil, ed, ?_⟩
      show D + (c i).2.2.2 - d * (W + (c i).2.2.1) = _
      rw [Int.mul_add]; omega
    · obtain ⟨p, v, g1, g2, g3, g4⟩ := dfs_wk hV f b _ _ _ r e5
      refine ⟨b :: p, _, List.nodup_cons.mpr ⟨fun w => (g2 b w).2 List.mem_cons_self, g1⟩, fun x hx => ?_, ⟨_, _, ed, g3, rfl⟩, ?_⟩
      · rcases List.mem_cons.mp hx with rfl | hx
        · exact ⟨by omega, e4⟩
        · exact ⟨(g2 x hx).1, fun w => (g2 x hx).2 (List.mem_cons_of_mem _ w)⟩
      · rw [g4, Int.mul_add]; omega
/-- a closed walk over greater ones, apart, is a ring -/
theorem wk_dfs {st : Nat} : ∀ (p : List Nat) (f a : Nat) (vis : List Int) (D W v : Int), p.length < f → p.Nodup → (∀ x ∈ p, st < x ∧ ¬ (x : Int) ∈ vis) → Wk (EdQ c n d) a p st v → ∃ r, r ∈ dfs c n (st : Int) f (a : Int) vis D W ∧ r.1 - d * r.2.1 = D - d * W + v
  | [], f, a, vis, D, W, v, hf, _, _, ⟨j, h1, h2, h3, h4⟩ => by
    obtain ⟨f, rfl⟩ : ∃ k, f = k + 1 := ⟨f - 1, by simp at hf; omega⟩
    refine ⟨(D + (c j).2.2.2, W + (c j).2.2.1, X1 (st : Int) ||| pmK vis), (fmN_mem n).mpr ⟨j, h1, ?_⟩, ?_⟩
    · unfold dfE
      rw [if_neg (by omega), if_pos h3]
      exact List.mem_singleton.mpr rfl
    · show D + (c j).2.2.2 - d * (W + (c j).2.2.1) = _
      rw [Int.mul_add]; omega
  | b :: p, f, a, vis, D, W, v, hf, hn, hp, ⟨x, y, ⟨j, h1, h2, h3, h4⟩, h5, h6⟩ => by
    rw [List.length_cons] at hf
    obtain ⟨f, rfl⟩ : ∃ k, f = k + 1 := ⟨f - 1, by omega⟩
    have hb := hp b List.mem_cons_self
    rw [List.nodup_cons] at hn
    obtain ⟨r, r1, r2⟩ := wk_dfs p f b ((b : Int) :: vis) (D + (c j).2.2.2) (W + (c j).2.2.1) y (by omega) hn.2 (fun z hz => ⟨(hp z (List.mem_cons_of_mem _ hz)).1, fun w => by
      rcases List.mem_cons.mp w with w | w
      · have : z = b := by omega
        subst this
        exact hn.1 hz
      · exact (hp z (List.mem_cons_of_mem _ hz)).2 w⟩) h5
    refine ⟨r, (fmN_mem n).mpr ⟨j, h1, ?_⟩, ?_⟩
    · unfold dfE
      rw [if_neg (by omega), if_neg (by omega), if_neg (by rw [h3]; exact hb.2), h3]
      exact r1
    · rw [r2, h6, h4, Int.mul_add]; omega
/-- what is least in a row, and what lies about it -/
theorem least_in : ∀ (l : List Nat) (a : Nat), ∃ l1 m l2, a :: l = l1 ++ m :: l2 ∧ ∀ x ∈ a :: l, m ≤ x
  | [], a => ⟨[], a, [], rfl, fun x hx => by rw [List.mem_singleton.mp hx]; omega⟩
  | b :: l, a => by
    obtain ⟨l1, m, l2, e, h⟩ := least_in l b
    by_cases q : a ≤ m
    · refine ⟨[], a, b :: l, rfl, fun x hx => ?_⟩
      rcases List.mem_cons.mp hx with rfl | hx
      · omega
      · have := h x hx; omega
    · refine ⟨a :: l1, m, l2, by rw [e]; rfl, fun x hx => ?_⟩
      rcases List.mem_cons.mp hx with rfl | hx
      · omega
      · exact h x hx
theorem Wk.ends {E : Nat → Nat → Int → Prop} (hV : ∀ a b x, E a b x → a < o ∧ b < o) : ∀ {p : List Nat} {a b : Nat} {v : Int}, Wk E a p b v → a < o ∧ b < o ∧ ∀ x ∈ p, x < o
  | [], a, b, v, h => ⟨(hV a b v h).1, (hV a b v h).2, fun x hx => absurd hx List.not_mem_nil⟩
  | e :: p, a, b, v, ⟨x, y, h4, h5, h6⟩ => by
    obtain ⟨k1, k2, k3⟩ := Wk.ends hV h5
    refine ⟨(hV _ _ _ h4).1, k2, fun z hz => ?_⟩
    rcases List.mem_cons.mp hz with rfl | hz
    · exact k1
    · exact k3 z hz
theorem EdQ.v (hV : EdV c n o) (a b : Nat) (x : Int) (h : EdQ c n d a b x) : a < o ∧ b < o := by
  obtain ⟨j, h1, h2, h3, h4⟩ := h
  obtain ⟨⟨u, w, hu, hw, h5, h6⟩, -, -⟩ := hV j h1
  omega
theorem noup_of (ho : o ≤ 8) (hV : EdV c n o) (hR : ∀ r ∈ ringsAll c n o, r.1 ≤ d * r.2.1) : ∀ (N : Nat) (p : List Nat) (a : Nat) (v : Int), p.length < N → p.Nodup → Wk (EdQ c n d) a p a v → v ≤ 0 := by
  intro N
  induction N with
  | zero => intros; omega
  | succ N ih =>
    intro p a v hN hn hw
    by_cases ha : a ∈ p
    · obtain ⟨p1, p2, rfl⟩ := List.append_of_mem ha
      obtain ⟨x, y, h1, h2, h3⟩ := Wk.split hw
      rw [List.nodup_append, List.nodup_cons] at hn
      rw [List.length_append, List.length_cons] at hN
      have := ih p1 a x (by omega) hn.1 h1
      have := ih p2 a y (by omega) hn.2.1.2 h2
      omega
    · have hna : (a :: p).Nodup := List.nodup_cons.mpr ⟨ha, hn⟩
      obtain ⟨-, -, he⟩ := Wk.ends (EdQ.v hV) hw
      have hao := (Wk.ends (EdQ.v hV) hw).1
      obtain ⟨l1, m, l2, e, hm⟩ := least_in p a
      have done : ∀ q v', q.Nodup → (∀ x ∈ q, m < x) → Wk (EdQ c n d) m q m v' → v' ≤ 0 := by
        intro q v' q1 q2 q3
        have hmo := (Wk.ends (EdQ.v hV) q3).1
        have hl := nd_len (k := 8) q1 (fun x hx => by have := (Wk.ends (EdQ.v hV) q3).2.2 x hx; omega)
        obtain ⟨r, r1, r2⟩ := wk_dfs (st := m) q 9 m [] 0 0 v' (by omega) q1 (fun x hx => ⟨q2 x hx, List.not_mem_nil⟩) q3
        have := hR r ((ringsAll_mem o).mpr ⟨m, hmo, r1⟩)
        rw [Int.mul_zero] at r2
        omega
      rw [e] at hna hm
      rw [List.nodup_append, List.nodup_cons] at hna
      obtain ⟨n1, ⟨n2, n3⟩, n4⟩ := hna
      cases l1 with
      | nil =>
        obtain ⟨e1, e2⟩ := List.cons.inj (show a :: p = m :: l2 from e)
        subst e1
        subst e2
        exact done p v hn (fun x hx => by
          have := hm x (List.mem_cons_of_mem _ hx)
          have : ¬ x = a := fun w => ha (by rw [← w]; exact hx)
          omega) hw
      | cons b l1 =>
        obtain ⟨e1, e2⟩ := List.cons.inj (show a :: p = b :: (l1 ++ m :: l2) from e)
        subst e1
        subst e2
        obtain ⟨x, y, h1, h2, h3⟩ := Wk.split hw
        have w := Wk.app h2 h1
        have := done (l2 ++ a :: l1) (y + x) (by
          rw [List.nodup_append]
          exact ⟨n3, n1, fun u hu w hw => fun z => n4 w hw u (List.mem_cons_of_mem _ hu) z.symm⟩) (fun u hu => by
          have h1 := hm u (by
            rw [List.mem_append] at hu ⊢
            exact hu.elim (fun h => Or.inr (List.mem_cons_of_mem _ h)) Or.inl)
          have : ¬ u = m := fun w => by
            subst w
            rcases List.mem_append.mp hu with h | h
            · exact n2 h
            · exact n4 u h u List.mem_cons_self rfl
          omega) w
        omega
theorem rings_noup (ho : o ≤ 8) (hV : EdV c n o) : (∀ r ∈ ringsAll c n o, r.1 ≤ d * r.2.1) ↔ NoUp (EdQ c n d) := by
  refine ⟨fun h a p v hn hw => noup_of ho hV h _ p a v (Nat.lt_succ_self _) hn hw, fun h r hr => ?_⟩
  obtain ⟨s, hs, hr⟩ := (ringsAll_mem o).mp hr
  obtain ⟨p, v, g1, -, g3, g4⟩ := dfs_wk (d := d) hV 9 s [] 0 0 r hr
  have := h s p v g1 g3
  rw [Int.mul_zero] at g4
  omega
/-- a ring goes over some distance -/
theorem dfs_dist (hV : EdV c n o) {st : Nat} : ∀ (f : Nat) (a : Nat) (vis : List Int) (D W : Int) (r : Rg3), r ∈ dfs c n (st : Int) f (a : Int) vis D W → W < r.2.1 ∨ (W = r.2.1 ∧ a < st)
  | 0, a, vis, D, W, r, h => absurd h List.not_mem_nil
  | f + 1, a, vis, D, W, r, h => by
    obtain ⟨i, hi, hr⟩ := (fmN_mem n).mp h
    obtain ⟨⟨u, b, hu, hb, -, -⟩, k1, k2⟩ := hV i hi
    obtain ⟨e1, e2, h⟩ := dfE_mem hb hr
    rcases h with ⟨e3, e4⟩ | ⟨e3, e4, e5⟩
    · subst e4
      show W < W + (c i).2.2.1 ∨ (W = W + (c i).2.2.1 ∧ a < st)
      by_cases z : (c i).2.2.1 = 0
      · have := k2 z; omega
      · omega
    · have := dfs_dist hV f b _ _ _ r e5
      by_cases z : (c i).2.2.1 = 0
      · have := k2 z; omega
      · omega
theorem ring_dist (hV : EdV c n o) {r : Rg3} (h : r ∈ ringsAll c n o) : 1 ≤ r.2.1 := by
  obtain ⟨s, hs, hr⟩ := (ringsAll_mem o).mp h
  have := dfs_dist hV 9 s [] 0 0 r hr
  omega
end RNG
/-- all rings by d, told by the greatest of them -/
theorem fold_all {L : List Rg3} (hL : ∀ r ∈ L, 1 ≤ r.2.1) {d : Int} (hd : 0 ≤ d) : (∀ r ∈ L, r.1 ≤ d * r.2.1) ↔ (L.foldl wRg (0, 1, 0)).1 ≤ d * (L.foldl wRg (0, 1, 0)).2.1 := by
  obtain ⟨h1, h2, -, h4, h5⟩ := wRg_mx L (0, 1, 0) (Int.le_refl _) (Int.le_refl _) hL
  generalize L.foldl wRg (0, 1, 0) = s at h1 h2 h4 h5 ⊢
  constructor
  · intro h
    rcases h5 with ⟨e1, e2⟩ | ⟨r, hr, e1, e2, -⟩
    · have e1 : s.1 = 0 := e1
      have e2 : s.2.1 = 1 := e2
      rw [e1, e2]; omega
    · rw [e1, e2]; exact h r hr
  · intro h r hr
    have w := hL r hr
    rcases h4 r hr with q | q
    · have := Int.mul_nonneg hd (show 0 ≤ r.2.1 by omega)
      omega
    · have q2 : s.1 * r.2.1 ≤ d * s.2.1 * r.2.1 := Int.mul_le_mul_of_nonneg_right h (by omega)
      have e : d * s.2.1 * r.2.1 = d * r.2.1 * s.2.1 := by rw [Int.mul_assoc, Int.mul_comm s.2.1, ← Int.mul_assoc]
      exact Int.le_of_mul_le_mul_right (a := s.2.1) (by omega) (by omega)
/-- the class's rounds: what is held of a row of rings -/
theorem RtL.rnd {L : List Rg3} {m : MM} {W : Nat} (h : RtL L m W) (hL : ∀ r ∈ L, 1 ≤ r.2.1) {d : Int} (hd : 0 ≤ d) : (∀ r ∈ L, r.1 ≤ d * r.2.1) ↔ m W 5 ≤ d * m W 6 := by
  obtain ⟨h1, h2, -, -, -⟩ := wRg_mx L (0, 1, 0) (Int.le_refl _) (Int.le_refl _) hL
  obtain ⟨g, hg, e5, e6, -⟩ := h
  rw [fold_all hL hd]
  obtain ⟨a1, a2, -⟩ := hg.red h1 (by omega)
  rw [← e5] at a1
  rw [← e6] at a2
  have g0 := hg.1
  rw [a1, a2, Int.mul_left_comm]
  exact ⟨fun q => Int.le_of_mul_le_mul_left q g0, fun q => Int.mul_le_mul_of_nonneg_left q (Int.le_of_lt g0)⟩
