section
/-! rings that are gone round, edge by edge, are the closed walks: no ring is above d times its distances just if no closed walk is above 0 -/
def EdQ (c : Nat → Q4) (n : Nat) (d : Int) (a b : Nat) (x : Int) : Prop := ∃ j : Nat, j < n ∧ (c j).1 = a ∧ (c j).2.1 = b ∧ x = (c j).2.2.2 - d * (c j).2.2.1
def EdV (c : Nat → Q4) (n o : Nat) : Prop := ∀ j, j < n → (∃ a b : Nat, (c j).1 = a ∧ (c j).2.1 = b ∧ a < o ∧ b < o) ∧ 0 ≤ (c j).2.2.1 ∧ ((c j).2.2.1 = 0 → (c j).1 < (c j).2.1)
def NoUp (E : Nat → Nat → Int → Prop) : Prop := ∀ a p v, p.Nodup → Wk E a p a v → v ≤ 0
theorem fmN_mem {f : Nat → List Rg3} {r : Rg3} : ∀ n, r ∈ fmN f n ↔ ∃ i, i < n ∧ r ∈ f i
  | 0 => ⟨fun h => absurd h List.not_mem_nil, fun ⟨i, h, _⟩ => by omega⟩
  | n + 1 => by
    show r ∈ fmN f n ++ f n ↔ _
    rw [List.mem_append, fmN_mem n]
    constructor
    · rintro (⟨i, h1, h2⟩ | h)
      · exact ⟨i, by omega, h2⟩
      · exact ⟨n, by omega, h⟩
    · rintro ⟨i, h1, h2⟩
      by_cases e : i = n
      · subst e; exact Or.inr h2
      · exact Or.inl ⟨i, by omega, h2⟩
theorem ringsAll_mem {c : Nat → Q4} {n : Nat} {r : Rg3} : ∀ o, r ∈ ringsAll c n o ↔ ∃ s : Nat, s < o ∧ r ∈ dfs c n (s : Int) 9 (s : Int) [] 0 0
  | 0 => ⟨fun h => absurd h List.not_mem_nil, fun ⟨i, h, _⟩ => by omega⟩
  | o + 1 => by
    show r ∈ ringsAll c n o ++ dfs c n (o : Int) 9 (o : Int) [] 0 0 ↔ _
    rw [List.mem_append, ringsAll_mem o]
    constructor
    · rintro (⟨i, h1, h2⟩ | h)
      · exact ⟨i, by omega, h2⟩
      · exact ⟨o, by omega, h⟩
    · rintro ⟨i, h1, h2⟩
      by_cases e : i = o
      · subst e; exact Or.inr h2
      · exact Or.inl ⟨i, by omega, h2⟩
section RNG
variable {c : Nat → Q4} {n o : Nat} {d : Int}
theorem dfE_mem {st a : Nat} {vis : List Int} {D W : Int} {rec : Int → List Int → Int → Int → List Rg3} {i : Nat} {b : Nat} (hb : (c i).2.1 = b) {r : Rg3} (h : r ∈ dfE (st : Int) (a : Int) vis D W rec (c i)) : (c i).1 = a ∧ st ≤ b ∧ ((b = st ∧ r = (D + (c i).2.2.2, W + (c i).2.2.1, X1 (st : Int) ||| pmK vis)) ∨ (¬ b = st ∧ ¬ (b : Int) ∈ vis ∧ r ∈ rec (b : Int) ((b : Int) :: vis) (D + (c i).2.2.2) (W + (c i).2.2.1))) := by
  unfold dfE at h
  by_cases q1 : ¬ (c i).1 = a ∨ (c i).2.1 < (st : Int)
  · rw [if_pos q1] at h
    exact absurd h List.not_mem_nil
  · rw [if_neg q1] at h
    refine ⟨by omega, by omega, ?_⟩
    by_cases q2 : (c i).2.1 = (st : Int)
    · rw [if_pos q2] at h
      exact Or.inl ⟨by omega, List.mem_singleton.mp h⟩
    · rw [if_neg q2] at h
      by_cases q3 : (c i).2.1 ∈ vis
      · rw [if_pos q3] at h
        exact absurd h List.not_mem_nil
      · rw [if_neg q3] at h
        rw [hb] at q3 h
        exact Or.inr ⟨by omega, q3, h⟩
theorem dfs_wk (hV : EdV c n o) {st : Nat} : ∀ (f : Nat) (a : Nat) (vis : List Int) (D W : Int) (r : Rg3), r ∈ dfs c n (st : Int) f (a : Int) vis D W → ∃ p v, p.Nodup ∧ (∀ x ∈ p, st < x ∧ ¬ (x : Int) ∈ vis) ∧ Wk (EdQ c n d) a p st v ∧ r.1 - d * r.2.1 = D - d * W + v
  | 0, a, vis, D, W, r, h => absurd h List.not_mem_nil
  | f + 1, a, vis, D, W, r, h => by
    obtain ⟨i, hi, hr⟩ := (fmN_mem n).mp h
    obtain ⟨⟨u, b, hu, hb, -, -⟩, -, -⟩ := hV i hi
    obtain ⟨e1, e2, h⟩ := dfE_mem hb hr
    have ed : EdQ c n d a b ((c i).2.2.2 - d * (c i).2.2.1) := ⟨i, hi, e1, hb, rfl⟩
    rcases h with ⟨e3, e4⟩ | ⟨e3, e4, e5⟩
    · subst e3
      subst e4
      refine ⟨[], _, List.nodup_nil, fun x hx => absurd hx List.not_mem_nil, ed, ?_⟩
      show D + (c i).2.2.2 - d * (W + (c i).2.2.1) = _
      rw [Int.mul_add]; omega
    · obtain ⟨p, v, g1, g2, g3, g4⟩ := dfs_wk hV f b _ _ _ r e5
      refine ⟨b :: p, _, List.nodup_cons.mpr ⟨fun w => (g2 b w).2 List.mem_cons_self, g1⟩, fun x hx => ?_, ⟨_, _, ed, g3, rfl⟩, ?_⟩
      · rcases List.mem_cons.mp hx with rfl | hx
        · exact ⟨by omega, e4⟩
        · exact ⟨(g2 x hx).1, fun w => (g2 x hx).2 (List.mem_cons_of_mem _ w)⟩
      · rw [g4, Int.mul_add]; omega
theorem wk_dfs {st : Nat} : ∀ (p : List Nat) (f a : Nat) (vis : List Int) (D W v : Int), p.length < f → p.Nodup → (∀ x ∈ p, st < x ∧ ¬ (x : Int) ∈ vis) → Wk (EdQ c n d) a p st v → ∃ r, r ∈ dfs c n (st : Int) f (a : Int) vis D W ∧ r.1 - d * r.2.1 = D - d * W + v
  | [], f, a, vis, D, W, v, hf, _, _, ⟨j, h1, h2, h3, h4⟩ => by
    obtain ⟨f, rfl⟩ : ∃ k, f = k + 1 := ⟨f - 1, by simp at hf; omega⟩
    refine ⟨(D + (c j).2.2.2, W + (c j).2.2.1, X1 (st : Int) ||| pmK vis), (fmN_mem n).mpr ⟨j, h1, ?_⟩, ?_⟩
    · unfold dfE
      rw [if_neg (by omega), if_pos h3]
      exact List.mem_singleton.mpr rfl
    · show D + (c j).2.2.2 - d * (W + (c j).2.2.1) = _
      rw [Int.mul_add]; omega
  | b :: p, f, a, vis, D, W, v, hf, hn, hp, ⟨x, y, ⟨j, h1, h2, h3, h4⟩, h5, h6⟩ => by
    rw [List.length_cons] at hf
    obtain ⟨f, rfl⟩ : ∃ k, f = k + 1 := ⟨f - 1, by omega⟩
    have hb := hp b List.mem_cons_self
    rw [List.nodup_cons] at hn
    obtain ⟨r, r1, r2⟩ := wk_dfs p f b ((b : Int) :: vis) (D + (c j).2.2.2) (W + (c j).2.2.1) y (by omega) hn.2 (fun z hz => ⟨(hp z (List.mem_cons_of_mem _ hz)).1, fun w => by
      rcases List.mem_cons.mp w with w | w
      · have : z = b := by omega
        subst this
        exact hn.1 hz
      · exact (hp z (List.mem_cons_of_mem _ hz)).2 w⟩) h5
    refine ⟨r, (fmN_mem n).mpr ⟨j, h1, ?_⟩, ?_⟩
    · unfold dfE
      rw [if_neg (by omega), if_neg (by omega), if_neg (by rw [h3]; exact hb.2), h3]
      exact r1
    · rw [r2, h6, h4, Int.mul_add]; omega
theorem least_in : ∀ (l : List Nat) (a : Nat), ∃ l1 m l2, a :: l = l1 ++ m :: l2 ∧ ∀ x ∈ a :: l, m ≤ x
  | [], a => ⟨[], a, [], rfl, fun x hx => by rw [List.mem_singleton.mp hx]; omega⟩
  | b :: l, a => by
    obtain ⟨l1, m, l2, e, h⟩ := least_in l b
    by_cases q : a ≤ m
    · refine ⟨[], a, b :: l, rfl, fun x hx => ?_⟩
      rcases List.mem_cons.mp hx with rfl | hx
      · omega
      · have := h x hx; omega
    · refine ⟨a :: l1, m, l2, by rw [e]; rfl, fun x hx => ?_⟩
      rcases List.mem_cons.mp hx with rfl | hx
      · omega
      · exact h x hx
theorem Wk.ends {E : Nat → Nat → Int → Prop} (hV : ∀ a b x, E a b x → a < o ∧ b < o) : ∀ {p : List Nat} {a b : Nat} {v : Int}, Wk E a p b v → a < o ∧ b < o ∧ ∀ x ∈ p, x < o
  | [], a, b, v, h => ⟨(hV a b v h).1, (hV a b v h).2, fun x hx => absurd hx List.not_mem_nil⟩
  | e :: p, a, b, v, ⟨x, y, h4, h5, h6⟩ => by
    obtain ⟨k1, k2, k3⟩ := Wk.ends hV h5
    refine ⟨(hV _ _ _ h4).1, k2, fun z hz => ?_⟩
    rcases List.mem_cons.mp hz with rfl | hz
    · exact k1
    · exact k3 z hz
theorem EdQ.v (hV : EdV c n o) (a b : Nat) (x : Int) (h : EdQ c n d a b x) : a < o ∧ b < o := by
  obtain ⟨j, h1, h2, h3, h4⟩ := h
  obtain ⟨⟨u, w, hu, hw, h5, h6⟩, -, -⟩ := hV j h1
  omega
theorem noup_of (ho : o ≤ 8) (hV : EdV c n o) (hR : ∀ r ∈ ringsAll c n o, r.1 ≤ d * r.2.1) : ∀ (N : Nat) (p : List Nat) (a : Nat) (v : Int), p.length < N → p.Nodup → Wk (EdQ c n d) a p a v → v ≤ 0 := by
  intro N
  induction N with
  | zero => intros; omega
  | succ N ih =>
    intro p a v hN hn hw
    by_cases ha : a ∈ p
    · obtain ⟨p1, p2, rfl⟩ := List.append_of_mem ha
      obtain ⟨x, y, h1, h2, h3⟩ := Wk.split hw
      rw [List.nodup_append, List.nodup_cons] at hn
      rw [List.length_append, List.length_cons] at hN
      have := ih p1 a x (by omega) hn.1 h1
      have := ih p2 a y (by omega) hn.2.1.2 h2
      omega
    · have hna : (a :: p).Nodup := List.nodup_cons.mpr ⟨ha, hn⟩
      obtain ⟨-, -, he⟩ := Wk.ends (EdQ.v hV) hw
      have hao := (Wk.ends (EdQ.v hV) hw).1
      obtain ⟨l1, m, l2, e, hm⟩ := least_in p a
      have done : ∀ q v', q.Nodup → (∀ x ∈ q, m < x) → Wk (EdQ c n d) m q m v' → v' ≤ 0 := by
        intro q v' q1 q2 q3
        have hmo := (Wk.ends (EdQ.v hV) q3).1
        have hl := nd_len (k := 8) q1 (fun x hx => by have := (Wk.ends (EdQ.v hV) q3).2.2 x hx; omega)
        obtain ⟨r, r1, r2⟩ := wk_dfs (st := m) q 9 m [] 0 0 v' (by omega) q1 (fun x hx => ⟨q2 x hx, List.not_mem_nil⟩) q3
        have := hR r ((ringsAll_mem o).mpr ⟨m, hmo, r1⟩)
        rw [Int.mul_zero] at r2
        omega
      rw [e] at hna hm
      rw [List.nodup_append, List.nodup_cons] at hna
      obtain ⟨n1, ⟨n2, n3⟩, n4⟩ := hna
      cases l1 with
      | nil =>
        obtain ⟨e1, e2⟩ := List.cons.inj (show a :: p = m :: l2 from e)
        subst e1
        subst e2
        exact done p v hn (fun x hx => by
          have := hm x (List.mem_cons_of_mem _ hx)
          have : ¬ x = a := fun w => ha (by rw [← w]; exact hx)
          omega) hw
      | cons b l1 =>
        obtain ⟨e1, e2⟩ := List.cons.inj (show a :: p = b :: (l1 ++ m :: l2) from e)
        subst e1
        subst e2
        obtain ⟨x, y, h1, h2, h3⟩ := Wk.split hw
        have w := Wk.app h2 h1
        have := done (l2 ++ a :: l1) (y + x) (by
          rw [List.nodup_append]
          exact ⟨n3, n1, fun u hu w hw => fun z => n4 w hw u (List.mem_cons_of_mem _ hu) z.symm⟩) (fun u hu => by
          have h1 := hm u (by
            rw [List.mem_append] at hu ⊢
            exact hu.elim (fun h => Or.inr (List.mem_cons_of_mem _ h)) Or.inl)
          have : ¬ u = m := fun w => by
            subst w
            rcases List.mem_append.mp hu with h | h
            · exact n2 h
            · exact n4 u h u List.mem_cons_self rfl
          omega) w
        omega
theorem rings_noup (ho : o ≤ 8) (hV : EdV c n o) : (∀ r ∈ ringsAll c n o, r.1 ≤ d * r.2.1) ↔ NoUp (EdQ c n d) := by
  refine ⟨fun h a p v hn hw => noup_of ho hV h _ p a v (Nat.lt_succ_self _) hn hw, fun h r hr => ?_⟩
  obtain ⟨s, hs, hr⟩ := (ringsAll_mem o).mp hr
  obtain ⟨p, v, g1, -, g3, g4⟩ := dfs_wk (d := d) hV 9 s [] 0 0 r hr
  have := h s p v g1 g3
  rw [Int.mul_zero] at g4
  omega
theorem dfs_dist (hV : EdV c n o) {st : Nat} : ∀ (f : Nat) (a : Nat) (vis : List Int) (D W : Int) (r : Rg3), r ∈ dfs c n (st : Int) f (a : Int) vis D W → W < r.2.1 ∨ (W = r.2.1 ∧ a < st)
  | 0, a, vis, D, W, r, h => absurd h List.not_mem_nil
  | f + 1, a, vis, D, W, r, h => by
    obtain ⟨i, hi, hr⟩ := (fmN_mem n).mp h
    obtain ⟨⟨u, b, hu, hb, -, -⟩, k1, k2⟩ := hV i hi
    obtain ⟨e1, e2, h⟩ := dfE_mem hb hr
    rcases h with ⟨e3, e4⟩ | ⟨e3, e4, e5⟩
    · subst e4
      show W < W + (c i).2.2.1 ∨ (W = W + (c i).2.2.1 ∧ a < st)
      by_cases z : (c i).2.2.1 = 0
      · have := k2 z; omega
      · omega
    · have := dfs_dist hV f b _ _ _ r e5
      by_cases z : (c i).2.2.1 = 0
      · have := k2 z; omega
      · omega
theorem ring_dist (hV : EdV c n o) {r : Rg3} (h : r ∈ ringsAll c n o) : 1 ≤ r.2.1 := by
  obtain ⟨s, hs, hr⟩ := (ringsAll_mem o).mp h
  have := dfs_dist hV 9 s [] 0 0 r hr
  omega
end RNG
theorem fold_all {L : List Rg3} (hL : ∀ r ∈ L, 1 ≤ r.2.1) {d : Int} (hd : 0 ≤ d) : (∀ r ∈ L, r.1 ≤ d * r.2.1) ↔ (L.foldl wRg (0, 1, 0)).1 ≤ d * (L.foldl wRg (0, 1, 0)).2.1 := by
  obtain ⟨h1, h2, -, h4, h5⟩ := wRg_mx L (0, 1, 0) (Int.le_refl _) (Int.le_refl _) hL
  generalize L.foldl wRg (0, 1, 0) = s at h1 h2 h4 h5 ⊢
  constructor
  · intro h
    rcases h5 with ⟨e1, e2⟩ | ⟨r, hr, e1, e2, -⟩
    · have e1 : s.1 = 0 := e1
      have e2 : s.2.1 = 1 := e2
      rw [e1, e2]; omega
    · rw [e1, e2]; exact h r hr
  · intro h r hr
    have w := hL r hr
    rcases h4 r hr with q | q
    · have := Int.mul_nonneg hd (show 0 ≤ r.2.1 by omega)
      omega
    · have q2 : s.1 * r.2.1 ≤ d * s.2.1 * r.2.1 := Int.mul_le_mul_of_nonneg_right h (by omega)
      have e : d * s.2.1 * r.2.1 = d * r.2.1 * s.2.1 := by rw [Int.mul_assoc, Int.mul_comm s.2.1, ← Int.mul_assoc]
      exact Int.le_of_mul_le_mul_right (a := s.2.1) (by omega) (by omega)
theorem RtL.rnd {L : List Rg3} {m : MM} {W : Nat} (h : RtL L m W) (hL : ∀ r ∈ L, 1 ≤ r.2.1) {d : Int} (hd : 0 ≤ d) : (∀ r ∈ L, r.1 ≤ d * r.2.1) ↔ m W 5 ≤ d * m W 6 := by
  obtain ⟨h1, h2, -, -, -⟩ := wRg_mx L (0, 1, 0) (Int.le_refl _) (Int.le_refl _) hL
  obtain ⟨g, hg, e5, e6, -⟩ := h
  rw [fold_all hL hd]
  obtain ⟨a1, a2, -⟩ := hg.red h1 (by omega)
  rw [← e5] at a1
  rw [← e6] at a2
  have g0 := hg.1
  rw [a1, a2, Int.mul_left_comm]
  exact ⟨fun q => Int.le_of_mul_le_mul_left q g0, fun q => Int.mul_le_mul_of_nonneg_left q (Int.le_of_lt g0)⟩
end
section
/-! rounds of the reference, exactly: the least d by which no closed walk is above 0 -/
def RdsM (E : Int → Nat → Nat → Int → Prop) (r : Int) : Prop := NoUp (E r) ∧ ∀ d, 0 ≤ d → d < r → ¬ NoUp (E d)
theorem upV_le {U L d : Int} (hU : 0 ≤ U) (hL : 0 < L) (hd : 0 ≤ d) : upV U L ≤ d ↔ U ≤ d * L := by
  have d1 := Int.mul_ediv_add_emod (U + L - 1) L
  have d2 := Int.emod_nonneg (U + L - 1) (show L ≠ 0 by omega)
  have d3 := Int.emod_lt_of_pos (U + L - 1) hL
  have e : upV U L = (U + L - 1) / L := rfl
  rw [← e] at d1
  rw [Int.mul_comm] at d1
  constructor
  · intro h
    have := Int.mul_le_mul_of_nonneg_right h (Int.le_of_lt hL)
    omega
  · intro h
    have e2 : (d + 1) * L = d * L + L := by rw [Int.add_mul, Int.one_mul]
    have := Int.lt_of_mul_lt_mul_right (show upV U L * L < (d + 1) * L by omega) (Int.le_of_lt hL)
    omega
theorem RdsM.eq {E : Int → Nat → Nat → Int → Prop} {r U L : Int} (h : RdsM E r) (hr : 0 ≤ r) (hU : 0 ≤ U) (hL : 0 < L) (hE : ∀ d, 0 ≤ d → (NoUp (E d) ↔ U ≤ d * L)) : r = upV U L := by
  have g0 := (upV_rg hL hU).1
  have a1 := (upV_le hU hL hr).mpr ((hE r hr).mp h.1)
  by_cases q : upV U L < r
  · exact absurd ((hE _ g0).mpr ((upV_le hU hL g0).mp (Int.le_refl _))) (h.2 _ g0 q)
  · omega
theorem WayOK.noup {m : MM} {d : Int} (hN : NdsOK m) (hd : 0 ≤ d ∧ d ≤ 48) (hW : WayOK m d) : (∀ o : Nat, (o : Int) < m 143 1 → WM m 158 o o ≤ 0) ↔ NoUp (NdE m d) := by
  have hV : ∀ a b x, NdE m d a b x → a < (m 143 1).toNat ∧ b < (m 143 1).toNat := fun a b x h => by
    have := NdE.rng hN hd h; omega
  have h8 := hN.1
  have aup := NdE.aup hN hd
  constructor
  · intro h a p v hn hw
    obtain ⟨k1, -, k3⟩ := Wk.ends hV hw
    have hl := nd_len (k := 8) hn (fun x hx => by have := k3 x hx; omega)
    by_cases q : -999 + 99 * (p.length : Int) ≤ v
    · have := hW.2.1 aup a a k1 k1 p v hn k3 hw q
      have := h a (by omega)
      omega
    · omega
  · intro h o ho
    obtain ⟨φ, -, h2⟩ := pot (E := NdE m d) (k := (m 143 1).toNat) (B := 99) hV (fun a p v _ hn _ hw => h a p v hn hw) (fun a p b v hb hn hp hw => aup a p b v (List.nodup_cons.mp (List.nodup_cons.mp hn).2).2 (fun c hc => by have := hp c (List.mem_cons_of_mem _ hc); omega) hw)
    by_cases q : -1000 < WM m 158 o o
    · have := hW.2.2.2.1 φ h2 o o (by omega) (by omega) q
      omega
    · omega
theorem NdE.q {m : MM} (h18 : m 143 18 = -1) (h12 : 0 ≤ m 143 12) {d : Int} : NdE m d = EdQ (rq m) (m 143 12).toNat d := by
  funext a b x
  refine propext ⟨?_, ?_⟩
  · rintro ⟨j, h1, -, h2, h3, h4⟩
    exact ⟨j, by omega, h2, h3, h4⟩
  · rintro ⟨j, h1, h2, h3, h4⟩
    exact ⟨j, by omega, by omega, h2, h3, h4⟩
theorem NdsOK.v {m : MM} (h : NdsOK m) : EdV (rq m) (m 143 12).toNat (m 143 1).toNat := by
  intro j hj
  obtain ⟨p1, p2, p3, p4, p5, p6, p7, p8, p9⟩ := h.2.2 j (by omega)
  refine ⟨⟨(m 154 j).toNat, (m 155 j).toNat, ?_, ?_, by omega, by omega⟩, p5, fun z => ?_⟩
  · show m 154 j = _; omega
  · show m 155 j = _; omega
  · have z : m 156 j = 0 := z
    show m 154 j < m 155 j
    omega
theorem RtL.noup {c : Nat → Q4} {n o : Nat} {m : MM} {W : Nat} (ho : o ≤ 8) (hV : EdV c n o) (h : RtL (ringsAll c n o) m W) {d : Int} (hd : 0 ≤ d) : NoUp (EdQ c n d) ↔ m W 5 ≤ d * m W 6 := (rings_noup ho hV).symm.trans (h.rnd (fun _ hr => ring_dist hV hr) hd)
end
section
/-! ways of needs: the greatest of all walks; how both sides draw them -/
def WyV (E : Nat → Nat → Int → Prop) (nn : Int) (a b : Nat) (w : Int) : Prop := (w = nn ∧ ∀ p v, ¬ Wk E a p b v) ∨ (¬ w = nn ∧ (∃ p, Wk E a p b w) ∧ ∀ p v, Wk E a p b v → v ≤ w)
theorem WyV.eq {E : Nat → Nat → Int → Prop} {n1 n2 w1 w2 : Int} {a b : Nat} (h1 : WyV E n1 a b w1) (h2 : WyV E n2 a b w2) : (w1 = n1 ∧ w2 = n2) ∨ (¬ w1 = n1 ∧ ¬ w2 = n2 ∧ w1 = w2) := by
  rcases h1 with ⟨e1, g1⟩ | ⟨e1, ⟨p1, g1⟩, k1⟩
  · rcases h2 with ⟨e2, g2⟩ | ⟨e2, ⟨p2, g2⟩, k2⟩
    · exact Or.inl ⟨e1, e2⟩
    · exact absurd g2 (g1 _ _)
  · rcases h2 with ⟨e2, g2⟩ | ⟨e2, ⟨p2, g2⟩, k2⟩
    · exact absurd g1 (g2 _ _)
    · have a1 := k1 _ _ g2
      have a2 := k2 _ _ g1
      exact Or.inr ⟨e1, e2, by omega⟩
def FwH (E : Nat → Nat → Int → Prop) (k : Nat) : Prop := k ≤ 8 ∧ NoUp E ∧ ∀ a b x, E a b x → (a < k ∧ b < k) ∧ -89 ≤ x ∧ x ≤ 6
def FwC (E : Nat → Nat → Int → Prop) (k A : Nat) (nn : Int) (mem : MM) (m a b : Nat) : Prop :=
  (∀ a' b', a' < k → b' < k → WM mem A a' b' = nn ∨ ∃ p, (∀ c ∈ p, c < m ∨ (c = m ∧ (a' < a ∨ (a' = a ∧ b' < b)))) ∧ Wk E a' p b' (WM mem A a' b')) ∧
  (∀ a' b', a' < k → b' < k → ∀ p v, p.Nodup → (∀ c ∈ p, c < m) → Wk E a' p b' v → v ≤ WM mem A a' b') ∧
  (∀ a' b', a' < k → b' < k → (a' < a ∨ (a' = a ∧ b' < b)) → ∀ p v, p.Nodup → (∀ c ∈ p, c < m + 1) → Wk E a' p b' v → v ≤ WM mem A a' b')
section FWC
variable {E : Nat → Nat → Int → Prop} {k A : Nat} {nn : Int} {mem : MM} {m a b : Nat}
theorem Wk.red (hU : NoUp E) : ∀ (p : List Nat) (a b : Nat) (v : Int), Wk E a p b v → ∃ p' v', p'.Nodup ∧ (∀ c ∈ p', c ∈ p) ∧ Wk E a p' b v' ∧ v ≤ v'
  | [], a, b, v, h => ⟨[], v, List.nodup_nil, fun _ h => h, h, Int.le_refl _⟩
  | c :: q, a, b, v, ⟨x, y, h1, h2, h3⟩ => by
    obtain ⟨q', y', g1, g2, g3, g4⟩ := Wk.red hU q c b y h2
    by_cases hc : c ∈ q'
    · obtain ⟨q1, q2, rfl⟩ := List.append_of_mem hc
      obtain ⟨x1, y2, k1, k2, k3⟩ := Wk.split g3
      rw [List.nodup_append] at g1
      have up := hU c q1 x1 g1.1 k1
      refine ⟨c :: q2, x + y2, g1.2.1, fun e he => ?_, ⟨x, y2, h1, k2, rfl⟩, by omega⟩
      rcases List.mem_cons.mp he with rfl | he
      · exact List.mem_cons_self
      · exact List.mem_cons_of_mem _ (g2 e (List.mem_append_right _ (List.mem_cons_of_mem _ he)))
    · refine ⟨c :: q', x + y', List.nodup_cons.mpr ⟨hc, g1⟩, fun e he => ?_, ⟨x, y', h1, g3, rfl⟩, by omega⟩
      rcases List.mem_cons.mp he with rfl | he
      · exact List.mem_cons_self
      · exact List.mem_cons_of_mem _ (g2 e he)
theorem Wk.ge {c : Int} (hc : 0 ≤ c) (hE : ∀ a b x, E a b x → -c ≤ x) : ∀ {p : List Nat} {a b : Nat} {v : Int}, Wk E a p b v → -(c * ((p.length : Int) + 1)) ≤ v
  | [], a, b, v, h => by have := hE a b v h; simp; omega
  | e :: p, a, b, v, ⟨x, y, h1, h2, h3⟩ => by
    have := hE _ _ _ h1
    have := Wk.ge hc hE h2
    rw [List.length_cons]
    have e1 : c * ((p.length + 1 : Nat) + 1 : Int) = c * (p.length + 1) + c := by
      rw [Int.natCast_add]
      show c * ((p.length : Int) + 1 + 1) = _
      rw [Int.mul_add, Int.mul_one]
    omega
theorem FwH.v (h : FwH E k) (a b : Nat) (x : Int) (e : E a b x) : a < k ∧ b < k := (h.2.2 a b x e).1
theorem FwH.rg (h : FwH E k) {p : List Nat} {a b : Nat} {v : Int} (hn : p.Nodup) (hw : Wk E a p b v) : -801 ≤ v ∧ v ≤ 54 := by
  have l := nd_len (k := 8) hn (fun x hx => by have := (Wk.ends h.v hw).2.2 x hx; have := h.1; omega)
  have g := Wk.ge (c := 89) (by omega) (fun a b x e => by have := h.2.2 a b x e; omega) hw
  have u := Wk.le6 (c := 6) (by omega) (fun a b x e => (h.2.2 a b x e).2.2) hw
  omega
theorem FwH.up (h : FwH E k) {p : List Nat} {a b : Nat} {v : Int} (hw : Wk E a p b v) : v ≤ 54 := by
  obtain ⟨p', v', g1, -, g3, g4⟩ := Wk.red h.2.1 p a b v hw
  have := h.rg g1 g3
  omega
theorem FwC.rg (h : FwH E k) (hI : FwC E k A nn mem m a b) {a' b' : Nat} (ha : a' < k) (hb : b' < k) : WM mem A a' b' = nn ∨ (-801 ≤ WM mem A a' b' ∧ WM mem A a' b' ≤ 54) := by
  rcases hI.1 a' b' ha hb with e | ⟨p, h1, h2⟩
  · exact Or.inl e
  · right
    obtain ⟨p', v', g1, g2, g3, g4⟩ := Wk.red h.2.1 p a' b' _ h2
    have r := h.rg g1 g3
    have u := h.up h2
    by_cases q : a' < a ∨ (a' = a ∧ b' < b)
    · have := hI.2.2 a' b' ha hb q p' v' g1 (fun c hc => by have := h1 c (g2 c hc); omega) g3
      omega
    · have := hI.2.1 a' b' ha hb p' v' g1 (fun c hc => by have := h1 c (g2 c hc); omega) g3
      omega
theorem FwC.le {p : List Nat} {v : Int} (hI : FwC E k A nn mem m a b) (h : FwH E k) (hn : nn < -801) (hm : m < k) (ha : a < k) (hb : b < k) {x : Int} (hx : x = nn ∨ ∃ p, (∀ c ∈ p, c < m + 1) ∧ Wk E a p m x) (hl : ∀ p v, p.Nodup → (∀ c ∈ p, c < m) → Wk E a p m v → v ≤ x) (h1 : p.Nodup) (h2 : ∀ c ∈ p, c < m + 1) (h3 : Wk E a p b v) : v ≤ WM mem A a b ∨ (¬ x = nn ∧ ¬ WM mem A m b = nn ∧ v ≤ x + WM mem A m b) := by
  by_cases hmp : m ∈ p
  · right
    obtain ⟨p1, p2, rfl⟩ := List.append_of_mem hmp
    obtain ⟨v1, v2, g1, g2, g3⟩ := Wk.split h3
    rw [List.nodup_append, List.nodup_cons] at h1
    obtain ⟨n1, ⟨n2, n3⟩, n4⟩ := h1
    have k1 := hl p1 v1 n1 (fun c hc => by
      have := h2 c (List.mem_append_left _ hc)
      have : ¬ c = m := fun e => n4 c hc m List.mem_cons_self e
      omega) g1
    have k2 := hI.2.1 m b hm hb p2 v2 n3 (fun c hc => by
      have := h2 c (List.mem_append_right _ (List.mem_cons_of_mem _ hc))
      have : ¬ c = m := fun e => by subst e; exact n2 hc
      omega) g2
    have r1 := h.rg n1 g1
    have r2 := h.rg n3 g2
    exact ⟨by omega, by omega, by omega⟩
  · exact Or.inl (hI.2.1 a b ha hb p v h1 (fun c hc => by
      have := h2 c hc
      have : ¬ c = m := fun e => by subst e; exact hmp hc
      omega) h3)
theorem FwC.skip (hI : FwC E k A nn mem m a b) (h : FwH E k) (hn : nn < -801) (hm : m < k) (ha : a < k) (hb : b < k) {x : Int} (hx : x = nn ∨ ∃ p, (∀ c ∈ p, c < m + 1) ∧ Wk E a p m x) (hl : ∀ p v, p.Nodup → (∀ c ∈ p, c < m) → Wk E a p m v → v ≤ x) (q : x = nn ∨ WM mem A m b = nn) : FwC E k A nn mem m a (b + 1) := by
  refine ⟨fun i j hi hj => ?_, hI.2.1, fun i j hi hj hl2 p v h1 h2 h3 => ?_⟩
  · rcases hI.1 i j hi hj with e | ⟨p, g1, g2⟩
    · exact Or.inl e
    · exact Or.inr ⟨p, fun c hc => by have := g1 c hc; omega, g2⟩
  · by_cases w : i < a ∨ (i = a ∧ j < b)
    · exact hI.2.2 i j hi hj w p v h1 h2 h3
    · have e1 : i = a := by omega
      have e2 : j = b := by omega
      subst e1
      subst e2
      rcases hI.le h hn hm ha hb hx hl h1 h2 h3 with g | ⟨g1, g2, -⟩
      · exact g
      · exact absurd q (fun z => z.elim g1 g2)
theorem FwC.row (hI : FwC E k A nn mem m a 0) (h : FwH E k) (hn : nn < -801) (hm : m < k) (ha : a < k) (q : WM mem A a m = nn) : FwC E k A nn mem m (a + 1) 0 := by
  refine ⟨fun i j hi hj => ?_, hI.2.1, fun i j hi hj hl2 p v h1 h2 h3 => ?_⟩
  · rcases hI.1 i j hi hj with e | ⟨p, g1, g2⟩
    · exact Or.inl e
    · exact Or.inr ⟨p, fun c hc => by have := g1 c hc; omega, g2⟩
  · by_cases w : i < a
    · exact hI.2.2 i j hi hj (Or.inl w) p v h1 h2 h3
    · have e1 : i = a := by omega
      subst e1
      have hJ : FwC E k A nn mem m i j := ⟨fun i' j' hi' hj' => by
        rcases hI.1 i' j' hi' hj' with e | ⟨p, g1, g2⟩
        · exact Or.inl e
        · exact Or.inr ⟨p, fun c hc => by have := g1 c hc; omega, g2⟩, hI.2.1, fun i' j' hi' hj' w2 p' v' a1 a2 a3 => by
        by_cases w3 : i' < i
        · exact hI.2.2 i' j' hi' hj' (Or.inl w3) p' v' a1 a2 a3
        · have e : i' = i := by omega
          subst e
          by_cases hmp : m ∈ p'
          · obtain ⟨p1, p2, rfl⟩ := List.append_of_mem hmp
            obtain ⟨v1, v2, g1, g2, g3⟩ := Wk.split a3
            rw [List.nodup_append, List.nodup_cons] at a1
            obtain ⟨n1, ⟨n2, n3⟩, n4⟩ := a1
            have k1 := hI.2.1 i' m hi' hm p1 v1 n1 (fun c hc => by
              have := a2 c (List.mem_append_left _ hc)
              have : ¬ c = m := fun e => n4 c hc m List.mem_cons_self e
              omega) g1
            have r1 := h.rg n1 g1
            omega
          · exact hI.2.1 i' j' hi' hj' p' v' a1 (fun c hc => by
              have := a2 c hc
              have : ¬ c = m := fun e => by subst e; exact hmp hc
              omega) a3⟩
      have hx : WM mem A i m = nn ∨ ∃ p, (∀ c ∈ p, c < m + 1) ∧ Wk E i p m (WM mem A i m) := Or.inl q
      rcases hJ.le h hn hm hi hj hx (fun p v b1 b2 b3 => hI.2.1 i m hi hm p v b1 b2 b3) h1 h2 h3 with g | ⟨g1, -, -⟩
      · exact g
      · exact absurd q g1
theorem FwC.upd (hI : FwC E k A nn mem m a b) (h : FwH E k) (hn : nn < -801) (hm : m < k) (ha : a < k) (hb : b < k) {x r : Int} {i : Nat} (hx : ∃ p, (∀ c ∈ p, c < m + 1) ∧ Wk E a p m x) (hl : ∀ p v, p.Nodup → (∀ c ∈ p, c < m) → Wk E a p m v → v ≤ x) (hx2 : -801 ≤ x) (q2 : ¬ WM mem A m b = nn) (hi : i = 8 * a + b) (hr : r = max (WM mem A a b) (x + WM mem A m b)) : FwC E k A nn (upm mem A i r) m a (b + 1) := by
  subst hi
  subst hr
  have k8 := h.1
  have r0 := hI.rg h ha hb
  have r2 := hI.rg h hm hb
  obtain ⟨px, px1, px2⟩ := hx
  have ew : ∀ i j, j < 8 → WM (upm mem A (8 * a + b) (max (WM mem A a b) (x + WM mem A m b))) A i j = if i = a ∧ j = b then max (WM mem A a b) (x + WM mem A m b) else WM mem A i j := fun i j hj => WM_up (by omega) hj
  have ge : ∀ i j, j < 8 → WM mem A i j ≤ WM (upm mem A (8 * a + b) (max (WM mem A a b) (x + WM mem A m b))) A i j := fun i j hj => by
    rw [ew i j hj]
    split
    · rename_i q; obtain ⟨rfl, rfl⟩ := q; omega
    · exact Int.le_refl _
  refine ⟨fun i j hi hj => ?_, fun i j hi hj p v h1 h2 h3 => Int.le_trans (hI.2.1 i j hi hj p v h1 h2 h3) (ge i j (by omega)), fun i j hi hj hl2 p v h1 h2 h3 => ?_⟩
  · rw [ew i j (by omega)]
    by_cases w : i = a ∧ j = b
    · rw [if_pos w]
      obtain ⟨rfl, rfl⟩ := w
      by_cases z : x + WM mem A m j ≤ WM mem A i j
      · rw [show max (WM mem A i j) (x + WM mem A m j) = WM mem A i j by omega]
        rcases hI.1 i j hi hj with e | ⟨p, g1, g2⟩
        · exact Or.inl e
        · exact Or.inr ⟨p, fun c hc => by have := g1 c hc; omega, g2⟩
      · rw [show max (WM mem A i j) (x + WM mem A m j) = x + WM mem A m j by omega]
        rcases hI.1 m j hm hj with e | ⟨p, g1, g2⟩
        · exact absurd e q2
        · refine Or.inr ⟨px ++ m :: p, fun c hc => ?_, Wk.app px2 g2⟩
          rcases List.mem_append.mp hc with hc | hc
          · have := px1 c hc; omega
          · rcases List.mem_cons.mp hc with rfl | hc
            · omega
            · have := g1 c hc; omega
    · rw [if_neg w]
      rcases hI.1 i j hi hj with e | ⟨p, g1, g2⟩
      · exact Or.inl e
      · exact Or.inr ⟨p, fun c hc => by have := g1 c hc; omega, g2⟩
  · by_cases w : i < a ∨ (i = a ∧ j < b)
    · exact Int.le_trans (hI.2.2 i j hi hj w p v h1 h2 h3) (ge i j (by omega))
    · have e1 : i = a := by omega
      have e2 : j = b := by omega
      subst e1
      subst e2
      rw [ew i j (by omega), if_pos ⟨rfl, rfl⟩]
      rcases hI.le h hn hm ha hb (Or.inr ⟨px, px1, px2⟩) hl h1 h2 h3 with g | ⟨-, -, g⟩
      · omega
      · omega
theorem FwC.nextA (h : FwC E k A nn mem m a k) : FwC E k A nn mem m (a + 1) 0 := by
  refine ⟨fun i j hi hj => ?_, h.2.1, fun i j hi hj q => h.2.2 i j hi hj (by omega)⟩
  rcases h.1 i j hi hj with e | ⟨p, g1, g2⟩
  · exact Or.inl e
  · exact Or.inr ⟨p, fun c hc => by have := g1 c hc; omega, g2⟩
theorem FwC.nextM {b : Nat} (h : FwC E k A nn mem m k b) : FwC E k A nn mem (m + 1) 0 0 := by
  refine ⟨fun i j hi hj => ?_, fun i j hi hj => h.2.2 i j hi hj (Or.inl hi), fun i j hi hj q => by omega⟩
  rcases h.1 i j hi hj with e | ⟨p, g1, g2⟩
  · exact Or.inl e
  · exact Or.inr ⟨p, fun c hc => by have := g1 c hc; omega, g2⟩
theorem FwC.ahd (hI : FwC E k A nn mem m a b) (hm : m < k) (ha : a < k) : (WM mem A a m = nn ∨ ∃ p, (∀ c ∈ p, c < m + 1) ∧ Wk E a p m (WM mem A a m)) ∧ ∀ p v, p.Nodup → (∀ c ∈ p, c < m) → Wk E a p m v → v ≤ WM mem A a m := by
  refine ⟨?_, fun p v h1 h2 h3 => hI.2.1 a m ha hm p v h1 h2 h3⟩
  rcases hI.1 a m ha hm with e | ⟨p, g1, g2⟩
  · exact Or.inl e
  · exact Or.inr ⟨p, fun c hc => by have := g1 c hc; omega, g2⟩
theorem FwC.fin (hI : FwC E k A nn mem k 0 0) (h : FwH E k) (hn : nn < -801) {a b : Nat} (ha : a < k) (hb : b < k) : WyV E nn a b (WM mem A a b) := by
  have all : ∀ p v, Wk E a p b v → ∃ p' v', p'.Nodup ∧ Wk E a p' b v' ∧ v ≤ v' ∧ v' ≤ WM mem A a b := fun p v hw => by
    obtain ⟨p', v', g1, g2, g3, g4⟩ := Wk.red h.2.1 p a b v hw
    exact ⟨p', v', g1, g3, g4, hI.2.1 a b ha hb p' v' g1 (fun c hc => (Wk.ends h.v g3).2.2 c hc) g3⟩
  by_cases e : WM mem A a b = nn
  · refine Or.inl ⟨e, fun p v hw => ?_⟩
    obtain ⟨p', v', g1, g2, -, g4⟩ := all p v hw
    have := h.rg g1 g2
    omega
  · refine Or.inr ⟨e, ?_, fun p v hw => ?_⟩
    · rcases hI.1 a b ha hb with z | ⟨p, -, g⟩
      · exact absurd z e
      · exact ⟨p, g⟩
    · obtain ⟨p', v', -, -, g3, g4⟩ := all p v hw
      omega
end FWC
def FwE (c : Nat → Q4) (d : Int) (k A : Nat) (nn : Int) (mem : MM) (j : Nat) : Prop := ∀ a b, a < k → b < k → (WM mem A a b = nn ∨ EdQ c j d a b (WM mem A a b)) ∧ ∀ x, EdQ c j d a b x → x ≤ WM mem A a b
theorem FwE.fwc {c : Nat → Q4} {d nn : Int} {k A j : Nat} {mem : MM} (h : FwE c d k A nn mem j) : FwC (EdQ c j d) k A nn mem 0 0 0 := by
  refine ⟨fun a b ha hb => ?_, fun a b ha hb p v h1 h2 h3 => ?_, fun a b ha hb q => by omega⟩
  · rcases (h a b ha hb).1 with e | e
    · exact Or.inl e
    · exact Or.inr ⟨[], fun c hc => absurd hc List.not_mem_nil, e⟩
  · cases p with
    | nil => exact (h a b ha hb).2 v h3
    | cons c p => exact absurd (h2 c List.mem_cons_self) (by omega)
theorem EdQ_st {c : Nat → Q4} {j : Nat} {d : Int} {a b : Nat} {x : Int} : EdQ c (j + 1) d a b x ↔ EdQ c j d a b x ∨ ((c j).1 = a ∧ (c j).2.1 = b ∧ x = (c j).2.2.2 - d * (c j).2.2.1) := by
  constructor
  · rintro ⟨i, h1, h2⟩
    by_cases e : i = j
    · subst e; exact Or.inr h2
    · exact Or.inl ⟨i, by omega, h2⟩
  · rintro (⟨i, h1, h2⟩ | h2)
    · exact ⟨i, by omega, h2⟩
    · exact ⟨j, by omega, h2⟩
theorem FwE.step {c : Nat → Q4} {d nn r : Int} {k A j i : Nat} {mem : MM} (h : FwE c d k A nn mem j) (k8 : k ≤ 8) {u w : Nat} (hu : (c j).1 = u) (hw : (c j).2.1 = w) (hk : w < k) (hi : i = 8 * u + w) (hn : nn < (c j).2.2.2 - d * (c j).2.2.1) (hr : r = max (WM mem A u w) ((c j).2.2.2 - d * (c j).2.2.1)) : FwE c d k A nn (upm mem A i r) (j + 1) := by
  subst hi
  subst hr
  intro a b ha hb
  have ew : WM (upm mem A (8 * u + w) (max (WM mem A u w) ((c j).2.2.2 - d * (c j).2.2.1))) A a b = if a = u ∧ b = w then max (WM mem A u w) ((c j).2.2.2 - d * (c j).2.2.1) else WM mem A a b := WM_up (by omega) (by omega)
  rw [ew]
  have q := h a b ha hb
  by_cases z : a = u ∧ b = w
  · rw [if_pos z]
    obtain ⟨rfl, rfl⟩ := z
    refine ⟨?_, fun x hx => ?_⟩
    · by_cases z2 : (c j).2.2.2 - d * (c j).2.2.1 ≤ WM mem A a b
      · rw [show max (WM mem A a b) ((c j).2.2.2 - d * (c j).2.2.1) = WM mem A a b by omega]
        rcases q.1 with e | e
        · omega
        · exact Or.inr (EdQ_st.mpr (Or.inl e))
      · rw [show max (WM mem A a b) ((c j).2.2.2 - d * (c j).2.2.1) = (c j).2.2.2 - d * (c j).2.2.1 by omega]
        exact Or.inr (EdQ_st.mpr (Or.inr ⟨hu, hw, rfl⟩))
    · rcases EdQ_st.mp hx with e | ⟨-, -, e⟩
      · have := q.2 x e; omega
      · omega
  · rw [if_neg z]
    refine ⟨q.1.imp id (fun e => EdQ_st.mpr (Or.inl e)), fun x hx => ?_⟩
    rcases EdQ_st.mp hx with e | ⟨e1, e2, -⟩
    · exact q.2 x e
    · exact absurd ⟨by omega, by omega⟩ z
theorem FwE.ini {c : Nat → Q4} {d nn : Int} {k A : Nat} {mem : MM} (k8 : k ≤ 8) (h : ∀ i, i < 64 → mem A i = nn) : FwE c d k A nn mem 0 := fun a b ha hb => ⟨Or.inl (h _ (by omega)), fun x ⟨j, hj, _⟩ => by omega⟩
theorem EdQ.fwh {c : Nat → Q4} {n o : Nat} {d : Int} (ho : o ≤ 8) (hd : 0 ≤ d ∧ d ≤ 12) (hV : EdV c n o) (hR : ∀ j, j < n → (c j).2.2.1 ≤ 7 ∧ -5 ≤ (c j).2.2.2 ∧ (c j).2.2.2 ≤ 6) (hU : NoUp (EdQ c n d)) : FwH (EdQ c n d) o := by
  refine ⟨ho, hU, fun a b x h => ⟨EdQ.v hV a b x h, ?_⟩⟩
  obtain ⟨j, h1, h2, h3, h4⟩ := h
  have r := hR j h1
  have v := (hV j h1).2.1
  have m1 := Int.mul_nonneg hd.1 v
  have m2 := Int.mul_le_mul hd.2 r.1 v (by omega)
  omega
def RchX (m : MM) : Prop := m 19 1 = 0 ∨ (m 19 0 = m 1 0 ∧ ∀ a b : Nat, (a : Int) < m 1 0 → (b : Int) < m 1 0 → WyV (EdQ (cwq m 9) (m 9 0).toNat (m 19 1)) (-100000) a b (WM m 20 a b))
theorem RchX.fr {m m' : MM} (h : RchX m) (e : ∀ A i, (A = 19 ∧ i < 2) ∨ A = 20 ∨ (A = 9 ∧ i = 0) ∨ (10 ≤ A ∧ A ≤ 13) ∨ (A = 1 ∧ i = 0) → m' A i = m A i) : RchX m' := by
  have ec : cwq m' 9 = cwq m 9 := funext fun i => by
    unfold cwq
    rw [e (9 + 1) i (by omega), e (9 + 2) i (by omega), e (9 + 3) i (by omega), e (9 + 4) i (by omega)]
  have ew : ∀ a b, WM m' 20 a b = WM m 20 a b := fun a b => by
    unfold WM
    rw [e 20 _ (by omega)]
  rcases h with h | ⟨h1, h2⟩
  · exact Or.inl (by rw [e 19 1 (by omega)]; exact h)
  · refine Or.inr ⟨by rw [e 19 0 (by omega), e 1 0 (by omega)]; exact h1, fun a b ha hb => ?_⟩
    rw [e 1 0 (by omega)] at ha hb
    rw [ec, e 9 0 (by omega), e 19 1 (by omega), ew]
    exact h2 a b ha hb
def CcX (m : MM) : Prop := RchX m
theorem CcX.fr {m m' : MM} (h : CcX m) (e : ∀ A i, (A = 19 ∧ i < 2) ∨ A = 20 ∨ (A = 9 ∧ i = 0) ∨ (10 ≤ A ∧ A ≤ 13) ∨ (A = 1 ∧ i = 0) → m' A i = m A i) : CcX m' := RchX.fr h e
end
section
/-! ways of the reference, exactly -/
theorem FwC.sum {E : Nat → Nat → Int → Prop} {k A : Nat} {nn : Int} {mem : MM} {m a b : Nat} (hI : FwC E k A nn mem m a b) (h : FwH E k) {i j l : Nat} (hi : i < k) (hj : j < k) (hl : l < k) (q1 : ¬ WM mem A i j = nn) (q2 : ¬ WM mem A j l = nn) : WM mem A i j + WM mem A j l ≤ 54 := by
  rcases hI.1 i j hi hj with e | ⟨p1, -, g1⟩
  · exact absurd e q1
  · rcases hI.1 j l hj hl with e | ⟨p2, -, g2⟩
    · exact absurd e q2
    · exact h.up (Wk.app g1 g2)
section RWAY
variable {S : Nat × (Nat → Int32)} {n : Nat} {m0 : MM} {d : Int}
theorem NdsOK.fwh (hN : NdsOK m0) (hd : 0 ≤ d ∧ d ≤ 12) (hU : NoUp (EdQ (rq m0) (m0 143 12).toNat d)) : FwH (EdQ (rq m0) (m0 143 12).toNat d) (m0 143 1).toNat := by
  refine EdQ.fwh (by have := hN.1; omega) hd hN.v (fun j hj => ?_) hU
  obtain ⟨p1, p2, p3, p4, p5, p6, p7, p8, p9⟩ := hN.2.2 j (by omega)
  exact ⟨p6, p7, p8⟩
end RWAY
end
section
/-! slots: what a plan asks of them; the least of all -/
def us1 (d s bu k : Int) : Int := (if bu % 2 = 1 ∧ s % d = k then 1 else 0) + (if bu / 2 % 2 = 1 ∧ (s + 1) % d = k then 1 else 0) + (if bu / 4 % 2 = 1 ∧ (s + 2) % d = k then 1 else 0) + (if bu / 8 % 2 = 1 ∧ (s + 3) % d = k then 1 else 0)
theorem us1_rg {d s bu k : Int} : 0 ≤ us1 d s bu k ∧ us1 d s bu k ≤ 4 := by
  unfold us1
  split <;> split <;> split <;> split <;> omega
noncomputable def cIf (c : Prop) (a b : Int) : Int := @ite Int c (Classical.propDecidable c) a b
theorem cIf.y {c : Prop} {a b : Int} (h : c) : cIf c a b = a := if_pos h
theorem cIf.n {c : Prop} {a b : Int} (h : ¬ c) : cIf c a b = b := if_neg h
theorem cIf.rg {c : Prop} {a b lo hi : Int} (h1 : lo ≤ a ∧ a ≤ hi) (h2 : lo ≤ b ∧ b ≤ hi) : lo ≤ cIf c a b ∧ cIf c a b ≤ hi := by
  by_cases q : c
  · rw [cIf.y q]; exact h1
  · rw [cIf.n q]; exact h2
noncomputable def usM (M : Nat → Prop) (un bu : Nat → Int) (d : Int) (s : Nat → Int) (u k : Int) : Nat → Int
  | 0 => 0
  | n + 1 => usM M un bu d s u k n + cIf (M n ∧ un n = u) (us1 d (s n) (bu n) k) 0
theorem usM_cg {M M' : Nat → Prop} {un bu : Nat → Int} {d : Int} {s s' : Nat → Int} {u k : Int} : ∀ n, (∀ o, o < n → un o = u → (M o ↔ M' o) ∧ (M o → s o = s' o)) → usM M un bu d s u k n = usM M' un bu d s' u k n
  | 0, _ => rfl
  | n + 1, h => by
    unfold usM
    rw [usM_cg n (fun o ho => h o (by omega))]
    congr 1
    by_cases e : un n = u
    · have q := h n (by omega) e
      by_cases w : M n
      · rw [cIf.y ⟨w, e⟩, cIf.y ⟨q.1.mp w, e⟩, q.2 w]
      · rw [cIf.n (fun z => w z.1), cIf.n (fun z => w (q.1.mpr z.1))]
    · rw [cIf.n (fun z => e z.2), cIf.n (fun z => e z.2)]
theorem usM_mono {M M' : Nat → Prop} {un bu : Nat → Int} {d : Int} {s : Nat → Int} {u k : Int} : ∀ n, (∀ o, o < n → M o → M' o) → usM M un bu d s u k n ≤ usM M' un bu d s u k n
  | 0, _ => Int.le_refl _
  | n + 1, h => by
    have i := usM_mono (un := un) (bu := bu) (d := d) (s := s) (u := u) (k := k) n (fun o ho => h o (by omega))
    have r := us1_rg (d := d) (s := s n) (bu := bu n) (k := k)
    unfold usM
    by_cases w : M n ∧ un n = u
    · rw [cIf.y w, cIf.y ⟨h n (by omega) w.1, w.2⟩]; omega
    · have := cIf.rg (c := M' n ∧ un n = u) r (show (0 : Int) ≤ 0 ∧ (0 : Int) ≤ 4 by omega)
      rw [cIf.n w]; omega
abbrev Prb : Type := Nat × (Nat → Int) × (Nat → Int) × (Nat → Int) × Int × (Nat → Nat → Int → Prop)
def Prb.n (p : Prb) : Nat := p.1
def Prb.un (p : Prb) : Nat → Int := p.2.1
def Prb.bu (p : Prb) : Nat → Int := p.2.2.1
def Prb.ct (p : Prb) : Nat → Int := p.2.2.2.1
def Prb.d (p : Prb) : Int := p.2.2.2.2.1
def Prb.E (p : Prb) : Nat → Nat → Int → Prop := p.2.2.2.2.2
noncomputable def Prb.us (p : Prb) (s : Nat → Int) (u k : Int) : Nat → Int := usM (fun _ => True) p.un p.bu p.d s u k
def UnP (p : Prb) (s : Nat → Int) : Prop := ∀ u k : Int, 0 ≤ u → u < 3 → 0 ≤ k → k < p.d → p.us s u k p.n ≤ p.ct u.toNat
def TuP (p : Prb) (s t : Nat → Int) : Prop := ∀ a b x, p.E a b x → s a + p.d * t a + x ≤ s b + p.d * t b
def SlP (p : Prb) (s : Nat → Int) : Prop := ∀ o, o < p.n → 0 ≤ s o ∧ s o < p.d
def Fsb (p : Prb) (s : Nat → Int) : Prop := SlP p s ∧ UnP p s ∧ ∃ t, TuP p s t
def LstP (p : Prb) (s : Nat → Int) : Prop := Fsb p s ∧ ∀ v, Fsb p v → ∀ j, j < p.n → (∀ i, i < j → v i = s i) → s j ≤ v j
theorem LstP.eq {p : Prb} {s v : Nat → Int} (h : LstP p s) (g : LstP p v) : ∀ j, j < p.n → s j = v j := by
  intro j
  induction j using Nat.strongRecOn with
  | _ j ih =>
    intro hj
    have a := h.2 v g.1 j hj (fun i hi => (ih i hi (by omega)).symm)
    have b := g.2 s h.1 j hj (fun i hi => ih i hi (by omega))
    omega
def PrbE (p q : Prb) : Prop := p.n = q.n ∧ p.d = q.d ∧ (∀ o, o < p.n → p.un o = q.un o ∧ p.bu o = q.bu o) ∧ (∀ u, u < 3 → p.ct u = q.ct u) ∧ ∀ a b x, p.E a b x ↔ q.E a b x
theorem PrbE.symm {p q : Prb} (h : PrbE p q) : PrbE q p := ⟨h.1.symm, h.2.1.symm, fun o ho => ⟨(h.2.2.1 o (by rw [h.1]; exact ho)).1.symm, (h.2.2.1 o (by rw [h.1]; exact ho)).2.symm⟩, fun u hu => (h.2.2.2.1 u hu).symm, fun a b x => (h.2.2.2.2 a b x).symm⟩
def TmP (p : Prb) (s T : Nat → Int) : Prop := (∀ o, o < p.n → ∃ t : Int, 0 ≤ t ∧ T o = s o + p.d * t) ∧ ∀ a b x, p.E a b x → T a + x ≤ T b
def TmL (p : Prb) (s T : Nat → Int) : Prop := TmP p s T ∧ ∀ T', TmP p s T' → ∀ o, o < p.n → T o ≤ T' o
theorem TmL.eq {p : Prb} {s T T' : Nat → Int} (h : TmL p s T) (g : TmL p s T') : ∀ o, o < p.n → T o = T' o := fun o ho => by
  have a := h.2 T' g.1 o ho
  have b := g.2 T h.1 o ho
  omega
theorem TmP.cg {p : Prb} {s s' T : Nat → Int} (e : ∀ o, o < p.n → s o = s' o) (h : TmP p s T) : TmP p s' T := ⟨fun o ho => by
  rw [← e o ho]; exact h.1 o ho, h.2⟩
theorem TmL.cg {p : Prb} {s s' T : Nat → Int} (e : ∀ o, o < p.n → s o = s' o) (h : TmL p s T) : TmL p s' T := ⟨h.1.cg e, fun T' hT' o ho => h.2 T' (hT'.cg (fun o ho => (e o ho).symm)) o ho⟩
theorem Wk.tu {p : Prb} {s t : Nat → Int} (h : TuP p s t) : ∀ {l : List Nat} {a b : Nat} {v : Int}, Wk p.E a l b v → s a + p.d * t a + v ≤ s b + p.d * t b
  | [], a, b, v, g => h a b v g
  | c :: l, a, b, v, ⟨x, y, g1, g2, g3⟩ => by
    have := h _ _ _ g1
    have := Wk.tu h g2
    omega
end
section
/-! slots by groups: rings of needs apart, mixing, turning round, twins -/
def cdv (z d : Int) : Int := -((-z) / d)
theorem cdv_le {z d y : Int} (hd : 0 < d) : cdv z d ≤ y ↔ z ≤ d * y := by
  have h := Int.le_ediv_iff_mul_le (a := -y) (b := -z) hd
  rw [Int.neg_mul, Int.mul_comm] at h
  unfold cdv
  constructor
  · intro q
    have := h.mp (by omega)
    omega
  · intro q
    have := h.mpr (by omega)
    omega
def Rch (E : Nat → Nat → Int → Prop) (a b : Nat) : Prop := ∃ l v, Wk E a l b v
theorem Rch.tr {E : Nat → Nat → Int → Prop} {a b c : Nat} (h : Rch E a b) (g : Rch E b c) : Rch E a c := by
  obtain ⟨l, v, h⟩ := h
  obtain ⟨l', v', g⟩ := g
  exact ⟨_, _, Wk.app h g⟩
theorem Rch.ed {E : Nat → Nat → Int → Prop} {a b : Nat} {x : Int} (h : E a b x) : Rch E a b := ⟨[], x, h⟩
def tie (E : Nat → Nat → Int → Prop) (a b : Nat) : Prop := ¬ a = b ∧ Rch E a b ∧ Rch E b a
def scc (E : Nat → Nat → Int → Prop) (a b : Nat) : Prop := a = b ∨ tie E a b
theorem tie.sy {E : Nat → Nat → Int → Prop} {a b : Nat} (h : tie E a b) : tie E b a := ⟨fun e => h.1 e.symm, h.2.2, h.2.1⟩
theorem scc.rf {E : Nat → Nat → Int → Prop} {a : Nat} : scc E a a := Or.inl rfl
theorem scc.sy {E : Nat → Nat → Int → Prop} {a b : Nat} (h : scc E a b) : scc E b a := h.imp Eq.symm tie.sy
theorem scc.tr {E : Nat → Nat → Int → Prop} {a b c : Nat} (h : scc E a b) (g : scc E b c) : scc E a c := by
  rcases h with rfl | h
  · exact g
  · rcases g with rfl | g
    · exact Or.inr h
    · by_cases e : a = c
      · exact Or.inl e
      · exact Or.inr ⟨e, h.2.1.tr g.2.1, g.2.2.tr h.2.2⟩
theorem scc.ti {E : Nat → Nat → Int → Prop} {a b : Nat} (h : scc E a b) (e : ¬ a = b) : tie E a b := h.resolve_left e
def PrW (p : Prb) : Prop := 0 < p.d ∧ (∀ a b x, p.E a b x → (a < p.n ∧ b < p.n) ∧ x ≤ 6) ∧ (∀ u, u < 3 → 0 ≤ p.ct u) ∧ NoUp p.E
theorem tie.v {p : Prb} (hP : PrW p) {a b : Nat} (h : tie p.E a b) : a < p.n ∧ b < p.n := by
  obtain ⟨l, v, g⟩ := h.2.1
  exact ⟨(Wk.ends (fun a b x e => (hP.2.1 a b x e).1) g).1, (Wk.ends (fun a b x e => (hP.2.1 a b x e).1) g).2.1⟩
def TuL (p : Prb) (s : Nat → Int) (C : Nat → Prop) (t : Nat → Int) : Prop := ∀ a b x, p.E a b x → C a → C b → s a + p.d * t a + x ≤ s b + p.d * t b
theorem TuL.cg {p : Prb} {s s' t : Nat → Int} {C : Nat → Prop} (h : TuL p s C t) (e : ∀ o, C o → s o = s' o) : TuL p s' C t := fun a b x hx ha hb => by
  rw [← e a ha, ← e b hb]; exact h a b x hx ha hb
def CEd (p : Prb) (s : Nat → Int) (a b : Nat) (y : Int) : Prop := ∃ x, p.E a b x ∧ y = cdv (x + s a - s b) p.d
theorem CEd.le {p : Prb} {s t : Nat → Int} (hP : PrW p) {a b : Nat} {x : Int} (h : s a + p.d * t a + x ≤ s b + p.d * t b) : t a + cdv (x + s a - s b) p.d ≤ t b := by
  have := (cdv_le (z := x + s a - s b) (y := t b - t a) hP.1).mpr (by rw [Int.mul_sub]; omega)
  omega
theorem CEd.tu {p : Prb} {s t : Nat → Int} (hP : PrW p) (h : ∀ a b y, CEd p s a b y → t a + y ≤ t b) : TuP p s t := fun a b x hx => by
  have g := h a b _ ⟨x, hx, rfl⟩
  have := (cdv_le (z := x + s a - s b) (y := t b - t a) hP.1).mp (by omega)
  rw [Int.mul_sub] at this
  omega
theorem CEd.rch {p : Prb} {s : Nat → Int} : ∀ {l : List Nat} {a b : Nat} {v : Int}, Wk (CEd p s) a l b v → Rch p.E a b
  | [], a, b, v, ⟨x, h, _⟩ => Rch.ed h
  | c :: l, a, b, v, ⟨x, y, ⟨x', h1, _⟩, h2, _⟩ => (Rch.ed h1).tr (CEd.rch h2)
theorem CEd.wk {p : Prb} {s t : Nat → Int} (hP : PrW p) {r : Nat} (ht : TuL p s (scc p.E r) t) : ∀ {l : List Nat} {a b : Nat} {v : Int}, (r = a ∨ Rch p.E r a) → (b = r ∨ Rch p.E b r) → Wk (CEd p s) a l b v → t a + v ≤ t b
  | [], a, b, v, ha, hb, ⟨x, h1, h2⟩ => by
    have e := Rch.ed h1
    have ba : b = r ∨ Rch p.E b r := hb
    have ra : Rch p.E r b := ha.elim (fun q => by rw [q]; exact e) (fun q => q.tr e)
    have ar : Rch p.E a r := hb.elim (fun q => by rw [← q]; exact e) (fun q => e.tr q)
    have sa : scc p.E r a := by
      by_cases q : r = a
      · exact Or.inl q
      · exact Or.inr ⟨q, ha.resolve_left q, ar⟩
    have sb : scc p.E r b := by
      by_cases q : r = b
      · exact Or.inl q
      · exact Or.inr ⟨q, ra, hb.resolve_left (fun z => q z.symm)⟩
    rw [h2]
    exact CEd.le hP (ht a b x h1 sa sb)
  | c :: l, a, b, v, ha, hb, ⟨y1, y2, ⟨x, h1, h2⟩, g, e2⟩ => by
    have e := Rch.ed h1
    have rc : Rch p.E r c := ha.elim (fun q => by rw [q]; exact e) (fun q => q.tr e)
    have cb := CEd.rch g
    have cr : Rch p.E c r := hb.elim (fun q => by rw [← q]; exact cb) (fun q => cb.tr q)
    have sa : scc p.E r a := by
      by_cases q : r = a
      · exact Or.inl q
      · exact Or.inr ⟨q, ha.resolve_left q, e.tr cr⟩
    have sc : scc p.E r c := by
      by_cases q : r = c
      · exact Or.inl q
      · exact Or.inr ⟨q, rc, cr⟩
    have k1 := CEd.le hP (ht a c x h1 sa sc)
    have k2 := CEd.wk hP ht (Or.inr rc) hb g
    rw [e2, h2]
    omega
theorem tu_glob {p : Prb} {s : Nat → Int} (hP : PrW p) (hS : SlP p s) (h : ∀ a, a < p.n → ∃ t, TuL p s (scc p.E a) t) : ∃ t, TuP p s t := by
  have hd := hP.1
  have ub : ∀ a b y, CEd p s a b y → y ≤ 6 + p.d := fun a b y ⟨x, h1, h2⟩ => by
    have v := hP.2.1 a b x h1
    have sa := hS a v.1.1
    have sb := hS b v.1.2
    rw [h2]
    refine (cdv_le hd).mpr ?_
    have q : (6 + p.d) * 1 ≤ (6 + p.d) * p.d := Int.mul_le_mul_of_nonneg_left (by omega) (by omega)
    rw [Int.mul_one, Int.mul_comm (6 + p.d) p.d] at q
    omega
  obtain ⟨P, -, p2⟩ := pot (E := CEd p s) (k := p.n) (B := ((6 + p.d) * ((p.n : Int) + 1)).toNat) (fun a b y ⟨x, h1, _⟩ => (hP.2.1 a b x h1).1) (fun a l v ha _ _ hw => by
    obtain ⟨t, ht⟩ := h a ha
    have := CEd.wk hP ht (Or.inl rfl) (Or.inl rfl) hw
    omega) (fun a l b v hb n1 n2 hw => by
    have l1 := nd_len (k := p.n) n1 (fun c hc => by
      rcases List.mem_cons.mp hc with rfl | hc
      · exact hb
      · exact n2 c hc)
    rw [List.length_cons, List.length_cons] at l1
    have g := Wk.le6 (c := 6 + p.d) (by omega) ub hw
    have := Int.mul_le_mul_of_nonneg_left (show (l.length : Int) + 1 ≤ (p.n : Int) + 1 by omega) (show 0 ≤ 6 + p.d by omega)
    omega)
  exact ⟨P, CEd.tu hP p2⟩
def ClG (p : Prb) (M : Nat → Prop) : Prop := (∀ a b, a < p.n → b < p.n → p.un a = p.un b → M a → M b) ∧ ∀ a b, tie p.E a b → M a → M b
theorem ClG.no {p : Prb} {M : Nat → Prop} (h : ClG p M) : ClG p (fun o => ¬ M o) := ⟨fun a b ha hb e q w => q (h.1 b a hb ha e.symm w), fun a b t q w => q (h.2 b a t.sy w)⟩
theorem ClG.sc {p : Prb} {M : Nat → Prop} (h : ClG p M) {a b : Nat} (g : scc p.E a b) (ha : M a) : M b := g.elim (fun e => e ▸ ha) (fun t => h.2 a b t ha)
def FsbM (p : Prb) (M : Nat → Prop) (s : Nat → Int) : Prop := (∀ o, o < p.n → M o → 0 ≤ s o ∧ s o < p.d) ∧ (∀ u k : Int, 0 ≤ u → u < 3 → 0 ≤ k → k < p.d → usM M p.un p.bu p.d s u k p.n ≤ p.ct u.toNat) ∧ ∀ a, a < p.n → M a → ∃ t, TuL p s (scc p.E a) t
theorem Fsb.m {p : Prb} {s : Nat → Int} (h : Fsb p s) (M : Nat → Prop) : FsbM p M s := by
  obtain ⟨h1, h2, t, h3⟩ := h
  refine ⟨fun o ho _ => h1 o ho, fun u k a b c e => ?_, fun a _ _ => ⟨t, fun a b x hx _ _ => h3 a b x hx⟩⟩
  exact Int.le_trans (usM_mono p.n (fun o _ _ => trivial)) (h2 u k a b c e)
theorem FsbM.cg {p : Prb} {M : Nat → Prop} {s s' : Nat → Int} (hM : ClG p M) (h : FsbM p M s) (hv : ∀ a b, tie p.E a b → b < p.n) (e : ∀ o, o < p.n → M o → s o = s' o) : FsbM p M s' := by
  refine ⟨fun o ho m => by rw [← e o ho m]; exact h.1 o ho m, fun u k a b c w => ?_, fun a ha m => ?_⟩
  · rw [← usM_cg (s := s) (s' := s') p.n (fun o ho _ => ⟨Iff.rfl, fun m => e o ho m⟩)]
    exact h.2.1 u k a b c w
  · obtain ⟨t, ht⟩ := h.2.2 a ha m
    refine ⟨t, ht.cg (fun o ho => e o ?_ (hM.sc ho m))⟩
    rcases ho with rfl | ho
    · exact ha
    · exact hv _ _ ho
theorem usM_none {M : Nat → Prop} {un bu : Nat → Int} {d : Int} {s : Nat → Int} {u k : Int} : ∀ n, (∀ o, o < n → ¬ (M o ∧ un o = u)) → usM M un bu d s u k n = 0
  | 0, _ => rfl
  | n + 1, h => by
    unfold usM
    rw [usM_none n (fun o ho => h o (by omega)), cIf.n (h n (by omega)), Int.add_zero]
theorem fsb_all {p : Prb} {s : Nat → Int} (hP : PrW p) (h : ∀ a, a < p.n → ∃ M, M a ∧ ClG p M ∧ FsbM p M s) : Fsb p s := by
  have hS : SlP p s := fun o ho => by
    obtain ⟨M, m, -, f⟩ := h o ho
    exact f.1 o ho m
  refine ⟨hS, fun u k a b c e => ?_, tu_glob hP hS (fun a ha => ?_)⟩
  · unfold Prb.us
    by_cases q : ∃ o, o < p.n ∧ p.un o = u
    · obtain ⟨o, ho, hu⟩ := q
      obtain ⟨M, m, hM, f⟩ := h o ho
      rw [usM_cg (M' := M) (s' := s) p.n (fun o2 h2 e2 => ⟨⟨fun _ => hM.1 o o2 ho h2 (by rw [hu, e2]) m, fun _ => trivial⟩, fun _ => rfl⟩)]
      exact f.2.1 u k a b c e
    · rw [usM_none p.n (fun o ho w => q ⟨o, ho, w.2⟩)]
      exact hP.2.2.1 u.toNat (by omega)
  · obtain ⟨M, m, -, f⟩ := h a ha
    exact f.2.2 a ha m
noncomputable def mixS (M : Nat → Prop) (w s : Nat → Int) : Nat → Int := fun o => cIf (M o) (w o) (s o)
theorem mixS.y {M : Nat → Prop} {w s : Nat → Int} {o : Nat} (h : M o) : mixS M w s o = w o := cIf.y h
theorem mixS.n {M : Nat → Prop} {w s : Nat → Int} {o : Nat} (h : ¬ M o) : mixS M w s o = s o := cIf.n h
theorem mix_fsb {p : Prb} {M : Nat → Prop} {w s : Nat → Int} (hP : PrW p) (hM : ClG p M) (h : FsbM p M w) (g : Fsb p s) : Fsb p (mixS M w s) := by
  refine fsb_all hP (fun a ha => ?_)
  by_cases m : M a
  · exact ⟨M, m, hM, h.cg hM (fun a b t => (t.v hP).2) (fun o _ mo => (mixS.y mo).symm)⟩
  · exact ⟨fun o => ¬ M o, m, hM.no, (g.m _).cg hM.no (fun a b t => (t.v hP).2) (fun o _ mo => (mixS.n mo).symm)⟩
/-! turned round -/
/-! twins -/
/-! the least -/
theorem LstP.le {p : Prb} {L w : Nat → Int} {M : Nat → Prop} (hP : PrW p) (h : LstP p L) (hM : ClG p M) (g : FsbM p M w) {op : Nat} (ho : op < p.n) (e : ∀ o, o < op → M o → w o = L o) (m : M op) : L op ≤ w op := by
  have := h.2 _ (mix_fsb hP hM g h.1) op ho (fun o hl => by
    by_cases q : M o
    · rw [mixS.y q]; exact e o hl q
    · exact mixS.n q)
  rw [mixS.y m] at this
  exact this
end
section
/-! ties of ops on one ring of needs, and what follows for them from slots -/
def many (E : Nat → Nat → Int → Prop) (a : Nat) : Prop := ∃ b c, ¬ b = c ∧ tie E a b ∧ tie E a c
theorem scc.of {E : Nat → Nat → Int → Prop} {a b c : Nat} (h : tie E a b) (g : tie E a c) : scc E b c := scc.tr (Or.inr h.sy) (Or.inr g)
theorem many.sc {E : Nat → Nat → Int → Prop} {a b : Nat} (h : many E a) (t : tie E a b) : many E b := by
  obtain ⟨b1, b2, h1, h2, h3⟩ := h
  by_cases q : b1 = b
  · exact ⟨a, b2, fun e => h3.1 e, t.sy, (scc.of t h3).ti (fun e => h1 (q.trans e))⟩
  · exact ⟨a, b1, fun e => h2.1 e, t.sy, (scc.of t h2).ti (fun e => q e.symm)⟩
def PSol (E : Nat → Nat → Int → Prop) (W : Nat → Nat → Int) (d : Int) (s : Nat → Int) (P : Nat → Prop) (a : Nat) (τ : Nat → Int) : Prop := (∀ b c, scc E a b → scc E a c → ¬ b = c → τ b + W b c ≤ τ c) ∧ ∀ b, P b → scc E a b → ∃ q, τ b = s b + d * q
theorem PSol.sc {E : Nat → Nat → Int → Prop} {W : Nat → Nat → Int} {d : Int} {s : Nat → Int} {P : Nat → Prop} {a b : Nat} {τ : Nat → Int} (h : PSol E W d s P a τ) (g : scc E a b) : PSol E W d s P b τ := ⟨fun c e hc he => h.1 c e (g.tr hc) (g.tr he), fun c hc hg => h.2 c hc (g.tr hg)⟩
def TiX (E : Nat → Nat → Int → Prop) (W : Nat → Nat → Int) (d : Int) (s : Nat → Int) (P : Nat → Prop) (T : Nat → Nat → Int) : Prop :=
  (∀ a τ, PSol E W d s P a τ → ∀ b c, scc E a b → scc E a c → ¬ b = c → τ b + T b c ≤ τ c) ∧
  (∀ b c, tie E b c → W b c ≤ T b c) ∧
  (∀ b c, tie E b c → ¬ many E b → T b c = W b c) ∧
  (∀ a b, P a → P b → tie E a b → many E a → (∃ q, s a + T a b + d * q = s b) ∧ T a b + T b a ≤ 0 ∧ ∀ c, P c → tie E a c → tie E c b → T a c + T c b ≤ T a b) ∧
  (∀ b c, tie E b c → -801 ≤ T b c ∧ T b c ≤ 1602)
def AlnX (E : Nat → Nat → Int → Prop) (W : Nat → Nat → Int) (d : Int) (s : Nat → Int) (P : Nat → Prop) (T : Nat → Nat → Int) (op : Nat) (x : Int) (I O : Nat → Int) : Prop :=
  (∀ i, tie E op i → T i op ≤ I i ∧ T op i ≤ O i ∧ I i + O i ≤ 0) ∧
  (∀ i, tie E op i → P i → (∃ q, s i + I i + d * q = x) ∧ ∃ q, x + O i + d * q = s i) ∧
  (∀ i j, tie E op i → tie E op j → P i → P j → ¬ i = j → T i j + I j ≤ I i ∧ O j + T j i ≤ O i) ∧
  (∀ τ, PSol E W d s P op τ → (∃ q, τ op = x + d * q) → ∀ i, tie E op i → τ i + I i ≤ τ op ∧ τ op + O i ≤ τ i)
def TgtX (E : Nat → Nat → Int → Prop) (T : Nat → Nat → Int) (op : Nat) (I O : Nat → Int) (T' : Nat → Nat → Int) : Prop :=
  (∀ i, tie E op i → T' i op = I i ∧ T' op i = O i) ∧
  (∀ i j, tie E op i → tie E op j → ¬ i = j → T' i j = max (T i j) (I i + O j)) ∧
  (∀ i j, tie E i j → ¬ tie E op i → ¬ op = i → T' i j = T i j)
section TIES
variable {E : Nat → Nat → Int → Prop} {W : Nat → Nat → Int} {d : Int} {s : Nat → Int} {P : Nat → Prop} {T T' : Nat → Nat → Int} {op : Nat} {x : Int} {I O : Nat → Int}
def plusS (s : Nat → Int) (op : Nat) (x : Int) : Nat → Int := fun o => if o = op then x else s o
def plusP (P : Nat → Prop) (op : Nat) : Nat → Prop := fun o => P o ∨ o = op
theorem plusS.ne {o : Nat} (h : ¬ o = op) : plusS s op x o = s o := if_neg h
theorem plusS.eq : plusS s op x op = x := if_pos rfl
theorem PSol.less (hop : ¬ P op) {a : Nat} {τ : Nat → Int} (h : PSol E W d (plusS s op x) (plusP P op) a τ) : PSol E W d s P a τ := ⟨h.1, fun b hb hg => by
  have e : ¬ b = op := fun e => by subst e; exact hop hb
  have := h.2 b (Or.inl hb) hg
  rw [plusS.ne e] at this
  exact this⟩
theorem PSol.at {τ : Nat → Int} (h : PSol E W d (plusS s op x) (plusP P op) op τ) : ∃ q, τ op = x + d * q := by
  have := h.2 op (Or.inr rfl) scc.rf
  rw [plusS.eq] at this
  exact this
theorem cng_add {d a b c x y : Int} (h : ∃ q, a + x + d * q = b) (g : ∃ q, b + y + d * q = c) : ∃ q, a + (x + y) + d * q = c := by
  obtain ⟨q, h⟩ := h
  obtain ⟨r, g⟩ := g
  exact ⟨q + r, by rw [Int.mul_add]; omega⟩
theorem cng_max {d a b x y : Int} (h : ∃ q, a + x + d * q = b) (g : ∃ q, a + y + d * q = b) : ∃ q, a + max x y + d * q = b := by
  by_cases w : x ≤ y
  · rw [Int.max_eq_right w]; exact g
  · rw [Int.max_eq_left (by omega)]; exact h
theorem TiX.step (hW : ∀ b c, tie E b c → -801 ≤ W b c) (h : TiX E W d s P T) (hop : ¬ P op) (hm : many E op) (hA : AlnX E W d s P T op x I O) (hT : TgtX E T op I O T') : TiX E W d (plusS s op x) (plusP P op) T' := by
  obtain ⟨h1, h2, h3, h4, h5⟩ := h
  obtain ⟨a1, a2, a3, a4⟩ := hA
  obtain ⟨t1, t2, t3⟩ := hT
  -- how a tie is told now
  have tl : ∀ b c, tie E b c → (b = op ∧ tie E op c ∧ T' b c = O c) ∨ (c = op ∧ tie E op b ∧ T' b c = I b) ∨ (tie E op b ∧ tie E op c ∧ T' b c = max (T b c) (I b + O c)) ∨ (¬ tie E op b ∧ ¬ op = b ∧ ¬ tie E op c ∧ ¬ op = c ∧ T' b c = T b c) := by
    intro b c hbc
    by_cases e1 : op = b
    · subst e1; exact Or.inl ⟨rfl, hbc, (t1 c hbc).2⟩
    · by_cases e2 : op = c
      · subst e2; exact Or.inr (Or.inl ⟨rfl, hbc.sy, (t1 b hbc.sy).1⟩)
      · by_cases w : tie E op b
        · have wc : tie E op c := (scc.tr (Or.inr w) (Or.inr hbc)).ti e2
          exact Or.inr (Or.inr (Or.inl ⟨w, wc, t2 b c w wc hbc.1⟩))
        · have wc : ¬ tie E op c := fun q => w ((scc.tr (Or.inr q) (Or.inr hbc.sy)).ti e1)
          exact Or.inr (Or.inr (Or.inr ⟨w, e1, wc, e2, t3 b c hbc w e1⟩))
  have up : ∀ b c, tie E b c → T b c ≤ T' b c := by
    intro b c hbc
    rcases tl b c hbc with ⟨rfl, w, e⟩ | ⟨rfl, w, e⟩ | ⟨w1, w2, e⟩ | ⟨-, -, -, -, e⟩
    · rw [e]; exact (a1 c w).2.1
    · rw [e]; exact (a1 b w).1
    · rw [e]; omega
    · rw [e]; exact Int.le_refl _
  have Ib : ∀ i, tie E op i → -801 ≤ I i ∧ I i ≤ 801 ∧ -801 ≤ O i ∧ O i ≤ 801 := by
    intro i hi
    have := a1 i hi
    have := h2 i op hi.sy
    have := h2 op i hi
    have := hW i op hi.sy
    have := hW op i hi
    omega
  have pP : ∀ o, plusP P op o → ¬ o = op → P o := fun o h e => h.resolve_right e
  refine ⟨?_, fun b c hbc => Int.le_trans (h2 b c hbc) (up b c hbc), fun b c hbc hn => ?_, ?_, fun b c hbc => ?_⟩
  · intro a τ hτ b c hb hc hn
    have hτ0 := hτ.less hop
    have bc : tie E b c := ((hb.sy).tr hc).ti hn
    have g0 := h1 a τ hτ0 b c hb hc hn
    rcases tl b c bc with ⟨rfl, w, e⟩ | ⟨rfl, w, e⟩ | ⟨w1, w2, e⟩ | ⟨-, -, -, -, e⟩
    · have := (a4 τ (hτ0.sc hb) ((hτ.sc hb).at) c w).2
      rw [e]; exact this
    · have := (a4 τ (hτ0.sc hc) ((hτ.sc hc).at) b w).1
      rw [e]; exact this
    · have ho : scc E a op := hb.tr (Or.inr w1.sy)
      have g1 := (a4 τ (hτ0.sc ho) ((hτ.sc ho).at) b w1).1
      have g2 := (a4 τ (hτ0.sc ho) ((hτ.sc ho).at) c w2).2
      rw [e]; omega
    · rw [e]; exact g0
  · rcases tl b c hbc with ⟨rfl, w, e⟩ | ⟨rfl, w, e⟩ | ⟨w1, w2, e⟩ | ⟨-, -, -, -, e⟩
    · exact absurd hm hn
    · exact absurd (hm.sc w) hn
    · exact absurd (hm.sc w1) hn
    · rw [e]; exact h3 b c hbc hn
  · intro a b pa pb hab hma
    rcases tl a b hab with ⟨rfl, w, e⟩ | ⟨rfl, w, e⟩ | ⟨w1, w2, e⟩ | ⟨n1, n2, n3, n4, e⟩
    · -- from op
      have hb := pP b pb (fun z => hab.1 z.symm)
      have c2 := a2 b w hb
      have c1 := a1 b w
      rw [e, (t1 b w).1, plusS.eq, plusS.ne (fun z => hab.1 z.symm)]
      refine ⟨c2.2, by omega, fun c pc hac hcb => ?_⟩
      have hc := pP c pc (fun z => hac.1 z.symm)
      have k := (a3 b c w hac hb hc (fun z => hcb.1 z.symm)).2
      have kc := a1 c hac
      rw [(t1 c hac).2, t2 c b hac w hcb.1]
      omega
    · -- to op
      have ha := pP a pa hab.1
      have c2 := a2 a w ha
      have c1 := a1 a w
      rw [e, (t1 a w).2, plusS.eq, plusS.ne hab.1]
      refine ⟨c2.1, by omega, fun c pc hac hcb => ?_⟩
      have hc := pP c pc hcb.1
      have k := (a3 a c w hcb.sy ha hc hac.1).1
      have kc := a1 c hcb.sy
      rw [(t1 c hcb.sy).1, t2 a c w hcb.sy hac.1]
      omega
    · have na : ¬ a = op := fun z => w1.1 z.symm
      have nb : ¬ b = op := fun z => w2.1 z.symm
      have ha := pP a pa na
      have hb := pP b pb nb
      obtain ⟨g1, g2, g3⟩ := h4 a b ha hb hab hma
      have k1 := a3 a b w1 w2 ha hb hab.1
      have k2 := a3 b a w2 w1 hb ha (fun z => hab.1 z.symm)
      have ca := a1 a w1
      have cb := a1 b w2
      rw [e, t2 b a w2 w1 (fun z => hab.1 z.symm), plusS.ne na, plusS.ne nb]
      refine ⟨cng_max g1 (cng_add (a2 a w1 ha).1 (a2 b w2 hb).2), by omega, fun c pc hac hcb => ?_⟩
      by_cases q : c = op
      · subst q
        rw [(t1 a w1).1, (t1 b w2).2]
        omega
      · have hc := pP c pc q
        have w3 : tie E op c := (scc.tr (Or.inr w1) (Or.inr hac)).ti (fun z => q z.symm)
        have k3 := g3 c hc hac hcb
        have k4 := a3 a c w1 w3 ha hc hac.1
        have k5 := a3 b c w2 w3 hb hc (fun z => hcb.1 z.symm)
        have cc := a1 c w3
        rw [t2 a c w1 w3 hac.1, t2 c b w3 w2 hcb.1]
        omega
    · have na : ¬ a = op := fun z => n2 z.symm
      have nb : ¬ b = op := fun z => n4 z.symm
      obtain ⟨g1, g2, g3⟩ := h4 a b (pP a pa na) (pP b pb nb) hab hma
      rw [e, t3 b a hab.sy n3 n4, plusS.ne na, plusS.ne nb]
      refine ⟨g1, g2, fun c pc hac hcb => ?_⟩
      have nc : ¬ op = c := fun z => n1 (by rw [z]; exact hac.sy)
      have mc : ¬ tie E op c := fun z => n1 ((scc.tr (Or.inr z) (Or.inr hac.sy)).ti n2)
      have k3 := g3 c (pP c pc (fun z => nc z.symm)) hac hcb
      rw [t3 a c hac n1 n2, t3 c b hcb mc nc]
      exact k3
  · have := h5 b c hbc
    rcases tl b c hbc with ⟨rfl, w, e⟩ | ⟨rfl, w, e⟩ | ⟨w1, w2, e⟩ | ⟨-, -, -, -, e⟩
    · have := Ib c w; omega
    · have := Ib b w; omega
    · have := Ib b w1; have := Ib c w2; omega
    · omega
theorem TiX.cls (h : TiX E W d s P T) {a : Nat} (hP : P a) (hm : many E a) : ∃ τ : Nat → Int, (∀ b c, P b → P c → scc E a b → scc E a c → ¬ b = c → τ b + W b c ≤ τ c) ∧ ∀ b, P b → scc E a b → ∃ q, τ b = s b + d * q := by
  obtain ⟨-, h2, -, h4, -⟩ := h
  refine ⟨fun c => if c = a then s a else s a + T a c, fun b c pb pc hb hc hn => ?_, fun b pb hb => ?_⟩
  · show (if b = a then s a else s a + T a b) + W b c ≤ (if c = a then s a else s a + T a c)
    have bc : tie E b c := ((hb.sy).tr hc).ti hn
    have lw := h2 b c bc
    by_cases q : b = a
    · subst q
      rw [if_pos rfl, if_neg (fun z => hn z.symm)]
      omega
    · have ab : tie E a b := hb.ti (fun z => q z.symm)
      rw [if_neg q]
      by_cases q2 : c = a
      · subst q2
        rw [if_pos rfl]
        have := (h4 c b hP pb ab hm).2.1
        omega
      · have ac : tie E a c := hc.ti (fun z => q2 z.symm)
        rw [if_neg q2]
        have := (h4 a c hP pc ac hm).2.2 b pb ab bc
        omega
  · show ∃ q, (if b = a then s a else s a + T a b) = s b + d * q
    by_cases q : b = a
    · subst q
      exact ⟨0, by rw [if_pos rfl, Int.mul_zero]; omega⟩
    · have ab : tie E a b := hb.ti (fun z => q z.symm)
      obtain ⟨r, e⟩ := (h4 a b hP pb ab hm).1
      exact ⟨-r, by rw [if_neg q, Int.mul_neg]; omega⟩
end TIES
end
section
/-! the class between its calls: what holds, and what each part of it leaves -/
theorem ChtOK.fr3 {m m' : MM} {Q : Nat} (h : ChtOK m Q) (e : ∀ A i, (A = Q ∧ 0 < i ∧ i < 4) ∨ (Q < A ∧ A ≤ Q + 3) → m' A i = m A i) : ChtOK m' Q := by
  refine ⟨?_, fun o ho => ?_⟩
  · rw [e Q 1 (by omega), e Q 2 (by omega), e Q 3 (by omega)]; exact h.1
  · rw [e (Q + 1) o (by omega), e (Q + 2) o (by omega), e (Q + 3) o (by omega)]; exact h.2 o ho
theorem HsOK.fr {m m' : MM} (h : HsOK m) (e : ∀ A i, 129 ≤ A → A ≤ 133 → m' A i = m A i) : HsOK m' := by
  obtain ⟨h1, h2, h3, h4⟩ := h
  refine ⟨fun o ho => ?_, ?_, ?_, ?_⟩
  · rw [e 130 o (by omega) (by omega), e 131 o (by omega) (by omega)]; exact h1 o ho
  · rw [e 129 0 (by omega) (by omega)]; exact h2
  · rw [e 129 1 (by omega) (by omega)]; exact h3
  · rw [e 129 2 (by omega) (by omega)]; exact h4
theorem ChSh.ap {Q Q' : Nat} (h : ChSh Q) (h' : ChSh Q') : Q = Q' ∨ Q + 7 ≤ Q' ∨ Q' + 7 ≤ Q := by
  obtain ⟨⟨k, h1, h2⟩, -⟩ := h
  obtain ⟨⟨k', h1', h2'⟩, -⟩ := h'
  omega
def CJ (m : MM) : Prop := BodyOK m ∧ WbOK m 9 ∧ WbOK m 14 ∧ (0 ≤ m 19 0 ∧ m 19 0 ≤ 8) ∧ HsOK m ∧ (∀ o, o < 8 → (0 ≤ m 24 o ∧ m 24 o ≤ 2) ∧ 0 ≤ m 22 o ∧ m 22 o ≤ 11) ∧ (∀ Q, ChSh Q → ChtOK m Q) ∧ (0 ≤ m 0 10 ∧ m 0 10 ≤ 1) ∧ 0 ≤ m 0 11 ∧ m 0 11 ≤ 1
theorem CJ.b {m : MM} (h : CJ m) : BodyOK m := h.1
theorem CJ.w {m : MM} (h : CJ m) : WbOK m 9 := h.2.1
theorem CJ.w2 {m : MM} (h : CJ m) : WbOK m 14 := h.2.2.1
theorem CJ.r {m : MM} (h : CJ m) : 0 ≤ m 19 0 ∧ m 19 0 ≤ 8 := h.2.2.2.1
theorem CJ.hs {m : MM} (h : CJ m) : HsOK m := h.2.2.2.2.1
theorem CJ.us {m : MM} (h : CJ m) : ∀ o, o < 8 → (0 ≤ m 24 o ∧ m 24 o ≤ 2) ∧ 0 ≤ m 22 o ∧ m 22 o ≤ 11 := h.2.2.2.2.2.1
theorem CJ.ch {m : MM} (h : CJ m) : ∀ Q, ChSh Q → ChtOK m Q := h.2.2.2.2.2.2.1
theorem CJ.so {m : MM} (h : CJ m) : 0 ≤ m 0 10 ∧ m 0 10 ≤ 1 := h.2.2.2.2.2.2.2.1
theorem CJ.st {m : MM} (h : CJ m) : 0 ≤ m 0 11 ∧ m 0 11 ≤ 1 := h.2.2.2.2.2.2.2.2
def ClS (m : MM) : Prop := CJ m ∧ (m 0 11 = 0 → m 0 10 = 1 → WbX m ∧ CcX m) ∧ (m 0 11 = 0 → (m 0 10 = 1 ↔ SndX m))
def RfC (m : MM) : Prop := CJ m ∧ m 0 11 = 0 ∧ (m 0 10 = 1 → WbX m) ∧ (m 0 10 = 1 ↔ SndX m)
def RfD (m : MM) : Prop := RfC m ∧ (m 0 10 = 1 → CcX m)
def Rdy (m : MM) : Prop := CJ m ∧ (m 0 11 = 0 ∧ CcX m) ∧ m 0 10 = 1 ∧ WbX m ∧ SndX m
theorem RfD.cs {m : MM} (h : RfD m) : ClS m := ⟨h.1.1, fun _ q => ⟨h.1.2.2.1 q, h.2 q⟩, fun _ => h.1.2.2.2⟩
theorem RfD.rdy {m : MM} (h : RfD m) (q : m 0 10 = 1) : Rdy m := ⟨h.1.1, ⟨h.1.2.1, h.2 q⟩, q, h.1.2.2.1 q, h.1.2.2.2.mp q⟩
theorem Rdy.cs {m : MM} (h : Rdy m) : ClS m := ⟨h.1, fun _ _ => ⟨h.2.2.2.1, h.2.1.2⟩, fun _ => ⟨fun _ => h.2.2.2.2, fun _ => h.2.2.1⟩⟩
theorem NdC.up {m : MM} {q : Int} {x : Q4} (hB : BodyOK m) (hs : SndX m) (h : NdC m q x) : 0 ≤ x.2.2.1 ∧ (x.2.2.1 = 0 → x.1 < x.2.1) := by
  have h8 := hB.1
  rcases h with ⟨o, k, h1, h2, h3, h4⟩ | ⟨s, o, h1, h2, h3, h4, h5, h6⟩
  · subst h4
    have c := hs o k h1 h2
    have so := hB.src (o := o) (k := k) (by omega) h2
    unfold SrcC at c
    unfold srcOK at so
    show 0 ≤ m 3 (4 * o + 2 * k + 1) ∧ (m 3 (4 * o + 2 * k + 1) = 0 → m 3 (4 * o + 2 * k) < (o : Int))
    omega
  · rcases h6 with ⟨g1, g2, g3⟩ | ⟨g1, g2, g3⟩ | ⟨g1, g2, g3⟩
    · subst g3
      show 0 ≤ plcB m s - plcB m o ∧ (plcB m s - plcB m o = 0 → (s : Int) < (o : Int))
      omega
    · subst g3
      show 0 ≤ plcB m o - plcB m s ∧ (plcB m o - plcB m s = 0 → (o : Int) < (s : Int))
      omega
    · subst g3
      show 0 ≤ plcB m s - plcB m o ∧ (plcB m s - plcB m o = 0 → (s : Int) < (o : Int))
      omega
theorem Rdy.edv {m : MM} (h : Rdy m) : EdV (cwq m 9) (m 9 0).toNat (m 1 0).toNat := by
  intro j hj
  have w := h.2.2.2.1.1 j (by omega)
  have g : Rg (m 10 j) (m 11 j) (m 12 j) (m 13 j) := h.1.2.1.1 j (by have := h.1.2.1.2; omega)
  unfold Rg at g
  have u := NdC.up h.1.1 h.2.2.2.2 (h.2.2.2.1.2.1.2.1 j hj)
  refine ⟨⟨(m 10 j).toNat, (m 11 j).toNat, ?_, ?_, by omega, by omega⟩, u.1, u.2⟩
  · show m 10 j = _; omega
  · show m 11 j = _; omega
theorem Rdy.noup {m : MM} {d : Int} (h : Rdy m) (hd : 0 ≤ d) (q : upV (m 9 5) (m 9 6) ≤ d) : NoUp (EdQ (cwq m 9) (m 9 0).toNat d) := by
  have h8 := h.1.1.1
  obtain ⟨⟨t1, t2⟩, t3, t4⟩ := h.2.2.2.1.2.2.1
  exact (RtL.noup (by omega) h.edv h.2.2.2.1.2.2.2 hd).mpr ((upV_le t1 (by omega) hd).mp q)
def pCl (A _i : Nat) : Prop := A < 143
def pNb (A _i : Nat) : Prop := A < 143 ∧ ¬ (0 < A ∧ A < 9)
def pHs (A _i : Nat) : Prop := 129 ≤ A ∧ A ≤ 133
def pW9c (A i : Nat) : Prop := A = 9 ∧ (i = 5 ∨ i = 6 ∨ i = 7)
def pW14c (A i : Nat) : Prop := A = 14 ∧ (i = 5 ∨ i = 6 ∨ i = 7)
def p11 (A i : Nat) : Prop := A = 0 ∧ i = 11
def p10 (A i : Nat) : Prop := A = 0 ∧ i = 10
def p191 (A i : Nat) : Prop := A = 19 ∧ i = 1
def p129 (A i : Nat) : Prop := A = 129 ∧ i = 0
def pQ0 (Q A i : Nat) : Prop := A = Q ∧ i = 0
def pQ1 (Q A i : Nat) : Prop := A = Q ∧ i = 1
def pBd (A i : Nat) : Prop := (0 < A ∧ A < 9) ∨ (A = 0 ∧ i = 11)
def p4f (A _i : Nat) : Prop := A = 4
theorem CJ.e_span {m m' : MM} (h : CJ m) (hF : Frm pRe m m') (hz : 0 ≤ m' 19 0 ∧ m' 19 0 ≤ 8) (hx : RchX m') : CJ m' := by
  exact ⟨h.b.fr (fun A i a b => hF A i (by unfold pRe; omega)), h.w.fr (fun A i a b => hF A i (by unfold pRe; omega)), h.w2.fr (fun A i a b => hF A i (by unfold pRe; omega)), hz, h.hs.fr (fun A i a b => hF A i (by unfold pRe; omega)), fun o ho => by rw [hF 24 o (by unfold pRe; omega), hF 22 o (by unfold pRe; omega)]; exact h.us o ho, fun Q' hQ' => (h.ch Q' hQ').fr3 (fun A i q => hF A i (by have := hQ'.rg; unfold pRe; omega)), by rw [hF 0 10 (by unfold pRe; omega)]; exact h.so, by rw [hF 0 11 (by unfold pRe; omega)]; exact h.st⟩
theorem Rdy.e_span {m m' : MM} (h : Rdy m) (hF : Frm pRe m m') (hz : 0 ≤ m' 19 0 ∧ m' 19 0 ≤ 8) (hx : RchX m') : Rdy m' := by
  exact ⟨CJ.e_span h.1 hF hz hx, ⟨by rw [hF 0 11 (by unfold pRe; omega)]; exact h.2.1.1, hx⟩, by rw [hF 0 10 (by unfold pRe; omega)]; exact h.2.2.1, h.2.2.2.1.fr (fun A i q => hF A i (by unfold pRe; omega)), h.2.2.2.2.fr (fun A i a b => hF A i (by unfold pRe; omega))⟩
theorem RfC.e_span {m m' : MM} (h : RfC m) (hF : Frm pRe m m') (hz : 0 ≤ m' 19 0 ∧ m' 19 0 ≤ 8) (hx : RchX m') : RfC m' := by
  exact ⟨CJ.e_span h.1 hF hz hx, by rw [hF 0 11 (by unfold pRe; omega)]; exact h.2.1, fun z => by
    rw [hF 0 10 (by unfold pRe; omega)] at z
    exact (h.2.2.1 z).fr (fun A i q => hF A i (by unfold pRe; omega)), SX.fr h.2.2.2 (hF 0 10 (by unfold pRe; omega)) (fun A i a b => hF A i (by unfold pRe; omega))⟩
theorem CJ.e_seek {m m' : MM} (h : CJ m) (hF : Frm pHs m m') (hz : HsOK m') : CJ m' := by
  exact ⟨h.b.fr (fun A i a b => hF A i (by unfold pHs; omega)), h.w.fr (fun A i a b => hF A i (by unfold pHs; omega)), h.w2.fr (fun A i a b => hF A i (by unfold pHs; omega)), by rw [hF 19 0 (by unfold pHs; omega)]; exact h.r, hz, fun o ho => by rw [hF 24 o (by unfold pHs; omega), hF 22 o (by unfold pHs; omega)]; exact h.us o ho, fun Q' hQ' => (h.ch Q' hQ').fr3 (fun A i q => hF A i (by have := hQ'.rg; unfold pHs; omega)), by rw [hF 0 10 (by unfold pHs; omega)]; exact h.so, by rw [hF 0 11 (by unfold pHs; omega)]; exact h.st⟩
theorem Rdy.e_seek {m m' : MM} (h : Rdy m) (hF : Frm pHs m m') (hz : HsOK m') : Rdy m' := by
  exact ⟨CJ.e_seek h.1 hF hz, ⟨by rw [hF 0 11 (by unfold pHs; omega)]; exact h.2.1.1, h.2.1.2.fr (fun A i q => hF A i (by unfold pHs; omega))⟩, by rw [hF 0 10 (by unfold pHs; omega)]; exact h.2.2.1, h.2.2.2.1.fr (fun A i q => hF A i (by unfold pHs; omega)), h.2.2.2.2.fr (fun A i a b => hF A i (by unfold pHs; omega))⟩
theorem RfC.e_seek {m m' : MM} (h : RfC m) (hF : Frm pHs m m') (hz : HsOK m') : RfC m' := by
  exact ⟨CJ.e_seek h.1 hF hz, by rw [hF 0 11 (by unfold pHs; omega)]; exact h.2.1, fun z => by
    rw [hF 0 10 (by unfold pHs; omega)] at z
    exact (h.2.2.1 z).fr (fun A i q => hF A i (by unfold pHs; omega)), SX.fr h.2.2.2 (hF 0 10 (by unfold pHs; omega)) (fun A i a b => hF A i (by unfold pHs; omega))⟩
theorem CJ.e_hold {m m' : MM} (h : CJ m) (hF : Frm pT6 m m') (hu : ∀ o, o < 8 → 0 ≤ m' 24 o ∧ m' 24 o ≤ 2) (hz : ∀ o, m' 22 o = m 22 o ∨ (0 ≤ m' 22 o ∧ m' 22 o ≤ 11)) : CJ m' := by
  exact ⟨h.b.fr (fun A i a b => hF A i (by unfold pT6; omega)), h.w.fr (fun A i a b => hF A i (by unfold pT6; omega)), h.w2.fr (fun A i a b => hF A i (by unfold pT6; omega)), by rw [hF 19 0 (by unfold pT6; omega)]; exact h.r, h.hs.fr (fun A i a b => hF A i (by unfold pT6; omega)), fun o ho => ⟨hu o ho, by have := hz o; have := (h.us o ho).2; omega⟩, fun Q' hQ' => (h.ch Q' hQ').fr3 (fun A i q => hF A i (by have := hQ'.rg; unfold pT6; omega)), by rw [hF 0 10 (by unfold pT6; omega)]; exact h.so, by rw [hF 0 11 (by unfold pT6; omega)]; exact h.st⟩
theorem Rdy.e_hold {m m' : MM} (h : Rdy m) (hF : Frm pT6 m m') (hu : ∀ o, o < 8 → 0 ≤ m' 24 o ∧ m' 24 o ≤ 2) (hz : ∀ o, m' 22 o = m 22 o ∨ (0 ≤ m' 22 o ∧ m' 22 o ≤ 11)) : Rdy m' := by
  exact ⟨CJ.e_hold h.1 hF hu hz, ⟨by rw [hF 0 11 (by unfold pT6; omega)]; exact h.2.1.1, h.2.1.2.fr (fun A i q => hF A i (by unfold pT6; omega))⟩, by rw [hF 0 10 (by unfold pT6; omega)]; exact h.2.2.1, h.2.2.2.1.fr (fun A i q => hF A i (by unfold pT6; omega)), h.2.2.2.2.fr (fun A i a b => hF A i (by unfold pT6; omega))⟩
theorem RfC.e_hold {m m' : MM} (h : RfC m) (hF : Frm pT6 m m') (hu : ∀ o, o < 8 → 0 ≤ m' 24 o ∧ m' 24 o ≤ 2) (hz : ∀ o, m' 22 o = m 22 o ∨ (0 ≤ m' 22 o ∧ m' 22 o ≤ 11)) : RfC m' := by
  exact ⟨CJ.e_hold h.1 hF hu hz, by rw [hF 0 11 (by unfold pT6; omega)]; exact h.2.1, fun z => by
    rw [hF 0 10 (by unfold pT6; omega)] at z
    exact (h.2.2.1 z).fr (fun A i q => hF A i (by unfold pT6; omega)), SX.fr h.2.2.2 (hF 0 10 (by unfold pT6; omega)) (fun A i a b => hF A i (by unfold pT6; omega))⟩
theorem CJ.e_find {m m' : MM} (h : CJ m) (hF : Frm pSk m m') (hz : ∀ o, m' 22 o = m 22 o ∨ (0 ≤ m' 22 o ∧ m' 22 o ≤ 11)) : CJ m' := by
  exact ⟨h.b.fr (fun A i a b => hF A i (by unfold pSk; omega)), h.w.fr (fun A i a b => hF A i (by unfold pSk; omega)), h.w2.fr (fun A i a b => hF A i (by unfold pSk; omega)), by rw [hF 19 0 (by unfold pSk; omega)]; exact h.r, h.hs.fr (fun A i a b => hF A i (by unfold pSk; omega)), fun o ho => ⟨by rw [hF 24 o (by unfold pSk; omega)]; exact (h.us o ho).1, by have := hz o; have := (h.us o ho).2; omega⟩, fun Q' hQ' => (h.ch Q' hQ').fr3 (fun A i q => hF A i (by have := hQ'.rg; unfold pSk; omega)), by rw [hF 0 10 (by unfold pSk; omega)]; exact h.so, by rw [hF 0 11 (by unfold pSk; omega)]; exact h.st⟩
theorem Rdy.e_find {m m' : MM} (h : Rdy m) (hF : Frm pSk m m') (hz : ∀ o, m' 22 o = m 22 o ∨ (0 ≤ m' 22 o ∧ m' 22 o ≤ 11)) : Rdy m' := by
  exact ⟨CJ.e_find h.1 hF hz, ⟨by rw [hF 0 11 (by unfold pSk; omega)]; exact h.2.1.1, h.2.1.2.fr (fun A i q => hF A i (by unfold pSk; omega))⟩, by rw [hF 0 10 (by unfold pSk; omega)]; exact h.2.2.1, h.2.2.2.1.fr (fun A i q => hF A i (by unfold pSk; omega)), h.2.2.2.2.fr (fun A i a b => hF A i (by unfold pSk; omega))⟩
theorem RfC.e_find {m m' : MM} (h : RfC m) (hF : Frm pSk m m') (hz : ∀ o, m' 22 o = m 22 o ∨ (0 ≤ m' 22 o ∧ m' 22 o ≤ 11)) : RfC m' := by
  exact ⟨CJ.e_find h.1 hF hz, by rw [hF 0 11 (by unfold pSk; omega)]; exact h.2.1, fun z => by
    rw [hF 0 10 (by unfold pSk; omega)] at z
    exact (h.2.2.1 z).fr (fun A i q => hF A i (by unfold pSk; omega)), SX.fr h.2.2.2 (hF 0 10 (by unfold pSk; omega)) (fun A i a b => hF A i (by unfold pSk; omega))⟩
theorem CJ.e_draw {Q : Nat} (hQ : ChSh Q) {m m' : MM} (h : CJ m) (hF : Frm (pCh Q) m m') (hz : ChtOK m' Q) : CJ m' := by
  have hq := hQ.rg
  exact ⟨h.b.fr (fun A i a b => hF A i (by unfold pCh; omega)), h.w.fr (fun A i a b => hF A i (by unfold pCh; omega)), h.w2.fr (fun A i a b => hF A i (by unfold pCh; omega)), by rw [hF 19 0 (by unfold pCh; omega)]; exact h.r, h.hs.fr (fun A i a b => hF A i (by unfold pCh; omega)), fun o ho => by rw [hF 24 o (by unfold pCh; omega), hF 22 o (by unfold pCh; omega)]; exact h.us o ho, fun Q' hQ' => by
    have := hQ'.rg
    rcases ChSh.ap hQ hQ' with e | e
    · subst e; exact hz
    · exact (h.ch Q' hQ').fr3 (fun A i q => hF A i (by unfold pCh; omega)), by rw [hF 0 10 (by unfold pCh; omega)]; exact h.so, by rw [hF 0 11 (by unfold pCh; omega)]; exact h.st⟩
theorem Rdy.e_draw {Q : Nat} (hQ : ChSh Q) {m m' : MM} (h : Rdy m) (hF : Frm (pCh Q) m m') (hz : ChtOK m' Q) : Rdy m' := by
  have hq := hQ.rg
  exact ⟨CJ.e_draw hQ h.1 hF hz, ⟨by rw [hF 0 11 (by unfold pCh; omega)]; exact h.2.1.1, h.2.1.2.fr (fun A i q => hF A i (by unfold pCh; omega))⟩, by rw [hF 0 10 (by unfold pCh; omega)]; exact h.2.2.1, h.2.2.2.1.fr (fun A i q => hF A i (by unfold pCh; omega)), h.2.2.2.2.fr (fun A i a b => hF A i (by unfold pCh; omega))⟩
theorem RfC.e_draw {Q : Nat} (hQ : ChSh Q) {m m' : MM} (h : RfC m) (hF : Frm (pCh Q) m m') (hz : ChtOK m' Q) : RfC m' := by
  have hq := hQ.rg
  exact ⟨CJ.e_draw hQ h.1 hF hz, by rw [hF 0 11 (by unfold pCh; omega)]; exact h.2.1, fun z => by
    rw [hF 0 10 (by unfold pCh; omega)] at z
    exact (h.2.2.1 z).fr (fun A i q => hF A i (by unfold pCh; omega)), SX.fr h.2.2.2 (hF 0 10 (by unfold pCh; omega)) (fun A i a b => hF A i (by unfold pCh; omega))⟩
theorem CJ.e_fit {Q : Nat} (hQ : ChSh Q) {m m' : MM} (h : CJ m) (hF : Frm (pQ1 Q) m m') (hz : ChtOK m' Q) : CJ m' := by
  have hq := hQ.rg
  exact ⟨h.b.fr (fun A i a b => hF A i (by unfold pQ1; omega)), h.w.fr (fun A i a b => hF A i (by unfold pQ1; omega)), h.w2.fr (fun A i a b => hF A i (by unfold pQ1; omega)), by rw [hF 19 0 (by unfold pQ1; omega)]; exact h.r, h.hs.fr (fun A i a b => hF A i (by unfold pQ1; omega)), fun o ho => by rw [hF 24 o (by unfold pQ1; omega), hF 22 o (by unfold pQ1; omega)]; exact h.us o ho, fun Q' hQ' => by
    have := hQ'.rg
    rcases ChSh.ap hQ hQ' with e | e
    · subst e; exact hz
    · exact (h.ch Q' hQ').fr3 (fun A i q => hF A i (by unfold pQ1; omega)), by rw [hF 0 10 (by unfold pQ1; omega)]; exact h.so, by rw [hF 0 11 (by unfold pQ1; omega)]; exact h.st⟩
theorem Rdy.e_fit {Q : Nat} (hQ : ChSh Q) {m m' : MM} (h : Rdy m) (hF : Frm (pQ1 Q) m m') (hz : ChtOK m' Q) : Rdy m' := by
  have hq := hQ.rg
  exact ⟨CJ.e_fit hQ h.1 hF hz, ⟨by rw [hF 0 11 (by unfold pQ1; omega)]; exact h.2.1.1, h.2.1.2.fr (fun A i q => hF A i (by unfold pQ1; omega))⟩, by rw [hF 0 10 (by unfold pQ1; omega)]; exact h.2.2.1, h.2.2.2.1.fr (fun A i q => hF A i (by unfold pQ1; omega)), h.2.2.2.2.fr (fun A i a b => hF A i (by unfold pQ1; omega))⟩
theorem RfC.e_fit {Q : Nat} (hQ : ChSh Q) {m m' : MM} (h : RfC m) (hF : Frm (pQ1 Q) m m') (hz : ChtOK m' Q) : RfC m' := by
  have hq := hQ.rg
  exact ⟨CJ.e_fit hQ h.1 hF hz, by rw [hF 0 11 (by unfold pQ1; omega)]; exact h.2.1, fun z => by
    rw [hF 0 10 (by unfold pQ1; omega)] at z
    exact (h.2.2.1 z).fr (fun A i q => hF A i (by unfold pQ1; omega)), SX.fr h.2.2.2 (hF 0 10 (by unfold pQ1; omega)) (fun A i a b => hF A i (by unfold pQ1; omega))⟩
theorem CJ.e_try {Q : Nat} (hQ : ChSh Q) {m m' : MM} (h : CJ m) (hF : Frm (pQ0 Q) m m') : CJ m' := by
  have hq := hQ.rg
  exact ⟨h.b.fr (fun A i a b => hF A i (by unfold pQ0; omega)), h.w.fr (fun A i a b => hF A i (by unfold pQ0; omega)), h.w2.fr (fun A i a b => hF A i (by unfold pQ0; omega)), by rw [hF 19 0 (by unfold pQ0; omega)]; exact h.r, h.hs.fr (fun A i a b => hF A i (by unfold pQ0; omega)), fun o ho => by rw [hF 24 o (by unfold pQ0; omega), hF 22 o (by unfold pQ0; omega)]; exact h.us o ho, fun Q' hQ' => by
    have := hQ'.rg
    rcases ChSh.ap hQ hQ' with e | e
    · subst e; exact (h.ch Q hQ).fr3 (fun A i q => hF A i (by unfold pQ0; omega))
    · exact (h.ch Q' hQ').fr3 (fun A i q => hF A i (by unfold pQ0; omega)), by rw [hF 0 10 (by unfold pQ0; omega)]; exact h.so, by rw [hF 0 11 (by unfold pQ0; omega)]; exact h.st⟩
theorem Rdy.e_try {Q : Nat} (hQ : ChSh Q) {m m' : MM} (h : Rdy m) (hF : Frm (pQ0 Q) m m') : Rdy m' := by
  have hq := hQ.rg
  exact ⟨CJ.e_try hQ h.1 hF , ⟨by rw [hF 0 11 (by unfold pQ0; omega)]; exact h.2.1.1, h.2.1.2.fr (fun A i q => hF A i (by unfold pQ0; omega))⟩, by rw [hF 0 10 (by unfold pQ0; omega)]; exact h.2.2.1, h.2.2.2.1.fr (fun A i q => hF A i (by unfold pQ0; omega)), h.2.2.2.2.fr (fun A i a b => hF A i (by unfold pQ0; omega))⟩
theorem RfC.e_try {Q : Nat} (hQ : ChSh Q) {m m' : MM} (h : RfC m) (hF : Frm (pQ0 Q) m m') : RfC m' := by
  have hq := hQ.rg
  exact ⟨CJ.e_try hQ h.1 hF , by rw [hF 0 11 (by unfold pQ0; omega)]; exact h.2.1, fun z => by
    rw [hF 0 10 (by unfold pQ0; omega)] at z
    exact (h.2.2.1 z).fr (fun A i q => hF A i (by unfold pQ0; omega)), SX.fr h.2.2.2 (hF 0 10 (by unfold pQ0; omega)) (fun A i a b => hF A i (by unfold pQ0; omega))⟩
theorem CJ.e_play {m m' : MM} (h : CJ m) (hF : Frm pPl m m') : CJ m' := by
  exact ⟨h.b.fr (fun A i a b => hF A i (by unfold pPl; omega)), h.w.fr (fun A i a b => hF A i (by unfold pPl; omega)), h.w2.fr (fun A i a b => hF A i (by unfold pPl; omega)), by rw [hF 19 0 (by unfold pPl; omega)]; exact h.r, h.hs.fr (fun A i a b => hF A i (by unfold pPl; omega)), fun o ho => by rw [hF 24 o (by unfold pPl; omega), hF 22 o (by unfold pPl; omega)]; exact h.us o ho, fun Q' hQ' => (h.ch Q' hQ').fr3 (fun A i q => hF A i (by have := hQ'.rg; unfold pPl; omega)), by rw [hF 0 10 (by unfold pPl; omega)]; exact h.so, by rw [hF 0 11 (by unfold pPl; omega)]; exact h.st⟩
theorem Rdy.e_play {m m' : MM} (h : Rdy m) (hF : Frm pPl m m') : Rdy m' := by
  exact ⟨CJ.e_play h.1 hF , ⟨by rw [hF 0 11 (by unfold pPl; omega)]; exact h.2.1.1, h.2.1.2.fr (fun A i q => hF A i (by unfold pPl; omega))⟩, by rw [hF 0 10 (by unfold pPl; omega)]; exact h.2.2.1, h.2.2.2.1.fr (fun A i q => hF A i (by unfold pPl; omega)), h.2.2.2.2.fr (fun A i a b => hF A i (by unfold pPl; omega))⟩
theorem RfC.e_play {m m' : MM} (h : RfC m) (hF : Frm pPl m m') : RfC m' := by
  exact ⟨CJ.e_play h.1 hF , by rw [hF 0 11 (by unfold pPl; omega)]; exact h.2.1, fun z => by
    rw [hF 0 10 (by unfold pPl; omega)] at z
    exact (h.2.2.1 z).fr (fun A i q => hF A i (by unfold pPl; omega)), SX.fr h.2.2.2 (hF 0 10 (by unfold pPl; omega)) (fun A i a b => hF A i (by unfold pPl; omega))⟩
theorem CJ.e_whl {m m' : MM} (h : CJ m) (hF : Frm p140 m m') : CJ m' := by
  exact ⟨h.b.fr (fun A i a b => hF A i (by unfold p140; omega)), h.w.fr (fun A i a b => hF A i (by unfold p140; omega)), h.w2.fr (fun A i a b => hF A i (by unfold p140; omega)), by rw [hF 19 0 (by unfold p140; omega)]; exact h.r, h.hs.fr (fun A i a b => hF A i (by unfold p140; omega)), fun o ho => by rw [hF 24 o (by unfold p140; omega), hF 22 o (by unfold p140; omega)]; exact h.us o ho, fun Q' hQ' => (h.ch Q' hQ').fr3 (fun A i q => hF A i (by have := hQ'.rg; unfold p140; omega)), by rw [hF 0 10 (by unfold p140; omega)]; exact h.so, by rw [hF 0 11 (by unfold p140; omega)]; exact h.st⟩
theorem Rdy.e_whl {m m' : MM} (h : Rdy m) (hF : Frm p140 m m') : Rdy m' := by
  exact ⟨CJ.e_whl h.1 hF , ⟨by rw [hF 0 11 (by unfold p140; omega)]; exact h.2.1.1, h.2.1.2.fr (fun A i q => hF A i (by unfold p140; omega))⟩, by rw [hF 0 10 (by unfold p140; omega)]; exact h.2.2.1, h.2.2.2.1.fr (fun A i q => hF A i (by unfold p140; omega)), h.2.2.2.2.fr (fun A i a b => hF A i (by unfold p140; omega))⟩
theorem RfC.e_whl {m m' : MM} (h : RfC m) (hF : Frm p140 m m') : RfC m' := by
  exact ⟨CJ.e_whl h.1 hF , by rw [hF 0 11 (by unfold p140; omega)]; exact h.2.1, fun z => by
    rw [hF 0 10 (by unfold p140; omega)] at z
    exact (h.2.2.1 z).fr (fun A i q => hF A i (by unfold p140; omega)), SX.fr h.2.2.2 (hF 0 10 (by unfold p140; omega)) (fun A i a b => hF A i (by unfold p140; omega))⟩
theorem CJ.e_pat {m m' : MM} (h : CJ m) (hF : Frm pPa m m') : CJ m' := by
  exact ⟨h.b.fr (fun A i a b => hF A i (by unfold pPa; omega)), h.w.fr (fun A i a b => hF A i (by unfold pPa; omega)), h.w2.fr (fun A i a b => hF A i (by unfold pPa; omega)), by rw [hF 19 0 (by unfold pPa; omega)]; exact h.r, h.hs.fr (fun A i a b => hF A i (by unfold pPa; omega)), fun o ho => by rw [hF 24 o (by unfold pPa; omega), hF 22 o (by unfold pPa; omega)]; exact h.us o ho, fun Q' hQ' => (h.ch Q' hQ').fr3 (fun A i q => hF A i (by have := hQ'.rg; unfold pPa; omega)), by rw [hF 0 10 (by unfold pPa; omega)]; exact h.so, by rw [hF 0 11 (by unfold pPa; omega)]; exact h.st⟩
theorem Rdy.e_pat {m m' : MM} (h : Rdy m) (hF : Frm pPa m m') : Rdy m' := by
  exact ⟨CJ.e_pat h.1 hF , ⟨by rw [hF 0 11 (by unfold pPa; omega)]; exact h.2.1.1, h.2.1.2.fr (fun A i q => hF A i (by unfold pPa; omega))⟩, by rw [hF 0 10 (by unfold pPa; omega)]; exact h.2.2.1, h.2.2.2.1.fr (fun A i q => hF A i (by unfold pPa; omega)), h.2.2.2.2.fr (fun A i a b => hF A i (by unfold pPa; omega))⟩
theorem RfC.e_pat {m m' : MM} (h : RfC m) (hF : Frm pPa m m') : RfC m' := by
  exact ⟨CJ.e_pat h.1 hF , by rw [hF 0 11 (by unfold pPa; omega)]; exact h.2.1, fun z => by
    rw [hF 0 10 (by unfold pPa; omega)] at z
    exact (h.2.2.1 z).fr (fun A i q => hF A i (by unfold pPa; omega)), SX.fr h.2.2.2 (hF 0 10 (by unfold pPa; omega)) (fun A i a b => hF A i (by unfold pPa; omega))⟩
theorem CJ.e_sp1 {m m' : MM} (h : CJ m) (hF : Frm p14 m m') (hz : WbOK m' 14) : CJ m' := by
  exact ⟨h.b.fr (fun A i a b => hF A i (by unfold p14; omega)), h.w.fr (fun A i a b => hF A i (by unfold p14; omega)), hz, by rw [hF 19 0 (by unfold p14; omega)]; exact h.r, h.hs.fr (fun A i a b => hF A i (by unfold p14; omega)), fun o ho => by rw [hF 24 o (by unfold p14; omega), hF 22 o (by unfold p14; omega)]; exact h.us o ho, fun Q' hQ' => (h.ch Q' hQ').fr3 (fun A i q => hF A i (by have := hQ'.rg; unfold p14; omega)), by rw [hF 0 10 (by unfold p14; omega)]; exact h.so, by rw [hF 0 11 (by unfold p14; omega)]; exact h.st⟩
theorem Rdy.e_sp1 {m m' : MM} (h : Rdy m) (hF : Frm p14 m m') (hz : WbOK m' 14) : Rdy m' := by
  exact ⟨CJ.e_sp1 h.1 hF hz, ⟨by rw [hF 0 11 (by unfold p14; omega)]; exact h.2.1.1, h.2.1.2.fr (fun A i q => hF A i (by unfold p14; omega))⟩, by rw [hF 0 10 (by unfold p14; omega)]; exact h.2.2.1, h.2.2.2.1.fr (fun A i q => hF A i (by unfold p14; omega)), h.2.2.2.2.fr (fun A i a b => hF A i (by unfold p14; omega))⟩
theorem RfC.e_sp1 {m m' : MM} (h : RfC m) (hF : Frm p14 m m') (hz : WbOK m' 14) : RfC m' := by
  exact ⟨CJ.e_sp1 h.1 hF hz, by rw [hF 0 11 (by unfold p14; omega)]; exact h.2.1, fun z => by
    rw [hF 0 10 (by unfold p14; omega)] at z
    exact (h.2.2.1 z).fr (fun A i q => hF A i (by unfold p14; omega)), SX.fr h.2.2.2 (hF 0 10 (by unfold p14; omega)) (fun A i a b => hF A i (by unfold p14; omega))⟩
theorem CJ.e_sp2 {m m' : MM} (h : CJ m) (hF : Frm pW14c m m') : CJ m' := by
  exact ⟨h.b.fr (fun A i a b => hF A i (by unfold pW14c; omega)), h.w.fr (fun A i a b => hF A i (by unfold pW14c; omega)), ⟨fun j hj => by
    rw [hF _ _ (by unfold pW14c; omega), hF _ _ (by unfold pW14c; omega), hF _ _ (by unfold pW14c; omega), hF _ _ (by unfold pW14c; omega)]; exact h.w2.1 j hj, by rw [hF 14 0 (by unfold pW14c; omega)]; exact h.w2.2⟩, by rw [hF 19 0 (by unfold pW14c; omega)]; exact h.r, h.hs.fr (fun A i a b => hF A i (by unfold pW14c; omega)), fun o ho => by rw [hF 24 o (by unfold pW14c; omega), hF 22 o (by unfold pW14c; omega)]; exact h.us o ho, fun Q' hQ' => (h.ch Q' hQ').fr3 (fun A i q => hF A i (by have := hQ'.rg; unfold pW14c; omega)), by rw [hF 0 10 (by unfold pW14c; omega)]; exact h.so, by rw [hF 0 11 (by unfold pW14c; omega)]; exact h.st⟩
theorem Rdy.e_sp2 {m m' : MM} (h : Rdy m) (hF : Frm pW14c m m') : Rdy m' := by
  exact ⟨CJ.e_sp2 h.1 hF , ⟨by rw [hF 0 11 (by unfold pW14c; omega)]; exact h.2.1.1, h.2.1.2.fr (fun A i q => hF A i (by unfold pW14c; omega))⟩, by rw [hF 0 10 (by unfold pW14c; omega)]; exact h.2.2.1, h.2.2.2.1.fr (fun A i q => hF A i (by unfold pW14c; omega)), h.2.2.2.2.fr (fun A i a b => hF A i (by unfold pW14c; omega))⟩
theorem RfC.e_sp2 {m m' : MM} (h : RfC m) (hF : Frm pW14c m m') : RfC m' := by
  exact ⟨CJ.e_sp2 h.1 hF , by rw [hF 0 11 (by unfold pW14c; omega)]; exact h.2.1, fun z => by
    rw [hF 0 10 (by unfold pW14c; omega)] at z
    exact (h.2.2.1 z).fr (fun A i q => hF A i (by unfold pW14c; omega)), SX.fr h.2.2.2 (hF 0 10 (by unfold pW14c; omega)) (fun A i a b => hF A i (by unfold pW14c; omega))⟩
theorem CJ.e_wv {m m' : MM} (h : CJ m) (hF : Frm p9w m m') (hz : WbOK m' 9) : CJ m' := by
  exact ⟨h.b.fr (fun A i a b => hF A i (by unfold p9w; omega)), hz, h.w2.fr (fun A i a b => hF A i (by unfold p9w; omega)), by rw [hF 19 0 (by unfold p9w; omega)]; exact h.r, h.hs.fr (fun A i a b => hF A i (by unfold p9w; omega)), fun o ho => by rw [hF 24 o (by unfold p9w; omega), hF 22 o (by unfold p9w; omega)]; exact h.us o ho, fun Q' hQ' => (h.ch Q' hQ').fr3 (fun A i q => hF A i (by have := hQ'.rg; unfold p9w; omega)), by rw [hF 0 10 (by unfold p9w; omega)]; exact h.so, by rw [hF 0 11 (by unfold p9w; omega)]; exact h.st⟩
theorem CJ.e_wg {m m' : MM} (h : CJ m) (hF : Frm pW9c m m') : CJ m' := by
  exact ⟨h.b.fr (fun A i a b => hF A i (by unfold pW9c; omega)), ⟨fun j hj => by
    rw [hF _ _ (by unfold pW9c; omega), hF _ _ (by unfold pW9c; omega), hF _ _ (by unfold pW9c; omega), hF _ _ (by unfold pW9c; omega)]; exact h.w.1 j hj, by rw [hF 9 0 (by unfold pW9c; omega)]; exact h.w.2⟩, h.w2.fr (fun A i a b => hF A i (by unfold pW9c; omega)), by rw [hF 19 0 (by unfold pW9c; omega)]; exact h.r, h.hs.fr (fun A i a b => hF A i (by unfold pW9c; omega)), fun o ho => by rw [hF 24 o (by unfold pW9c; omega), hF 22 o (by unfold pW9c; omega)]; exact h.us o ho, fun Q' hQ' => (h.ch Q' hQ').fr3 (fun A i q => hF A i (by have := hQ'.rg; unfold pW9c; omega)), by rw [hF 0 10 (by unfold pW9c; omega)]; exact h.so, by rw [hF 0 11 (by unfold pW9c; omega)]; exact h.st⟩
theorem CJ.e_st {m m' : MM} (h : CJ m) (hF : Frm p11 m m') (hz : 0 ≤ m' 0 11 ∧ m' 0 11 ≤ 1) : CJ m' := by
  exact ⟨h.b.fr (fun A i a b => hF A i (by unfold p11; omega)), h.w.fr (fun A i a b => hF A i (by unfold p11; omega)), h.w2.fr (fun A i a b => hF A i (by unfold p11; omega)), by rw [hF 19 0 (by unfold p11; omega)]; exact h.r, h.hs.fr (fun A i a b => hF A i (by unfold p11; omega)), fun o ho => by rw [hF 24 o (by unfold p11; omega), hF 22 o (by unfold p11; omega)]; exact h.us o ho, fun Q' hQ' => (h.ch Q' hQ').fr3 (fun A i q => hF A i (by have := hQ'.rg; unfold p11; omega)), by rw [hF 0 10 (by unfold p11; omega)]; exact h.so, hz⟩
theorem CJ.e_so {m m' : MM} (h : CJ m) (hF : Frm p10 m m') (hz : 0 ≤ m' 0 10 ∧ m' 0 10 ≤ 1) : CJ m' := by
  exact ⟨h.b.fr (fun A i a b => hF A i (by unfold p10; omega)), h.w.fr (fun A i a b => hF A i (by unfold p10; omega)), h.w2.fr (fun A i a b => hF A i (by unfold p10; omega)), by rw [hF 19 0 (by unfold p10; omega)]; exact h.r, h.hs.fr (fun A i a b => hF A i (by unfold p10; omega)), fun o ho => by rw [hF 24 o (by unfold p10; omega), hF 22 o (by unfold p10; omega)]; exact h.us o ho, fun Q' hQ' => (h.ch Q' hQ').fr3 (fun A i q => hF A i (by have := hQ'.rg; unfold p10; omega)), hz, by rw [hF 0 11 (by unfold p10; omega)]; exact h.st⟩
theorem CJ.e_rs {m m' : MM} (h : CJ m) (hF : Frm p191 m m') : CJ m' := by
  exact ⟨h.b.fr (fun A i a b => hF A i (by unfold p191; omega)), h.w.fr (fun A i a b => hF A i (by unfold p191; omega)), h.w2.fr (fun A i a b => hF A i (by unfold p191; omega)), by rw [hF 19 0 (by unfold p191; omega)]; exact h.r, h.hs.fr (fun A i a b => hF A i (by unfold p191; omega)), fun o ho => by rw [hF 24 o (by unfold p191; omega), hF 22 o (by unfold p191; omega)]; exact h.us o ho, fun Q' hQ' => (h.ch Q' hQ').fr3 (fun A i q => hF A i (by have := hQ'.rg; unfold p191; omega)), by rw [hF 0 10 (by unfold p191; omega)]; exact h.so, by rw [hF 0 11 (by unfold p191; omega)]; exact h.st⟩
theorem RfC.e_rs {m m' : MM} (h : RfC m) (hF : Frm p191 m m') : RfC m' := by
  exact ⟨CJ.e_rs h.1 hF , by rw [hF 0 11 (by unfold p191; omega)]; exact h.2.1, fun z => by
    rw [hF 0 10 (by unfold p191; omega)] at z
    exact (h.2.2.1 z).fr (fun A i q => hF A i (by unfold p191; omega)), SX.fr h.2.2.2 (hF 0 10 (by unfold p191; omega)) (fun A i a b => hF A i (by unfold p191; omega))⟩
theorem CJ.e_h0 {m m' : MM} (h : CJ m) (hF : Frm p129 m m') (hz : 0 ≤ m' 129 0 ∧ m' 129 0 ≤ 12) : CJ m' := by
  exact ⟨h.b.fr (fun A i a b => hF A i (by unfold p129; omega)), h.w.fr (fun A i a b => hF A i (by unfold p129; omega)), h.w2.fr (fun A i a b => hF A i (by unfold p129; omega)), by rw [hF 19 0 (by unfold p129; omega)]; exact h.r, ⟨fun o ho => by rw [hF 130 o (by unfold p129; omega), hF 131 o (by unfold p129; omega)]; exact h.hs.1 o ho, hz, by rw [hF 129 1 (by unfold p129; omega)]; exact h.hs.2.2.1, by rw [hF 129 2 (by unfold p129; omega)]; exact h.hs.2.2.2⟩, fun o ho => by rw [hF 24 o (by unfold p129; omega), hF 22 o (by unfold p129; omega)]; exact h.us o ho, fun Q' hQ' => (h.ch Q' hQ').fr3 (fun A i q => hF A i (by have := hQ'.rg; unfold p129; omega)), by rw [hF 0 10 (by unfold p129; omega)]; exact h.so, by rw [hF 0 11 (by unfold p129; omega)]; exact h.st⟩
theorem Rdy.e_h0 {m m' : MM} (h : Rdy m) (hF : Frm p129 m m') (hz : 0 ≤ m' 129 0 ∧ m' 129 0 ≤ 12) : Rdy m' := by
  exact ⟨CJ.e_h0 h.1 hF hz, ⟨by rw [hF 0 11 (by unfold p129; omega)]; exact h.2.1.1, h.2.1.2.fr (fun A i q => hF A i (by unfold p129; omega))⟩, by rw [hF 0 10 (by unfold p129; omega)]; exact h.2.2.1, h.2.2.2.1.fr (fun A i q => hF A i (by unfold p129; omega)), h.2.2.2.2.fr (fun A i a b => hF A i (by unfold p129; omega))⟩
theorem RfC.e_h0 {m m' : MM} (h : RfC m) (hF : Frm p129 m m') (hz : 0 ≤ m' 129 0 ∧ m' 129 0 ≤ 12) : RfC m' := by
  exact ⟨CJ.e_h0 h.1 hF hz, by rw [hF 0 11 (by unfold p129; omega)]; exact h.2.1, fun z => by
    rw [hF 0 10 (by unfold p129; omega)] at z
    exact (h.2.2.1 z).fr (fun A i q => hF A i (by unfold p129; omega)), SX.fr h.2.2.2 (hF 0 10 (by unfold p129; omega)) (fun A i a b => hF A i (by unfold p129; omega))⟩
theorem CJ.e_bd {m m' : MM} (h : CJ m) (hF : Frm pBd m m') (hz : BodyOK m') (ht : 0 ≤ m' 0 11 ∧ m' 0 11 ≤ 1) : CJ m' := by
  exact ⟨hz, h.w.fr (fun A i a b => hF A i (by unfold pBd; omega)), h.w2.fr (fun A i a b => hF A i (by unfold pBd; omega)), by rw [hF 19 0 (by unfold pBd; omega)]; exact h.r, h.hs.fr (fun A i a b => hF A i (by unfold pBd; omega)), fun o ho => by rw [hF 24 o (by unfold pBd; omega), hF 22 o (by unfold pBd; omega)]; exact h.us o ho, fun Q' hQ' => (h.ch Q' hQ').fr3 (fun A i q => hF A i (by have := hQ'.rg; unfold pBd; omega)), by rw [hF 0 10 (by unfold pBd; omega)]; exact h.so, ht⟩
theorem up1F {P : Nat → Nat → Prop} {m : MM} {A i : Nat} {x : Int} (q : P A i) : Frm P m (upm m A i x) := Frm.up Frm.rf q
theorem ClS.bd {m m' : MM} (h : ClS m) (hF : Frm pBd m m') (hz : BodyOK m') (ht : m' 0 11 = 1) : ClS m' := ⟨CJ.e_bd h.1 hF hz (by omega), fun q => by omega, fun q => by omega⟩
theorem ClS.fi {m m' : MM} (h : ClS m) (hF : Frm p4f m m') : ClS m' := by
  have hB : BodyOK m' := by
    obtain ⟨h1, h2, h3, h4, h5, h6⟩ := h.1.b
    refine ⟨by rw [hF 1 0 (by unfold p4f; omega)]; exact h1, fun o ho => ?_, fun k hk => by rw [hF 5 k (by unfold p4f; omega)]; exact h3 k hk, fun k hk => by rw [hF 6 k (by unfold p4f; omega)]; exact h4 k hk, fun k hk => by rw [hF 7 k (by unfold p4f; omega)]; exact h5 k hk, fun k hk => by rw [hF 8 k (by unfold p4f; omega)]; exact h6 k hk⟩
    unfold BOp
    rw [hF 2 o (by unfold p4f; omega), hF 3 (4 * o) (by unfold p4f; omega), hF 3 (4 * o + 1) (by unfold p4f; omega), hF 3 (4 * o + 2) (by unfold p4f; omega), hF 3 (4 * o + 3) (by unfold p4f; omega)]
    exact h2 o ho
  refine ⟨CJ.e_bd h.1 (hF.mono (fun A i q => by unfold p4f at q; unfold pBd; omega)) hB (by rw [hF 0 11 (by unfold p4f; omega)]; exact h.1.st), fun a b => ?_, fun a => SX.fr (h.2.2 (by rw [hF 0 11 (by unfold p4f; omega)] at a; exact a)) (hF 0 10 (by unfold p4f; omega)) (fun A i a b => hF A i (by unfold p4f; omega))⟩
  rw [hF 0 11 (by unfold p4f; omega)] at a
  rw [hF 0 10 (by unfold p4f; omega)] at b
  exact ⟨(h.2.1 a b).1.fr (fun A i q => hF A i (by unfold p4f; omega)), (h.2.1 a b).2.fr (fun A i q => hF A i (by unfold p4f; omega))⟩
end
section
/-! laid by wip/hand/tg.py: rounds and ways of the class -/
theorem f_76e {S : Nat × (Nat → Int32)} {n : Nat} {mem : MM} {K : MM → Prop} {Z zn : Nat} (hZ : shA Z = some (.inl zn)) (hz : zn ≤ 100000) {x : Int} (H : ∀ m', Fr1 Z mem m' → (∀ i, i < zn → m' Z i = x) → K m') : CWV (Ex S (n + 1)) 76 [.inr Z, .inl x] mem K := by
  have key : ∀ (N : Nat) (i : Nat) (m : MM), i ≤ zn → zn - i < N → Fr1 Z mem m → (∀ j, j < i → m Z j = x) → Wx (Ex S n) S M_76 (fun r m => r = none ∧ K m) 5 [some (.inr Z), some (.inl x), some (.inl (i : Int)), some (.inl (zn : Int))] [] m := by
    intro N
    induction N with
    | zero => intros; omega
    | succ N ih =>
      intro i m hi hN hF hA
      refine w_76_5 (Ex.mono S n) hZ ⟨fun q => ⟨rfl, H m hF (fun j hj => hA j (by omega))⟩, fun q => ⟨⟨by omega, by omega⟩, by unfold InI; omega, ?_⟩⟩
      rw [Int.toNat_natCast]
      refine ih (i + 1) _ (by omega) (by omega) (hF.tr Fr1.up) (fun j hj => ?_)
      by_cases e : j = i
      · subst e; exact upm_eq
      · rw [upm_ne (fun z => e z.2)]; exact hA j (by omega)
  exact CW.of (k := 2) mt_76 rfl rfl (w_76_0 (Ex.mono S n) hZ ⟨by unfold InI; omega, key _ 0 mem (by omega) (Nat.lt_succ_self _) Fr1.rf (fun j hj => by omega)⟩)
theorem dmul12 {d x : Int} (hd : 0 ≤ d ∧ d ≤ 12) (hx : 0 ≤ x ∧ x ≤ 7) : 0 ≤ d * x ∧ d * x ≤ 84 := by
  have h1 := Int.mul_nonneg hd.1 hx.1
  have h2 := Int.mul_le_mul hd.2 hx.2 hx.1 (by omega)
  omega
theorem RchX.of {mem m' : MM} {d : Int} (hE : FwH (EdQ (cwq mem 9) (mem 9 0).toNat d) (mem 1 0).toNat) (hF : Frm pRe mem m') (z : m' 19 0 = mem 1 0) (y : m' 19 1 = d) (I : FwC (EdQ (cwq mem 9) (mem 9 0).toNat d) (mem 1 0).toNat 20 (-100000) m' (mem 1 0).toNat 0 0) : RchX m' := by
  have e : ∀ A i, (A = 9 ∧ i = 0) ∨ (10 ≤ A ∧ A ≤ 13) ∨ (A = 1 ∧ i = 0) → m' A i = mem A i := fun A i q => hF A i (by unfold pRe; omega)
  have ec : cwq m' 9 = cwq mem 9 := funext fun i => by
    unfold cwq
    rw [e (9 + 1) i (by omega), e (9 + 2) i (by omega), e (9 + 3) i (by omega), e (9 + 4) i (by omega)]
  refine Or.inr ⟨by rw [z, e 1 0 (by omega)], fun a b ha hb => ?_⟩
  rw [e 1 0 (by omega)] at ha hb
  rw [ec, e 9 0 (by omega), y]
  exact I.fin hE (by omega) (by omega) (by omega)
theorem f_33x {S : Nat × (Nat → Int32)} {n : Nat} {mem : MM} {K : Int → MM → Prop} {E : Nat → MM → Prop} {a b : Int} (ha : 0 ≤ a) (hb : 0 < b) (H : ∀ r, r = upV a b → K r mem) : CQI (Ex S (n + 2)) 33 [.inl a, .inl b] mem K E := by
  refine CY.of (k := 0) mt_33 rfl rfl (fun hv => ?_)
  have hC := Ex.mono S (n + 1)
  have ii_a : InI a := hv (.inl a) (by simp)
  unfold InI at ii_a
  have ii_b : InI b := hv (.inl b) (by simp)
  unfold InI at ii_b
  clear hv
  show Tx (Ex S (n + 1)) S M_33 (kI K E) 0 0 0 [some (.inl a), some (.inl b)] [] mem
  refine Tx.iload_n hC te_33_0 rfl ?_
  refine Tx.ifc hC (t := 8) te_33_1 (by decide) (fun q1 => ?_) (fun q1 => ?_)
  · replace q1 : 0 < (b : Int) := q1
    refine Tx.iload_n hC te_33_8 rfl ?_
    refine Tx.inegW hC te_33_9 (fun z2 z2i z2e => ?_)
    unfold InI at z2i z2e
    refine Tx.iload_n hC te_33_10 rfl ?_
    refine Tx.statI hC te_33_11 (by decide) mt_34 (args := [.inl z2, .inl b]) (rest := []) (c' := 0) (s' := 0) rfl rfl rfl rfl rfl rfl rfl ?_
    refine f_34 (by omega) (fun r3 r3a r3b r3i => ?_)
    unfold InI at r3i
    refine Tx.inegW hC te_33_14 (fun z6 z6i z6e => ?_)
    unfold InI at z6i z6e
    exact Tx.ireturn hC te_33_15 rfl (fun hr => show K z6 mem from H z6 (ru_fin0 (by omega) ha (z2e (by omega)) (by have := z2e (by omega); omega) r3a r3b (by omega) (by omega) z6e))
  · replace q1 : ¬ (0 < (b : Int)) := q1
    refine Tx.iconst hC te_33_4 rfl ?_
    refine Tx.goto hC (t := 15) te_33_5 (by decide) ?_
    exact Tx.ireturn hC te_33_15 rfl (fun hr => show K 0 mem from H 0 (by omega))
theorem f_32x {S : Nat × (Nat → Int32)} {n : Nat} {mem : MM} {K : Int → MM → Prop} {E : Nat → MM → Prop} {W : Nat} (hW : WebSh W) (hT : WtOK mem W) (H : ∀ r, r = upV (mem W 5) (mem W 6) → 0 ≤ r → r ≤ 80 → K r mem) : CQI (Ex S (n + 3)) 32 [.inr W] mem K E := by
  refine CY.of (k := 0) mt_32 rfl rfl (fun hv => ?_)
  have hC := Ex.mono S (n + 2)
  clear hv
  have hT1 := hT.1
  have hT2 := hT.2
  show Tx (Ex S (n + 2)) S M_32 (kI K E) 0 0 0 [some (.inr W)] [] mem
  refine Tx.aload_n hC te_32_0 rfl ?_
  refine Tx.getI hC te_32_1 hW.1 rfl rfl (fun v1 v1e v1i => ?_)
  unfold InI at v1i
  refine Tx.aload_n hC te_32_4 rfl ?_
  refine Tx.getI hC te_32_5 hW.1 rfl rfl (fun v2 v2e v2i => ?_)
  unfold InI at v2i
  refine Tx.statI hC te_32_8 (by decide) mt_33 (args := [.inl v1, .inl v2]) (rest := []) (c' := 0) (s' := 0) rfl rfl rfl rfl rfl rfl rfl ?_
  refine f_33x (by omega) (by omega) (fun r3 r3e r3i => ?_)
  have r3g := upV_rg (a := v1) (b := v2) (by omega) (by omega)
  have r3u : upV (mem W 5) (mem W 6) = r3 := by rw [r3e, v1e, v2e]
  unfold InI at r3i
  exact Tx.ireturn hC te_32_11 rfl (fun hr => show K r3 mem from H _ (by omega) (by omega) (by omega))
theorem f_77x {S : Nat × (Nat → Int32)} {n : Nat} {mem : MM} {K : MM → Prop} {E : Nat → MM → Prop} {E0 : Nat → Nat → Int → Prop} (hE : FwH E0 (mem 19 0).toNat) {f o : Int} (hf : 0 ≤ f ∧ f < mem 19 0) (ho : 0 ≤ o ∧ o < mem 19 0) (hI : FwC E0 (mem 19 0).toNat 20 (-100000) mem o.toNat f.toNat 0) (hne : ¬ WM mem 20 f.toNat o.toNat = -100000) (H : ∀ m', Frm p20 mem m' → FwC E0 (mem 19 0).toNat 20 (-100000) m' o.toNat (f.toNat + 1) 0 → K m') : CQV (Ex S (n + 2)) 77 [.inr 19, .inl f, .inl o] mem K E := by
  refine CY.of (k := 4) mt_77 rfl rfl (fun hv => ?_)
  have hC := Ex.mono S (n + 1)
  have ii_f : InI f := hv (.inl f) (by simp)
  unfold InI at ii_f
  have ii_o : InI o := hv (.inl o) (by simp)
  unfold InI at ii_o
  clear hv
  have h8 := hE.1
  obtain ⟨ha1, ha2⟩ := hI.ahd (by omega) (show f.toNat < (mem 19 0).toNat by omega)
  have hrg := hI.rg hE (a' := f.toNat) (b' := o.toNat) (by omega) (by omega)
  have hap := ha1.resolve_left hne
  show Tx (Ex S (n + 1)) S M_77 (kV K E) 0 0 0 [some (.inr 19), some (.inl f), some (.inl o), none, none, none, none] [] mem
  have l_15 : ∀ (N : Nat) (x3 x4 : Int) (m_15 : MM), (0 ≤ x4 ∧ x4 ≤ mem 19 0) → (FwC E0 (mem 19 0).toNat 20 (-100000) m_15 o.toNat f.toNat x4.toNat) → (x3 = WM mem 20 f.toNat o.toNat) → ((8 - x4).toNat) < N → Frm p20 mem m_15 → Tx (Ex S (n + 1)) S M_77 (kV K E) 0 0 15 [some (.inr 19), some (.inl f), some (.inl o), some (.inl x3), some (.inl x4), none, none] [] m_15 := by
    intro N
    induction N with
    | zero => intros; omega
    | succ N ih_15 =>
      intro x3 x4 m_15 i15_0 i15_1 i15_2 hN_15 hF_15
      refine Tx.iload hC te_77_15 rfl ?_
      refine Tx.aload_n hC te_77_17 rfl ?_
      refine Tx.getI hC te_77_18 rfl rfl rfl (fun v1 v1e v1i => ?_)
      unfold InI at v1i
      rw [hF_15 19 _ (by unfold p20; omega)] at v1e
      refine Tx.icmp hC (t := 81) te_77_21 (by decide) (fun q2 => ?_) (fun q2 => ?_)
      · replace q2 : v1 ≤ (x4 : Int) := q2
        exact Tx.vret hC te_77_81 rfl (show K m_15 from H _ hF_15 (by have w := i15_1; rw [show x4.toNat = (mem 19 0).toNat by omega] at w; exact w.nextA))
      · replace q2 : ¬ (v1 ≤ (x4 : Int)) := q2
        refine Tx.aload_n hC te_77_24 rfl ?_
        refine Tx.getR hC te_77_25 rfl rfl rfl ?_
        refine Tx.iload_n hC te_77_28 rfl ?_
        refine Tx.bipush hC te_77_29 rfl rfl ?_
        refine Tx.imulW hC te_77_31 (fun z3 z3i z3e => ?_)
        unfold InI at z3i z3e
        first | replace z3e := z3e (by omega) | clear z3e
        refine Tx.iload hC te_77_32 rfl ?_
        refine Tx.iaddW hC te_77_34 (fun z4 z4i z4e => ?_)
        unfold InI at z4i z4e
        first | replace z4e := z4e (by omega) | clear z4e
        refine Tx.iald hC te_77_35 rfl (by omega) (fun v5 v5e v5i => ?_)
        unfold InI at v5i
        have vb : v5 = WM m_15 20 o.toNat x4.toNat := by rw [v5e]; unfold WM; congr 1; omega
        have rb := i15_1.rg hE (a' := o.toNat) (b' := x4.toNat) (by omega) (by omega)
        have rc := i15_1.rg hE (a' := f.toNat) (b' := x4.toNat) (by omega) (by omega)
        refine Tx.istore hC te_77_36 rfl ?_
        refine Tx.iload hC te_77_38 rfl ?_
        refine Tx.ldc hC (z := (-100000)) te_77_40 rfl rfl rfl rfl ?_
        refine Tx.icmp hC (t := 75) te_77_42 (by decide) (fun q6 => ?_) (fun q6 => ?_)
        · replace q6 : (v5 : Int) = (-100000) := q6
          refine Tx.iincW hC te_77_75 rfl rfl (fun z7 z7i z7e => ?_)
          unfold InI at z7i z7e
          first | replace z7e := z7e (by omega) | clear z7e
          refine Tx.goto hC (t := 15) te_77_78 (by decide) ?_
          exact Tx.weak (by repeat' (first | exact trivial | exact rfl | constructor)) (ih_15 x3 z7 m_15 (by omega) (by rw [show (z7).toNat = x4.toNat + 1 by omega]; exact FwC.skip i15_1 hE (by omega) (by omega) (by omega) (by omega) ha1 ha2 (Or.inr (by omega))) (by omega) (by omega) hF_15)
        · replace q6 : ¬ ((v5 : Int) = (-100000)) := q6
          refine Tx.iload_n hC te_77_45 rfl ?_
          refine Tx.bipush hC te_77_46 rfl rfl ?_
          refine Tx.imulW hC te_77_48 (fun z8 z8i z8e => ?_)
          unfold InI at z8i z8e
          first | replace z8e := z8e (by omega) | clear z8e
          refine Tx.iload hC te_77_49 rfl ?_
          refine Tx.iaddW hC te_77_51 (fun z9 z9i z9e => ?_)
          unfold InI at z9i z9e
          first | replace z9e := z9e (by omega) | clear z9e
          refine Tx.istore hC te_77_52 rfl ?_
          refine Tx.aload_n hC te_77_54 rfl ?_
          refine Tx.getR hC te_77_55 rfl rfl rfl ?_
          refine Tx.iload hC te_77_58 rfl ?_
          refine Tx.aload_n hC te_77_60 rfl ?_
          refine Tx.getR hC te_77_61 rfl rfl rfl ?_
          refine Tx.iload hC te_77_64 rfl ?_
          refine Tx.iald hC te_77_66 rfl (by omega) (fun v10 v10e v10i => ?_)
          unfold InI at v10i
          have vc : v10 = WM m_15 20 f.toNat x4.toNat := by rw [v10e]; unfold WM; congr 1; omega
          refine Tx.iload_n hC te_77_67 rfl ?_
          refine Tx.iload hC te_77_68 rfl ?_
          refine Tx.iaddW hC te_77_70 (fun z11 z11i z11e => ?_)
          unfold InI at z11i z11e
          first | replace z11e := z11e (by omega) | clear z11e
          refine Tx.statI hC te_77_71 (by decide) mt_40 (args := [.inl v10, .inl z11]) (rest := [.inl z9, .inr 20]) (c' := 0) (s' := 0) rfl rfl rfl rfl rfl rfl rfl ?_
          refine f_40q (fun r12 r12a r12b r12c r12i => ?_)
          unfold InI at r12i
          refine Tx.iast hC te_77_74 rfl (by omega) ?_
          have hF16 : Frm p20 mem (upm m_15 20 (Int.toNat z9) r12) := Frm.up hF_15 (by unfold p20; omega)
          have hI17 : FwC E0 (mem 19 0).toNat 20 (-100000) (upm m_15 20 (Int.toNat z9) r12) o.toNat f.toNat (x4.toNat + 1) := FwC.upd i15_1 hE (by omega) (by omega) (by omega) (by omega) hap ha2 (by omega) (by omega) (by omega) (by omega)
          generalize upm m_15 20 (Int.toNat z9) r12 = m15 at hF16 hI17 ⊢
          refine Tx.iincW hC te_77_75 rfl rfl (fun z18 z18i z18e => ?_)
          unfold InI at z18i z18e
          first | replace z18e := z18e (by omega) | clear z18e
          refine Tx.goto hC (t := 15) te_77_78 (by decide) ?_
          exact Tx.weak (by repeat' (first | exact trivial | exact rfl | constructor)) (ih_15 x3 z18 m15 (by omega) (by rw [show (z18).toNat = x4.toNat + 1 by omega]; exact hI17) (by omega) (by omega) hF16)
  refine Tx.aload_n hC te_77_0 rfl ?_
  refine Tx.getR hC te_77_1 rfl rfl rfl ?_
  refine Tx.iload_n hC te_77_4 rfl ?_
  refine Tx.bipush hC te_77_5 rfl rfl ?_
  refine Tx.imulW hC te_77_7 (fun z19 z19i z19e => ?_)
  unfold InI at z19i z19e
  first | replace z19e := z19e (by omega) | clear z19e
  refine Tx.iload_n hC te_77_8 rfl ?_
  refine Tx.iaddW hC te_77_9 (fun z20 z20i z20e => ?_)
  unfold InI at z20i z20e
  first | replace z20e := z20e (by omega) | clear z20e
  refine Tx.iald hC te_77_10 rfl (by omega) (fun v21 v21e v21i => ?_)
  unfold InI at v21i
  have va : v21 = WM mem 20 f.toNat o.toNat := by rw [v21e]; unfold WM; congr 1; omega
  refine Tx.istore_n hC te_77_11 rfl ?_
  refine Tx.iconst hC te_77_12 rfl ?_
  refine Tx.istore hC te_77_13 rfl ?_
  exact l_15 _ v21 0 mem (by omega) (hI) (by omega) (Nat.lt_succ_self _) Frm.rf
theorem f_75x {S : Nat × (Nat → Int32)} {n : Nat} {mem : MM} {K : MM → Prop} {E : Nat → MM → Prop} (hB : BodyOK mem) (hW9 : WbOK mem 9) (hS : WbS mem) {d : Int} (hV : EdV (cwq mem 9) (mem 9 0).toNat (mem 1 0).toNat) (hN : NoUp (EdQ (cwq mem 9) (mem 9 0).toNat d)) (hX : RchX mem) (hd : 1 ≤ d ∧ d ≤ 12) (H : ∀ m', Frm pRe mem m' → RchX m' → m' 19 0 = mem 1 0 → m' 19 1 = d → K m') : CQV (Ex S (n + 3)) 75 [.inr 19, .inr 1, .inr 9, .inl d] mem K E := by
  refine CY.of (k := 2) mt_75 rfl rfl (fun hv => ?_)
  have hC := Ex.mono S (n + 2)
  have ii_d : InI d := hv (.inl d) (by simp)
  unfold InI at ii_d
  clear hv
  have h8 := hB.1
  have hw := hW9.2
  have hE := EdQ.fwh (by omega) (by omega) hV (fun j hj => by
    have g : Rg (mem 10 j) (mem 11 j) (mem 12 j) (mem 13 j) := hW9.1 j (by omega)
    unfold Rg at g
    exact ⟨g.2.2.1.2, g.2.2.2.1, g.2.2.2.2⟩) hN
  show Tx (Ex S (n + 2)) S M_75 (kV K E) 0 0 0 [some (.inr 19), some (.inr 1), some (.inr 9), some (.inl d), none, none] [] mem
  have l_106 : ∀ (N : Nat) (x4 : Int) (m_106 : MM), (0 ≤ x4 ∧ x4 ≤ mem 1 0) → (m_106 19 0 = mem 1 0) → (m_106 19 1 = d) → (FwC (EdQ (cwq mem 9) (mem 9 0).toNat d) (mem 1 0).toNat 20 (-100000) m_106 x4.toNat 0 0) → ((8 - x4).toNat) < N → Frm pRe mem m_106 → Tx (Ex S (n + 2)) S M_75 (kV K E) 0 0 106 [some (.inr 19), some (.inr 1), some (.inr 9), some (.inl d), some (.inl x4), none] [] m_106 := by
    intro N
    induction N with
    | zero => intros; omega
    | succ N ih_106 =>
      intro x4 m_106 i106_0 i106_1 i106_2 i106_3 hN_106 hF_106
      have l_118 : ∀ (N : Nat) (x5 : Int) (m_118 : MM), (0 ≤ x5 ∧ x5 ≤ mem 1 0) → (m_118 19 0 = mem 1 0) → (m_118 19 1 = d) → (0 ≤ x4 ∧ x4 < mem 1 0) → (FwC (EdQ (cwq mem 9) (mem 9 0).toNat d) (mem 1 0).toNat 20 (-100000) m_118 x4.toNat x5.toNat 0) → ((8 - x5).toNat) < N → Frm pRe mem m_118 → Tx (Ex S (n + 2)) S M_75 (kV K E) 0 0 118 [some (.inr 19), some (.inr 1), some (.inr 9), some (.inl d), some (.inl x4), some (.inl x5)] [] m_118 := by
        intro N
        induction N with
        | zero => intros; omega
        | succ N ih_118 =>
          intro x5 m_118 i118_0 i118_1 i118_2 i118_3 i118_4 hN_118 hF_118
          refine Tx.iload hC te_75_118 rfl ?_
          refine Tx.aload_n hC te_75_120 rfl ?_
          refine Tx.getI hC te_75_121 rfl rfl rfl (fun v1 v1e v1i => ?_)
          unfold InI at v1i
          have f2 := i118_1
          refine Tx.icmp hC (t := 159) te_75_124 (by decide) (fun q3 => ?_) (fun q3 => ?_)
          · replace q3 : v1 ≤ (x5 : Int) := q3
            refine Tx.iincW hC te_75_159 rfl rfl (fun z4 z4i z4e => ?_)
            unfold InI at z4i z4e
            first | replace z4e := z4e (by omega) | clear z4e
            refine Tx.goto hC (t := 106) te_75_162 (by decide) ?_
            exact Tx.weak (by repeat' (first | exact trivial | exact rfl | constructor)) (ih_106 z4 m_118 (by omega) (i118_1) (i118_2) (by have w := i118_4; rw [show x5.toNat = (mem 1 0).toNat by omega] at w; rw [show (z4).toNat = x4.toNat + 1 by omega]; exact w.nextM) (by omega) hF_118)
          · replace q3 : ¬ (v1 ≤ (x5 : Int)) := q3
            refine Tx.aload_n hC te_75_127 rfl ?_
            refine Tx.getR hC te_75_128 rfl rfl rfl ?_
            refine Tx.iload hC te_75_131 rfl ?_
            refine Tx.bipush hC te_75_133 rfl rfl ?_
            refine Tx.imulW hC te_75_135 (fun z5 z5i z5e => ?_)
            unfold InI at z5i z5e
            first | replace z5e := z5e (by omega) | clear z5e
            refine Tx.iload hC te_75_136 rfl ?_
            refine Tx.iaddW hC te_75_138 (fun z6 z6i z6e => ?_)
            unfold InI at z6i z6e
            first | replace z6e := z6e (by omega) | clear z6e
            refine Tx.iald hC te_75_139 rfl (by omega) (fun v7 v7e v7i => ?_)
            unfold InI at v7i
            have vr : v7 = WM m_118 20 x5.toNat x4.toNat := by rw [v7e]; unfold WM; congr 1; omega
            refine Tx.ldc hC (z := (-100000)) te_75_140 rfl rfl rfl rfl ?_
            refine Tx.icmp hC (t := 153) te_75_142 (by decide) (fun q8 => ?_) (fun q8 => ?_)
            · replace q8 : (v7 : Int) = (-100000) := q8
              refine Tx.iincW hC te_75_153 rfl rfl (fun z9 z9i z9e => ?_)
              unfold InI at z9i z9e
              first | replace z9e := z9e (by omega) | clear z9e
              refine Tx.goto hC (t := 118) te_75_156 (by decide) ?_
              exact ih_118 z9 m_118 (by omega) (i118_1) (i118_2) (by omega) (by rw [show (z9).toNat = x5.toNat + 1 by omega]; exact FwC.row i118_4 hE (by omega) (by omega) (by omega) (by omega)) (by omega) hF_118
            · replace q8 : ¬ ((v7 : Int) = (-100000)) := q8
              refine Tx.aload_n hC te_75_145 rfl ?_
              refine Tx.iload hC te_75_146 rfl ?_
              refine Tx.iload hC te_75_148 rfl ?_
              refine Tx.virtV hC te_75_150 mt_77 (args := [.inr 19, .inl x5, .inl x4]) (rest := []) (c' := 0) (s' := 0) rfl rfl rfl rfl rfl rfl rfl rfl rfl rfl ?_
              refine f_77x (E0 := (EdQ (cwq mem 9) (mem 9 0).toNat d)) (by rw [i118_1]; exact hE) (by omega) (by omega) (by rw [i118_1]; exact i118_4) (by omega) (fun m11 hF12 r10c => ?_)
              rw [i118_1] at r10c
              have m11Z : m11 19 0 = mem 1 0 := by rw [hF12 19 0 (by unfold p20; omega)]; exact i118_1
              have m11Y : m11 19 1 = d := by rw [hF12 19 1 (by unfold p20; omega)]; exact i118_2
              have hF12n : Frm pRe mem m11 := hF_118.tr (hF12.mono (fun A i q => by unfold p20 at q; unfold pRe; omega))
              refine Tx.iincW hC te_75_153 rfl rfl (fun z13 z13i z13e => ?_)
              unfold InI at z13i z13e
              first | replace z13e := z13e (by omega) | clear z13e
              refine Tx.goto hC (t := 118) te_75_156 (by decide) ?_
              exact ih_118 z13 m11 (by omega) (m11Z) (m11Y) (by omega) (by rw [show (z13).toNat = x5.toNat + 1 by omega]; exact r10c) (by omega) hF12n
      refine Tx.iload hC te_75_106 rfl ?_
      refine Tx.aload_n hC te_75_108 rfl ?_
      refine Tx.getI hC te_75_109 rfl rfl rfl (fun v14 v14e v14i => ?_)
      unfold InI at v14i
      have f15 := i106_1
      refine Tx.icmp hC (t := 165) te_75_112 (by decide) (fun q16 => ?_) (fun q16 => ?_)
      · replace q16 : v14 ≤ (x4 : Int) := q16
        exact Tx.vret hC te_75_165 rfl (show K m_106 from H _ hF_106 (RchX.of hE hF_106 i106_1 i106_2 (by have w := i106_3; rw [show x4.toNat = (mem 1 0).toNat by omega] at w; exact w)) i106_1 i106_2)
      · replace q16 : ¬ (v14 ≤ (x4 : Int)) := q16
        refine Tx.iconst hC te_75_115 rfl ?_
        refine Tx.istore hC te_75_116 rfl ?_
        exact l_118 _ 0 m_106 (by omega) (i106_1) (i106_2) (by omega) (i106_3) (Nat.lt_succ_self _) hF_106
  have l_34 : ∀ (N : Nat) (x4 : Int) (m_34 : MM), (0 ≤ x4 ∧ x4 ≤ mem 9 0) → (m_34 19 0 = mem 1 0) → (m_34 19 1 = d) → (FwE (cwq mem 9) d (mem 1 0).toNat 20 (-100000) m_34 x4.toNat) → ((64 - x4).toNat) < N → Frm pRe mem m_34 → Tx (Ex S (n + 2)) S M_75 (kV K E) 0 0 34 [some (.inr 19), some (.inr 1), some (.inr 9), some (.inl d), some (.inl x4), none] [] m_34 := by
    intro N
    induction N with
    | zero => intros; omega
    | succ N ih_34 =>
      intro x4 m_34 i34_0 i34_1 i34_2 i34_3 hN_34 hF_34
      refine Tx.iload hC te_75_34 rfl ?_
      refine Tx.aload_n hC te_75_36 rfl ?_
      refine Tx.getI hC te_75_37 rfl rfl rfl (fun v17 v17e v17i => ?_)
      unfold InI at v17i
      rw [hF_34 9 _ (by unfold pRe; omega)] at v17e
      refine Tx.icmp hC (t := 103) te_75_40 (by decide) (fun q18 => ?_) (fun q18 => ?_)
      · replace q18 : v17 ≤ (x4 : Int) := q18
        refine Tx.iconst hC te_75_103 rfl ?_
        refine Tx.istore hC te_75_104 rfl ?_
        exact l_106 _ 0 m_34 (by omega) (i34_1) (i34_2) (by have w := FwE.fwc i34_3; rw [show x4.toNat = (mem 9 0).toNat by omega] at w; exact w) (Nat.lt_succ_self _) hF_34
      · replace q18 : ¬ (v17 ≤ (x4 : Int)) := q18
        refine Tx.aload_n hC te_75_43 rfl ?_
        refine Tx.getR hC te_75_44 rfl rfl rfl ?_
        refine Tx.iload hC te_75_47 rfl ?_
        refine Tx.iald hC te_75_49 rfl (by omega) (fun v19 v19e v19i => ?_)
        unfold InI at v19i
        rw [hF_34 10 _ (by unfold pRe; omega)] at v19e
        have f20 : Rg (mem 10 (Int.toNat x4)) (mem 11 (Int.toNat x4)) (mem 12 (Int.toNat x4)) (mem 13 (Int.toNat x4)) := hW9.1 (Int.toNat x4) (by omega)
        unfold Rg at f20
        have f20s := hS (Int.toNat x4) (by omega)
        refine Tx.bipush hC te_75_50 rfl rfl ?_
        refine Tx.imulW hC te_75_52 (fun z21 z21i z21e => ?_)
        unfold InI at z21i z21e
        first | replace z21e := z21e (by omega) | clear z21e
        refine Tx.aload_n hC te_75_53 rfl ?_
        refine Tx.getR hC te_75_54 rfl rfl rfl ?_
        refine Tx.iload hC te_75_57 rfl ?_
        refine Tx.iald hC te_75_59 rfl (by omega) (fun v22 v22e v22i => ?_)
        unfold InI at v22i
        rw [hF_34 11 _ (by unfold pRe; omega)] at v22e
        refine Tx.iaddW hC te_75_60 (fun z23 z23i z23e => ?_)
        unfold InI at z23i z23e
        first | replace z23e := z23e (by omega) | clear z23e
        refine Tx.istore hC te_75_61 rfl ?_
        refine Tx.aload_n hC te_75_63 rfl ?_
        refine Tx.getR hC te_75_64 rfl rfl rfl ?_
        refine Tx.iload hC te_75_67 rfl ?_
        refine Tx.aload_n hC te_75_69 rfl ?_
        refine Tx.getR hC te_75_70 rfl rfl rfl ?_
        refine Tx.iload hC te_75_73 rfl ?_
        refine Tx.iald hC te_75_75 rfl (by omega) (fun v24 v24e v24i => ?_)
        unfold InI at v24i
        have vb : v24 = WM m_34 20 (mem 10 x4.toNat).toNat (mem 11 x4.toNat).toNat := by rw [v24e]; unfold WM; congr 1; omega
        refine Tx.aload_n hC te_75_76 rfl ?_
        refine Tx.getR hC te_75_77 rfl rfl rfl ?_
        refine Tx.iload hC te_75_80 rfl ?_
        refine Tx.iald hC te_75_82 rfl (by omega) (fun v25 v25e v25i => ?_)
        unfold InI at v25i
        rw [hF_34 13 _ (by unfold pRe; omega)] at v25e
        refine Tx.iload_n hC te_75_83 rfl ?_
        refine Tx.aload_n hC te_75_84 rfl ?_
        refine Tx.getR hC te_75_85 rfl rfl rfl ?_
        refine Tx.iload hC te_75_88 rfl ?_
        refine Tx.iald hC te_75_90 rfl (by omega) (fun v26 v26e v26i => ?_)
        unfold InI at v26i
        rw [hF_34 12 _ (by unfold pRe; omega)] at v26e
        have pm := dmul12 (d := d) (x := v26) (by omega) (by omega)
        have pe : d * mem 12 (Int.toNat x4) = d * v26 := by rw [v26e]
        refine Tx.imulW hC te_75_91 (fun z27 z27i z27e => ?_)
        unfold InI at z27i z27e
        first | replace z27e := z27e (by omega) | clear z27e
        refine Tx.isubW hC te_75_92 (fun z28 z28i z28e => ?_)
        unfold InI at z28i z28e
        first | replace z28e := z28e (by omega) | clear z28e
        refine Tx.statI hC te_75_93 (by decide) mt_40 (args := [.inl v24, .inl z28]) (rest := [.inl z23, .inr 20]) (c' := 0) (s' := 0) rfl rfl rfl rfl rfl rfl rfl ?_
        refine f_40q (fun r29 r29a r29b r29c r29i => ?_)
        unfold InI at r29i
        have c1 : (cwq mem 9 x4.toNat).1 = ((mem 10 x4.toNat).toNat : Int) := by show mem 10 x4.toNat = _; omega
        have c2 : (cwq mem 9 x4.toNat).2.1 = ((mem 11 x4.toNat).toNat : Int) := by show mem 11 x4.toNat = _; omega
        have c4 : (cwq mem 9 x4.toNat).2.2.2 - d * (cwq mem 9 x4.toNat).2.2.1 = mem 13 x4.toNat - d * mem 12 x4.toNat := rfl
        refine Tx.iast hC te_75_96 rfl (by omega) ?_
        have hF33 : Frm pRe mem (upm m_34 20 (Int.toNat z23) r29) := Frm.up hF_34 (by unfold pRe; omega)
        have hY35 : (upm m_34 20 (Int.toNat z23) r29) 19 1 = d := by rw [upm_ne (by omega)]; exact i34_2
        have hZ34 : (upm m_34 20 (Int.toNat z23) r29) 19 0 = mem 1 0 := by rw [upm_ne (by omega)]; exact i34_1
        have hI36 : FwE (cwq mem 9) d (mem 1 0).toNat 20 (-100000) (upm m_34 20 (Int.toNat z23) r29) (x4.toNat + 1) := FwE.step i34_3 (by omega) c1 c2 (by omega) (by omega) (by rw [c4]; omega) (by rw [c4]; omega)
        generalize upm m_34 20 (Int.toNat z23) r29 = m32 at hF33 hZ34 hY35 hI36 ⊢
        refine Tx.iincW hC te_75_97 rfl rfl (fun z37 z37i z37e => ?_)
        unfold InI at z37i z37e
        first | replace z37e := z37e (by omega) | clear z37e
        refine Tx.goto hC (t := 34) te_75_100 (by decide) ?_
        exact Tx.weak (by repeat' (first | exact trivial | exact rfl | constructor)) (ih_34 z37 m32 (by omega) (hZ34) (hY35) (by rw [show (z37).toNat = x4.toNat + 1 by omega]; exact hI36) (by omega) hF33)
  refine Tx.aload_n hC te_75_0 rfl ?_
  refine Tx.getI hC te_75_1 rfl rfl rfl (fun v38 v38e v38i => ?_)
  unfold InI at v38i
  refine Tx.iload_n hC te_75_4 rfl ?_
  refine Tx.icmp hC (t := 9) te_75_5 (by decide) (fun q39 => ?_) (fun q39 => ?_)
  · replace q39 : ¬ (v38 : Int) = d := q39
    refine Tx.aload_n hC te_75_9 rfl ?_
    refine Tx.iload_n hC te_75_10 rfl ?_
    refine Tx.putI hC te_75_11 rfl rfl rfl rfl ?_
    have hF41 : Frm pRe mem (upm mem 19 1 d) := Frm.up Frm.rf (by unfold pRe; omega)
    have hY43 : (upm mem 19 1 d) 19 1 = d := upm_eq
    generalize upm mem 19 1 d = m40 at hF41 hY43 ⊢
    refine Tx.aload_n hC te_75_14 rfl ?_
    refine Tx.aload_n hC te_75_15 rfl ?_
    refine Tx.getI hC te_75_16 rfl rfl rfl (fun v44 v44e v44i => ?_)
    unfold InI at v44i
    rw [hF41 1 _ (by unfold pRe; omega)] at v44e
    refine Tx.putI hC te_75_19 rfl rfl rfl rfl ?_
    have hF46 : Frm pRe mem (upm m40 19 0 v44) := Frm.up hF41 (by unfold pRe; omega)
    have hY48 : (upm m40 19 0 v44) 19 1 = d := by rw [upm_ne (by omega)]; exact hY43
    have hZ47 : (upm m40 19 0 v44) 19 0 = mem 1 0 := by rw [upm_eq]; omega
    generalize upm m40 19 0 v44 = m45 at hF46 hZ47 hY48 ⊢
    refine Tx.aload_n hC te_75_22 rfl ?_
    refine Tx.getR hC te_75_23 rfl rfl rfl ?_
    refine Tx.ldc hC (z := (-100000)) te_75_26 rfl rfl rfl rfl ?_
    refine Tx.statV hC te_75_28 (by decide) mt_76 (args := [.inr 20, .inl (-100000)]) (rest := []) (c' := 0) (s' := 0) rfl rfl rfl rfl rfl rfl rfl ?_
    refine CWV.q hC (f_76e (Z := 20) (zn := 64) rfl (by omega) (fun m50 hF51 r49a => ?_))
    have m50Z : m50 19 0 = mem 1 0 := by rw [hF51 19 0 (by omega)]; exact hZ47
    have m50Y : m50 19 1 = d := by rw [hF51 19 1 (by omega)]; exact hY48
    have m50I : FwE (cwq mem 9) d (mem 1 0).toNat 20 (-100000) m50 0 := FwE.ini (by omega) r49a
    have hF51n : Frm pRe mem m50 := Frm.cp hF46 hF51 (fun i => by unfold pRe; omega)
    refine Tx.iconst hC te_75_31 rfl ?_
    refine Tx.istore hC te_75_32 rfl ?_
    exact l_34 _ 0 m50 (by omega) (m50Z) (m50Y) (m50I) (Nat.lt_succ_self _) hF51n
  · replace q39 : ¬ (¬ (v38 : Int) = d) := q39
    exact Tx.vret hC te_75_8 rfl (show K mem from H _ Frm.rf hX (hX.resolve_left (by omega)).1 (by omega))
end
