/-! the run with unknown arguments stands for all runs -/
def vR (θ : Nat → Int32) (a : AV) (w : Value) : Prop := match a with
  | .inl v => w = v
  | .inr (0, r) => ∃ x : Int32, w = .int x ∧ r.1 ≤ x.toInt ∧ x.toInt ≤ r.2
  | .inr (t + 1, _) => w = .int (θ t)
def eR (θ : Nat → Int32) (env : EV) : Prop := ∀ t r, env[t]? = some r → r.1 ≤ (θ t).toInt ∧ (θ t).toInt ≤ r.2
def cR (θ : Nat → Int32) (x : AE) (y : PE) : Prop := match x, y with
  | .inl (0, l), .inl (0, n, .inl g) => n = l.length ∧ ∀ (j : Nat) (a : AV), l[j]? = some a → vR θ a (.int (g j))
  | .inl (1, l), .inl (1, n, .inr (.inl g)) => n = l.length ∧ ∀ (j : Nat) (a : AV), l[j]? = some a → vR θ a (.long (g j))
  | .inl (2, l), .inl (2, n, .inr (.inr (.inr (.inr g)))) => n = l.length ∧ ∀ (j : Nat) (a : AV), l[j]? = some a → vR θ a (va_rf (g j))
  | .inl (3, l), .inl (3, n, .inr (.inr (.inr (.inr g)))) => n = l.length ∧ ∀ (j : Nat) (a : AV), l[j]? = some a → vR θ a (va_rf (g j))
  | .inr (ci, fs), .inr (cj, gs) => cj = ci ∧ A2 (vR θ) fs gs
  | _, _ => False
def qR (θ : Nat → Int32) (q : Nat × AV) (q' : Nat × Value) : Prop := q'.1 = q.1 ∧ vR θ q.2 q'.2
def resR (θ : Nat → Int32) (a : Option AV ⊕ Nat) (r : Rs) : Prop := match a, r with
  | .inl v, .inl w => A2 (vR θ) v.toList w.toList
  | .inr e, .inr f => f = e
  | _, _ => False
def oR (θ : Nat → Int32) (o : AO) (r : Rs) (h : PH) : Prop := eR θ o.1 ∧ resR θ o.2.1 r ∧ A2 (cR θ) o.2.2 h
theorem i32_rng (x : Int32) : -2147483648 ≤ x.toInt ∧ x.toInt ≤ 2147483647 := ⟨by have := Int32.le_toInt x; omega, by have := Int32.toInt_lt x; omega⟩
theorem rng_of {θ : Nat → Int32} {env : EV} {a : AN} {w : Value} (he : eR θ env) (h : vR θ (.inr a) w) : ∃ x : Int32, w = .int x ∧ (aRng env a).1 ≤ x.toInt ∧ x.toInt ≤ (aRng env a).2 ∧ (∀ t, a.1 = t + 1 → x = θ t) := by
  obtain ⟨t, r⟩ := a
  cases t with
  | zero =>
    obtain ⟨x, h1, h2, h3⟩ := h
    exact ⟨x, h1, h2, h3, fun t ht => by cases ht⟩
  | succ t =>
    refine ⟨θ t, h, ?_, ?_, fun t' ht => by cases ht; rfl⟩
    · show (env.getD t iTop).1 ≤ _
      rw [List.getD]
      cases hg : env[t]? with
      | none => exact (i32_rng (θ t)).1
      | some r' => exact (he t r' hg).1
    · show _ ≤ (env.getD t iTop).2
      rw [List.getD]
      cases hg : env[t]? with
      | none => exact (i32_rng (θ t)).2
      | some r' => exact (he t r' hg).2
theorem known {x : Int32} {a b : Int} (h1 : a ≤ x.toInt) (h2 : x.toInt ≤ b) (h : a = b) : x = Int32.ofInt a := by
  have h3 : x.toInt = a := by omega
  rw [← h3, Int32.ofInt_toInt]
theorem vR_K {θ : Nat → Int32} (x : Int32) : vR θ (aK x.toInt) (.int x) := ⟨x, rfl, Int.le_refl _, Int.le_refl _⟩
theorem vR_top {θ : Nat → Int32} (x : Int32) : vR θ (.inr (0, iTop)) (.int x) := ⟨x, rfl, (i32_rng x).1, (i32_rng x).2⟩
theorem vR_in {θ : Nat → Int32} {x : Int32} {lo hi : Int} (h1 : lo ≤ x.toInt) (h2 : x.toInt ≤ hi) : vR θ (.inr (0, lo, hi)) (.int x) := ⟨x, rfl, h1, h2⟩
theorem vR.cat {θ : Nat → Int32} {a : AV} {w : Value} (h : vR θ a w) : w.category = aCat a := by
  rcases a with v | ⟨_ | t, r⟩
  · rw [show w = v from h]; rfl
  · obtain ⟨x, rfl, -⟩ := h; rfl
  · rw [show w = .int (θ t) from h]; rfl
theorem A2.acats {θ : Nat → Int32} : ∀ {l : List AV} {l' : List Value}, A2 (vR θ) l l' → l'.map Value.category = l.map aCat
  | [], _, h => by rw [show _ = [] from h]; rfl
  | a :: as, _, ⟨_, _, e, q, t⟩ => by subst e; simp [q.cat, A2.acats t]
theorem A2.qfilt {θ : Nat → Int32} {P : Nat × AV → Bool} {P' : Nat × Value → Bool} (hP : ∀ q q', qR θ q q' → P' q' = P q) : ∀ {l : AL} {l' : LV}, A2 (qR θ) l l' → A2 (qR θ) (l.filter P) (l'.filter P')
  | [], _, h => by rw [show _ = [] from h]; rfl
  | a :: as, _, ⟨c, cs, e, q, t⟩ => by
    subst e
    rw [List.filter_cons, List.filter_cons, hP _ _ q]
    by_cases hp : P a = true
    · rw [if_pos hp, if_pos hp]; exact ⟨c, _, rfl, q, A2.qfilt hP t⟩
    · rw [if_neg hp, if_neg hp]; exact A2.qfilt hP t
theorem as1_R {θ : Nat → Int32} {lv : AL} {lv' : LV} (h : A2 (qR θ) lv lv') (i : Nat) {v : AV} {w : Value} (hv : vR θ v w) : A2 (qR θ) (as1 lv i v) (px_s1 lv' i w) :=
  ⟨(i, w), _, rfl, ⟨rfl, hv⟩, A2.qfilt (fun q q' hq => by rw [hq.1, hq.2.cat]) h⟩
theorem ag_R {θ : Nat → Int32} {i : Nat} {v : AV} : ∀ {lv : AL} {lv' : LV}, A2 (qR θ) lv lv' → ag lv i = some v → ∃ w : Value, px_g lv' i = some w ∧ vR θ v w
  | [], _, _, h => by simp [ag] at h
  | a :: as, _, ⟨c, cs, e, q, t⟩, h => by
    subst e
    by_cases ha : (a.1 == i) = true
    · simp [ag, List.find?, ha] at h
      subst h
      refine ⟨c.2, ?_, q.2⟩
      simp [px_g, List.find?, q.1, ha]
    · have h' : ag as i = some v := by
        simp only [ag, List.find?] at h ⊢
        simpa [ha] using h
      obtain ⟨w, h1, h2⟩ := ag_R t h'
      refine ⟨w, ?_, h2⟩
      have hc : (c.1 == i) = false := by rw [q.1]; simpa using ha
      simp only [px_g, List.find?, hc] at h1 ⊢
      exact h1
theorem aArgs_R {θ : Nat → Int32} : ∀ {l : List AV} {l' : List Value} (i : Nat), A2 (vR θ) l l' → A2 (qR θ) (aArgs i l) (lv_args i l')
  | [], _, i, h => by rw [show _ = [] from h]; rfl
  | a :: as, _, i, ⟨c, cs, e, q, t⟩ => by
    subst e
    refine ⟨(i, c), _, rfl, ⟨rfl, q⟩, ?_⟩
    rw [q.cat]
    exact aArgs_R _ t
theorem eR.set {θ : Nat → Int32} {env : EV} (he : eR θ env) {t : Nat} {q : Int × Int} (h : q.1 ≤ (θ t).toInt ∧ (θ t).toInt ≤ q.2) : eR θ (env.set t q) := by
  intro t' r hr
  by_cases ht : t = t'
  · subst ht
    rw [List.getElem?_set] at hr
    simp only [if_true] at hr
    split at hr
    · cases hr; exact h
    · cases hr
  · rw [List.getElem?_set_ne ht] at hr
    exact he t' r hr
theorem cutAt_R {θ : Nat → Int32} {env : EV} (he : eR θ env) {t : Nat} {z : Int} (h : 1 < (cutAt env t z).length) : ∃ env' ∈ cutAt env t z, eR θ env' := by
  unfold cutAt at h ⊢
  cases hg : env[t]? with
  | none => rw [hg] at h; simp at h
  | some r =>
    obtain ⟨h1, h2⟩ := he t r hg
    have key : ∃ q ∈ [(r.1, min (z - 1) r.2), (max z r.1, min z r.2), (max (z + 1) r.1, r.2)], (q.1 ≤ (θ t).toInt ∧ (θ t).toInt ≤ q.2) := by
      rcases Int.lt_trichotomy (θ t).toInt z with q | q | q
      · exact ⟨_, List.mem_cons_self, h1, by show _ ≤ min _ _; omega⟩
      · exact ⟨_, List.mem_cons_of_mem _ List.mem_cons_self, by show max _ _ ≤ _; omega, by show _ ≤ min _ _; omega⟩
      · exact ⟨_, List.mem_cons_of_mem _ (List.mem_cons_of_mem _ List.mem_cons_self), by show max _ _ ≤ _; omega, h2⟩
    obtain ⟨q, hq, hq2⟩ := key
    exact ⟨env.set t q, List.mem_map_of_mem (List.mem_filter.mpr ⟨hq, by simp; omega⟩), he.set hq2⟩
theorem cutAll_R {θ : Nat → Int32} {env : EV} (he : eR θ env) {t : Nat} (h : 1 < (cutAll env t).length) : ∃ env' ∈ cutAll env t, eR θ env' := by
  unfold cutAll at h ⊢
  cases hg : env[t]? with
  | none => rw [hg] at h; simp at h
  | some r =>
    rw [hg] at h
    simp only at h ⊢
    obtain ⟨h1, h2⟩ := he t r hg
    split at h
    · rename_i h64
      rw [if_pos h64]
      refine ⟨env.set t (r.1 + (((θ t).toInt - r.1).toNat : Int), r.1 + (((θ t).toInt - r.1).toNat : Int)), List.mem_map.mpr ⟨((θ t).toInt - r.1).toNat, ?_, rfl⟩, he.set ?_⟩
      · rw [List.mem_range]; omega
      · constructor
        · show r.1 + _ ≤ _; omega
        · show _ ≤ r.1 + _; omega
    · simp at h
/-- what an answer of aI owes -/
def aOK (θ : Nat → Int32) (C : Nat → List Value → PH → (Rs → PH → Prop) → Prop) (S : Nat × (Nat → Int32)) (M : PM) (hd : List (Nat × Nat × Nat × Int)) (Q : Rs → PH → Prop) (K : Kt) (te : TE) (lv' : LV) (st' : List Value) (h' : PH) (c s : Nat) (r : AR) : Prop := match r with
  | none => True
  | some (.inl envs) => ∃ env' ∈ envs, eR θ env'
  | some (.inr (.inl (pc2, lv2, st2, h2, c2, s2))) => (∀ lv2' st2' h2', A2 (qR θ) lv2 lv2' → A2 (vR θ) st2 st2' → A2 (cR θ) h2 h2' → K pc2 lv2' st2' h2' c2 s2) → pmI C S M hd Q K te lv' st' h' c s
  | some (.inr (.inr (.inl (μ, virt)))) => p_call C M hd Q K te.1 μ virt lv' st' h' c s → pmI C S M hd Q K te lv' st' h' c s
  | some (.inr (.inr (.inr res))) => (∀ r, resR θ res r → Q r h') → pmI C S M hd Q K te lv' st' h' c s
section AOK
variable {θ : Nat → Int32} {C : Nat → List Value → PH → (Rs → PH → Prop) → Prop} {S : Nat × (Nat → Int32)} {M : PM} {hd : List (Nat × Nat × Nat × Int)} {Q : Rs → PH → Prop} {K : Kt} {te : TE} {lv' : LV} {st' : List Value} {h' : PH} {c s : Nat} {env : EV}
theorem aOK.go {pc2 : Nat} {lv2 : AL} {st2 : List AV} {h2 : AH} {c2 s2 : Nat} (H : (∀ lv2' st2' h2', A2 (qR θ) lv2 lv2' → A2 (vR θ) st2 st2' → A2 (cR θ) h2 h2' → K pc2 lv2' st2' h2' c2 s2) → pmI C S M hd Q K te lv' st' h' c s) : aOK θ C S M hd Q K te lv' st' h' c s (rGo pc2 lv2 st2 h2 c2 s2) := H
theorem aOK.cutAt (he : eR θ env) (t : Nat) (z : Int) : aOK θ C S M hd Q K te lv' st' h' c s (rCut (cutAt env t z)) := by
  unfold rCut
  split
  · trivial
  · exact cutAt_R he (by omega)
theorem aOK.cutAll (he : eR θ env) (t : Nat) : aOK θ C S M hd Q K te lv' st' h' c s (rCut (cutAll env t)) := by
  unfold rCut
  split
  · trivial
  · exact cutAll_R he (by omega)
theorem aCmp_R {cc : ClassFile.Cond} {a b : Int × Int} {x y : Int32} (h1 : a.1 ≤ x.toInt) (h2 : x.toInt ≤ a.2) (h3 : b.1 ≤ y.toInt) (h4 : y.toInt ≤ b.2) {v : Bool} (h : aCmp cc a b = some v) : ccI cc x y ↔ v = true := by
  unfold aCmp at h
  have hne : x.toInt ≠ y.toInt → ¬ x = y := fun q e => q (by rw [e])
  have heq : x.toInt = y.toInt → x = y := fun q => by rw [← Int32.ofInt_toInt x, q, Int32.ofInt_toInt]
  cases cc <;> simp only at h <;> (split at h) <;> (try (split at h)) <;> (first | (cases h; done) | skip) <;> cases h <;> simp only [ccI, Int32.lt_iff_toInt_lt, Int32.le_iff_toInt_le]
  · simp; exact hne (by omega)
  · simp; exact heq (by omega)
  · simp; exact hne (by omega)
  · simp; exact heq (by omega)
  all_goals (simp; omega)
theorem aOK.br (he : eR θ env) {cc : ClassFile.Cond} {x y : AN} {xv yv : Int32} (hx : vR θ (.inr x) (.int xv)) (hy : vR θ (.inr y) (.int yv)) {t f : AR} (ht : ccI cc xv yv → aOK θ C S M hd Q K te lv' st' h' c s t) (hf : ¬ ccI cc xv yv → aOK θ C S M hd Q K te lv' st' h' c s f) : aOK θ C S M hd Q K te lv' st' h' c s (aBr env cc x y t f) := by
  obtain ⟨x1, e1, a1, a2, -⟩ := rng_of he hx
  obtain ⟨y1, e2, b1, b2, -⟩ := rng_of he hy
  cases e1
  cases e2
  unfold aBr
  cases hcmp : aCmp cc (aRng env x) (aRng env y) with
  | some v =>
    have h9 := aCmp_R a1 a2 b1 b2 hcmp
    cases v with
    | true => exact ht (h9.mpr rfl)
    | false => exact hf (fun q => by have := h9.mp q; cases this)
  | none =>
    simp only
    split
    · split
      · exact aOK.cutAt he _ _
      · exact aOK.cutAll he _
    · split
      · exact aOK.cutAt he _ _
      · exact aOK.cutAll he _
    · trivial
theorem aOK.any (he : eR θ env) {x y : AN} {xv yv : Int32} (hx : vR θ (.inr x) (.int xv)) (hy : vR θ (.inr y) (.int yv)) {f : Int32 → Int32 → Int32} {k : AV → AR} (hk : ∀ v, vR θ v (.int (f xv yv)) → aOK θ C S M hd Q K te lv' st' h' c s (k v)) : aOK θ C S M hd Q K te lv' st' h' c s (aAny env x y f k) := by
  obtain ⟨x1, e1, a1, a2, -⟩ := rng_of he hx
  obtain ⟨y1, e2, b1, b2, -⟩ := rng_of he hy
  cases e1
  cases e2
  unfold aAny
  simp only
  split
  · rename_i h9
    refine hk _ ?_
    have e3 : bin f (aRng env x).1 (aRng env y).1 = (f xv yv).toInt := by unfold bin; rw [← known a1 a2 h9.1, ← known b1 b2 h9.2]
    rw [e3]
    exact vR_K _
  · exact hk _ (vR_top _)
theorem aOK.sum {sp : Bool} (he : eR θ env) {x y : AN} {xv yv : Int32} (hx : vR θ (.inr x) (.int xv)) (hy : vR θ (.inr y) (.int yv)) {f : Int32 → Int32 → Int32} {lo hi : Int} (hf : (aRng env x).1 ≤ xv.toInt → xv.toInt ≤ (aRng env x).2 → (aRng env y).1 ≤ yv.toInt → yv.toInt ≤ (aRng env y).2 → -2147483648 ≤ lo → hi ≤ 2147483647 → lo ≤ (f xv yv).toInt ∧ (f xv yv).toInt ≤ hi) {k : AV → AR} (hk : ∀ v, vR θ v (.int (f xv yv)) → aOK θ C S M hd Q K te lv' st' h' c s (k v)) : aOK θ C S M hd Q K te lv' st' h' c s (aSum sp env x y lo hi f k) := by
  obtain ⟨x1, e1, a1, a2, -⟩ := rng_of he hx
  obtain ⟨y1, e2, b1, b2, -⟩ := rng_of he hy
  cases e1
  cases e2
  unfold aSum
  simp only
  split
  · rename_i h9
    refine hk _ ?_
    have e3 : bin f (aRng env x).1 (aRng env y).1 = (f xv yv).toInt := by unfold bin; rw [← known a1 a2 h9.1, ← known b1 b2 h9.2]
    rw [e3]
    exact vR_K _
  · split
    · exact aOK.cutAll he _
    · split
      · exact aOK.cutAll he _
      · split
        · rename_i h9
          simp only [inI, Bool.and_eq_true, decide_eq_true_eq] at h9
          obtain ⟨g1, g2⟩ := hf a1 a2 b1 b2 h9.1 h9.2
          exact hk _ (vR_in g1 g2)
        · exact hk _ (vR_top _)
theorem aOK.idx (he : eR θ env) {x : AN} {xv : Int32} (hx : vR θ (.inr x) (.int xv)) {n : Nat} {k : Nat → AR} (hk : ∀ j, j < n → xv.toNatClampNeg = j → vp_in xv n → aOK θ C S M hd Q K te lv' st' h' c s (k j)) : aOK θ C S M hd Q K te lv' st' h' c s (aIdx env x n k) := by
  obtain ⟨x1, e1, a1, a2, -⟩ := rng_of he hx
  cases e1
  unfold aIdx
  simp only
  split
  · rename_i h9
    split
    · rename_i h10
      have h3 : xv.toInt = (aRng env x).1 := by omega
      refine hk _ (by omega) ?_ (vp_in_iff.mpr ⟨by omega, by omega⟩)
      show xv.toInt.toNat = _
      rw [h3]
    · trivial
  · split
    · trivial
    · exact aOK.cutAll he _
end AOK
