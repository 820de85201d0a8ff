/-! every instruction, with unknown arguments -/
theorem s_int {θ : Nat → Int32} {env : EV} (he : eR θ env) {x : AN} {r : List AV} {st' : List Value} (h : A2 (vR θ) (.inr x :: r) st') : ∃ xv r', st' = .int xv :: r' ∧ vR θ (.inr x) (.int xv) ∧ A2 (vR θ) r r' := by
  obtain ⟨w, r', rfl, hw, hr⟩ := h
  obtain ⟨xv, rfl, -⟩ := rng_of he hw
  exact ⟨xv, r', rfl, hw, hr⟩
theorem s_val {θ : Nat → Int32} {v : Value} {r : List AV} {st' : List Value} (h : A2 (vR θ) (.inl v :: r) st') : ∃ r', st' = v :: r' ∧ A2 (vR θ) r r' := by
  obtain ⟨w, r', rfl, hw, hr⟩ := h
  exact ⟨r', by rw [show w = v from hw], hr⟩
theorem c_0 {θ : Nat → Int32} {l : List AV} {y : PE} (h : cR θ (.inl (0, l)) y) : ∃ g, y = .inl (0, l.length, .inl g) ∧ ∀ (j : Nat) (a : AV), l[j]? = some a → vR θ a (.int (g j)) := by
  rcases y with ⟨t, n, g | g | g | g | g⟩ | ⟨ci, fs⟩
  · rcases t with _ | t
    · obtain ⟨rfl, h⟩ := h; exact ⟨g, rfl, h⟩
    · exact h.elim
  all_goals (first | exact h.elim | (rcases t with _ | _ | _ | _ | t <;> exact h.elim))
theorem c_1 {θ : Nat → Int32} {l : List AV} {y : PE} (h : cR θ (.inl (1, l)) y) : ∃ g, y = .inl (1, l.length, .inr (.inl g)) ∧ ∀ (j : Nat) (a : AV), l[j]? = some a → vR θ a (.long (g j)) := by
  rcases y with ⟨t, n, g | g | g | g | g⟩ | ⟨ci, fs⟩
  · rcases t with _ | _ | t <;> exact h.elim
  · rcases t with _ | _ | t
    · exact h.elim
    · obtain ⟨rfl, h⟩ := h; exact ⟨g, rfl, h⟩
    · exact h.elim
  all_goals (first | exact h.elim | (rcases t with _ | _ | _ | _ | t <;> exact h.elim))
theorem c_2 {θ : Nat → Int32} {l : List AV} {y : PE} (h : cR θ (.inl (2, l)) y) : ∃ g, y = .inl (2, l.length, .inr (.inr (.inr (.inr g)))) ∧ ∀ (j : Nat) (a : AV), l[j]? = some a → vR θ a (va_rf (g j)) := by
  rcases y with ⟨t, n, g | g | g | g | g⟩ | ⟨ci, fs⟩
  · rcases t with _ | _ | _ | t <;> exact h.elim
  · rcases t with _ | _ | _ | t <;> exact h.elim
  · rcases t with _ | _ | _ | t <;> exact h.elim
  · rcases t with _ | _ | _ | t <;> exact h.elim
  · rcases t with _ | _ | _ | t
    · exact h.elim
    · exact h.elim
    · obtain ⟨rfl, h⟩ := h; exact ⟨g, rfl, h⟩
    · exact h.elim
  · exact h.elim
theorem c_3 {θ : Nat → Int32} {l : List AV} {y : PE} (h : cR θ (.inl (3, l)) y) : ∃ g, y = .inl (3, l.length, .inr (.inr (.inr (.inr g)))) ∧ ∀ (j : Nat) (a : AV), l[j]? = some a → vR θ a (va_rf (g j)) := by
  rcases y with ⟨t, n, g | g | g | g | g⟩ | ⟨ci, fs⟩
  · rcases t with _ | _ | _ | _ | t <;> exact h.elim
  · rcases t with _ | _ | _ | _ | t <;> exact h.elim
  · rcases t with _ | _ | _ | _ | t <;> exact h.elim
  · rcases t with _ | _ | _ | _ | t <;> exact h.elim
  · rcases t with _ | _ | _ | _ | t
    · exact h.elim
    · exact h.elim
    · exact h.elim
    · obtain ⟨rfl, h⟩ := h; exact ⟨g, rfl, h⟩
    · exact h.elim
  · exact h.elim
theorem c_o {θ : Nat → Int32} {ci : Nat} {fs : List AV} {y : PE} (h : cR θ (.inr (ci, fs)) y) : ∃ gs, y = .inr (ci, gs) ∧ A2 (vR θ) fs gs := by
  rcases y with ⟨t, n, g⟩ | ⟨cj, gs⟩
  · exact (show False from by rcases t with _ | _ | _ | _ | t <;> rcases g with g | g | g | g | g <;> exact h).elim
  · obtain ⟨rfl, h⟩ := h; exact ⟨gs, rfl, h⟩
theorem c_set0 {θ : Nat → Int32} {l : List AV} {g : Nat → Int32} (hg : ∀ (j : Nat) (a : AV), l[j]? = some a → vR θ a (.int (g j))) {j : Nat} {v : AV} {x : Int32} (hv : vR θ v (.int x)) : cR θ (.inl (0, l.set j v)) (.inl (0, l.length, .inl (upd g j x))) := by
  refine ⟨by simp, fun i a hi => ?_⟩
  by_cases h : j = i
  · subst h
    rw [List.getElem?_set] at hi
    simp only [if_true] at hi
    split at hi
    · cases hi; rw [show upd g j x j = x from if_pos rfl]; exact hv
    · cases hi
  · rw [List.getElem?_set_ne h] at hi
    rw [show upd g j x i = g i from if_neg (fun q => h q.symm)]
    exact hg i a hi
theorem c_set1 {θ : Nat → Int32} {l : List AV} {g : Nat → Int64} (hg : ∀ (j : Nat) (a : AV), l[j]? = some a → vR θ a (.long (g j))) {j : Nat} {x : Int64} : cR θ (.inl (1, l.set j (.inl (.long x)))) (.inl (1, l.length, .inr (.inl (vp_updL g j x)))) := by
  refine ⟨by simp, fun i a hi => ?_⟩
  by_cases h : j = i
  · subst h
    rw [List.getElem?_set] at hi
    simp only [if_true] at hi
    split at hi
    · cases hi; rw [show vp_updL g j x j = x from if_pos rfl]; rfl
    · cases hi
  · rw [List.getElem?_set_ne h] at hi
    rw [show vp_updL g j x i = g i from if_neg (fun q => h q.symm)]
    exact hg i a hi
theorem c_set2 {θ : Nat → Int32} {l : List AV} {g : Nat → Option Nat} (hg : ∀ (j : Nat) (a : AV), l[j]? = some a → vR θ a (va_rf (g j))) {j v : Nat} : cR θ (.inl (2, l.set j (.inl (.ref v)))) (.inl (2, l.length, .inr (.inr (.inr (.inr (va_up g j (some v))))))) := by
  refine ⟨by simp, fun i a hi => ?_⟩
  by_cases h : j = i
  · subst h
    rw [List.getElem?_set] at hi
    simp only [if_true] at hi
    split at hi
    · cases hi; rw [show va_up g j (some v) j = some v from if_pos rfl]; rfl
    · cases hi
  · rw [List.getElem?_set_ne h] at hi
    rw [show va_up g j (some v) i = g i from if_neg (fun q => h q.symm)]
    exact hg i a hi
theorem bm {a : Int} (h1 : -2147483648 ≤ a) (h2 : a ≤ 2147483647) : a.bmod (2 ^ 32) = a := by
  rw [Int.bmod_def]
  omega
theorem rf_ref {o : Option Nat} {a : Nat} (h : vR (fun _ => 0) (.inl (.ref a)) (va_rf o)) : o = some a := by
  cases o with
  | none => cases (show va_rf none = .ref a from h)
  | some b => cases (show va_rf (some b) = .ref a from h); rfl
theorem dflt_R {θ : Nat → Int32} (ci : Nat) : A2 (vR θ) ((dflt ci).map (fun v => match v with | .int x => aK x.toInt | v => .inl v)) (dflt ci) := by
  generalize dflt ci = l
  induction l with
  | nil => rfl
  | cons v l ih =>
    refine ⟨v, l, rfl, ?_, ih⟩
    cases v <;> first | exact vR_K _ | rfl
theorem rep_0 {θ : Nat → Int32} (n : Nat) : cR θ (.inl (0, List.replicate n (aK 0))) (.inl (0, n, .inl (fun _ => 0))) := by
  refine ⟨by simp, fun j a hj => ?_⟩
  rw [List.getElem?_replicate] at hj
  split at hj
  · cases hj; exact vR_K 0
  · cases hj
theorem iald_mk {S : Nat × (Nat → Int32)} {h : PH} {i : Int32} {a n : Nat} {g : Nat → Int32} {r : List Value} {k : List Value → Prop} (h1 : h[a]? = some (.inl (0, n, .inl g))) (h2 : vp_in i n) (h3 : k (.int (g i.toNatClampNeg) :: r)) : p_iald S h (.int i :: .ref a :: r) k := by
  simp only [p_iald, h1]; exact ⟨h2, h3⟩
theorem iast_mk {h : PH} {x i : Int32} {a n : Nat} {g : Nat → Int32} {r : List Value} {k : List Value → PH → Prop} (h1 : h[a]? = some (.inl (0, n, .inl g))) (h2 : vp_in i n) (h3 : k r (h.set a (.inl (0, n, .inl (upd g i.toNatClampNeg x))))) : p_iast h (.int x :: .int i :: .ref a :: r) k := by
  simp only [p_iast, h1]; exact ⟨h2, h3⟩
theorem lald_mk {h : PH} {i : Int32} {a n : Nat} {g : Nat → Int64} {r : List Value} {k : List Value → Prop} (h1 : h[a]? = some (.inl (1, n, .inr (.inl g)))) (h2 : vp_in i n) (h3 : k (.long (g i.toNatClampNeg) :: r)) : p_lald h (.int i :: .ref a :: r) k := by
  simp only [p_lald, h1]; exact ⟨h2, h3⟩
theorem last_mk {h : PH} {x : Int64} {i : Int32} {a n : Nat} {g : Nat → Int64} {r : List Value} {k : List Value → PH → Prop} (h1 : h[a]? = some (.inl (1, n, .inr (.inl g)))) (h2 : vp_in i n) (h3 : k r (h.set a (.inl (1, n, .inr (.inl (vp_updL g i.toNatClampNeg x)))))) : p_last h (.long x :: .int i :: .ref a :: r) k := by
  simp only [p_last, h1]; exact ⟨h2, h3⟩
theorem aald_mk {h : PH} {i : Int32} {a n t q : Nat} {g : Nat → Option Nat} {r : List Value} {k : List Value → Prop} (h1 : h[a]? = some (.inl (t, n, .inr (.inr (.inr (.inr g)))))) (ht : t = 2 ∨ t = 3) (h2 : vp_in i n) (hq : g i.toNatClampNeg = some q) (h3 : k (.ref q :: r)) : p_aald h (.int i :: .ref a :: r) k := by
  simp only [p_aald, h1]; exact ⟨ht, h2, q, hq, h3⟩
theorem aast_mk {h : PH} {v : Nat} {i : Int32} {a n : Nat} {g : Nat → Option Nat} {fs : List Value} {r : List Value} {k : List Value → PH → Prop} (h1 : h[a]? = some (.inl (2, n, .inr (.inr (.inr (.inr g)))))) (hv : h[v]? = some (.inr (1, fs))) (h2 : vp_in i n) (h3 : k r (h.set a (.inl (2, n, .inr (.inr (.inr (.inr (va_up g i.toNatClampNeg (some v))))))))) : p_aast h (.ref v :: .int i :: .ref a :: r) k := by
  simp only [p_aast, h1, hv]; exact ⟨h2, h3⟩
theorem alen_mk {S : Nat × (Nat → Int32)} {h : PH} {a t : Nat} {x : vp_A} {r : List Value} {k : List Value → Prop} (h1 : h[a]? = some (.inl (t, x))) (ht : t < 4) (h3 : k (.int (Int32.ofNat x.1) :: r)) : p_alen S h (.ref a :: r) k := by
  simp only [p_alen, h1]; exact ⟨ht, h3⟩
theorem get_mk {h : PH} {ci f a : Nat} {fs : List Value} {v : Value} {r : List Value} {k : List Value → Prop} (h1 : h[a]? = some (.inr (ci, fs))) (hf : f < fnum ci) (hv : fs[f]? = some v) (h3 : k (v :: r)) : p_get h ci f (.ref a :: r) k := by
  simp only [p_get, h1]; exact ⟨trivial, hf, v, hv, h3⟩
theorem put_mk {h : PH} {ci f a : Nat} {fs : List Value} {v : Value} {r : List Value} {k : List Value → PH → Prop} (h1 : h[a]? = some (.inr (ci, fs))) (hf : f < fnum ci) (hl : f < fs.length) (hn : narrow (ftyX ci f) v = v) (hg : fits (ftyX ci f) v = true) (h3 : k r (h.set a (.inr (ci, fs.set f v)))) : p_put h ci f (v :: .ref a :: r) k := by
  simp only [p_put, h1]; exact ⟨trivial, hf, hl, hn, hg, h3⟩
theorem copy_mk {h : PH} {n dp sp : Int32} {a1 a0 n0 n1 : Nat} {f g : Nat → Int32} {r : List Value} {k : List Value → PH → Prop} (h0 : h[a0]? = some (.inl (0, n0, .inl f))) (h1 : h[a1]? = some (.inl (0, n1, .inl g))) (q1 : ¬ sp < 0) (q2 : ¬ dp < 0) (q3 : ¬ n < 0) (q4 : sp.toNatClampNeg + n.toNatClampNeg ≤ n0) (q5 : dp.toNatClampNeg + n.toNatClampNeg ≤ n1) (h3 : k r (h.set a1 (.inl (0, n1, .inl (va_cpy f g sp.toNatClampNeg dp.toNatClampNeg n.toNatClampNeg))))) : p_copy h (.int n :: .int dp :: .ref a1 :: .int sp :: .ref a0 :: r) k := by
  simp only [p_copy, h0, h1]; exact ⟨q1, q2, q3, q4, q5, h3⟩
theorem rf_some {θ : Nat → Int32} {o : Option Nat} {a : Nat} (h : vR θ (.inl (.ref a)) (va_rf o)) : o = some a := by
  cases o with
  | none => cases (show va_rf none = .ref a from h)
  | some b => cases (show va_rf (some b) = .ref a from h); rfl
theorem bin_R {θ : Nat → Int32} {env : EV} (he : eR θ env) {x y : AN} {xv yv : Int32} (hx : vR θ (.inr x) (.int xv)) (hy : vR θ (.inr y) (.int yv)) {f : Int32 → Int32 → Int32} (h9 : (aRng env x).1 = (aRng env x).2 ∧ (aRng env y).1 = (aRng env y).2) : vR θ (aK (bin f (aRng env x).1 (aRng env y).1)) (.int (f xv yv)) := by
  obtain ⟨x1, e1, a1, a2, -⟩ := rng_of he hx
  obtain ⟨y1, e2, b1, b2, -⟩ := rng_of he hy
  cases e1
  cases e2
  have e3 : bin f (aRng env x).1 (aRng env y).1 = (f xv yv).toInt := by unfold bin; rw [← known a1 a2 h9.1, ← known b1 b2 h9.2]
  rw [e3]
  exact vR_K _
theorem seg {a b x y : Int} (h1 : a ≤ x) (h2 : x ≤ b) : (a * y ≤ x * y ∧ x * y ≤ b * y) ∨ (b * y ≤ x * y ∧ x * y ≤ a * y) := by
  rcases Int.le_total 0 y with h | h
  · exact Or.inl ⟨Int.mul_le_mul_of_nonneg_right h1 h, Int.mul_le_mul_of_nonneg_right h2 h⟩
  · exact Or.inr ⟨Int.mul_le_mul_of_nonpos_right h2 h, Int.mul_le_mul_of_nonpos_right h1 h⟩
theorem mul_rng {a b c d x y : Int} (h1 : a ≤ x) (h2 : x ≤ b) (h3 : c ≤ y) (h4 : y ≤ d) : lo4 (a * c) (a * d) (b * c) (b * d) ≤ x * y ∧ x * y ≤ hi4 (a * c) (a * d) (b * c) (b * d) := by
  have s1 := seg (y := y) h1 h2
  have s2 := seg (y := a) h3 h4
  have s3 := seg (y := b) h3 h4
  rw [Int.mul_comm c a, Int.mul_comm y a, Int.mul_comm d a] at s2
  rw [Int.mul_comm c b, Int.mul_comm y b, Int.mul_comm d b] at s3
  unfold lo4 hi4
  omega
theorem nz {θ : Nat → Int32} {env : EV} (he : eR θ env) {y : AN} {yv : Int32} (hy : vR θ (.inr y) (.int yv)) (h : 0 < (aRng env y).1 ∨ (aRng env y).2 < 0) : ¬ yv = 0 := by
  obtain ⟨y1, e2, b1, b2, -⟩ := rng_of he hy
  cases e2
  intro q
  subst q
  have : (0 : Int32).toInt = 0 := by decide
  omega
theorem bit_of {θ : Nat → Int32} {env : EV} (he : eR θ env) {y : AN} {yv : Int32} (hy : vR θ (.inr y) (.int yv)) (h : (aRng env y).1 = (aRng env y).2 ∧ ((aRng env y).1 = 0 ∨ (aRng env y).1 = 1)) : yv = 0 ∨ yv = 1 := by
  obtain ⟨y1, e2, b1, b2, -⟩ := rng_of he hy
  cases e2
  have := known b1 b2 h.1
  rcases h.2 with q | q
  · left; rw [this, q]; rfl
  · right; rw [this, q]; rfl
theorem ofNat_R {θ : Nat → Int32} {n : Nat} (h : n < 2147483648) : vR θ (aK (n : Int)) (.int (Int32.ofNat n)) := by
  have e : (Int32.ofNat n).toInt = (n : Int) := by
    exact Int32.toInt_ofNat_of_lt (by omega)
  rw [← e]
  exact vR_K _
theorem exact_R {θ : Nat → Int32} {x y : Int} {xv : Int32} (h : vR θ (.inr (0, x, y)) (.int xv)) (h1 : x = y) (h0 : 0 ≤ x) : ¬ xv < 0 ∧ xv.toNatClampNeg = x.toNat := by
  obtain ⟨x1, e, a1, a2⟩ := h
  cases e
  subst h1
  have h3 : xv.toInt = x := by
    have a1' : x ≤ xv.toInt := a1
    have a2' : xv.toInt ≤ x := a2
    omega
  refine ⟨fun q => ?_, ?_⟩
  · rw [Int32.lt_iff_toInt_lt] at q
    have : (0 : Int32).toInt = 0 := by decide
    omega
  · show xv.toInt.toNat = _
    rw [h3]
theorem zero_R {θ : Nat → Int32} : vR θ (.inr (0, 0, 0)) (.int 0) := ⟨0, rfl, by decide, by decide⟩
theorem rep_1 {θ : Nat → Int32} (n : Nat) : cR θ (.inl (1, List.replicate n (.inl (.long 0)))) (.inl (1, n, .inr (.inl (fun _ => 0)))) := by
  refine ⟨by simp, fun j a hj => ?_⟩
  rw [List.getElem?_replicate] at hj
  split at hj
  · cases hj; rfl
  · cases hj
theorem rep_2 {θ : Nat → Int32} (n : Nat) : cR θ (.inl (2, List.replicate n (.inl .null))) (.inl (2, n, .inr (.inr (.inr (.inr (fun _ => none)))))) := by
  refine ⟨by simp, fun j a hj => ?_⟩
  rw [List.getElem?_replicate] at hj
  split at hj
  · cases hj; rfl
  · cases hj
theorem rep_3 {θ : Nat → Int32} (n m : Nat) : cR θ (.inl (3, (List.range n).map (fun i => .inl (.ref (m + 1 + i))))) (.inl (3, n, .inr (.inr (.inr (.inr (fun i => if i < n then some (m + 1 + i) else none)))))) := by
  refine ⟨by simp, fun j a hj => ?_⟩
  rw [List.getElem?_map] at hj
  by_cases hjn : j < n
  · rw [List.getElem?_range hjn] at hj
    cases hj
    show vR θ _ (va_rf (if j < n then some (m + 1 + j) else none))
    rw [if_pos hjn]
    rfl
  · rw [List.getElem?_eq_none (by simpa using hjn)] at hj
    cases hj
theorem cpy_R {θ : Nat → Int32} {l0 l1 : List AV} {f g : Nat → Int32} (hf : ∀ (j : Nat) (a : AV), l0[j]? = some a → vR θ a (.int (f j))) (hg : ∀ (j : Nat) (a : AV), l1[j]? = some a → vR θ a (.int (g j))) {sp dp n : Nat} (h0 : sp + n ≤ l0.length) (h1 : dp + n ≤ l1.length) : cR θ (.inl (0, l1.take dp ++ (l0.drop sp).take n ++ l1.drop (dp + n))) (.inl (0, l1.length, .inl (va_cpy f g sp dp n))) := by
  have e1 : (l1.take dp).length = dp := by rw [List.length_take]; omega
  have e2 : ((l0.drop sp).take n).length = n := by rw [List.length_take, List.length_drop]; omega
  refine ⟨by simp; omega, fun j a hj => ?_⟩
  have key : l1.take dp ++ (l0.drop sp).take n ++ l1.drop (dp + n) = l1.take dp ++ ((l0.drop sp).take n ++ l1.drop (dp + n)) := List.append_assoc _ _ _
  rw [key, List.getElem?_append] at hj
  unfold va_cpy
  split at hj
  · rw [if_neg (by omega)]
    rw [List.getElem?_take_of_lt (by omega)] at hj
    exact hg _ _ hj
  · rw [List.getElem?_append, e1] at hj
    split at hj
    · rw [if_pos (by omega)]
      rw [List.getElem?_take_of_lt (by omega), List.getElem?_drop] at hj
      exact hf _ _ hj
    · rw [if_neg (by omega)]
      rw [List.getElem?_drop, e2] at hj
      exact hg _ _ (by rw [← hj]; congr 1; omega)
section AIO
variable {θ : Nat → Int32} {C : Nat → List Value → PH → (Rs → PH → Prop) → Prop} {S : Nat × (Nat → Int32)} {M : PM} {hd : List (Nat × Nat × Nat × Int)} {Q : Rs → PH → Prop} {K : Kt} {te : TE} {lv' : LV} {st' : List Value} {h' : PH} {c s : Nat} {env : EV} {sp : Bool} {L : Nat} {lv : AL} {st : List AV} {h : AH}
theorem ci32 {a : Int} {n : Int32} (h1 : a ≤ n.toInt) (h2 : n.toInt ≤ a) (h0 : 0 ≤ a) : ¬ n < 0 ∧ n.toNatClampNeg = a.toNat := by
  have h3 : n.toInt = a := by omega
  refine ⟨fun q => ?_, ?_⟩
  · rw [Int32.lt_iff_toInt_lt] at q
    have : (0 : Int32).toInt = 0 := by decide
    omega
  · show n.toInt.toNat = _
    rw [h3]
set_option maxHeartbeats 4000000 in
theorem aI_ok (hS : S = (L, θ)) (he : eR θ env) (hlv : A2 (qR θ) lv lv') (hst : A2 (vR θ) st st') (hh : A2 (cR θ) h h') : aOK θ C S M hd Q K te lv' st' h' c s (aI sp L M hd env te lv st h c s) := by
  subst hS
  obtain ⟨pc, ins, ta, tb⟩ := te
  unfold aI
  dsimp only
  split
  · exact aOK.go (fun k => k _ _ _ hlv ⟨_, _, rfl, vR_K _, hst⟩ hh)
  · exact aOK.go (fun k => k _ _ _ hlv ⟨_, _, rfl, vR_K _, hst⟩ hh)
  · exact aOK.go (fun k => k _ _ _ hlv ⟨_, _, rfl, vR_K _, hst⟩ hh)
  · exact aOK.go (fun k => k _ _ _ hlv ⟨_, _, rfl, rfl, hst⟩ hh)
  · split
    · rename_i q hq
      split
      · rename_i h0
        exact aOK.go (fun k => ⟨q, hq, h0, k _ _ _ hlv ⟨_, _, rfl, vR_K _, hst⟩ hh⟩)
      · trivial
    · trivial
  · split
    · rename_i q hq
      split
      · rename_i h0
        exact aOK.go (fun k => ⟨q, hq, h0, k _ _ _ hlv ⟨_, _, rfl, vR_K _, hst⟩ hh⟩)
      · trivial
    · trivial
  · split
    · rename_i x hx
      obtain ⟨w, hw, hv⟩ := ag_R hlv hx
      obtain ⟨xv, rfl, -⟩ := rng_of he hv
      exact aOK.go (fun k => ⟨xv, hw, k _ _ _ hlv ⟨_, _, rfl, hv, hst⟩ hh⟩)
    · trivial
  · split
    · rename_i x hx
      obtain ⟨w, hw, hv⟩ := ag_R hlv hx
      obtain ⟨xv, rfl, -⟩ := rng_of he hv
      exact aOK.go (fun k => ⟨xv, hw, k _ _ _ hlv ⟨_, _, rfl, hv, hst⟩ hh⟩)
    · trivial
  · split
    · rename_i x hx
      obtain ⟨w, hw, hv⟩ := ag_R hlv hx
      exact aOK.go (fun k => ⟨w, hw, ⟨_, Or.inl hv⟩, k _ _ _ hlv ⟨_, _, rfl, hv, hst⟩ hh⟩)
    · rename_i x hx
      obtain ⟨w, hw, hv⟩ := ag_R hlv hx
      exact aOK.go (fun k => ⟨w, hw, ⟨_, Or.inr hv⟩, k _ _ _ hlv ⟨_, _, rfl, hv, hst⟩ hh⟩)
    · trivial
  · split
    · rename_i x hx
      obtain ⟨w, hw, hv⟩ := ag_R hlv hx
      exact aOK.go (fun k => ⟨w, hw, ⟨_, Or.inl hv⟩, k _ _ _ hlv ⟨_, _, rfl, hv, hst⟩ hh⟩)
    · rename_i x hx
      obtain ⟨w, hw, hv⟩ := ag_R hlv hx
      exact aOK.go (fun k => ⟨w, hw, ⟨_, Or.inr hv⟩, k _ _ _ hlv ⟨_, _, rfl, hv, hst⟩ hh⟩)
    · trivial
  · -- istore
    obtain ⟨xv, r', rfl, hv, hr⟩ := s_int he hst
    split
    · rename_i hi
      exact aOK.go (fun k => ⟨hi, k _ _ _ (as1_R hlv _ hv) hr hh⟩)
    · trivial
  · obtain ⟨xv, r', rfl, hv, hr⟩ := s_int he hst
    split
    · rename_i hi
      exact aOK.go (fun k => ⟨hi, k _ _ _ (as1_R hlv _ hv) hr hh⟩)
    · trivial
  · obtain ⟨r', rfl, hr⟩ := s_val hst
    split
    · rename_i hi
      exact aOK.go (fun k => ⟨hi, k _ _ _ (as1_R hlv _ (show vR θ (.inl (.ref _)) (.ref _) from rfl)) hr hh⟩)
    · trivial
  · obtain ⟨r', rfl, hr⟩ := s_val hst
    split
    · rename_i hi
      exact aOK.go (fun k => ⟨hi, k _ _ _ (as1_R hlv _ (show vR θ (.inl (.ref _)) (.ref _) from rfl)) hr hh⟩)
    · trivial
  · -- iinc
    split
    · rename_i x hx
      obtain ⟨w, hw, hv⟩ := ag_R hlv hx
      obtain ⟨xv, rfl, -⟩ := rng_of he hv
      split
      · rename_i i z hx hi
        have hz := hi.2
        simp only [inI, Bool.and_eq_true, decide_eq_true_eq] at hz
        have hzz := (Int32.toInt_ofInt (n := z)).trans (bm hz.1 hz.2)
        refine aOK.sum (yv := Int32.ofInt z) he hv ?_ (fun g1 g2 g3 g4 g5 g6 => ?_) (fun v hv2 => aOK.go (fun k => ⟨hi.1, xv, hw, k _ _ _ (as1_R hlv _ hv2) hst hh⟩))
        · exact ⟨Int32.ofInt z, rfl, by rw [hzz]; exact Int.le_refl _, by rw [hzz]; exact Int.le_refl _⟩
        · show _ ≤ (xv + Int32.ofInt z).toInt ∧ (xv + Int32.ofInt z).toInt ≤ _
          rw [Int32.toInt_add, hzz, bm (by omega) (by omega)]
          omega
      · trivial
    · trivial
  · -- iadd
    obtain ⟨yv, r1, rfl, hy, hr1⟩ := s_int he hst
    obtain ⟨xv, r', rfl, hx, hr⟩ := s_int he hr1
    refine aOK.sum he hx hy (fun g1 g2 g3 g4 g5 g6 => ?_) (fun v hv => aOK.go (fun k => k _ _ _ hlv ⟨_, _, rfl, hv, hr⟩ hh))
    show _ ≤ (xv + yv).toInt ∧ (xv + yv).toInt ≤ _
    rw [Int32.toInt_add, bm (by omega) (by omega)]
    omega
  · -- isub
    obtain ⟨yv, r1, rfl, hy, hr1⟩ := s_int he hst
    obtain ⟨xv, r', rfl, hx, hr⟩ := s_int he hr1
    refine aOK.sum he hx hy (fun g1 g2 g3 g4 g5 g6 => ?_) (fun v hv => aOK.go (fun k => k _ _ _ hlv ⟨_, _, rfl, hv, hr⟩ hh))
    show _ ≤ (xv - yv).toInt ∧ (xv - yv).toInt ≤ _
    rw [Int32.toInt_sub, bm (by omega) (by omega)]
    omega
  · -- imul
    obtain ⟨yv, r1, rfl, hy, hr1⟩ := s_int he hst
    obtain ⟨xv, r', rfl, hx, hr⟩ := s_int he hr1
    split
    · rename_i h9
      exact aOK.go (fun k => k _ _ _ hlv ⟨_, _, rfl, bin_R (f := (· * ·)) he hx hy h9, hr⟩ hh)
    · split
      · exact aOK.cutAll he _
      · split
        · exact aOK.cutAll he _
        · split
          · rename_i h9
            simp only [inI, Bool.and_eq_true, decide_eq_true_eq] at h9
            obtain ⟨x1, e1, a1, a2, -⟩ := rng_of he hx
            obtain ⟨y1, e2, b1, b2, -⟩ := rng_of he hy
            cases e1
            cases e2
            have hm := mul_rng a1 a2 b1 b2
            have e : (xv * yv).toInt = xv.toInt * yv.toInt := by
              rw [Int32.toInt_mul, bm (Int.le_trans h9.1 hm.1) (Int.le_trans hm.2 h9.2)]
            exact aOK.go (fun k => k _ _ _ hlv ⟨_, _, rfl, vR_in (by rw [e]; exact hm.1) (by rw [e]; exact hm.2), hr⟩ hh)
          · exact aOK.go (fun k => k _ _ _ hlv ⟨_, _, rfl, vR_top _, hr⟩ hh)
  · -- idiv
    obtain ⟨yv, r1, rfl, hy, hr1⟩ := s_int he hst
    obtain ⟨xv, r', rfl, hx, hr⟩ := s_int he hr1
    split
    · rename_i h9
      exact aOK.any he hx hy (fun v hv => aOK.go (fun k => ⟨nz he hy h9, k _ _ _ hlv ⟨_, _, rfl, hv, hr⟩ hh⟩))
    · trivial
  · -- irem
    obtain ⟨yv, r1, rfl, hy, hr1⟩ := s_int he hst
    obtain ⟨xv, r', rfl, hx, hr⟩ := s_int he hr1
    split
    · rename_i h9
      exact aOK.any he hx hy (fun v hv => aOK.go (fun k => ⟨nz he hy h9, k _ _ _ hlv ⟨_, _, rfl, hv, hr⟩ hh⟩))
    · trivial
  · -- ineg
    obtain ⟨xv, r', rfl, hx, hr⟩ := s_int he hst
    exact aOK.any (yv := 0) he hx zero_R (fun v hv => aOK.go (fun k => k _ _ _ hlv ⟨_, _, rfl, hv, hr⟩ hh))
  iterate 5
    · obtain ⟨yv, r1, rfl, hy, hr1⟩ := s_int he hst
      obtain ⟨xv, r', rfl, hx, hr⟩ := s_int he hr1
      exact aOK.any he hx hy (fun v hv => aOK.go (fun k => k _ _ _ hlv ⟨_, _, rfl, hv, hr⟩ hh))
  · -- i2l
    obtain ⟨xv, r', rfl, hx, hr⟩ := s_int he hst
    split
    · rename_i h9
      obtain ⟨x1, e1, a1, a2, -⟩ := rng_of he hx
      cases e1
      exact aOK.go (fun k => k _ _ _ hlv ⟨_, _, rfl, (by show Value.long _ = _; rw [← known a1 a2 h9]), hr⟩ hh)
    · split
      · trivial
      · exact aOK.cutAll he _
  · -- lcmp
    obtain ⟨r1, rfl, hr1⟩ := s_val hst
    obtain ⟨r', rfl, hr⟩ := s_val hr1
    exact aOK.go (fun k => k _ _ _ hlv ⟨_, _, rfl, vR_K _, hr⟩ hh)
  · -- dup
    obtain ⟨w, r', rfl, hw, hr⟩ := hst
    split
    · rename_i h9
      exact aOK.go (fun k => ⟨w, r', rfl, hw.cat.trans h9, k _ _ _ hlv ⟨_, _, rfl, hw, _, _, rfl, hw, hr⟩ hh⟩)
    · trivial
  · -- dup2
    obtain ⟨w, r1, rfl, hw, w2, r', rfl, hw2, hr⟩ := hst
    split
    · rename_i h9
      exact aOK.go (fun k => ⟨w, w2, r', rfl, hw.cat.trans h9.1, hw2.cat.trans h9.2, k _ _ _ hlv ⟨_, _, rfl, hw, _, _, rfl, hw2, _, _, rfl, hw, _, _, rfl, hw2, hr⟩ hh⟩)
    · trivial
  · -- pop
    obtain ⟨w, r', rfl, hw, hr⟩ := hst
    split
    · rename_i h9
      exact aOK.go (fun k => ⟨w, r', rfl, hw.cat.trans h9, k _ _ _ hlv hr hh⟩)
    · trivial
  · -- goto
    split
    · rename_i h9
      exact aOK.go (fun k => ⟨h9, k _ _ _ hlv hst hh⟩)
    · trivial
  · -- ifCond
    obtain ⟨xv, r', rfl, hx, hr⟩ := s_int he hst
    split
    · rename_i h9
      exact aOK.br (yv := 0) he hx zero_R (fun hc => aOK.go (fun k => ⟨h9, fun _ => k _ _ _ hlv hr hh, fun q => absurd hc q⟩)) (fun hc => aOK.go (fun k => ⟨h9, fun q => absurd q hc, fun _ => k _ _ _ hlv hr hh⟩))
    · trivial
  · -- if_icmp
    obtain ⟨yv, r1, rfl, hy, hr1⟩ := s_int he hst
    obtain ⟨xv, r', rfl, hx, hr⟩ := s_int he hr1
    split
    · rename_i h9
      exact aOK.br he hx hy (fun hc => aOK.go (fun k => ⟨h9, fun _ => k _ _ _ hlv hr hh, fun q => absurd hc q⟩)) (fun hc => aOK.go (fun k => ⟨h9, fun q => absurd q hc, fun _ => k _ _ _ hlv hr hh⟩))
    · trivial
  · -- tableswitch
    obtain ⟨xv, r', rfl, hx, hr⟩ := s_int he hst
    obtain ⟨x1, e1, a1, a2, -⟩ := rng_of he hx
    cases e1
    split
    · rename_i h8
      split
      · rename_i h9
        exact aOK.go (fun k => ⟨fun _ => ⟨h9, k _ _ _ hlv hr hh⟩, fun q1 q2 => by exfalso; omega⟩)
      · trivial
    · rename_i h8
      split
      · rename_i h7
        split
        · rename_i off hoff
          split
          · rename_i h9
            have e : xv.toInt = (aRng env _).1 := Int.le_antisymm (h7 ▸ a2) a1
            refine aOK.go (fun k => ⟨fun q => by exfalso; omega, fun q1 q2 => ⟨off, by rw [e]; exact hoff, h9, k _ _ _ hlv hr hh⟩⟩)
          · trivial
        · trivial
      · split
        · trivial
        · split
          · exact aOK.cutAt he _ _
          · split
            · exact aOK.cutAt he _ _
            · exact aOK.cutAll he _
  · -- iaload
    obtain ⟨iv, r1, rfl, hi, hr1⟩ := s_int he hst
    obtain ⟨r', rfl, hr⟩ := s_val hr1
    split
    · rename_i l hl
      obtain ⟨y, hy, hc⟩ := hh.get hl
      obtain ⟨g, rfl, hg⟩ := c_0 hc
      refine aOK.idx he hi (fun j hj e hin => ?_)
      split
      · rename_i x hx
        exact aOK.go (fun k => iald_mk (S := (L, θ)) (k := fun st => K (pc + 1) lv' st h' c s) hy hin (k _ _ _ hlv ⟨_, _, rfl, by rw [e]; exact hg _ _ hx, hr⟩ hh))
      · trivial
    · trivial
  · obtain ⟨iv, r1, rfl, hi, hr1⟩ := s_int he hst
    obtain ⟨r', rfl, hr⟩ := s_val hr1
    refine aOK.idx he hi (fun j hj e hin => ?_)
    exact aOK.go (fun k => ⟨hin, k _ _ _ hlv ⟨_, _, rfl, by rw [e]; rfl, hr⟩ hh⟩)
  · -- iastore
    obtain ⟨xv, r0, rfl, hx, hr0⟩ := s_int he hst
    obtain ⟨iv, r1, rfl, hi, hr1⟩ := s_int he hr0
    obtain ⟨r', rfl, hr⟩ := s_val hr1
    split
    · rename_i l hl
      obtain ⟨y, hy, hc⟩ := hh.get hl
      obtain ⟨g, rfl, hg⟩ := c_0 hc
      refine aOK.idx he hi (fun j hj e hin => ?_)
      exact aOK.go (fun k => iast_mk (k := fun st h => K (pc + 1) lv' st h c s) hy hin (k _ _ _ hlv hr (A2.set (by rw [e]; exact c_set0 hg hx) hh)))
    · trivial
  · -- laload
    obtain ⟨iv, r1, rfl, hi, hr1⟩ := s_int he hst
    obtain ⟨r', rfl, hr⟩ := s_val hr1
    split
    · rename_i l hl
      obtain ⟨y, hy, hc⟩ := hh.get hl
      obtain ⟨g, rfl, hg⟩ := c_1 hc
      refine aOK.idx he hi (fun j hj e hin => ?_)
      split
      · rename_i x hx
        exact aOK.go (fun k => lald_mk (k := fun st => K (pc + 1) lv' st h' c s) hy hin (k _ _ _ hlv ⟨_, _, rfl, by rw [e]; exact hg _ _ hx, hr⟩ hh))
      · trivial
    · trivial
  · -- lastore
    obtain ⟨r0, rfl, hr0⟩ := s_val hst
    obtain ⟨iv, r1, rfl, hi, hr1⟩ := s_int he hr0
    obtain ⟨r', rfl, hr⟩ := s_val hr1
    split
    · rename_i l hl
      obtain ⟨y, hy, hc⟩ := hh.get hl
      obtain ⟨g, rfl, hg⟩ := c_1 hc
      refine aOK.idx he hi (fun j hj e hin => ?_)
      exact aOK.go (fun k => last_mk (k := fun st h => K (pc + 1) lv' st h c s) hy hin (k _ _ _ hlv hr (A2.set (by rw [e]; exact c_set1 hg) hh)))
    · trivial
  · -- aaload
    obtain ⟨iv, r1, rfl, hi, hr1⟩ := s_int he hst
    obtain ⟨r', rfl, hr⟩ := s_val hr1
    split
    · rename_i l hl
      obtain ⟨y, hy, hc⟩ := hh.get hl
      obtain ⟨g, rfl, hg⟩ := c_2 hc
      refine aOK.idx he hi (fun j hj e hin => ?_)
      split
      · rename_i x hx
        exact aOK.go (fun k => aald_mk (k := fun st => K (pc + 1) lv' st h' c s) hy (Or.inl rfl) hin (by rw [e]; exact rf_some (hg _ _ hx)) (k _ _ _ hlv ⟨_, _, rfl, rfl, hr⟩ hh))
      · trivial
    · rename_i l hl
      obtain ⟨y, hy, hc⟩ := hh.get hl
      obtain ⟨g, rfl, hg⟩ := c_3 hc
      refine aOK.idx he hi (fun j hj e hin => ?_)
      split
      · rename_i x hx
        exact aOK.go (fun k => aald_mk (k := fun st => K (pc + 1) lv' st h' c s) hy (Or.inr rfl) hin (by rw [e]; exact rf_some (hg _ _ hx)) (k _ _ _ hlv ⟨_, _, rfl, rfl, hr⟩ hh))
      · trivial
    · trivial
  · -- aastore
    obtain ⟨r0, rfl, hr0⟩ := s_val hst
    obtain ⟨iv, r1, rfl, hi, hr1⟩ := s_int he hr0
    obtain ⟨r', rfl, hr⟩ := s_val hr1
    split
    · rename_i l fs hl hf
      obtain ⟨y, hy, hc⟩ := hh.get hl
      obtain ⟨g, rfl, hg⟩ := c_2 hc
      obtain ⟨y2, hy2, hc2⟩ := hh.get hf
      obtain ⟨gs, rfl, hgs⟩ := c_o hc2
      refine aOK.idx he hi (fun j hj e hin => ?_)
      exact aOK.go (fun k => aast_mk (k := fun st h => K (pc + 1) lv' st h c s) hy hy2 hin (k _ _ _ hlv hr (A2.set (by rw [e]; exact c_set2 hg) hh)))
    · trivial
  · -- arraylength
    obtain ⟨r', rfl, hr⟩ := s_val hst
    split
    · rename_i t l hl
      obtain ⟨y, hy, hc⟩ := hh.get hl
      split
      · rename_i h9
        have key : ∃ x : vp_A, y = .inl (t, x) ∧ x.1 = l.length := by
          rcases t with _ | _ | _ | _ | t
          · obtain ⟨g, rfl, hg⟩ := c_0 hc; exact ⟨_, rfl, rfl⟩
          · obtain ⟨g, rfl, hg⟩ := c_1 hc; exact ⟨_, rfl, rfl⟩
          · obtain ⟨g, rfl, hg⟩ := c_2 hc; exact ⟨_, rfl, rfl⟩
          · obtain ⟨g, rfl, hg⟩ := c_3 hc; exact ⟨_, rfl, rfl⟩
          · exfalso; omega
        obtain ⟨x, rfl, hx⟩ := key
        exact aOK.go (fun k => alen_mk (S := (L, θ)) (k := fun st => K (pc + 1) lv' st h' c s) hy h9.1 (k _ _ _ hlv ⟨_, _, rfl, by rw [hx]; exact ofNat_R h9.2, hr⟩ hh))
      · trivial
    · trivial
  · obtain ⟨r', rfl, hr⟩ := s_val hst
    split
    · rename_i h9
      exact aOK.go (fun k => k _ _ _ hlv ⟨_, _, rfl, ofNat_R h9, hr⟩ hh)
    · trivial
  · -- getfield
    obtain ⟨r', rfl, hr⟩ := s_val hst
    split
    · rename_i cj fs hl
      obtain ⟨y, hy, hc⟩ := hh.get hl
      obtain ⟨gs, rfl, hgs⟩ := c_o hc
      split
      · rename_i h9
        obtain ⟨rfl, h9⟩ := h9
        split
        · rename_i v hv
          obtain ⟨w, hw, hvw⟩ := hgs.get hv
          exact aOK.go (fun k => get_mk (k := fun st => K (pc + 3) lv' st h' c s) hy h9 hw (k _ _ _ hlv ⟨_, _, rfl, hvw, hr⟩ hh))
        · trivial
      · trivial
    · trivial
  · -- putfield
    obtain ⟨w, r1, rfl, hw, hr1⟩ := hst
    obtain ⟨r', rfl, hr⟩ := s_val hr1
    split
    · rename_i cj fs hl
      obtain ⟨y, hy, hc⟩ := hh.get hl
      obtain ⟨gs, rfl, hgs⟩ := c_o hc
      split
      · rename_i h9
        obtain ⟨rfl, h9, h10⟩ := h9
        have h11 : tb < gs.length := by rw [hgs.len]; exact h10
        split
        · rename_i hty
          obtain ⟨xv, rfl, -⟩ := rng_of he hw
          exact aOK.go (fun k => put_mk (k := fun st h => K (pc + 3) lv' st h c s) hy h9 h11 (by rw [hty]; rfl) (by rw [hty]; rfl) (k _ _ _ hlv hr (A2.set ⟨rfl, A2.set hw hgs⟩ hh)))
        · rename_i hty
          split
          · rename_i h12
            obtain ⟨xv, rfl, -⟩ := rng_of he hw
            have hb : xv = 0 ∨ xv = 1 := bit_of he hw h12
            exact aOK.go (fun k => put_mk (k := fun st h => K (pc + 3) lv' st h c s) hy h9 h11 (by rw [hty]; rcases hb with rfl | rfl <;> rfl) (by rw [hty]; rcases hb with rfl | rfl <;> rfl) (k _ _ _ hlv hr (A2.set ⟨rfl, A2.set hw hgs⟩ hh)))
          · trivial
        · rename_i hty
          have hw2 := hw
          cases (show w = _ from hw2)
          exact aOK.go (fun k => put_mk (k := fun st h => K (pc + 3) lv' st h c s) hy h9 h11 (by rw [hty]; rfl) (by rw [hty]; rfl) (k _ _ _ hlv hr (A2.set ⟨rfl, A2.set hw hgs⟩ hh)))
        · rename_i hty
          have hw2 := hw
          cases (show w = _ from hw2)
          exact aOK.go (fun k => put_mk (k := fun st h => K (pc + 3) lv' st h c s) hy h9 h11 (by rw [hty]; rfl) (by rw [hty]; rfl) (k _ _ _ hlv hr (A2.set ⟨rfl, A2.set hw hgs⟩ hh)))
        · trivial
      · trivial
    · trivial
  · -- newarray int
    obtain ⟨xv, r', rfl, hx, hr⟩ := s_int he hst
    split
    · rename_i h9
      obtain ⟨h1, h2, h3, h4, h5⟩ := h9
      obtain ⟨g1, g2⟩ := exact_R hx h1 h2
      refine aOK.go (fun k => ⟨g1, by omega, h4, by omega, Or.inl ⟨rfl, ?_⟩⟩)
      rw [g2, hh.len]
      exact k _ _ _ hlv ⟨_, _, rfl, rfl, hr⟩ (A2.app (A2.one (rep_0 _)) hh)
    · trivial
  · -- newarray long
    obtain ⟨xv, r', rfl, hx, hr⟩ := s_int he hst
    split
    · rename_i h9
      obtain ⟨h1, h2, h3, h4, h5⟩ := h9
      obtain ⟨g1, g2⟩ := exact_R hx h1 h2
      refine aOK.go (fun k => ⟨g1, by omega, h4, by omega, Or.inr ⟨rfl, ?_⟩⟩)
      rw [g2, hh.len]
      exact k _ _ _ hlv ⟨_, _, rfl, rfl, hr⟩ (A2.app (A2.one (rep_1 _)) hh)
    · trivial
  · -- anewarray
    obtain ⟨xv, r', rfl, hx, hr⟩ := s_int he hst
    split
    · rename_i h9
      obtain ⟨h1, h2, h3, h4, h5⟩ := h9
      obtain ⟨g1, g2⟩ := exact_R hx h1 h2
      refine aOK.go (fun k => ⟨g1, by omega, h4, by omega, ?_⟩)
      rw [g2, hh.len]
      exact k _ _ _ hlv ⟨_, _, rfl, rfl, hr⟩ (A2.app (A2.one (rep_2 _)) hh)
    · trivial
  · -- multianewarray
    obtain ⟨mv, r1, rfl, hm, hr1⟩ := s_int he hst
    obtain ⟨nv, r', rfl, hn, hr⟩ := s_int he hr1
    split
    · rename_i h9
      obtain ⟨h1, h2, h3, h4, h5, h6, h7, h8⟩ := h9
      obtain ⟨g1, g2⟩ := exact_R hm h1 h3
      obtain ⟨g3, g4⟩ := exact_R hn h2 h5
      refine aOK.go (fun k => ⟨g3, g1, by omega, by omega, ?_⟩)
      show _ ∧ _ ∧ _
      rw [g2, g4, hh.len]
      exact ⟨h7, h8, k _ _ _ hlv ⟨_, _, rfl, rfl, hr⟩ (A2.app (A2.rep (rep_0 _) _) (A2.app (A2.one (rep_3 _ _)) hh))⟩
    · trivial
  · -- new
    split
    · rename_i h9
      split
      · rename_i h10
        refine aOK.go (fun k => Or.inl ⟨h9, h10.1, h10.2, ?_⟩)
        rw [hh.len]
        exact k _ _ _ hlv ⟨_, _, rfl, rfl, hst⟩ (A2.app (A2.one ⟨rfl, dflt_R _⟩) hh)
      · trivial
    · split
      · rename_i h9
        split
        · rename_i x hx
          exact fun H => Or.inr ⟨h9.1, h9.2.1, h9.2.2.1, h9.2.2.2.1, by rw [hst.acats]; exact h9.2.2.2.2, x, hx, H _ rfl⟩
        · trivial
      · trivial
  · -- invokevirtual
    exact fun H => H
  · -- invokestatic
    split
    · rename_i h7
      split
      · obtain ⟨nv, r1, rfl, hn, hr1⟩ := s_int he hst
        obtain ⟨dv, r2, rfl, hd', hr2⟩ := s_int he hr1
        obtain ⟨r3, rfl, hr3⟩ := s_val hr2
        obtain ⟨sv, r4, rfl, hs, hr4⟩ := s_int he hr3
        obtain ⟨r', rfl, hr⟩ := s_val hr4
        split
        · rename_i l0 l1 hl0 hl1
          obtain ⟨y0, hy0, hc0⟩ := hh.get hl0
          obtain ⟨f, rfl, hf⟩ := c_0 hc0
          obtain ⟨y1, hy1, hc1⟩ := hh.get hl1
          obtain ⟨g, rfl, hg⟩ := c_0 hc1
          split
          · rename_i h9
            obtain ⟨q1, q2, q3, q4, q5, q6, q7, q8, q9, q10, q11⟩ := h9
            obtain ⟨n1, n2⟩ := exact_R hn q1 q4
            obtain ⟨d1, d2⟩ := exact_R hd' q2 q5
            obtain ⟨s1, s2⟩ := exact_R hs q3 q6
            refine aOK.go (fun k => Or.inl ⟨h7, copy_mk (k := fun st h => (st.map Value.category).sum ≤ 8 ∧ K (pc + 3) lv' st h c s) hy0 hy1 s1 d1 n1 (by omega) (by omega) ⟨by rw [hr.acats]; exact q11, ?_⟩⟩)
            rw [n2, d2, s2]
            exact k _ _ _ hlv hr (A2.set (cpy_R hf hg q7 q8) hh)
          · trivial
        · trivial
      · trivial
    · rename_i h7
      exact fun H => Or.inr ⟨h7, H⟩
  · -- invokespecial
    split
    · rename_i h6
      split
      · obtain ⟨r', rfl, hr⟩ := s_val hst
        split
        · rename_i h9
          exact aOK.go (fun k => Or.inl ⟨h6, by rw [hr.acats]; exact h9, k _ _ _ hlv hr hh⟩)
        · trivial
      · trivial
    · split
      · rename_i h9
        exact fun H => Or.inr ⟨h9, H⟩
      · trivial
  · -- ireturn
    obtain ⟨xv, r', rfl, hx, hr⟩ := s_int he hst
    cases (show r' = [] from hr)
    split
    · rename_i hR
      exact fun H => ⟨xv, rfl, ⟨_, hR, rfl⟩, H _ (A2.one hx)⟩
    · rename_i hR
      split
      · rename_i h9
        have hb := bit_of he hx h9
        exact fun H => ⟨xv, rfl, ⟨_, hR, by rcases hb with rfl | rfl <;> rfl⟩, H _ (A2.one hx)⟩
      · trivial
    · trivial
  · -- areturn
    obtain ⟨r', rfl, hr⟩ := s_val hst
    cases (show r' = [] from hr)
    split
    · rename_i hR
      exact fun H => ⟨_, rfl, ⟨_, hR⟩, H _ (A2.one rfl)⟩
    · trivial
  · -- return
    cases (show st' = [] from hst)
    split
    · rename_i hR
      exact fun H => ⟨rfl, hR, H _ rfl⟩
    · trivial
  · trivial
end AIO
