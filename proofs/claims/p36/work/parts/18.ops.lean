/-! every instruction of the quick evaluator, with unknown arguments -/
theorem c_0 {θ : Nat → Int32} {l : List AV} {y : PE} (h : cR θ (.inl (0, l)) y) : ∃ g, y = .inl (0, l.length, .inl g) ∧ ∀ (j : Nat) (a : AV), l[j]? = some a → vR θ a (.int (g j)) := by
  rcases y with ⟨t, n, g | g | g | g | g⟩ | ⟨ci, fs⟩
  · rcases t with _ | t
    · obtain ⟨rfl, h⟩ := h; exact ⟨g, rfl, h⟩
    · exact h.elim
  all_goals (first | exact h.elim | (rcases t with _ | _ | _ | _ | t <;> exact h.elim))
theorem c_1 {θ : Nat → Int32} {l : List AV} {y : PE} (h : cR θ (.inl (1, l)) y) : ∃ g, y = .inl (1, l.length, .inr (.inl g)) ∧ ∀ (j : Nat) (a : AV), l[j]? = some a → vR θ a (.long (g j)) := by
  rcases y with ⟨t, n, g | g | g | g | g⟩ | ⟨ci, fs⟩
  · rcases t with _ | _ | t <;> exact h.elim
  · rcases t with _ | _ | t
    · exact h.elim
    · obtain ⟨rfl, h⟩ := h; exact ⟨g, rfl, h⟩
    · exact h.elim
  all_goals (first | exact h.elim | (rcases t with _ | _ | _ | _ | t <;> exact h.elim))
theorem c_2 {θ : Nat → Int32} {l : List AV} {y : PE} (h : cR θ (.inl (2, l)) y) : ∃ g, y = .inl (2, l.length, .inr (.inr (.inr (.inr g)))) ∧ ∀ (j : Nat) (a : AV), l[j]? = some a → vR θ a (va_rf (g j)) := by
  rcases y with ⟨t, n, g | g | g | g | g⟩ | ⟨ci, fs⟩
  · rcases t with _ | _ | _ | t <;> exact h.elim
  · rcases t with _ | _ | _ | t <;> exact h.elim
  · rcases t with _ | _ | _ | t <;> exact h.elim
  · rcases t with _ | _ | _ | t <;> exact h.elim
  · rcases t with _ | _ | _ | t
    · exact h.elim
    · exact h.elim
    · obtain ⟨rfl, h⟩ := h; exact ⟨g, rfl, h⟩
    · exact h.elim
  · exact h.elim
theorem c_3 {θ : Nat → Int32} {l : List AV} {y : PE} (h : cR θ (.inl (3, l)) y) : ∃ g, y = .inl (3, l.length, .inr (.inr (.inr (.inr g)))) ∧ ∀ (j : Nat) (a : AV), l[j]? = some a → vR θ a (va_rf (g j)) := by
  rcases y with ⟨t, n, g | g | g | g | g⟩ | ⟨ci, fs⟩
  · rcases t with _ | _ | _ | _ | t <;> exact h.elim
  · rcases t with _ | _ | _ | _ | t <;> exact h.elim
  · rcases t with _ | _ | _ | _ | t <;> exact h.elim
  · rcases t with _ | _ | _ | _ | t <;> exact h.elim
  · rcases t with _ | _ | _ | _ | t
    · exact h.elim
    · exact h.elim
    · exact h.elim
    · obtain ⟨rfl, h⟩ := h; exact ⟨g, rfl, h⟩
    · exact h.elim
  · exact h.elim
theorem c_o {θ : Nat → Int32} {ci : Nat} {fs : List AV} {y : PE} (h : cR θ (.inr (ci, fs)) y) : ∃ gs, y = .inr (ci, gs) ∧ A2 (vR θ) fs gs := by
  rcases y with ⟨t, n, g⟩ | ⟨cj, gs⟩
  · exact (show False from by rcases t with _ | _ | _ | _ | t <;> rcases g with g | g | g | g | g <;> exact h).elim
  · obtain ⟨rfl, h⟩ := h; exact ⟨gs, rfl, h⟩
theorem c_set0 {θ : Nat → Int32} {l : List AV} {g : Nat → Int32} (hg : ∀ (j : Nat) (a : AV), l[j]? = some a → vR θ a (.int (g j))) {j : Nat} {v : AV} {x : Int32} (hv : vR θ v (.int x)) : cR θ (.inl (0, l.set j v)) (.inl (0, l.length, .inl (upd g j x))) := by
  refine ⟨by simp, fun i a hi => ?_⟩
  by_cases h : j = i
  · subst h
    rw [List.getElem?_set] at hi
    simp only [if_true] at hi
    split at hi
    · cases hi; rw [show upd g j x j = x from if_pos rfl]; exact hv
    · cases hi
  · rw [List.getElem?_set_ne h] at hi
    rw [show upd g j x i = g i from if_neg (fun q => h q.symm)]
    exact hg i a hi
theorem iald_mk {S : Nat × (Nat → Int32)} {h : PH} {i : Int32} {a n : Nat} {g : Nat → Int32} {r : List Value} {k : List Value → Prop} (h1 : h[a]? = some (.inl (0, n, .inl g))) (h2 : vp_in i n) (h3 : k (.int (g i.toNatClampNeg) :: r)) : p_iald S h (.int i :: .ref a :: r) k := by
  simp only [p_iald, h1]; exact ⟨h2, h3⟩
theorem iast_mk {h : PH} {x i : Int32} {a n : Nat} {g : Nat → Int32} {r : List Value} {k : List Value → PH → Prop} (h1 : h[a]? = some (.inl (0, n, .inl g))) (h2 : vp_in i n) (h3 : k r (h.set a (.inl (0, n, .inl (upd g i.toNatClampNeg x))))) : p_iast h (.int x :: .int i :: .ref a :: r) k := by
  simp only [p_iast, h1]; exact ⟨h2, h3⟩
theorem lald_mk {h : PH} {i : Int32} {a n : Nat} {g : Nat → Int64} {r : List Value} {k : List Value → Prop} (h1 : h[a]? = some (.inl (1, n, .inr (.inl g)))) (h2 : vp_in i n) (h3 : k (.long (g i.toNatClampNeg) :: r)) : p_lald h (.int i :: .ref a :: r) k := by
  simp only [p_lald, h1]; exact ⟨h2, h3⟩
theorem last_mk {h : PH} {x : Int64} {i : Int32} {a n : Nat} {g : Nat → Int64} {r : List Value} {k : List Value → PH → Prop} (h1 : h[a]? = some (.inl (1, n, .inr (.inl g)))) (h2 : vp_in i n) (h3 : k r (h.set a (.inl (1, n, .inr (.inl (vp_updL g i.toNatClampNeg x)))))) : p_last h (.long x :: .int i :: .ref a :: r) k := by
  simp only [p_last, h1]; exact ⟨h2, h3⟩
theorem aald_mk {h : PH} {i : Int32} {a n t q : Nat} {g : Nat → Option Nat} {r : List Value} {k : List Value → Prop} (h1 : h[a]? = some (.inl (t, n, .inr (.inr (.inr (.inr g)))))) (ht : t = 2 ∨ t = 3) (h2 : vp_in i n) (hq : g i.toNatClampNeg = some q) (h3 : k (.ref q :: r)) : p_aald h (.int i :: .ref a :: r) k := by
  simp only [p_aald, h1]; exact ⟨ht, h2, q, hq, h3⟩
theorem aast_mk {h : PH} {v : Nat} {i : Int32} {a n : Nat} {g : Nat → Option Nat} {fs : List Value} {r : List Value} {k : List Value → PH → Prop} (h1 : h[a]? = some (.inl (2, n, .inr (.inr (.inr (.inr g)))))) (hv : h[v]? = some (.inr (1, fs))) (h2 : vp_in i n) (h3 : k r (h.set a (.inl (2, n, .inr (.inr (.inr (.inr (va_up g i.toNatClampNeg (some v))))))))) : p_aast h (.ref v :: .int i :: .ref a :: r) k := by
  simp only [p_aast, h1, hv]; exact ⟨h2, h3⟩
theorem alen_mk {S : Nat × (Nat → Int32)} {h : PH} {a t : Nat} {x : vp_A} {r : List Value} {k : List Value → Prop} (h1 : h[a]? = some (.inl (t, x))) (ht : t < 4) (h3 : k (.int (Int32.ofNat x.1) :: r)) : p_alen S h (.ref a :: r) k := by
  simp only [p_alen, h1]; exact ⟨ht, h3⟩
theorem get_mk {h : PH} {ci f a : Nat} {fs : List Value} {v : Value} {r : List Value} {k : List Value → Prop} (h1 : h[a]? = some (.inr (ci, fs))) (hf : f < fnum ci) (hv : fs[f]? = some v) (h3 : k (v :: r)) : p_get h ci f (.ref a :: r) k := by
  simp only [p_get, h1]; exact ⟨trivial, hf, v, hv, h3⟩
theorem put_mk {h : PH} {ci f a : Nat} {fs : List Value} {v : Value} {r : List Value} {k : List Value → PH → Prop} (h1 : h[a]? = some (.inr (ci, fs))) (hf : f < fnum ci) (hl : f < fs.length) (hn : narrow (ftyX ci f) v = v) (hg : fits (ftyX ci f) v = true) (h3 : k r (h.set a (.inr (ci, fs.set f v)))) : p_put h ci f (v :: .ref a :: r) k := by
  simp only [p_put, h1]; exact ⟨trivial, hf, hl, hn, hg, h3⟩
theorem copy_mk {h : PH} {n dp sp : Int32} {a1 a0 n0 n1 : Nat} {f g : Nat → Int32} {r : List Value} {k : List Value → PH → Prop} (h0 : h[a0]? = some (.inl (0, n0, .inl f))) (h1 : h[a1]? = some (.inl (0, n1, .inl g))) (q1 : ¬ sp < 0) (q2 : ¬ dp < 0) (q3 : ¬ n < 0) (q4 : sp.toNatClampNeg + n.toNatClampNeg ≤ n0) (q5 : dp.toNatClampNeg + n.toNatClampNeg ≤ n1) (h3 : k r (h.set a1 (.inl (0, n1, .inl (va_cpy f g sp.toNatClampNeg dp.toNatClampNeg n.toNatClampNeg))))) : p_copy h (.int n :: .int dp :: .ref a1 :: .int sp :: .ref a0 :: r) k := by
  simp only [p_copy, h0, h1]; exact ⟨q1, q2, q3, q4, q5, h3⟩
theorem rf_some {θ : Nat → Int32} {o : Option Nat} {a : Nat} (h : vR θ (.inr (.inr (.ref a))) (va_rf o)) : o = some a := by
  cases o with
  | none => cases (show va_rf none = .ref a from h)
  | some b => cases (show va_rf (some b) = .ref a from h); rfl
theorem cpy_R {θ : Nat → Int32} {l0 l1 : List AV} {f g : Nat → Int32} (hf : ∀ (j : Nat) (a : AV), l0[j]? = some a → vR θ a (.int (f j))) (hg : ∀ (j : Nat) (a : AV), l1[j]? = some a → vR θ a (.int (g j))) {sp dp n : Nat} (h0 : sp + n ≤ l0.length) (h1 : dp + n ≤ l1.length) : cR θ (.inl (0, l1.take dp ++ (l0.drop sp).take n ++ l1.drop (dp + n))) (.inl (0, l1.length, .inl (va_cpy f g sp dp n))) := by
  have e1 : (l1.take dp).length = dp := by rw [List.length_take]; omega
  have e2 : ((l0.drop sp).take n).length = n := by rw [List.length_take, List.length_drop]; omega
  refine ⟨by simp; omega, fun j a hj => ?_⟩
  have key : l1.take dp ++ (l0.drop sp).take n ++ l1.drop (dp + n) = l1.take dp ++ ((l0.drop sp).take n ++ l1.drop (dp + n)) := List.append_assoc _ _ _
  rw [key, List.getElem?_append] at hj
  unfold va_cpy
  split at hj
  · rw [if_neg (by omega)]
    rw [List.getElem?_take_of_lt (by omega)] at hj
    exact hg _ _ hj
  · rw [List.getElem?_append, e1] at hj
    split at hj
    · rw [if_pos (by omega)]
      rw [List.getElem?_take_of_lt (by omega), List.getElem?_drop] at hj
      exact hf _ _ hj
    · rw [if_neg (by omega)]
      rw [List.getElem?_drop, e2] at hj
      exact hg _ _ (by rw [← hj]; congr 1; omega)
theorem c_set1 {θ : Nat → Int32} {l : List AV} {g : Nat → Int64} (hg : ∀ (j : Nat) (a : AV), l[j]? = some a → vR θ a (.long (g j))) {j : Nat} {v : AV} {x : Int64} (hv : vR θ v (.long x)) : cR θ (.inl (1, l.set j v)) (.inl (1, l.length, .inr (.inl (vp_updL g j x)))) := by
  refine ⟨by simp, fun i a hi => ?_⟩
  by_cases h : j = i
  · subst h
    rw [List.getElem?_set] at hi
    simp only [if_true] at hi
    split at hi
    · cases hi; rw [show vp_updL g j x j = x from if_pos rfl]; exact hv
    · cases hi
  · rw [List.getElem?_set_ne h] at hi
    rw [show vp_updL g j x i = g i from if_neg (fun q => h q.symm)]
    exact hg i a hi
theorem c_set2 {θ : Nat → Int32} {l : List AV} {g : Nat → Option Nat} (hg : ∀ (j : Nat) (a : AV), l[j]? = some a → vR θ a (va_rf (g j))) {j v : Nat} : cR θ (.inl (2, l.set j (.inr (.inr (.ref v))))) (.inl (2, l.length, .inr (.inr (.inr (.inr (va_up g j (some v))))))) := by
  refine ⟨by simp, fun i a hi => ?_⟩
  by_cases h : j = i
  · subst h
    rw [List.getElem?_set] at hi
    simp only [if_true] at hi
    split at hi
    · cases hi; rw [show va_up g j (some v) j = some v from if_pos rfl]; rfl
    · cases hi
  · rw [List.getElem?_set_ne h] at hi
    rw [show va_up g j (some v) i = g i from if_neg (fun q => h q.symm)]
    exact hg i a hi
theorem rep_0 {θ : Nat → Int32} (n : Nat) : cR θ (.inl (0, List.replicate n (.inl 0))) (.inl (0, n, .inl (fun _ => 0))) := by
  refine ⟨by simp, fun j a hj => ?_⟩
  rw [List.getElem?_replicate] at hj
  split at hj
  · cases hj; exact ⟨0, rfl, by decide⟩
  · cases hj
theorem rep_1 {θ : Nat → Int32} (n : Nat) : cR θ (.inl (1, List.replicate n (.inr (.inr (.long 0))))) (.inl (1, n, .inr (.inl (fun _ => 0)))) := by
  refine ⟨by simp, fun j a hj => ?_⟩
  rw [List.getElem?_replicate] at hj
  split at hj
  · cases hj; rfl
  · cases hj
theorem rep_2 {θ : Nat → Int32} (n : Nat) : cR θ (.inl (2, List.replicate n aU)) (.inl (2, n, .inr (.inr (.inr (.inr (fun _ => none)))))) := by
  refine ⟨by simp, fun j a hj => ?_⟩
  rw [List.getElem?_replicate] at hj
  split at hj
  · cases hj; rfl
  · cases hj
theorem rep_3 {θ : Nat → Int32} (n m : Nat) : cR θ (.inl (3, (List.range n).map (fun i => aR (m + 1 + i)))) (.inl (3, n, .inr (.inr (.inr (.inr (fun i => if i < n then some (m + 1 + i) else none)))))) := by
  refine ⟨by simp, fun j a hj => ?_⟩
  rw [List.getElem?_map] at hj
  by_cases hjn : j < n
  · rw [List.getElem?_range hjn] at hj
    cases hj
    show vR θ _ (va_rf (if j < n then some (m + 1 + j) else none))
    rw [if_pos hjn]
    rfl
  · rw [List.getElem?_eq_none (by simpa using hjn)] at hj
    cases hj
theorem dflt_R {θ : Nat → Int32} (ci : Nat) (hd : (dflt ci).all noD = true) : A2 (vR θ) (dW ci) (dflt ci) := by
  unfold dW
  revert hd
  generalize dflt ci = l
  intro hd
  induction l with
  | nil => rfl
  | cons v l ih =>
    rw [List.all_cons, Bool.and_eq_true] at hd
    refine ⟨v, l, rfl, ?_, ih hd.2⟩
    cases v <;> first | exact ⟨_, rfl, rfl⟩ | rfl | (cases (show false = true from hd.1))
/-! locals -/
theorem pg_self (lv : LV) (i : Nat) (w : Value) : px_g (px_s1 lv i w) i = some w := by simp [px_g, px_s1]
theorem pg_filt {i j : Nat} (hji : ¬ j = i) : ∀ {lv : LV} {u : Value}, px_g lv j = some u → u.category = 1 → px_g (lv.filter (fun q => !(q.1 == i) && !(q.1 + 1 == i && q.2.category == 2))) j = some u
  | [], u, h, _ => by simp [px_g] at h
  | q :: lv, u, h, hu => by
    by_cases hq : q.1 = j
    · have e : q.2 = u := by
        simp only [px_g, List.find?, hq, beq_self_eq_true] at h
        simpa using h
      have hP : (!(q.1 == i) && !(q.1 + 1 == i && q.2.category == 2)) = true := by
        rw [e, hu, hq]; simp [hji]
      rw [List.filter_cons, if_pos hP]
      simp [px_g, List.find?, hq, e]
    · have h' : px_g lv j = some u := by
        simp only [px_g, List.find?] at h ⊢
        rw [show (q.1 == j) = false by simp [hq]] at h
        exact h
      have ih := pg_filt hji h' hu
      rw [List.filter_cons]
      split
      · simp only [px_g, List.find?] at ih ⊢
        rw [show (q.1 == j) = false by simp [hq]]
        exact ih
      · exact ih
theorem pg_ne {lv : LV} {i j : Nat} {u w : Value} (hji : ¬ j = i) (h : px_g lv j = some u) (hu : u.category = 1) : px_g (px_s1 lv i w) j = some u := by
  have := pg_filt hji h hu
  unfold px_s1
  simp only [px_g, List.find?] at this ⊢
  rw [show (i == j) = false by simp; exact fun q => hji q.symm]
  exact this
theorem lR.set {θ : Nat → Int32} {lv : LW} {lv' : LV} (h : lR θ lv lv') {i : Nat} {v : AV} {w : Value} (hv : vR θ v w) (hc : w.category = 1) : lR θ (lv.set i v) (px_s1 lv' i w) := by
  intro j u hu
  by_cases hij : i = j
  · subst hij
    rw [List.getElem?_set] at hu
    simp only [if_true] at hu
    split at hu
    · cases hu; exact Or.inr ⟨w, pg_self _ _ _, hv, hc⟩
    · cases hu
  · rw [List.getElem?_set_ne hij] at hu
    rcases h j u hu with q | ⟨w2, h1, h2, h3⟩
    · exact Or.inl q
    · exact Or.inr ⟨w2, pg_ne (fun q => hij q.symm) h1 h3, h2, h3⟩
/-! the heap -/
theorem hR.at {θ : Nat → Int32} {m : Nat} {h : HT} {h' : PH} (H : hR θ m h h') {a : Nat} {c : AE} (hc : hget h a = some c) (hn : ¬ c = .inl (99, [])) : ∃ y, h'[a]? = some y ∧ cR θ c y := (H.2 a c hc).resolve_left hn
theorem hR.set {θ : Nat → Int32} {m : Nat} {h h2 : HT} {h' : PH} (H : hR θ m h h') {a : Nat} {v : AE} {y y0 : PE} (ha : h'[a]? = some y0) (hs : ∀ b, hget h2 b = if b = a then some v else hget h b) (hc : cR θ v y) : hR θ m h2 (h'.set a y) := by
  have hl : a < h'.length := (List.getElem?_eq_some_iff.mp ha).1
  refine ⟨by rw [List.length_set]; exact H.1, fun b c hb => ?_⟩
  rw [hs] at hb
  split at hb
  · rename_i e
    cases hb
    subst e
    exact Or.inr ⟨y, List.getElem?_set_self hl, hc⟩
  · rename_i e
    rcases H.2 b c hb with q | ⟨y2, h1, h2⟩
    · exact Or.inl q
    · exact Or.inr ⟨y2, by rw [List.getElem?_set_ne (fun q => e q.symm)]; exact h1, h2⟩
theorem hR.push {θ : Nat → Int32} {m : Nat} {h h2 : HT} {h' : PH} (H : hR θ m h h') {v : AE} {y : PE} (hs : ∀ b, hget h2 b = if b = m then some v else hget h b) (hc : cR θ v y) : hR θ (m + 1) h2 (h' ++ [y]) := by
  have hm := H.1
  refine ⟨by simp; exact hm, fun b c hb => ?_⟩
  rw [hs] at hb
  split at hb
  · rename_i e
    cases hb
    refine Or.inr ⟨y, ?_, hc⟩
    rw [e, ← hm]; simp
  · rcases H.2 b c hb with q | ⟨y2, h1, h2⟩
    · exact Or.inl q
    · exact Or.inr ⟨y2, by rw [List.getElem?_append_left (List.getElem?_eq_some_iff.mp h1).1]; exact h1, h2⟩
theorem rowsF_ok {θ : Nat → Int32} {row : LW} {y : PE} (hc : cR θ (.inl (0, row)) y) : ∀ {z b : Nat} {h : HT} {k : HT → Bool} {h' : PH}, rowsF row z b h k = true → hR θ b h h' → ∃ h2, k h2 = true ∧ hR θ (b + z) h2 (h' ++ List.replicate z y)
  | 0, b, h, k, h', H, hh => ⟨h, H, by simpa using hh⟩
  | z + 1, b, h, k, h', H, hh => by
    obtain ⟨h2, H, -, hs⟩ := hset_ok (show hset h b (.inl (0, row)) (fun h => natF (b + 1) fun b1 => rowsF row z b1 h k) = true from H)
    obtain ⟨h3, H3, hh3⟩ := rowsF_ok hc (natF_ok H) (hh.push hs hc)
    refine ⟨h3, H3, ?_⟩
    rw [List.append_assoc] at hh3
    rw [show b + (z + 1) = b + 1 + z by omega, List.replicate_succ]
    exact hh3
theorem refsF_ok : ∀ {z b : Nat} {k : LW → Bool}, refsF z b k = true → k ((List.range z).map (fun i => aR (b + i))) = true
  | 0, b, k, h => h
  | z + 1, b, k, h => by
    have h1 := natF_ok (show natF (b + 1) (fun b1 => refsF z b1 fun l => k (.inr (.inr (.ref b)) :: l)) = true from h)
    have h2 := refsF_ok h1
    rw [List.range_succ_eq_map, List.map_cons, List.map_map]
    have e : (fun i => aR (b + i)) ∘ Nat.succ = fun i => aR (b + 1 + i) := by
      funext i; show aR (b + (i + 1)) = _; rw [show b + (i + 1) = b + 1 + i by omega]
    rw [e]
    exact h2
theorem vR.cat {θ : Nat → Int32} {a : AV} {w : Value} (h : vR θ a w) : w.category = wCat a := by
  rcases a with x | ⟨_ | t, r⟩ | v
  · obtain ⟨y, rfl, -⟩ := h; rfl
  · obtain ⟨y, rfl, -⟩ := h; rfl
  · obtain ⟨y, rfl, -⟩ := h; rfl
  · cases v
    case double z => obtain ⟨y, rfl, -⟩ := h; rfl
    all_goals (rw [show w = _ from h]; rfl)
theorem w1_ok {θ : Nat → Int32} {a : AV} {w : Value} (h : w1 a = true) (hv : vR θ a w) : w.category = 1 := by
  rw [hv.cat]
  rcases a with x | x | v
  · rfl
  · rfl
  · exact beq_iff.mp h
theorem cats_ok {θ : Nat → Int32} : ∀ {l : LW} {l' : List Value}, A2 (vR θ) l l' → (l'.map Value.category).sum = cats l
  | [], _, h => by rw [show _ = [] from h]; rfl
  | a :: as, _, ⟨_, _, e, q, t⟩ => by subst e; rw [List.map_cons, List.sum_cons, q.cat, cats_ok t]; rfl
theorem num1 {y : Int32} : (Value.int y).category = 1 := rfl
theorem sRead_ok {θ : Nat → Int32} {env : EV} {i : AV} {l : LW} {cut : List EV → Bool} {k : AV → Bool} {w : Value} (he : eR θ env) (hi : vR θ i w) (h : sRead env i l cut k = true) : ∃ iv, w = .int iv ∧ ((∃ (j : Nat) (a v : AV), iv.toInt = (j : Int) ∧ l[j]? = some a ∧ k v = true ∧ ∀ u, vR θ a u → vR θ v u) ∨ CUT θ cut) := by
  unfold sRead at h
  obtain ⟨iv, lo, hi2, rfl, a1, a2, h⟩ := rK_ok he hi h
  refine ⟨iv, rfl, ?_⟩
  have idx : (wIdx env i cut fun j => (match lget l j with
        | some v => k v
        | none => false)) = true → ((∃ (j : Nat) (a v : AV), iv.toInt = (j : Int) ∧ l[j]? = some a ∧ k v = true ∧ ∀ u, vR θ a u → vR θ v u) ∨ CUT θ cut) := by
    intro h
    obtain ⟨iv2, e, h⟩ := wIdx_ok he hi h
    cases e
    rcases h with ⟨j, hj, h⟩ | h
    · rw [lget_eq] at h
      split at h
      · rename_i v hv
        exact Or.inl ⟨j, v, v, hj, hv, h, fun _ q => q⟩
      · cases h
    · exact Or.inr h
  split at h
  · rename_i j w hw
    have hw' : hi2 - (Int.ofNat j) = (w : Int) := hw
    split at h
    · rename_i x y r hr
      rw [ldrop_eq] at hr
      split at h
      · rename_i hlin
        have h0 : 0 ≤ iv.toInt := Int.le_trans (Int.natCast_nonneg j) a1
        have a1' : (j : Int) ≤ iv.toInt := a1
        have hw2 : hi2 - (j : Int) = (w : Int) := hw'
        have hl := linChk_ok hlin (iv.toInt.toNat - j) (by omega)
        have hj : iv.toInt = ((iv.toInt.toNat : Nat) : Int) := by omega
        have hget : l[iv.toInt.toNat]? = some (.inl (x + (y - x) * ((iv.toInt.toNat - j : Nat) : Int))) := by
          have e : l[iv.toInt.toNat]? = (l.drop j)[iv.toInt.toNat - j]? := by
            rw [List.getElem?_drop]; congr 1; omega
          rw [e, hr]; exact hl
        split at h
        · rename_i hxy
          rw [bEq_iff] at hxy
          refine Or.inl ⟨_, _, _, hj, hget, h, fun u hu => ?_⟩
          rw [hxy, Int.sub_self, Int.zero_mul, Int.add_zero] at hu
          rw [hxy]
          exact hu
        · split at h
          · rename_i t a b _
            obtain ⟨iv2, e, ea⟩ := hi
            cases e
            refine Or.inl ⟨_, _, _, hj, hget, h, fun u hu => ?_⟩
            obtain ⟨z, rfl, ez⟩ := hu
            refine ⟨z, rfl, ?_⟩
            rw [ez]
            have e1 : ((iv.toInt.toNat - j : Nat) : Int) = a * (θ t).toInt + b - (j : Int) := by omega
            rw [e1]
            show _ = (y - x) * a * (θ t).toInt + ((y - x) * b + x - (y - x) * (j : Int))
            rw [Int.mul_sub, Int.mul_add, Int.mul_assoc]
            omega
          · cases h
      · exact idx h
    · exact idx h
  · cases h
theorem wRead_ok {θ : Nat → Int32} {env : EV} {i : AV} {l : LW} {cut : List EV → Bool} {k : AV → Bool} {w : Value} (he : eR θ env) (hi : vR θ i w) (h : wRead env i l cut k = true) : ∃ iv, w = .int iv ∧ ((∃ (j : Nat) (a v : AV), iv.toInt = (j : Int) ∧ l[j]? = some a ∧ k v = true ∧ ∀ u, vR θ a u → vR θ v u) ∨ CUT θ cut) := by
  unfold wRead at h
  split at h
  · rename_i j
    obtain ⟨iv, rfl, e⟩ := hi
    rw [lget_eq] at h
    split at h
    · rename_i v hv
      exact ⟨iv, rfl, Or.inl ⟨j, v, v, e, hv, h, fun _ q => q⟩⟩
    · cases h
  · rcases lin_ok he hi h with ⟨iv, p, rfl, hp, h⟩ | h
    · obtain ⟨t, a, b⟩ := p
      split at h
      · rename_i j e1 e2
        have e1 : t = 0 := e1
        have e2 : b = Int.ofNat j := e2
        subst e1
        rw [lget_eq] at h
        split at h
        · rename_i v hv
          exact ⟨iv, rfl, Or.inl ⟨j, v, v, hp.1.trans e2, hv, h, fun _ q => q⟩⟩
        · cases h
      · cases h
      · exact sRead_ok he hi h
    · exact sRead_ok he hi h
/-- what an instruction's function owes -/
def POK (θ : Nat → Int32) (L : Nat) (C : Nat → List Value → PH → (Rs → PH → Prop) → Prop) (M : PM) (hd : HD4) (Q : Rs → PH → Prop) (K : Kt) (f : OPF) (te : TE) : Prop :=
  ∀ (env : EV) (lv st : LW) (m : Nat) (h : HT) (c s : Nat) (go : GO) (cut : List EV → Bool) (call : Nat → Bool → Bool) (ret : AQ → Bool) (lv' : LV) (st' : List Value) (h' : PH),
    eR θ env → lR θ lv lv' → A2 (vR θ) st st' → hR θ m h h' →
    (∀ pc2 lv2 st2 m2 h2 c2 s2, go pc2 lv2 st2 m2 h2 c2 s2 = true → ∀ lv2' st2' h2', lR θ lv2 lv2' → A2 (vR θ) st2 st2' → hR θ m2 h2 h2' → K pc2 lv2' st2' h2' c2 s2) →
    (∀ μ virt, call μ virt = true → p_call C M hd Q K te.1 μ virt lv' st' h' c s) →
    (∀ q, ret q = true → ∀ r, resR θ q r → Q r h') →
    f (L, M, hd) env lv st m h c s go cut call ret = true →
    CUT θ cut ∨ pmI C (L, θ) M hd Q K te lv' st' h' c s
section OPS
variable {θ : Nat → Int32} {L : Nat} {C : Nat → List Value → PH → (Rs → PH → Prop) → Prop} {M : PM} {hd : HD4} {Q : Rs → PH → Prop} {K : Kt} {pc ta tb : Nat}
theorem k_no {te : TE} : POK θ L C M hd Q K o_no te := by
  intro env lv st m h c s go cut call ret lv' st' h' he hlv hst hh hgo hcall hret H
  cases (show false = true from H)
theorem k_push {te : TE} {v : AV} {w : Value} {n : Nat} (hv : vR θ v w) (hp : ∀ (lv' : LV) (st' : List Value) (h' : PH) (c s : Nat), K n lv' (w :: st') h' c s → pmI C (L, θ) M hd Q K te lv' st' h' c s) : POK θ L C M hd Q K (o_push v n) te := by
  intro env lv st m h c s go cut call ret lv' st' h' he hlv hst hh hgo hcall hret H
  exact Or.inr (hp _ _ _ _ _ (hgo _ _ _ _ _ _ _ H _ _ _ hlv ⟨_, _, rfl, hv, hst⟩ hh))
theorem k_iload {te : TE} {i n : Nat} (hp : ∀ (lv' : LV) (st' : List Value) (h' : PH) (c s : Nat), (∃ x, px_g lv' i = some (.int x) ∧ K n lv' (.int x :: st') h' c s) → pmI C (L, θ) M hd Q K te lv' st' h' c s) : POK θ L C M hd Q K (o_iload i n) te := by
  intro env lv st m h c s go cut call ret lv' st' h' he hlv hst hh hgo hcall hret H
  unfold o_iload at H
  rw [lget_eq] at H
  split at H
  · rename_i v hv
    split at H
    · rename_i hn
      rcases hlv _ _ hv with rfl | ⟨w, hw, hvw, -⟩
      · cases (show false = true from hn)
      · obtain ⟨y, rfl⟩ := isNum_ok hn hvw
        exact Or.inr (hp _ _ _ _ _ ⟨y, hw, hgo _ _ _ _ _ _ _ H _ _ _ hlv ⟨_, _, rfl, hvw, hst⟩ hh⟩)
    · cases H
  · cases H
theorem k_aload {te : TE} {i n : Nat} (hp : ∀ (lv' : LV) (st' : List Value) (h' : PH) (c s : Nat), (∃ v, px_g lv' i = some v ∧ (∃ a, v = .ref a ∨ v = .retAddr a) ∧ K n lv' (v :: st') h' c s) → pmI C (L, θ) M hd Q K te lv' st' h' c s) : POK θ L C M hd Q K (o_aload i n) te := by
  intro env lv st m h c s go cut call ret lv' st' h' he hlv hst hh hgo hcall hret H
  unfold o_aload at H
  rw [lget_eq] at H
  split at H
  · rename_i a hv
    rcases hlv _ _ hv with q | ⟨w, hw, hvw, -⟩
    · cases q
    · exact Or.inr (hp _ _ _ _ _ ⟨w, hw, ⟨a, Or.inl hvw⟩, hgo _ _ _ _ _ _ _ H _ _ _ hlv ⟨_, _, rfl, hvw, hst⟩ hh⟩)
  · rename_i a hv
    rcases hlv _ _ hv with q | ⟨w, hw, hvw, -⟩
    · cases q
    · exact Or.inr (hp _ _ _ _ _ ⟨w, hw, ⟨a, Or.inr hvw⟩, hgo _ _ _ _ _ _ _ H _ _ _ hlv ⟨_, _, rfl, hvw, hst⟩ hh⟩)
  · cases H
theorem k_istore {te : TE} {i n : Nat} (hp : ∀ (lv' : LV) (st' : List Value) (h' : PH) (c s : Nat), (i < pL M ∧ on1 st' fun x r => K n (px_s1 lv' i (.int x)) r h' c s) → pmI C (L, θ) M hd Q K te lv' st' h' c s) : POK θ L C M hd Q K (o_istore i n) te := by
  intro env lv st m h c s go cut call ret lv' st' h' he hlv hst hh hgo hcall hret H
  unfold o_istore at H
  split at H
  · obtain ⟨w, r', rfl, hw, hr⟩ := hst
    split at H
    · rename_i hn
      rw [Bool.and_eq_true, blt_iff] at hn
      obtain ⟨y, rfl⟩ := isNum_ok hn.1 hw
      obtain ⟨-, H⟩ := lset_ok H
      exact Or.inr (hp _ _ _ _ _ ⟨hn.2, hgo _ _ _ _ _ _ _ H _ _ _ (hlv.set hw rfl) hr hh⟩)
    · cases H
  · cases H
theorem k_astore {te : TE} {i n : Nat} (hp : ∀ (lv' : LV) (st' : List Value) (h' : PH) (c s : Nat), (i < pL M ∧ onR st' fun x r => K n (px_s1 lv' i (.ref x)) r h' c s) → pmI C (L, θ) M hd Q K te lv' st' h' c s) : POK θ L C M hd Q K (o_astore i n) te := by
  intro env lv st m h c s go cut call ret lv' st' h' he hlv hst hh hgo hcall hret H
  unfold o_astore at H
  split at H
  · rename_i a r
    obtain ⟨w, r', rfl, hw, hr⟩ := hst
    obtain rfl : w = .ref a := hw
    split at H
    · rename_i hn
      rw [blt_iff] at hn
      obtain ⟨-, H⟩ := lset_ok H
      exact Or.inr (hp _ _ _ _ _ ⟨hn, hgo _ _ _ _ _ _ _ H _ _ _ (hlv.set (show vR θ (.inr (.inr (.ref a))) (.ref a) from rfl) rfl) hr hh⟩)
    · cases H
  · cases H
theorem k_iinc {i : Nat} {z : Int} (hz : inI z z = true) : POK θ L C M hd Q K (o_iinc i z (pc + 3)) (pc, .iinc i z, ta, tb) := by
  intro env lv st m h c s go cut call ret lv' st' h' he hlv hst hh hgo hcall hret H
  unfold o_iinc at H
  rw [lget_eq] at H
  split at H
  · rename_i v hv
    split at H
    · rename_i hn
      rw [Bool.and_eq_true, blt_iff] at hn
      rcases hlv _ _ hv with rfl | ⟨w, hw, hvw, -⟩
      · cases (show false = true from hn.1)
      · rw [inI_iff] at hz
        have hzz : (Int32.ofInt z).toInt = z := (Int32.toInt_ofInt (n := z)).trans (bm hz.1 hz.2)
        obtain ⟨xv, yv, rfl, ey, q⟩ := wAdd_ok (y := .inl z) (wy := .int (Int32.ofInt z)) he hvw ⟨_, rfl, hzz⟩ H
        cases ey
        rcases q with ⟨v2, H, hv2⟩ | q
        · obtain ⟨-, H⟩ := lset_ok H
          exact Or.inr ⟨hn.2, xv, hw, hgo _ _ _ _ _ _ _ H _ _ _ (hlv.set hv2 rfl) hst hh⟩
        · exact Or.inl q
    · cases H
  · cases H
theorem k_iadd : POK θ L C M hd Q K (o_iadd (pc + 1)) (pc, .iadd, ta, tb) := by
  intro env lv st m h c s go cut call ret lv' st' h' he hlv hst hh hgo hcall hret H
  unfold o_iadd at H
  split at H
  · obtain ⟨w, _, rfl, hy, w2, r', rfl, hx, hr⟩ := hst
    obtain ⟨xv, yv, rfl, rfl, q⟩ := wAdd_ok he hx hy H
    rcases q with ⟨v, H, hv⟩ | q
    · exact Or.inr (hgo _ _ _ _ _ _ _ H _ _ _ hlv ⟨_, _, rfl, hv, hr⟩ hh)
    · exact Or.inl q
  · cases H
theorem k_isub : POK θ L C M hd Q K (o_isub (pc + 1)) (pc, .isub, ta, tb) := by
  intro env lv st m h c s go cut call ret lv' st' h' he hlv hst hh hgo hcall hret H
  unfold o_isub at H
  split at H
  · obtain ⟨w, _, rfl, hy, w2, r', rfl, hx, hr⟩ := hst
    obtain ⟨xv, yv, rfl, rfl, q⟩ := wSub_ok he hx hy H
    rcases q with ⟨v, H, hv⟩ | q
    · exact Or.inr (hgo _ _ _ _ _ _ _ H _ _ _ hlv ⟨_, _, rfl, hv, hr⟩ hh)
    · exact Or.inl q
  · cases H
theorem k_imul : POK θ L C M hd Q K (o_imul (pc + 1)) (pc, .imul, ta, tb) := by
  intro env lv st m h c s go cut call ret lv' st' h' he hlv hst hh hgo hcall hret H
  unfold o_imul at H
  split at H
  · obtain ⟨w, _, rfl, hy, w2, r', rfl, hx, hr⟩ := hst
    obtain ⟨xv, yv, rfl, rfl, q⟩ := wMul_ok he hx hy H
    rcases q with ⟨v, H, hv⟩ | q
    · exact Or.inr (hgo _ _ _ _ _ _ _ H _ _ _ hlv ⟨_, _, rfl, hv, hr⟩ hh)
    · exact Or.inl q
  · cases H
theorem k_any {te : TE} {f : Int32 → Int32 → Int32} {n : Nat} (hp : ∀ (lv' : LV) (r : List Value) (x y : Int32) (h' : PH) (c s : Nat), K n lv' (.int (f x y) :: r) h' c s → pmI C (L, θ) M hd Q K te lv' (.int y :: .int x :: r) h' c s) : POK θ L C M hd Q K (o_any f n) te := by
  intro env lv st m h c s go cut call ret lv' st' h' he hlv hst hh hgo hcall hret H
  unfold o_any at H
  split at H
  · obtain ⟨w, _, rfl, hy, w2, r', rfl, hx, hr⟩ := hst
    obtain ⟨xv, yv, rfl, rfl, v, H, hv⟩ := wAny_ok he hx hy H
    exact Or.inr (hp _ _ _ _ _ _ _ (hgo _ _ _ _ _ _ _ H _ _ _ hlv ⟨_, _, rfl, hv, hr⟩ hh))
  · cases H
theorem k_idiv : POK θ L C M hd Q K (o_idiv (pc + 1)) (pc, .idiv, ta, tb) := by
  intro env lv st m h c s go cut call ret lv' st' h' he hlv hst hh hgo hcall hret H
  unfold o_idiv at H
  split at H
  · obtain ⟨w, _, rfl, hy, w2, r', rfl, hx, hr⟩ := hst
    obtain ⟨H, hz⟩ := wNz_ok he hy H
    obtain ⟨xv, yv, rfl, rfl, v, H, hv⟩ := wAny_ok he hx hy H
    exact Or.inr ⟨hz yv rfl, hgo _ _ _ _ _ _ _ H _ _ _ hlv ⟨_, _, rfl, hv, hr⟩ hh⟩
  · cases H
theorem rem1 (x y : Int32) (h : y.toInt = 1) : x - x / y * y = 0 := by
  have hy : y = 1 := toInt_inj (by rw [h]; decide)
  subst hy
  apply toInt_inj
  have h1 : (1 : Int32).toInt = 1 := by decide
  have h0 : (0 : Int32).toInt = 0 := by decide
  have hx := i32_rng x
  have e : (x / 1 * 1 : Int32).toInt = x.toInt := by
    rw [Int32.toInt_mul, Int32.toInt_div, h1, Int.tdiv_one, Int.mul_one]
    show ((x.toInt).bmod 4294967296).bmod 4294967296 = _
    rw [bm hx.1 hx.2, bm hx.1 hx.2]
  rw [Int32.toInt_sub, e, Int.sub_self, h0]
  decide
theorem k_irem : POK θ L C M hd Q K (o_irem (pc + 1)) (pc, .irem, ta, tb) := by
  intro env lv st m h c s go cut call ret lv' st' h' he hlv hst hh hgo hcall hret H
  unfold o_irem at H
  split at H
  · obtain ⟨w, _, rfl, hy, w2, r', rfl, hx, hr⟩ := hst
    split at H
    · split at H
      · rename_i hn
        obtain ⟨xv, rfl⟩ := isNum_ok hn hx
        obtain ⟨yv, rfl, e⟩ := hy
        refine Or.inr ⟨fun q => ?_, ?_⟩
        · subst q
          have h0 : (0 : Int32).toInt = 0 := by decide
          rw [h0] at e
          cases e
        · rw [rem1 xv yv e]
          exact hgo _ _ _ _ _ _ _ H _ _ _ hlv ⟨_, _, rfl, ⟨0, rfl, by decide⟩, hr⟩ hh
      · cases H
    · obtain ⟨H, hz⟩ := wNz_ok he hy H
      obtain ⟨xv, yv, rfl, rfl, v, H, hv⟩ := wAny_ok he hx hy H
      exact Or.inr ⟨hz yv rfl, hgo _ _ _ _ _ _ _ H _ _ _ hlv ⟨_, _, rfl, hv, hr⟩ hh⟩
  · cases H
theorem k_ineg : POK θ L C M hd Q K (o_ineg (pc + 1)) (pc, .ineg, ta, tb) := by
  intro env lv st m h c s go cut call ret lv' st' h' he hlv hst hh hgo hcall hret H
  unfold o_ineg at H
  split at H
  · obtain ⟨w, r', rfl, hx, hr⟩ := hst
    obtain ⟨xv, yv, rfl, -, v, H, hv⟩ := wAny_ok (y := .inl 0) (wy := .int 0) he hx ⟨0, rfl, by decide⟩ H
    exact Or.inr (hgo _ _ _ _ _ _ _ H _ _ _ hlv ⟨_, _, rfl, hv, hr⟩ hh)
  · cases H
theorem k_i2l : POK θ L C M hd Q K (o_i2l (pc + 1)) (pc, .i2l, ta, tb) := by
  intro env lv st m h c s go cut call ret lv' st' h' he hlv hst hh hgo hcall hret H
  unfold o_i2l at H
  split at H
  · obtain ⟨w, r', rfl, hx, hr⟩ := hst
    rcases lin_ok he hx H with ⟨xv, p, rfl, hp, H⟩ | H
    · obtain ⟨t, a, b⟩ := p
      split at H
      · rename_i e1
        have e1 : t = 0 := e1
        subst e1
        have e2 : xv.toInt = b := hp.1
        refine Or.inr (hgo _ _ _ _ _ _ _ H _ _ _ hlv ⟨_, _, rfl, ?_, hr⟩ hh)
        show Value.long _ = .long _
        rw [← e2, Int32.ofInt_toInt]
      · rename_i t1 e1
        have e1 : t = t1 + 1 := e1
        subst e1
        split at H
        · rename_i hc
          rw [Bool.and_eq_true, Bool.and_eq_true, beq_iff, bEq_iff, bEq_iff] at hc
          refine Or.inr (hgo _ _ _ _ _ _ _ H _ _ _ hlv ⟨_, _, rfl, ⟨xv, rfl, ?_⟩, hr⟩ hh)
          rw [hc.1, hc.2.1, hc.2.2]
          exact hp
        · cases H
    · cases H
  · cases H
theorem k_lcmp : POK θ L C M hd Q K (o_lcmp (pc + 1)) (pc, .lcmp, ta, tb) := by
  intro env lv st m h c s go cut call ret lv' st' h' he hlv hst hh hgo hcall hret H
  unfold o_lcmp at H
  split at H
  · obtain ⟨w, _, rfl, hy, w2, r', rfl, hx, hr⟩ := hst
    obtain rfl : w = _ := hy
    obtain rfl : w2 = _ := hx
    exact Or.inr (hgo _ _ _ _ _ _ _ H _ _ _ hlv ⟨_, _, rfl, ⟨_, rfl, rfl⟩, hr⟩ hh)
  · obtain ⟨w, _, rfl, hy, w2, r', rfl, hx, hr⟩ := hst
    split at H
    · rename_i hc
      rw [beq_iff] at hc
      obtain ⟨yv, rfl, ey⟩ := hy
      obtain ⟨xv, rfl, ex⟩ := hx
      have e : xv = yv := toInt_inj (by rw [ex, ey]; unfold dA dB dT; rw [hc])
      subst e
      refine Or.inr (hgo _ _ _ _ _ _ _ H _ _ _ hlv ⟨_, _, rfl, ⟨_, rfl, ?_⟩, hr⟩ hh)
      have : lg_cmp xv.toInt64 xv.toInt64 = 0 := by unfold lg_cmp; simp
      rw [this]; decide
    · cases H
  · cases H
theorem k_dup : POK θ L C M hd Q K (o_dup (pc + 1)) (pc, .dup, ta, tb) := by
  intro env lv st m h c s go cut call ret lv' st' h' he hlv hst hh hgo hcall hret H
  unfold o_dup at H
  split at H
  · obtain ⟨w, r', rfl, hx, hr⟩ := hst
    split at H
    · rename_i hn
      exact Or.inr ⟨w, r', rfl, w1_ok hn hx, hgo _ _ _ _ _ _ _ H _ _ _ hlv ⟨_, _, rfl, hx, _, _, rfl, hx, hr⟩ hh⟩
    · cases H
  · cases H
theorem k_dup2 : POK θ L C M hd Q K (o_dup2 (pc + 1)) (pc, .dup2, ta, tb) := by
  intro env lv st m h c s go cut call ret lv' st' h' he hlv hst hh hgo hcall hret H
  unfold o_dup2 at H
  split at H
  · obtain ⟨w, _, rfl, hx, w2, r', rfl, hy, hr⟩ := hst
    split at H
    · rename_i hn
      rw [Bool.and_eq_true] at hn
      exact Or.inr ⟨w, w2, r', rfl, w1_ok hn.1 hx, w1_ok hn.2 hy, hgo _ _ _ _ _ _ _ H _ _ _ hlv ⟨_, _, rfl, hx, _, _, rfl, hy, _, _, rfl, hx, _, _, rfl, hy, hr⟩ hh⟩
    · cases H
  · cases H
theorem k_pop : POK θ L C M hd Q K (o_pop (pc + 1)) (pc, .pop, ta, tb) := by
  intro env lv st m h c s go cut call ret lv' st' h' he hlv hst hh hgo hcall hret H
  unfold o_pop at H
  split at H
  · obtain ⟨w, r', rfl, hx, hr⟩ := hst
    split at H
    · rename_i hn
      exact Or.inr ⟨w, r', rfl, w1_ok hn hx, hgo _ _ _ _ _ _ _ H _ _ _ hlv hr hh⟩
    · cases H
  · cases H
theorem k_goto {z : Int} (h0 : 0 ≤ (pc : Int) + z) : POK θ L C M hd Q K (o_goto ((pc : Int) + z).toNat) (pc, .goto z, ta, tb) := by
  intro env lv st m h c s go cut call ret lv' st' h' he hlv hst hh hgo hcall hret H
  exact Or.inr ⟨h0, hgo _ _ _ _ _ _ _ H _ _ _ hlv hst hh⟩
theorem k_if {cc : ClassFile.Cond} {z : Int} (h0 : 0 ≤ (pc : Int) + z) : POK θ L C M hd Q K (o_if cc ((pc : Int) + z).toNat (pc + 3)) (pc, .ifCond cc z, ta, tb) := by
  intro env lv st m h c s go cut call ret lv' st' h' he hlv hst hh hgo hcall hret H
  unfold o_if at H
  split at H
  · obtain ⟨w, r', rfl, hx, hr⟩ := hst
    obtain ⟨xv, yv, rfl, ey, q⟩ := wBr_ok (y := .inl 0) (wy := .int 0) he hx ⟨0, rfl, by decide⟩ H
    cases ey
    rcases q with ⟨hc, H⟩ | ⟨hc, H⟩ | q
    · exact Or.inr ⟨h0, fun _ => hgo _ _ _ _ _ _ _ H _ _ _ hlv hr hh, fun q => absurd hc q⟩
    · exact Or.inr ⟨h0, fun q => absurd q hc, fun _ => hgo _ _ _ _ _ _ _ H _ _ _ hlv hr hh⟩
    · exact Or.inl q
  · cases H
theorem k_icmp {cc : ClassFile.Cond} {z : Int} (h0 : 0 ≤ (pc : Int) + z) : POK θ L C M hd Q K (o_icmp cc ((pc : Int) + z).toNat (pc + 3)) (pc, .if_icmp cc z, ta, tb) := by
  intro env lv st m h c s go cut call ret lv' st' h' he hlv hst hh hgo hcall hret H
  unfold o_icmp at H
  split at H
  · obtain ⟨w, _, rfl, hy, w2, r', rfl, hx, hr⟩ := hst
    obtain ⟨xv, yv, rfl, rfl, q⟩ := wBr_ok he hx hy H
    rcases q with ⟨hc, H⟩ | ⟨hc, H⟩ | q
    · exact Or.inr ⟨h0, fun _ => hgo _ _ _ _ _ _ _ H _ _ _ hlv hr hh, fun q => absurd hc q⟩
    · exact Or.inr ⟨h0, fun q => absurd q hc, fun _ => hgo _ _ _ _ _ _ _ H _ _ _ hlv hr hh⟩
    · exact Or.inl q
  · cases H
end OPS
