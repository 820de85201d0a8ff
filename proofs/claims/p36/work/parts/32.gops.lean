/-! the careful evaluator: every instruction -/
theorem pg_ne2 {lv : LV} {i j : Nat} {u w : Value} (hji : ¬ j = i) (h : px_g lv j = some u) (hu : j + 1 = i → u.category = 1) : px_g (px_s1 lv i w) j = some u := by
  have key : ∀ {lv : LV}, px_g lv j = some u → px_g (lv.filter (fun q => !(q.1 == i) && !(q.1 + 1 == i && q.2.category == 2))) j = some u := by
    intro lv
    induction lv with
    | nil => intro h; simp [px_g] at h
    | cons q lv ih =>
      intro h
      by_cases hq : q.1 = j
      · have e : q.2 = u := by
          simp only [px_g, List.find?, hq, beq_self_eq_true] at h
          simpa using h
        have hP : (!(q.1 == i) && !(q.1 + 1 == i && q.2.category == 2)) = true := by
          rw [e, hq]
          by_cases hji2 : j + 1 = i
          · rw [hu hji2]; simp [hji]
          · simp [hji, hji2]
        rw [List.filter_cons, if_pos hP]
        simp [px_g, List.find?, hq, e]
      · have h' : px_g lv j = some u := by
          simp only [px_g, List.find?] at h ⊢
          rw [show (q.1 == j) = false by simp [hq]] at h
          exact h
        have ih := ih h'
        rw [List.filter_cons]
        split
        · simp only [px_g, List.find?] at ih ⊢
          rw [show (q.1 == j) = false by simp [hq]]
          exact ih
        · exact ih
  have := key h
  unfold px_s1
  simp only [px_g, List.find?] at this ⊢
  rw [show (i == j) = false by simp; exact fun q => hji q.symm]
  exact this
theorem pg_self2 (lv : LV) (i : Nat) (w : Value) : px_g (px_s2 lv i w) i = some w := by simp [px_g, px_s2]
theorem pg_ne3 {lv : LV} {i j : Nat} {u w : Value} (hji : ¬ j = i) (hji1 : ¬ j = i + 1) (h : px_g lv j = some u) (hu : j + 1 = i → u.category = 1) : px_g (px_s2 lv i w) j = some u := by
  have key : ∀ {lv : LV}, px_g lv j = some u → px_g (lv.filter (fun q => !(q.1 == i) && (!(q.1 == i + 1) && !(q.1 + 1 == i && q.2.category == 2)))) j = some u := by
    intro lv
    induction lv with
    | nil => intro h; simp [px_g] at h
    | cons q lv ih =>
      intro h
      by_cases hq : q.1 = j
      · have e : q.2 = u := by
          simp only [px_g, List.find?, hq, beq_self_eq_true] at h
          simpa using h
        have hP : (!(q.1 == i) && (!(q.1 == i + 1) && !(q.1 + 1 == i && q.2.category == 2))) = true := by
          rw [e, hq]
          by_cases hji2 : j + 1 = i
          · rw [hu hji2]; simp [hji, hji1]
          · simp [hji, hji1, hji2]
        rw [List.filter_cons, if_pos hP]
        simp [px_g, List.find?, hq, e]
      · have h' : px_g lv j = some u := by
          simp only [px_g, List.find?] at h ⊢
          rw [show (q.1 == j) = false by simp [hq]] at h
          exact h
        have ih := ih h'
        rw [List.filter_cons]
        split
        · simp only [px_g, List.find?] at ih ⊢
          rw [show (q.1 == j) = false by simp [hq]]
          exact ih
        · exact ih
  have := key h
  unfold px_s2
  simp only [px_g, List.find?] at this ⊢
  rw [show (i == j) = false by simp; exact fun q => hji q.symm]
  exact this
section GO1
variable {rs : RS} {θ : Nat → Int32} {n : Nat}
theorem vG.cat1 {a : AV} {w : Value} (h : vG rs θ n a w) (hp : plain1 a = true) (hl : isL a = false) : w.category = 1 := by
  rcases a with x | ⟨_ | t, r⟩ | v
  · obtain ⟨y, rfl, -⟩ := h; rfl
  · obtain ⟨y, rfl, -⟩ := h; rfl
  · obtain ⟨-, y, rfl, -⟩ := h; rfl
  · cases v
    case retAddr e => obtain ⟨A, -, rfl⟩ := h; rfl
    case double z => cases hl
    case null => rw [show w = .null from h]; rfl
    case int x => rw [show w = .int x from h]; rfl
    all_goals cases hp
theorem vG.wcat {a : AV} {w : Value} (h : vG rs θ n a w) : w.category = wCat a := by
  rcases a with x | ⟨_ | t, r⟩ | v
  · obtain ⟨y, rfl, -⟩ := h; rfl
  · obtain ⟨y, rfl, -⟩ := h; rfl
  · obtain ⟨-, y, rfl, -⟩ := h; rfl
  · cases v
    case retAddr e => obtain ⟨A, -, rfl⟩ := h; rfl
    case double z => obtain ⟨x, rfl⟩ := h; rfl
    all_goals (rw [show w = _ from h]; rfl)
theorem g1_ok {a : AV} {w : Value} (h : w1 a = true) (hv : vG rs θ n a w) : w.category = 1 := by
  rw [hv.wcat]
  rcases a with x | x | v
  · rfl
  · rfl
  · exact beq_iff.mp h
theorem gcats_ok : ∀ {l : LW} {l' : List Value}, A2 (vG rs θ n) l l' → (l'.map Value.category).sum = cats l
  | [], _, h => by rw [show _ = [] from h]; rfl
  | a :: as, _, ⟨_, _, e, q, t⟩ => by subst e; rw [List.map_cons, List.sum_cons, q.wcat, gcats_ok t]; rfl
theorem lG.set {lv : LW} {lv' : LV} (h : lG rs θ n lv lv') {i : Nat} {v : AV} {w : Value} (hp : plain1 v = true) (hv : vG rs θ n v w) (hn : ∀ j u, j + 1 = i → lv[j]? = some u → isL u = false) : lG rs θ n (lv.set i v) (px_s1 lv' i w) := by
  intro j u hu
  by_cases hij : i = j
  · subst hij
    rw [List.getElem?_set] at hu
    simp only [if_true] at hu
    split at hu
    · cases hu; exact ⟨hp, Or.inr ⟨w, pg_self _ _ _, hv⟩⟩
    · cases hu
  · rw [List.getElem?_set_ne hij] at hu
    obtain ⟨hpu, hq⟩ := h j u hu
    refine ⟨hpu, ?_⟩
    rcases hq with q | ⟨w2, h1, h2⟩
    · exact Or.inl q
    · exact Or.inr ⟨w2, pg_ne2 (fun q => hij q.symm) h1 (fun q => h2.cat1 hpu (hn j u q hu)), h2⟩
theorem lG.set2 {lv : LW} {lv' : LV} (h : lG rs θ n lv lv') {i : Nat} {v : AV} {w : Value} (hp : plain1 v = true) (hv : vG rs θ n v w) (hn : ∀ j u, j + 1 = i → lv[j]? = some u → isL u = false) : lG rs θ n ((lv.set i v).set (i + 1) aU) (px_s2 lv' i w) := by
  intro j u hu
  by_cases hij1 : i + 1 = j
  · subst hij1
    rw [List.getElem?_set] at hu
    simp only [if_true] at hu
    split at hu
    · cases hu; exact ⟨rfl, Or.inl rfl⟩
    · cases hu
  · rw [List.getElem?_set_ne hij1] at hu
    by_cases hij : i = j
    · subst hij
      rw [List.getElem?_set] at hu
      simp only [if_true] at hu
      split at hu
      · cases hu; exact ⟨hp, Or.inr ⟨w, pg_self2 _ _ _, hv⟩⟩
      · cases hu
    · rw [List.getElem?_set_ne hij] at hu
      obtain ⟨hpu, hq⟩ := h j u hu
      refine ⟨hpu, ?_⟩
      rcases hq with q | ⟨w2, h1, h2⟩
      · exact Or.inl q
      · exact Or.inr ⟨w2, pg_ne3 (fun q => hij q.symm) (fun q => hij1 q.symm) h1 (fun q => h2.cat1 hpu (hn j u q hu)), h2⟩
/-! cells -/
theorem adR.get {e A : Nat} (H : adR rs θ n e A) : ∃ q i, rs[e / 65536]? = some q ∧ q.1[i]? = some A ∧ (isOne q.1 = true → i = 0) := by
  obtain ⟨q, h1, h2⟩ := H
  rcases h2 with ⟨h2, h3⟩ | ⟨h2, -, -, h3⟩
  · exact ⟨q, 0, h1, h3, fun _ => rfl⟩
  · exact ⟨q, _, h1, h3, fun h => by rw [h2] at h; cases h⟩
theorem adR.cell {h : PH} (hh : HOK rs h) {e A : Nat} (H : adR rs θ n e A) {q : List Nat × CS} (hq : kspec rs e = some q) : ∃ i y, q.1[i]? = some A ∧ h[A]? = some y ∧ csR rs i q.2 y := by
  obtain ⟨q2, i, h1, h2, -⟩ := H.get
  unfold kspec at hq
  rw [lget_eq] at hq
  have e1 : q2 = q := Option.some.inj (h1.symm.trans hq)
  subst e1
  obtain ⟨y, h3, h4⟩ := hh _ _ _ _ h1 h2
  exact ⟨i, y, h2, h3, h4⟩
theorem HOK.set {h : PH} (hd : DJ rs) (hh : HOK rs h) {k : Nat} {q : List Nat × CS} {i A : Nat} {y : PE} (h1 : rs[k]? = some q) (h2 : q.1[i]? = some A) (hy : csR rs i q.2 y) : HOK rs (h.set A y) := by
  intro k' q' i' A' h1' h2'
  by_cases e : A = A'
  · subst e
    obtain ⟨rfl, rfl⟩ := hd _ _ _ _ _ _ _ h1 h2 h1' h2'
    cases h1.symm.trans h1'
    obtain ⟨y0, g1, -⟩ := hh _ _ _ _ h1 h2
    exact ⟨y, List.getElem?_set_self (List.getElem?_eq_some_iff.mp g1).1, hy⟩
  · obtain ⟨y0, g1, g2⟩ := hh _ _ _ _ h1' h2'
    exact ⟨y0, by rw [List.getElem?_set_ne e]; exact g1, g2⟩
theorem aEq_ok {x y : AV} (h : aEq x y = true) : x = y := by
  unfold aEq at h
  split at h
  · rw [bEq_iff.mp h]
  · rw [Bool.and_eq_true, Bool.and_eq_true, Bool.and_eq_true, beq_iff, bEq_iff, bEq_iff] at h
    rw [h.1, h.2.2.1, h.2.2.2]
  · cases h
theorem aEq_one {x y : AV} (h : aEq x y = true) {u w : Value} (hu : vG rs θ n x u) (hw : vG rs θ n y w) : u = w := by
  have e := aEq_ok h
  subst e
  rcases x with x | ⟨_ | t, a, b⟩ | v
  · obtain ⟨y1, rfl, e1⟩ := hu
    obtain ⟨y2, rfl, e2⟩ := hw
    rw [toInt_inj (e1.trans e2.symm)]
  · cases (show false = true from h)
  · obtain ⟨-, y1, rfl, e1⟩ := hu
    obtain ⟨-, y2, rfl, e2⟩ := hw
    rw [toInt_inj (e1.trans e2.symm)]
  · cases (show false = true from h)
theorem adR.one {e A B : Nat} (h1 : adR rs θ n e A) (h2 : adR rs θ n e B) : A = B := by
  obtain ⟨q, a1, a2⟩ := h1
  obtain ⟨q2, b1, b2⟩ := h2
  cases a1.symm.trans b1
  rcases a2 with ⟨a2, a3⟩ | ⟨a2, -, -, a3⟩ <;> rcases b2 with ⟨b2, b3⟩ | ⟨b2, -, -, b3⟩
  · exact Option.some.inj (a3.symm.trans b3)
  · rw [a2] at b2; cases b2
  · rw [a2] at b2; cases b2
  · exact Option.some.inj (a3.symm.trans b3)
theorem mfind_ok {m : MW} {e : Nat} {p : AV} {k : AV → Bool} {no : Bool} (h : mfind m e p k no = true) : no = true ∨ ∃ f ∈ m, f.1 = e ∧ aEq f.2.1 p = true ∧ k f.2.2 = true := by
  induction m with
  | nil => exact Or.inl h
  | cons f m ih =>
    have h1 : (match Nat.beq f.1 e && aEq f.2.1 p with | true => k f.2.2 | false => mfind m e p k no) = true := h
    split at h1
    · rename_i q
      rw [Bool.and_eq_true, beq_iff] at q
      exact Or.inr ⟨f, List.mem_cons_self, q.1, q.2, h1⟩
    · rcases ih h1 with q | ⟨f2, g1, g2⟩
      · exact Or.inl q
      · exact Or.inr ⟨f2, List.mem_cons_of_mem _ g1, g2⟩
theorem mdrop_ok {m : MW} {r : Nat} {p : AV} {k : MW → Bool} (h : mdrop m r p k = true) : ∃ m2, k m2 = true ∧ ∀ f ∈ m2, f ∈ m ∧ (f.1 / 65536 = r → isK f.2.1 = true ∧ isK p = true ∧ ¬ aEq f.2.1 p = true) := by
  induction m generalizing k with
  | nil => exact ⟨[], h, fun f hf => by cases hf⟩
  | cons f m ih =>
    have h1 : (match Nat.beq (Nat.div f.1 65536) r && !(isK f.2.1 && (isK p && !(aEq f.2.1 p))) with | true => mdrop m r p k | false => mdrop m r p fun m => k (f :: m)) = true := h
    split at h1
    · obtain ⟨m2, g1, g2⟩ := ih h1
      exact ⟨m2, g1, fun f2 hf => ⟨List.mem_cons_of_mem _ (g2 f2 hf).1, (g2 f2 hf).2⟩⟩
    · rename_i q
      obtain ⟨m2, g1, g2⟩ := ih h1
      refine ⟨f :: m2, g1, fun f2 hf => ?_⟩
      rcases List.mem_cons.mp hf with rfl | hf
      · refine ⟨List.mem_cons_self, fun hr => ?_⟩
        rw [Bool.and_eq_false_iff] at q
        rcases q with q | q
        · rw [show Nat.beq (Nat.div f2.1 65536) r = true from beq_iff.mpr hr] at q; cases q
        · rw [Bool.not_eq_false', Bool.and_eq_true, Bool.and_eq_true, Bool.not_eq_true'] at q
          exact ⟨q.1, q.2.1, by rw [q.2.2]; simp⟩
      · exact ⟨List.mem_cons_of_mem _ (g2 f2 hf).1, (g2 f2 hf).2⟩
/-- what stays known when place j of cell A, of region r, is written -/
theorem mG.keep {m m2 : MW} {h : PH} {r : Nat} {p : AV} {j : Int32} {A i0 : Nat} {q0 : List Nat × CS} {y : PE} (hd : DJ rs) (H : mG rs θ n m h) (hq0 : rs[r]? = some q0) (hA : q0.1[i0]? = some A) (hp : vG rs θ n p (.int j)) (hj : 0 ≤ j.toInt) (hm : ∀ f ∈ m2, f ∈ m ∧ (f.1 / 65536 = r → isK f.2.1 = true ∧ isK p = true ∧ ¬ aEq f.2.1 p = true)) (hy : ∀ (j2 : Nat) (w : Value), ¬ j2 = j.toInt.toNat → cellAt h A j2 w → cellAt (h.set A y) A j2 w) : mG rs θ n m2 (h.set A y) := by
  intro f hf
  obtain ⟨hf1, hf2⟩ := hm f hf
  obtain ⟨B, j2, w, g1, g2, g3, g4, g5⟩ := H f hf1
  refine ⟨B, j2, w, g1, g2, g3, ?_, g5⟩
  by_cases hAB : A = B
  · subst hAB
    obtain ⟨q, i, e1, e2, -⟩ := g1.get
    obtain ⟨e3, e4⟩ := hd _ _ _ _ _ _ _ e1 e2 hq0 hA
    obtain ⟨k1, k2, k3⟩ := hf2 e3
    refine hy _ w (fun hjj => k3 ?_) g4
    cases hf21 : f.2.1 with
    | inr v => rw [hf21] at k1; cases k1
    | inl x =>
      cases hp1 : p with
      | inr v => rw [hp1] at k2; cases k2
      | inl z =>
        rw [hf21] at g2
        rw [hp1] at hp
        obtain ⟨y1, a1, a2⟩ := g2
        obtain ⟨y2, b1, b2⟩ := hp
        cases a1
        cases b1
        show bEq x z = true
        rw [bEq_iff]
        omega
  · rcases g4 with ⟨z, g, a1, a2⟩ | ⟨ci, gs, a1, a2⟩
    · exact Or.inl ⟨z, g, by rw [List.getElem?_set_ne hAB]; exact a1, a2⟩
    · exact Or.inr ⟨ci, gs, by rw [List.getElem?_set_ne hAB]; exact a1, a2⟩
theorem wIn_all {wr : WL} {k : Nat} (h : wAllB wr k = true) (f : Nat) : wIn wr k f := by
  unfold wAllB at h
  rw [List.any_eq_true] at h
  obtain ⟨x, h1, h2⟩ := h
  rw [Bool.and_eq_true, beq_iff, beq_iff] at h2
  exact ⟨x, h1, h2.1, Or.inl h2.2⟩
theorem wAll_ok {wr : WL} {k : Nat} {b : Bool} (h : wAll wr k b = true) : b = true ∧ wAllB wr k = true := by
  unfold wAll at h
  split at h
  · rename_i q; exact ⟨h, q⟩
  · cases h
theorem wHas_ok {wr : WL} {k f : Nat} {b : Bool} (h : wHas wr k f b = true) : b = true ∧ wIn wr k f := by
  unfold wHas at h
  split at h
  · rename_i q
    refine ⟨h, ?_⟩
    rw [List.any_eq_true] at q
    obtain ⟨x, h1, h2⟩ := q
    rw [Bool.and_eq_true, Bool.or_eq_true, beq_iff, beq_iff, beq_iff] at h2
    exact ⟨x, h1, h2⟩
  · cases h
theorem HW.set {h0 h : PH} {wr : WL} (hd : DJ rs) (hh : HW rs wr h0 h) {k : Nat} {q : List Nat × CS} {i A : Nat} {y : PE} (h1 : rs[k]? = some q) (h2 : q.1[i]? = some A) (hy : csR rs i q.2 y) (hw : ∀ f, ¬ wIn wr k f → ∀ w, cellAt h A f w → cellAt (h.set A y) A f w) : HW rs wr h0 (h.set A y) := by
  refine ⟨hh.1.set hd h1 h2 hy, ?_⟩
  intro k' q' i' A' h1' h2' f w hf hc
  have h3 := hh.2 k' q' i' A' h1' h2' f w hf hc
  by_cases e : A = A'
  · subst e
    obtain ⟨rfl, rfl⟩ := hd _ _ _ _ _ _ _ h1 h2 h1' h2'
    exact hw f hf w h3
  · rcases h3 with ⟨z, g, a1, a2⟩ | ⟨ci, gs, a1, a2⟩
    · exact Or.inl ⟨z, g, by rw [List.getElem?_set_ne e]; exact a1, a2⟩
    · exact Or.inr ⟨ci, gs, by rw [List.getElem?_set_ne e]; exact a1, a2⟩
end GO1
