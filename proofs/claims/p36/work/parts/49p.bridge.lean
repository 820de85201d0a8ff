/-! between regions with ranges and a memory -/
def memOf (h : PH) : MM := fun A i => match h[A]? with
  | some (.inl (0, _, .inl g)) => (g i).toInt
  | some (.inr (_, gs)) => (match gs[i]? with
    | some (.int z) => z.toInt
    | _ => 0)
  | _ => 0
theorem memOf_row {h : PH} {A n i : Nat} {g : Nat → Int32} (e : h[A]? = some (.inl (0, n, .inl g))) : memOf h A i = (g i).toInt := by unfold memOf; simp only [e]
theorem memOf_fld {h : PH} {A ci f : Nat} {gs : List Value} {z : Int32} (e : h[A]? = some (.inr (ci, gs))) (e2 : gs[f]? = some (.int z)) : memOf h A f = z.toInt := by unfold memOf; simp only [e, e2]
/-- the shape of a region's i-th cell -/
def shOf (rs : RS) (i : Nat) (c : CS) : Option SH := match c with
  | .inl (z, _, _) => some (.inl z)
  | .inr (.inr (.inr (ci, fs))) => some (.inr (ci, fs.map fun a => match a with
    | .inl _ => none
    | .inr k => (match rs[k]? with
      | some q => q.1[if isOne q.1 = true then 0 else i]?
      | none => none)))
  | _ => none
def shChk (rs : RS) : Bool := rs.all (fun q => (List.range q.1.length).all fun i => match q.1[i]? with
  | some A => (match shA A with
    | some s => decide (shOf rs i q.2 = some s)
    | none => true)
  | none => true) && (List.range 200).all fun A => match shA A with
  | some _ => rs.any fun q => q.1.contains A
  | none => true
set_option maxRecDepth 100000 in
theorem shA_lt {A : Nat} {s : SH} (h : shA A = some s) : A < 200 := by
  unfold shA at h
  split at h <;> first | omega | cases h
section BRIDGE
variable {rs : RS} {h h' : PH} {mm' : MM}
theorem shChk.at (H : shChk rs = true) {k i A : Nat} {q : List Nat × CS} {s : SH} (h1 : rs[k]? = some q) (h2 : q.1[i]? = some A) (h3 : shA A = some s) : shOf rs i q.2 = some s := by
  unfold shChk at H
  rw [Bool.and_eq_true, List.all_eq_true] at H
  have g := H.1 q (List.mem_of_getElem? h1)
  rw [List.all_eq_true] at g
  have g := g i (List.mem_range.mpr (List.getElem?_eq_some_iff.mp h2).1)
  rw [h2] at g
  simp only [h3] at g
  exact of_decide_eq_true g
theorem shChk.cov (H : shChk rs = true) {A : Nat} {s : SH} (h3 : shA A = some s) : ∃ (k i : Nat) (q : List Nat × CS), rs[k]? = some q ∧ q.1[i]? = some A := by
  unfold shChk at H
  rw [Bool.and_eq_true] at H
  have g := List.all_eq_true.mp H.2 A (List.mem_range.mpr (shA_lt h3))
  simp only [h3] at g
  rw [List.any_eq_true] at g
  obtain ⟨q, hq, hA⟩ := g
  obtain ⟨k, hk⟩ := List.mem_iff_getElem?.mp hq
  obtain ⟨i, hi⟩ := List.mem_iff_getElem?.mp (List.contains_iff_mem.mp hA)
  exact ⟨k, i, q, hk, hi⟩
theorem shR_of {i A : Nat} {c : CS} {y : PE} {s : SH} (hy : h[A]? = some y) (hc : csR rs i c y) (hs : shOf rs i c = some s) : shR s (memOf h A) y := by
  unfold shOf at hs
  split at hs
  · cases hs
    obtain ⟨g, rfl, -⟩ := hc
    exact ⟨g, rfl, fun j => memOf_row hy⟩
  · rename_i ci fs
    cases hs
    obtain ⟨gs, rfl, g1, g2⟩ := hc
    refine ⟨gs, rfl, by rw [g1, List.length_map], fun j => ?_⟩
    rw [List.getElem?_map]
    cases hf : fs[j]? with
    | none => trivial
    | some a =>
      obtain ⟨w, e1, e2⟩ := g2 j a hf
      rcases a with ⟨lo, hi⟩ | k
      · obtain ⟨z, rfl, -, -⟩ := e2
        exact ⟨z, e1, memOf_fld hy e1⟩
      · obtain ⟨q, A', q1, q2, rfl⟩ := e2
        simp only [Option.map_some, q1]
        rw [q2]
        exact e1
  · cases hs
theorem HOK.mem (hc : shChk rs = true) (H : HOK rs h) : RH h h (memOf h) := by
  refine ⟨fun A _ => rfl, fun A s hs => ?_⟩
  obtain ⟨k, i, q, h1, h2⟩ := shChk.cov hc hs
  obtain ⟨y, e1, e2⟩ := H k q i A h1 h2
  exact ⟨y, e1, shR_of e1 e2 (shChk.at hc h1 h2 hs)⟩
/-- a memory is in the ranges of the regions -/
def rngC (c : CS) (m : Nat → Int) : Prop := match c with
  | .inl (z, sd, rl) => ∀ j, j < z → ∃ r, rl[j % sd]? = some r ∧ r.1 ≤ m j ∧ m j ≤ r.2
  | .inr (.inr (.inr (_, fs))) => ∀ f lo hi, fs[f]? = some (.inl (lo, hi)) → lo ≤ m f ∧ m f ≤ hi
  | _ => True
def rngOK (rs : RS) (mem : MM) : Prop := ∀ (k i A : Nat) (q : List Nat × CS), rs[k]? = some q → q.1[i]? = some A → shA A ≠ none → rngC q.2 (mem A)
theorem HOK.rng (H : HOK rs h) : rngOK rs (memOf h) := by
  intro k i A q h1 h2 _
  obtain ⟨y, e1, e2⟩ := H k q i A h1 h2
  obtain ⟨ads, c⟩ := q
  rcases c with ⟨z, sd, rl⟩ | z | ⟨t, k'⟩ | ⟨ci, fs⟩
  · obtain ⟨g, rfl, g2⟩ := e2
    intro j hj
    obtain ⟨r, r1, r2, r3⟩ := g2 j hj
    exact ⟨r, r1, by rw [memOf_row e1]; exact r2, by rw [memOf_row e1]; exact r3⟩
  · trivial
  · trivial
  · obtain ⟨gs, rfl, g1, g2⟩ := e2
    intro f lo hi hf
    obtain ⟨w, w1, z, rfl, w2, w3⟩ := g2 f _ hf
    rw [memOf_fld e1 w1]
    exact ⟨w2, w3⟩
theorem csR.back {i A : Nat} {c : CS} {y' : PE} {s : SH} (hs : shOf rs i c = some s) (hq : ∀ k f : Nat, (match c with | .inr (.inr (.inr (_, fs))) => fs[f]? = some (Sum.inr k) | _ => False) → ∃ (q : List Nat × CS) (A' : Nat), rs[k]? = some q ∧ q.1[if isOne q.1 = true then 0 else i]? = some A') (hr : shR s (mm' A) y') (hg : rngC c (mm' A)) : csR rs i c y' := by
  unfold shOf at hs
  split at hs
  · cases hs
    obtain ⟨g, rfl, g2⟩ := hr
    refine ⟨g, rfl, fun j hj => ?_⟩
    obtain ⟨r, r1, r2, r3⟩ := hg j hj
    exact ⟨r, r1, by rw [← g2]; exact r2, by rw [← g2]; exact r3⟩
  · rename_i ci fs
    cases hs
    obtain ⟨gs, rfl, g1, g2⟩ := hr
    refine ⟨gs, rfl, by rw [g1, List.length_map], fun f a hf => ?_⟩
    have e := g2 f
    rw [List.getElem?_map, hf] at e
    rcases a with ⟨lo, hi⟩ | k
    · obtain ⟨z, z1, z2⟩ := e
      have := hg f lo hi hf
      exact ⟨_, z1, z, rfl, by omega, by omega⟩
    · obtain ⟨q, A', q1, q2⟩ := hq k f hf
      simp only [Option.map_some, q1, q2] at e
      exact ⟨_, e, q, A', q1, q2, rfl⟩
  · cases hs
theorem HOK.back (hc : shChk rs = true) (H : HOK rs h) (hR : RH h h' mm') (hg : rngOK rs mm') : HOK rs h' := by
  intro k q i A h1 h2
  obtain ⟨y, e1, e2⟩ := H k q i A h1 h2
  cases hs : shA A with
  | none => exact ⟨y, by rw [hR.1 A hs]; exact e1, e2⟩
  | some s =>
    obtain ⟨y', f1, f2⟩ := hR.2 A s hs
    refine ⟨y', f1, csR.back (shChk.at hc h1 h2 hs) ?_ f2 (hg k i A q h1 h2 (by rw [hs]; simp))⟩
    intro k' f hf
    obtain ⟨ads, c⟩ := q
    rcases c with ⟨z, sd, rl⟩ | z | ⟨t, k2⟩ | ⟨ci, fs⟩
    · exact hf.elim
    · exact hf.elim
    · exact hf.elim
    · obtain ⟨gs, rfl, g1, g2⟩ := e2
      obtain ⟨w, -, q', A', q1, q2, -⟩ := g2 f _ hf
      exact ⟨q', A', q1, q2⟩
theorem wrR.back (hc : shChk rs = true) (H : HOK rs h) {wr : WL} (hR : RH h h' mm') (hf : ∀ (k i A f : Nat) (q : List Nat × CS), rs[k]? = some q → q.1[i]? = some A → shA A ≠ none → ¬ wIn wr k f → mm' A f = memOf h A f) : wrR rs wr h h' := by
  intro k q i A h1 h2 f w hw hcell
  cases hs : shA A with
  | none =>
    unfold cellAt at hcell ⊢
    rw [hR.1 A hs]; exact hcell
  | some s =>
    have he := hf k i A f q h1 h2 (by rw [hs]; simp) hw
    have hm := H.mem hc
    obtain ⟨y, f1, f2⟩ := hm.2 A s hs
    obtain ⟨y', f1', f2'⟩ := hR.2 A s hs
    rcases s with n | ⟨ci, fs⟩
    · obtain ⟨g, rfl, g2⟩ := f2
      obtain ⟨g', rfl, g2'⟩ := f2'
      refine Or.inl ⟨n, g', f1', ?_⟩
      rcases hcell with ⟨z, g3, c1, rfl⟩ | ⟨cj, gs, c1, -⟩
      · rw [f1] at c1
        cases c1
        have : g' f = g f := toInt_inj (by rw [← g2', ← g2]; exact he)
        rw [this]
      · rw [f1] at c1; cases c1
    · obtain ⟨gs, rfl, g1, g2⟩ := f2
      obtain ⟨gs', rfl, g1', g2'⟩ := f2'
      refine Or.inr ⟨ci, gs', f1', ?_⟩
      rcases hcell with ⟨z, g3, c1, -⟩ | ⟨cj, gs3, c1, c2⟩
      · rw [f1] at c1; cases c1
      · rw [f1] at c1
        cases c1
        have e := g2 f
        have e' := g2' f
        cases hff : fs[f]? with
        | none =>
          exfalso
          have l1 := (List.getElem?_eq_some_iff.mp c2).1
          rw [List.getElem?_eq_none_iff] at hff
          omega
        | some a =>
          rw [hff] at e e'
          cases a with
          | none =>
            obtain ⟨z, z1, z2⟩ := e
            obtain ⟨z', z1', z2'⟩ := e'
            rw [c2] at z1
            cases z1
            have : z' = z := toInt_inj (by rw [← z2', ← z2]; exact he)
            rw [z1', this]
          | some B =>
            rw [c2] at e
            cases e
            exact e'
end BRIDGE
