/-! between regions with ranges and a memory -/
def memOf (h : PH) : MM := fun A i => match h[A]? with
  | some (.inl (0, _, .inl g)) => (g i).toInt
  | some (.inr (_, gs)) => (match gs[i]? with
    | some (.int z) => z.toInt
    | _ => 0)
  | _ => 0
theorem memOf_row {h : PH} {A n i : Nat} {g : Nat → Int32} (e : h[A]? = some (.inl (0, n, .inl g))) : memOf h A i = (g i).toInt := by unfold memOf; simp only [e]
theorem memOf_fld {h : PH} {A ci f : Nat} {gs : List Value} {z : Int32} (e : h[A]? = some (.inr (ci, gs))) (e2 : gs[f]? = some (.int z)) : memOf h A f = z.toInt := by unfold memOf; simp only [e, e2]
/-- the shape of a region's i-th cell -/
def shOf (rs : RS) (i : Nat) (c : CS) : Option SH := match c with
  | .inl (z, _, _) => some (.inl z)
  | .inr (.inr (.inr (ci, fs))) => some (.inr (ci, fs.map fun a => match a with
    | .inl _ => none
    | .inr k => (match rs[k]? with
      | some q => q.1[if isOne q.1 = true then 0 else i]?
      | none => none)))
  | _ => none
def shChk (rs : RS) : Bool := rs.all (fun q => (List.range q.1.length).all fun i => match q.1[i]? with
  | some A => (match shA A with
    | some s => decide (shOf rs i q.2 = some s)
    | none => true)
  | none => true) && (List.range 200).all fun A => match shA A with
  | some _ => rs.any fun q => q.1.contains A
  | none => true
set_option maxRecDepth 100000 in
theorem shA_lt {A : Nat} {s : SH} (h : shA A = some s) : A < 200 := by
  unfold shA at h
  split at h <;> first | omega | cases h
section BRIDGE
variable {rs : RS} {h h' : PH} {mm' : MM}
theorem shChk.at (H : shChk rs = true) {k i A : Nat} {q : List Nat × CS} {s : SH} (h1 : rs[k]? = some q) (h2 : q.1[i]? = some A) (h3 : shA A = some s) : shOf rs i q.2 = some s := by
  unfold shChk at H
  rw [Bool.and_eq_true, List.all_eq_true] at H
  have g := H.1 q (List.mem_of_getElem? h1)
  rw [List.all_eq_true] at g
  have g := g i (List.mem_range.mpr (List.getElem?_eq_some_iff.mp h2).1)
  rw [h2] at g
  simp only [h3] at g
  exact of_decide_eq_true g
theorem shChk.cov (H : shChk rs = true) {A : Nat} {s : SH} (h3 : shA A = some s) : ∃ (k i : Nat) (q : List Nat × CS), rs[k]? = some q ∧ q.1[i]? = some A := by
  unfold shChk at H
  rw [Bool.and_eq_true] at H
  have g := List.all_eq_true.mp H.2 A (List.mem_range.mpr (shA_lt h3))
  simp only [h3] at g
  rw [List.any_eq_true] at g
  obtain ⟨q, hq, hA⟩ := g
  obtain ⟨k, hk⟩ := List.mem_iff_getElem?.mp hq
  obtain ⟨i, hi⟩ := List.mem_iff_getElem?.mp (List.contains_iff_mem.mp hA)
  exact ⟨k, i, q, hk, hi⟩
theorem shR_of {i A : Nat} {c : CS} {y : PE} {s : SH} (hy : h[A]? = some y) (hc : csR rs i c y) (hs : shOf rs i c = some s) : shR s (memOf h A) y := by
  unfold shOf at hs
  split at hs
  · cases hs
    obtain ⟨g, rfl, -⟩ := hc
    exact ⟨g, rfl, fun j => memOf_row hy⟩
  · rename_i ci fs
    cases hs
    obtain ⟨gs, rfl, g1, g2⟩ := hc
    refine ⟨gs, rfl, by rw [g1, List.length_map], fun j => ?_⟩
    rw [List.getElem?_map]
    cases hf : fs[j]? with
    | none => trivial
    | some a =>
      obtain ⟨w, e1, e2⟩ := g2 j a hf
      rcases a with ⟨lo, hi⟩ | k
      · obtain ⟨z, rfl, -, -⟩ := e2
        exact ⟨z, e1, memOf_fld hy e1⟩
      · obtain ⟨q, A', q1, q2, rfl⟩ := e2
        simp only [Option.map_some, q1]
        rw [q2]
        exact e1
  · cases hs
theorem HOK.mem (hc : shChk rs = true) (H : HOK rs h) : RH h h (memOf h) := by
  refine ⟨fun A _ => rfl, fun A s hs => ?_⟩
  obtain ⟨k, i, q, h1, h2⟩ := shChk.cov hc hs
  obtain ⟨y, e1, e2⟩ := H k q i A h1 h2
  exact ⟨y, e1, shR_of e1 e2 (shChk.at hc h1 h2 hs)⟩
/-- a memory is in the ranges of the regions -/
def rngC (c : CS) (m : Nat → Int) : Prop := match c with
  | .inl (z, sd, rl) => ∀ j, j < z → ∃ r, rl[j % sd]? = some r ∧ r.1 ≤ m j ∧ m j ≤ r.2
  | .inr (.inr (.inr (_, fs))) => ∀ f lo hi, fs[f]? = some (.inl (lo, hi)) → lo ≤ m f ∧ m f ≤ hi
  | _ => True
def rngOK (rs : RS) (mem : MM) : Prop := ∀ (k i A : Nat) (q : List Nat × CS), rs[k]? = some q → q.1[i]? = some A → shA A ≠ none → rngC q.2 (mem A)
theorem HOK.rng (H : HOK rs h) : rngOK rs (memOf h) := by
  intro k i A q h1 h2 _
  obtain ⟨y, e1, e2⟩ := H k q i A h1 h2
  obtain ⟨ads, c⟩ := q
  rcases c with ⟨z, sd, rl⟩ | z | ⟨t, k'⟩ | ⟨ci, fs⟩
  · obtain ⟨g, rfl, g2⟩ := e2
    intro j hj
    obtain ⟨r, r1, r2, r3⟩ := g2 j hj
    exact ⟨r, r1, by rw [memOf_row e1]; exact r2, by rw [memOf_row e1]; exact r3⟩
  · trivial
  · trivial
  · obtain ⟨gs, rfl, g1, g2⟩ := e2
    intro f lo hi hf
    obtain ⟨w, w1, z, rfl, w2, w3⟩ := g2 f _ hf
    rw [memOf_fld e1 w1]
    exact ⟨w2, w3⟩
theorem csR.back {i A : Nat} {c : CS} {y' : PE} {s : SH} (hs : shOf rs i c = some s) (hq : ∀ k f : Nat, (match c with | .inr (.inr (.inr (_, fs))) => fs[f]? = some (Sum.inr k) | _ => False) → ∃ (q : List Nat × CS) (A' : Nat), rs[k]? = some q ∧ q.1[if isOne q.1 = true then 0 else i]? = some A') (hr : shR s (mm' A) y') (hg : rngC c (mm' A)) : csR rs i c y' := by
  unfold shOf at hs
  split at hs
  · cases hs
    obtain ⟨g, rfl, g2⟩ := hr
    refine ⟨g, rfl, fun j hj => ?_⟩
    obtain ⟨r, r1, r2, r3⟩ := hg j hj
    exact ⟨r, r1, by rw [← g2]; exact r2, by rw [← g2]; exact r3⟩
  · rename_i ci fs
    cases hs
    obtain ⟨gs, rfl, g1, g2⟩ := hr
    refine ⟨gs, rfl, by rw [g1, List.length_map], fun f a hf => ?_⟩
    have e := g2 f
    rw [List.getElem?_map, hf] at e
    rcases a with ⟨lo, hi⟩ | k
    · obtain ⟨z, z1, z2⟩ := e
      have := hg f lo hi hf
      exact ⟨_, z1, z, rfl, by omega, by omega⟩
    · obtain ⟨q, A', q1, q2⟩ := hq k f hf
      simp only [Option.map_some, q1, q2] at e
      exact ⟨_, e, q, A', q1, q2, rfl⟩
  · cases hs
theorem HOK.back (hc : shChk rs = true) (H : HOK rs h) (hR : RH h h' mm') (hg : rngOK rs mm') : HOK rs h' := by
  intro k q i A h1 h2
  obtain ⟨y, e1, e2⟩ := H k q i A h1 h2
  cases hs : shA A with
  | none => exact ⟨y, by rw [hR.1 A hs]; exact e1, e2⟩
  | some s =>
    obtain ⟨y', f1, f2⟩ := hR.2 A s hs
    refine ⟨y', f1, csR.back (shChk.at hc h1 h2 hs) ?_ f2 (hg k i A q h1 h2 (by rw [hs]; simp))⟩
    intro k' f hf
    obtain ⟨ads, c⟩ := q
    rcases c with ⟨z, sd, rl⟩ | z | ⟨t, k2⟩ | ⟨ci, fs⟩
    · exact hf.elim
    · exact hf.elim
    · exact hf.elim
    · obtain ⟨gs, rfl, g1, g2⟩ := e2
      obtain ⟨w, -, q', A', q1, q2, -⟩ := g2 f _ hf
      exact ⟨q', A', q1, q2⟩
theorem wrR.back (hc : shChk rs = true) (H : HOK rs h) {wr : WL} (hR : RH h h' mm') (hf : ∀ (k i A f : Nat) (q : List Nat × CS), rs[k]? = some q → q.1[i]? = some A → shA A ≠ none → ¬ wIn wr k f → mm' A f = memOf h A f) : wrR rs wr h h' := by
  intro k q i A h1 h2 f w hw hcell
  cases hs : shA A with
  | none =>
    unfold cellAt at hcell ⊢
    rw [hR.1 A hs]; exact hcell
  | some s =>
    have he := hf k i A f q h1 h2 (by rw [hs]; simp) hw
    have hm := H.mem hc
    obtain ⟨y, f1, f2⟩ := hm.2 A s hs
    obtain ⟨y', f1', f2'⟩ := hR.2 A s hs
    rcases s with n | ⟨ci, fs⟩
    · obtain ⟨g, rfl, g2⟩ := f2
      obtain ⟨g', rfl, g2'⟩ := f2'
      refine Or.inl ⟨n, g', f1', ?_⟩
      rcases hcell with ⟨z, g3, c1, rfl⟩ | ⟨cj, gs, c1, -⟩
      · rw [f1] at c1
        cases c1
        have : g' f = g f := toInt_inj (by rw [← g2', ← g2]; exact he)
        rw [this]
      · rw [f1] at c1; cases c1
    · obtain ⟨gs, rfl, g1, g2⟩ := f2
      obtain ⟨gs', rfl, g1', g2'⟩ := f2'
      refine Or.inr ⟨ci, gs', f1', ?_⟩
      rcases hcell with ⟨z, g3, c1, -⟩ | ⟨cj, gs3, c1, c2⟩
      · rw [f1] at c1; cases c1
      · rw [f1] at c1
        cases c1
        have e := g2 f
        have e' := g2' f
        cases hff : fs[f]? with
        | none =>
          exfalso
          have l1 := (List.getElem?_eq_some_iff.mp c2).1
          rw [List.getElem?_eq_none_iff] at hff
          omega
        | some a =>
          rw [hff] at e e'
          cases a with
          | none =>
            obtain ⟨z, z1, z2⟩ := e
            obtain ⟨z', z1', z2'⟩ := e'
            rw [c2] at z1
            cases z1
            have : z' = z := toInt_inj (by rw [← z2', ← z2]; exact he)
            rw [z1', this]
          | some B =>
            rw [c2] at e
            cases e
            exact e'
end BRIDGE
/-! a switch -/
theorem Wx.tsw {C : CXW} (hC : Cmono C) {S : Nat × (Nat → Int32)} {M : PM} {K : WK} {pc : Nat} {L : List (Option WV)} {st : List WV} {mem : MM} {d lo hi x : Int} {offs : Array Int} {a b t : Nat} {ts : List Nat} (ht : (pT M).find? (fun e => e.1 == pc) = some (pc, .tableswitch d lo hi offs, a, b)) (hn : hi - lo + 1 = offs.size) (hz : (pc : Int) + d = t) (hts : offs.toList.map (fun o => (pc : Int) + o) = ts.map fun (n : Nat) => (n : Int)) (H1 : x < lo ∨ hi < x → Wx C S M K t L st mem) (H2 : ∀ (i t' : Nat), ts[i]? = some t' → x = lo + i → Wx C S M K t' L st mem) : Wx C S M K pc L (.inl x :: st) mem :=
  Wx.go hC ht fun h0 lv h h1 h2 h3 => by
    have hx := wi (h2 _ List.mem_cons_self)
    have hst : ∀ u ∈ st, vOK u := fun u hu => h2 u (List.mem_cons_of_mem _ hu)
    refine ⟨?_, ?_⟩
    · intro q
      rw [hx] at q
      refine ⟨by show 0 ≤ (pc : Int) + d; omega, ?_⟩
      show Vx C S M [] (QK h0 K) ((pc : Int) + d).toNat _ _ _ _ _
      rw [show ((pc : Int) + d).toNat = t by omega]; exact H1 q h0 lv h h1 hst h3
    · intro q1 q2
      rw [hx] at q1 q2 ⊢
      have hl : (x - lo).toNat < offs.size := by omega
      have e1 : offs.toList[(x - lo).toNat]? = some (offs[(x - lo).toNat]'hl) := by simp
      have e2 : (offs.toList.map (fun o => (pc : Int) + o))[(x - lo).toNat]? = some ((pc : Int) + offs[(x - lo).toNat]'hl) := by rw [List.getElem?_map, e1]; rfl
      rw [hts, List.getElem?_map] at e2
      cases ht' : ts[(x - lo).toNat]? with
      | none => rw [ht'] at e2; cases e2
      | some t' =>
        rw [ht'] at e2
        have e3 : (t' : Int) = (pc : Int) + offs[(x - lo).toNat]'hl := Option.some.inj e2
        refine ⟨offs[(x - lo).toNat]'hl, by simp [hl], by show 0 ≤ (pc : Int) + _; omega, ?_⟩
        show Vx C S M [] (QK h0 K) ((pc : Int) + _).toNat _ _ _ _ _
        rw [show ((pc : Int) + offs[(x - lo).toNat]'hl).toNat = t' by omega]
        exact H2 _ t' ht' (by omega) h0 lv h h1 hst h3
/-! laid by wip/hand/wxg.py: plan, life: what the paths of methods ask for -/
set_option maxRecDepth 100000 in
theorem mt_235 : MT[235]? = some M_235 := rfl
set_option maxRecDepth 100000 in
theorem mt_253 : MT[253]? = some M_253 := rfl
set_option maxRecDepth 100000 in
theorem mt_294 : MT[294]? = some M_294 := rfl
set_option maxRecDepth 100000 in
theorem mt_300 : MT[300]? = some M_300 := rfl
set_option maxRecDepth 100000 in
theorem mt_301 : MT[301]? = some M_301 := rfl
set_option maxRecDepth 100000 in
theorem mt_302 : MT[302]? = some M_302 := rfl
set_option maxRecDepth 100000 in
theorem mt_303 : MT[303]? = some M_303 := rfl
set_option maxRecDepth 100000 in
theorem mt_304 : MT[304]? = some M_304 := rfl
set_option maxRecDepth 100000 in
theorem mt_305 : MT[305]? = some M_305 := rfl
set_option maxRecDepth 100000 in
theorem mt_306 : MT[306]? = some M_306 := rfl
theorem te_235_0 : (pT M_235).find? (fun e => e.1 == 0) = some (0, .iload_n 1, 0, 0) := rfl
theorem te_235_1 : (pT M_235).find? (fun e => e.1 == 1) = some (1, .iconst 0, 0, 0) := rfl
theorem te_235_2 : (pT M_235).find? (fun e => e.1 == 2) = some (2, .aload_n 0, 0, 0) := rfl
theorem te_235_3 : (pT M_235).find? (fun e => e.1 == 3) = some (3, .getfield 108, 10, 1) := rfl
theorem te_235_6 : (pT M_235).find? (fun e => e.1 == 6) = some (6, .iconst 1, 0, 0) := rfl
theorem te_235_7 : (pT M_235).find? (fun e => e.1 == 7) = some (7, .isub, 0, 0) := rfl
theorem te_235_8 : (pT M_235).find? (fun e => e.1 == 8) = some (8, .invokestatic 104, 227, 2) := rfl
theorem te_235_11 : (pT M_235).find? (fun e => e.1 == 11) = some (11, .ireturn, 0, 0) := rfl
theorem te_253_0 : (pT M_253).find? (fun e => e.1 == 0) = some (0, .iload_n 0, 0, 0) := rfl
theorem te_253_1 : (pT M_253).find? (fun e => e.1 == 1) = some (1, .iconst 1, 0, 0) := rfl
theorem te_253_2 : (pT M_253).find? (fun e => e.1 == 2) = some (2, .bipush 12, 0, 0) := rfl
theorem te_253_4 : (pT M_253).find? (fun e => e.1 == 4) = some (4, .invokestatic 104, 227, 2) := rfl
theorem te_253_7 : (pT M_253).find? (fun e => e.1 == 7) = some (7, .ireturn, 0, 0) := rfl
theorem te_294_0 : (pT M_294).find? (fun e => e.1 == 0) = some (0, .aload_n 0, 0, 0) := rfl
theorem te_294_1 : (pT M_294).find? (fun e => e.1 == 1) = some (1, .iload_n 2, 0, 0) := rfl
theorem te_294_2 : (pT M_294).find? (fun e => e.1 == 2) = some (2, .iconst 0, 0, 0) := rfl
theorem te_294_3 : (pT M_294).find? (fun e => e.1 == 3) = some (3, .bipush 6, 0, 0) := rfl
theorem te_294_5 : (pT M_294).find? (fun e => e.1 == 5) = some (5, .invokestatic 104, 227, 2) := rfl
theorem te_294_8 : (pT M_294).find? (fun e => e.1 == 8) = some (8, .ifCond .ne 7, 0, 0) := rfl
theorem te_294_11 : (pT M_294).find? (fun e => e.1 == 11) = some (11, .iconst 1, 0, 0) := rfl
theorem te_294_12 : (pT M_294).find? (fun e => e.1 == 12) = some (12, .goto 27, 0, 0) := rfl
theorem te_294_15 : (pT M_294).find? (fun e => e.1 == 15) = some (15, .iload_n 1, 0, 0) := rfl
theorem te_294_16 : (pT M_294).find? (fun e => e.1 == 16) = some (16, .invokestatic 202, 253, 2) := rfl
theorem te_294_19 : (pT M_294).find? (fun e => e.1 == 19) = some (19, .ifCond .ne 7, 0, 0) := rfl
theorem te_294_22 : (pT M_294).find? (fun e => e.1 == 22) = some (22, .iconst 2, 0, 0) := rfl
theorem te_294_23 : (pT M_294).find? (fun e => e.1 == 23) = some (23, .goto 16, 0, 0) := rfl
theorem te_294_26 : (pT M_294).find? (fun e => e.1 == 26) = some (26, .aload_n 0, 0, 0) := rfl
theorem te_294_27 : (pT M_294).find? (fun e => e.1 == 27) = some (27, .iload_n 1, 0, 0) := rfl
theorem te_294_28 : (pT M_294).find? (fun e => e.1 == 28) = some (28, .invokevirtual 232, 268, 0) := rfl
theorem te_294_31 : (pT M_294).find? (fun e => e.1 == 31) = some (31, .ifCond .ne 7, 0, 0) := rfl
theorem te_294_34 : (pT M_294).find? (fun e => e.1 == 34) = some (34, .iconst 3, 0, 0) := rfl
theorem te_294_35 : (pT M_294).find? (fun e => e.1 == 35) = some (35, .goto 4, 0, 0) := rfl
theorem te_294_38 : (pT M_294).find? (fun e => e.1 == 38) = some (38, .iconst 0, 0, 0) := rfl
theorem te_294_39 : (pT M_294).find? (fun e => e.1 == 39) = some (39, .putfield 101, 10, 0) := rfl
theorem te_294_42 : (pT M_294).find? (fun e => e.1 == 42) = some (42, .aload_n 0, 0, 0) := rfl
theorem te_294_43 : (pT M_294).find? (fun e => e.1 == 43) = some (43, .getfield 101, 10, 0) := rfl
theorem te_294_46 : (pT M_294).find? (fun e => e.1 == 46) = some (46, .ifCond .le 5, 0, 0) := rfl
theorem te_294_49 : (pT M_294).find? (fun e => e.1 == 49) = some (49, .iconst 0, 0, 0) := rfl
theorem te_294_50 : (pT M_294).find? (fun e => e.1 == 50) = some (50, .ireturn, 0, 0) := rfl
theorem te_294_51 : (pT M_294).find? (fun e => e.1 == 51) = some (51, .iconst 0, 0, 0) := rfl
theorem te_294_52 : (pT M_294).find? (fun e => e.1 == 52) = some (52, .istore_n 3, 0, 0) := rfl
theorem te_294_53 : (pT M_294).find? (fun e => e.1 == 53) = some (53, .iconst 0, 0, 0) := rfl
theorem te_294_54 : (pT M_294).find? (fun e => e.1 == 54) = some (54, .istore 4, 0, 0) := rfl
theorem te_294_56 : (pT M_294).find? (fun e => e.1 == 56) = some (56, .iload 4, 0, 0) := rfl
theorem te_294_58 : (pT M_294).find? (fun e => e.1 == 58) = some (58, .aload_n 0, 0, 0) := rfl
theorem te_294_59 : (pT M_294).find? (fun e => e.1 == 59) = some (59, .getfield 108, 10, 1) := rfl
theorem te_294_62 : (pT M_294).find? (fun e => e.1 == 62) = some (62, .if_icmp .ge 19, 0, 0) := rfl
theorem te_294_65 : (pT M_294).find? (fun e => e.1 == 65) = some (65, .iload_n 3, 0, 0) := rfl
theorem te_294_66 : (pT M_294).find? (fun e => e.1 == 66) = some (66, .aload_n 0, 0, 0) := rfl
theorem te_294_67 : (pT M_294).find? (fun e => e.1 == 67) = some (67, .iload 4, 0, 0) := rfl
theorem te_294_69 : (pT M_294).find? (fun e => e.1 == 69) = some (69, .iload_n 1, 0, 0) := rfl
theorem te_294_70 : (pT M_294).find? (fun e => e.1 == 70) = some (70, .invokevirtual 287, 295, 0) := rfl
theorem te_294_73 : (pT M_294).find? (fun e => e.1 == 73) = some (73, .iadd, 0, 0) := rfl
theorem te_294_74 : (pT M_294).find? (fun e => e.1 == 74) = some (74, .istore_n 3, 0, 0) := rfl
theorem te_294_75 : (pT M_294).find? (fun e => e.1 == 75) = some (75, .iinc 4 1, 0, 0) := rfl
theorem te_294_78 : (pT M_294).find? (fun e => e.1 == 78) = some (78, .goto (-22), 0, 0) := rfl
theorem te_294_81 : (pT M_294).find? (fun e => e.1 == 81) = some (81, .iload_n 2, 0, 0) := rfl
theorem te_294_82 : (pT M_294).find? (fun e => e.1 == 82) = some (82, .tableswitch 74 0 5 #[38, 43, 49, 55, 61, 63], 38, 0) := rfl
theorem te_294_120 : (pT M_294).find? (fun e => e.1 == 120) = some (120, .aload_n 0, 0, 0) := rfl
theorem te_294_121 : (pT M_294).find? (fun e => e.1 == 121) = some (121, .invokevirtual 290, 300, 0) := rfl
theorem te_294_124 : (pT M_294).find? (fun e => e.1 == 124) = some (124, .ireturn, 0, 0) := rfl
theorem te_294_125 : (pT M_294).find? (fun e => e.1 == 125) = some (125, .aload_n 0, 0, 0) := rfl
theorem te_294_126 : (pT M_294).find? (fun e => e.1 == 126) = some (126, .iload_n 1, 0, 0) := rfl
theorem te_294_127 : (pT M_294).find? (fun e => e.1 == 127) = some (127, .invokevirtual 293, 301, 0) := rfl
theorem te_294_130 : (pT M_294).find? (fun e => e.1 == 130) = some (130, .ireturn, 0, 0) := rfl
theorem te_294_131 : (pT M_294).find? (fun e => e.1 == 131) = some (131, .aload_n 0, 0, 0) := rfl
theorem te_294_132 : (pT M_294).find? (fun e => e.1 == 132) = some (132, .iload_n 1, 0, 0) := rfl
theorem te_294_133 : (pT M_294).find? (fun e => e.1 == 133) = some (133, .invokevirtual 296, 302, 0) := rfl
theorem te_294_136 : (pT M_294).find? (fun e => e.1 == 136) = some (136, .ireturn, 0, 0) := rfl
theorem te_294_137 : (pT M_294).find? (fun e => e.1 == 137) = some (137, .aload_n 0, 0, 0) := rfl
theorem te_294_138 : (pT M_294).find? (fun e => e.1 == 138) = some (138, .iload_n 1, 0, 0) := rfl
theorem te_294_139 : (pT M_294).find? (fun e => e.1 == 139) = some (139, .invokevirtual 281, 296, 0) := rfl
theorem te_294_142 : (pT M_294).find? (fun e => e.1 == 142) = some (142, .ireturn, 0, 0) := rfl
theorem te_294_143 : (pT M_294).find? (fun e => e.1 == 143) = some (143, .iload_n 3, 0, 0) := rfl
theorem te_294_144 : (pT M_294).find? (fun e => e.1 == 144) = some (144, .ireturn, 0, 0) := rfl
theorem te_294_145 : (pT M_294).find? (fun e => e.1 == 145) = some (145, .aload_n 0, 0, 0) := rfl
theorem te_294_146 : (pT M_294).find? (fun e => e.1 == 146) = some (146, .aload_n 0, 0, 0) := rfl
theorem te_294_147 : (pT M_294).find? (fun e => e.1 == 147) = some (147, .iload_n 1, 0, 0) := rfl
theorem te_294_148 : (pT M_294).find? (fun e => e.1 == 148) = some (148, .invokevirtual 299, 303, 0) := rfl
theorem te_294_151 : (pT M_294).find? (fun e => e.1 == 151) = some (151, .iload_n 1, 0, 0) := rfl
theorem te_294_152 : (pT M_294).find? (fun e => e.1 == 152) = some (152, .invokevirtual 284, 304, 0) := rfl
theorem te_294_155 : (pT M_294).find? (fun e => e.1 == 155) = some (155, .ireturn, 0, 0) := rfl
theorem te_294_156 : (pT M_294).find? (fun e => e.1 == 156) = some (156, .aload_n 0, 0, 0) := rfl
theorem te_294_157 : (pT M_294).find? (fun e => e.1 == 157) = some (157, .iload_n 1, 0, 0) := rfl
theorem te_294_158 : (pT M_294).find? (fun e => e.1 == 158) = some (158, .invokevirtual 299, 303, 0) := rfl
theorem te_294_161 : (pT M_294).find? (fun e => e.1 == 161) = some (161, .ireturn, 0, 0) := rfl
theorem te_300_0 : (pT M_300).find? (fun e => e.1 == 0) = some (0, .iconst 0, 0, 0) := rfl
theorem te_300_1 : (pT M_300).find? (fun e => e.1 == 1) = some (1, .istore_n 1, 0, 0) := rfl
theorem te_300_2 : (pT M_300).find? (fun e => e.1 == 2) = some (2, .iconst 0, 0, 0) := rfl
theorem te_300_3 : (pT M_300).find? (fun e => e.1 == 3) = some (3, .istore_n 2, 0, 0) := rfl
theorem te_300_4 : (pT M_300).find? (fun e => e.1 == 4) = some (4, .iload_n 2, 0, 0) := rfl
theorem te_300_5 : (pT M_300).find? (fun e => e.1 == 5) = some (5, .aload_n 0, 0, 0) := rfl
theorem te_300_6 : (pT M_300).find? (fun e => e.1 == 6) = some (6, .getfield 108, 10, 1) := rfl
theorem te_300_9 : (pT M_300).find? (fun e => e.1 == 9) = some (9, .if_icmp .ge 26, 0, 0) := rfl
theorem te_300_12 : (pT M_300).find? (fun e => e.1 == 12) = some (12, .iload_n 1, 0, 0) := rfl
theorem te_300_13 : (pT M_300).find? (fun e => e.1 == 13) = some (13, .aload_n 0, 0, 0) := rfl
theorem te_300_14 : (pT M_300).find? (fun e => e.1 == 14) = some (14, .getfield 65, 10, 21) := rfl
theorem te_300_17 : (pT M_300).find? (fun e => e.1 == 17) = some (17, .iload_n 2, 0, 0) := rfl
theorem te_300_18 : (pT M_300).find? (fun e => e.1 == 18) = some (18, .iaload, 0, 0) := rfl
theorem te_300_19 : (pT M_300).find? (fun e => e.1 == 19) = some (19, .aload_n 0, 0, 0) := rfl
theorem te_300_20 : (pT M_300).find? (fun e => e.1 == 20) = some (20, .iload_n 2, 0, 0) := rfl
theorem te_300_21 : (pT M_300).find? (fun e => e.1 == 21) = some (21, .invokevirtual 148, 246, 0) := rfl
theorem te_300_24 : (pT M_300).find? (fun e => e.1 == 24) = some (24, .iadd, 0, 0) := rfl
theorem te_300_25 : (pT M_300).find? (fun e => e.1 == 25) = some (25, .invokestatic 167, 257, 2) := rfl
theorem te_300_28 : (pT M_300).find? (fun e => e.1 == 28) = some (28, .istore_n 1, 0, 0) := rfl
theorem te_300_29 : (pT M_300).find? (fun e => e.1 == 29) = some (29, .iinc 2 1, 0, 0) := rfl
theorem te_300_32 : (pT M_300).find? (fun e => e.1 == 32) = some (32, .goto (-28), 0, 0) := rfl
theorem te_300_35 : (pT M_300).find? (fun e => e.1 == 35) = some (35, .iload_n 1, 0, 0) := rfl
theorem te_300_36 : (pT M_300).find? (fun e => e.1 == 36) = some (36, .ireturn, 0, 0) := rfl
theorem te_301_0 : (pT M_301).find? (fun e => e.1 == 0) = some (0, .iconst 0, 0, 0) := rfl
theorem te_301_1 : (pT M_301).find? (fun e => e.1 == 1) = some (1, .istore_n 2, 0, 0) := rfl
theorem te_301_2 : (pT M_301).find? (fun e => e.1 == 2) = some (2, .iconst 0, 0, 0) := rfl
theorem te_301_3 : (pT M_301).find? (fun e => e.1 == 3) = some (3, .istore_n 3, 0, 0) := rfl
theorem te_301_4 : (pT M_301).find? (fun e => e.1 == 4) = some (4, .iload_n 3, 0, 0) := rfl
theorem te_301_5 : (pT M_301).find? (fun e => e.1 == 5) = some (5, .aload_n 0, 0, 0) := rfl
theorem te_301_6 : (pT M_301).find? (fun e => e.1 == 6) = some (6, .getfield 108, 10, 1) := rfl
theorem te_301_9 : (pT M_301).find? (fun e => e.1 == 9) = some (9, .if_icmp .ge 22, 0, 0) := rfl
theorem te_301_12 : (pT M_301).find? (fun e => e.1 == 12) = some (12, .iload_n 2, 0, 0) := rfl
theorem te_301_13 : (pT M_301).find? (fun e => e.1 == 13) = some (13, .aload_n 0, 0, 0) := rfl
theorem te_301_14 : (pT M_301).find? (fun e => e.1 == 14) = some (14, .getfield 65, 10, 21) := rfl
theorem te_301_17 : (pT M_301).find? (fun e => e.1 == 17) = some (17, .iload_n 3, 0, 0) := rfl
theorem te_301_18 : (pT M_301).find? (fun e => e.1 == 18) = some (18, .iaload, 0, 0) := rfl
theorem te_301_19 : (pT M_301).find? (fun e => e.1 == 19) = some (19, .iload_n 1, 0, 0) := rfl
theorem te_301_20 : (pT M_301).find? (fun e => e.1 == 20) = some (20, .idiv, 0, 0) := rfl
theorem te_301_21 : (pT M_301).find? (fun e => e.1 == 21) = some (21, .invokestatic 167, 257, 2) := rfl
theorem te_301_24 : (pT M_301).find? (fun e => e.1 == 24) = some (24, .istore_n 2, 0, 0) := rfl
theorem te_301_25 : (pT M_301).find? (fun e => e.1 == 25) = some (25, .iinc 3 1, 0, 0) := rfl
theorem te_301_28 : (pT M_301).find? (fun e => e.1 == 28) = some (28, .goto (-24), 0, 0) := rfl
theorem te_301_31 : (pT M_301).find? (fun e => e.1 == 31) = some (31, .iload_n 2, 0, 0) := rfl
theorem te_301_32 : (pT M_301).find? (fun e => e.1 == 32) = some (32, .iconst 1, 0, 0) := rfl
theorem te_301_33 : (pT M_301).find? (fun e => e.1 == 33) = some (33, .iadd, 0, 0) := rfl
theorem te_301_34 : (pT M_301).find? (fun e => e.1 == 34) = some (34, .ireturn, 0, 0) := rfl
theorem te_302_0 : (pT M_302).find? (fun e => e.1 == 0) = some (0, .iconst 0, 0, 0) := rfl
theorem te_302_1 : (pT M_302).find? (fun e => e.1 == 1) = some (1, .istore_n 2, 0, 0) := rfl
theorem te_302_2 : (pT M_302).find? (fun e => e.1 == 2) = some (2, .iconst 0, 0, 0) := rfl
theorem te_302_3 : (pT M_302).find? (fun e => e.1 == 3) = some (3, .istore_n 3, 0, 0) := rfl
theorem te_302_4 : (pT M_302).find? (fun e => e.1 == 4) = some (4, .iload_n 3, 0, 0) := rfl
theorem te_302_5 : (pT M_302).find? (fun e => e.1 == 5) = some (5, .aload_n 0, 0, 0) := rfl
theorem te_302_6 : (pT M_302).find? (fun e => e.1 == 6) = some (6, .getfield 108, 10, 1) := rfl
theorem te_302_9 : (pT M_302).find? (fun e => e.1 == 9) = some (9, .if_icmp .ge 18, 0, 0) := rfl
theorem te_302_12 : (pT M_302).find? (fun e => e.1 == 12) = some (12, .iload_n 2, 0, 0) := rfl
theorem te_302_13 : (pT M_302).find? (fun e => e.1 == 13) = some (13, .aload_n 0, 0, 0) := rfl
theorem te_302_14 : (pT M_302).find? (fun e => e.1 == 14) = some (14, .iload_n 3, 0, 0) := rfl
theorem te_302_15 : (pT M_302).find? (fun e => e.1 == 15) = some (15, .iload_n 1, 0, 0) := rfl
theorem te_302_16 : (pT M_302).find? (fun e => e.1 == 16) = some (16, .invokevirtual 278, 297, 0) := rfl
theorem te_302_19 : (pT M_302).find? (fun e => e.1 == 19) = some (19, .iadd, 0, 0) := rfl
theorem te_302_20 : (pT M_302).find? (fun e => e.1 == 20) = some (20, .istore_n 2, 0, 0) := rfl
theorem te_302_21 : (pT M_302).find? (fun e => e.1 == 21) = some (21, .iinc 3 1, 0, 0) := rfl
theorem te_302_24 : (pT M_302).find? (fun e => e.1 == 24) = some (24, .goto (-20), 0, 0) := rfl
theorem te_302_27 : (pT M_302).find? (fun e => e.1 == 27) = some (27, .iload_n 2, 0, 0) := rfl
theorem te_302_28 : (pT M_302).find? (fun e => e.1 == 28) = some (28, .ireturn, 0, 0) := rfl
theorem te_303_0 : (pT M_303).find? (fun e => e.1 == 0) = some (0, .iconst 0, 0, 0) := rfl
theorem te_303_1 : (pT M_303).find? (fun e => e.1 == 1) = some (1, .istore_n 2, 0, 0) := rfl
theorem te_303_2 : (pT M_303).find? (fun e => e.1 == 2) = some (2, .iconst 1, 0, 0) := rfl
theorem te_303_3 : (pT M_303).find? (fun e => e.1 == 3) = some (3, .istore_n 3, 0, 0) := rfl
theorem te_303_4 : (pT M_303).find? (fun e => e.1 == 4) = some (4, .iload_n 3, 0, 0) := rfl
theorem te_303_5 : (pT M_303).find? (fun e => e.1 == 5) = some (5, .iload_n 1, 0, 0) := rfl
theorem te_303_6 : (pT M_303).find? (fun e => e.1 == 6) = some (6, .if_icmp .ge 26, 0, 0) := rfl
theorem te_303_9 : (pT M_303).find? (fun e => e.1 == 9) = some (9, .aload_n 0, 0, 0) := rfl
theorem te_303_10 : (pT M_303).find? (fun e => e.1 == 10) = some (10, .iload_n 3, 0, 0) := rfl
theorem te_303_11 : (pT M_303).find? (fun e => e.1 == 11) = some (11, .iload_n 1, 0, 0) := rfl
theorem te_303_12 : (pT M_303).find? (fun e => e.1 == 12) = some (12, .invokevirtual 284, 304, 0) := rfl
theorem te_303_15 : (pT M_303).find? (fun e => e.1 == 15) = some (15, .aload_n 0, 0, 0) := rfl
theorem te_303_16 : (pT M_303).find? (fun e => e.1 == 16) = some (16, .iload_n 2, 0, 0) := rfl
theorem te_303_17 : (pT M_303).find? (fun e => e.1 == 17) = some (17, .iload_n 1, 0, 0) := rfl
theorem te_303_18 : (pT M_303).find? (fun e => e.1 == 18) = some (18, .invokevirtual 284, 304, 0) := rfl
theorem te_303_21 : (pT M_303).find? (fun e => e.1 == 21) = some (21, .if_icmp .le 5, 0, 0) := rfl
theorem te_303_24 : (pT M_303).find? (fun e => e.1 == 24) = some (24, .iload_n 3, 0, 0) := rfl
theorem te_303_25 : (pT M_303).find? (fun e => e.1 == 25) = some (25, .istore_n 2, 0, 0) := rfl
theorem te_303_26 : (pT M_303).find? (fun e => e.1 == 26) = some (26, .iinc 3 1, 0, 0) := rfl
theorem te_303_29 : (pT M_303).find? (fun e => e.1 == 29) = some (29, .goto (-25), 0, 0) := rfl
theorem te_303_32 : (pT M_303).find? (fun e => e.1 == 32) = some (32, .iload_n 2, 0, 0) := rfl
theorem te_303_33 : (pT M_303).find? (fun e => e.1 == 33) = some (33, .ireturn, 0, 0) := rfl
theorem te_304_0 : (pT M_304).find? (fun e => e.1 == 0) = some (0, .iconst 0, 0, 0) := rfl
theorem te_304_1 : (pT M_304).find? (fun e => e.1 == 1) = some (1, .istore_n 3, 0, 0) := rfl
theorem te_304_2 : (pT M_304).find? (fun e => e.1 == 2) = some (2, .iconst 0, 0, 0) := rfl
theorem te_304_3 : (pT M_304).find? (fun e => e.1 == 3) = some (3, .istore 4, 0, 0) := rfl
theorem te_304_5 : (pT M_304).find? (fun e => e.1 == 5) = some (5, .iload 4, 0, 0) := rfl
theorem te_304_7 : (pT M_304).find? (fun e => e.1 == 7) = some (7, .aload_n 0, 0, 0) := rfl
theorem te_304_8 : (pT M_304).find? (fun e => e.1 == 8) = some (8, .getfield 108, 10, 1) := rfl
theorem te_304_11 : (pT M_304).find? (fun e => e.1 == 11) = some (11, .if_icmp .ge 55, 0, 0) := rfl
theorem te_304_14 : (pT M_304).find? (fun e => e.1 == 14) = some (14, .iconst 0, 0, 0) := rfl
theorem te_304_15 : (pT M_304).find? (fun e => e.1 == 15) = some (15, .istore 5, 0, 0) := rfl
theorem te_304_17 : (pT M_304).find? (fun e => e.1 == 17) = some (17, .iload 5, 0, 0) := rfl
theorem te_304_19 : (pT M_304).find? (fun e => e.1 == 19) = some (19, .aload_n 0, 0, 0) := rfl
theorem te_304_20 : (pT M_304).find? (fun e => e.1 == 20) = some (20, .iload 4, 0, 0) := rfl
theorem te_304_22 : (pT M_304).find? (fun e => e.1 == 22) = some (22, .iload_n 2, 0, 0) := rfl
theorem te_304_23 : (pT M_304).find? (fun e => e.1 == 23) = some (23, .invokevirtual 275, 298, 0) := rfl
theorem te_304_26 : (pT M_304).find? (fun e => e.1 == 26) = some (26, .if_icmp .ge 34, 0, 0) := rfl
theorem te_304_29 : (pT M_304).find? (fun e => e.1 == 29) = some (29, .iload_n 3, 0, 0) := rfl
theorem te_304_30 : (pT M_304).find? (fun e => e.1 == 30) = some (30, .aload_n 0, 0, 0) := rfl
theorem te_304_31 : (pT M_304).find? (fun e => e.1 == 31) = some (31, .iload 4, 0, 0) := rfl
theorem te_304_33 : (pT M_304).find? (fun e => e.1 == 33) = some (33, .invokevirtual 272, 299, 0) := rfl
theorem te_304_36 : (pT M_304).find? (fun e => e.1 == 36) = some (36, .iload 5, 0, 0) := rfl
theorem te_304_38 : (pT M_304).find? (fun e => e.1 == 38) = some (38, .iadd, 0, 0) := rfl
theorem te_304_39 : (pT M_304).find? (fun e => e.1 == 39) = some (39, .iload_n 2, 0, 0) := rfl
theorem te_304_40 : (pT M_304).find? (fun e => e.1 == 40) = some (40, .invokestatic 211, 272, 2) := rfl
theorem te_304_43 : (pT M_304).find? (fun e => e.1 == 43) = some (43, .iload_n 1, 0, 0) := rfl
theorem te_304_44 : (pT M_304).find? (fun e => e.1 == 44) = some (44, .if_icmp .ne 7, 0, 0) := rfl
theorem te_304_47 : (pT M_304).find? (fun e => e.1 == 47) = some (47, .iconst 1, 0, 0) := rfl
theorem te_304_48 : (pT M_304).find? (fun e => e.1 == 48) = some (48, .goto 4, 0, 0) := rfl
theorem te_304_51 : (pT M_304).find? (fun e => e.1 == 51) = some (51, .iconst 0, 0, 0) := rfl
theorem te_304_52 : (pT M_304).find? (fun e => e.1 == 52) = some (52, .iadd, 0, 0) := rfl
theorem te_304_53 : (pT M_304).find? (fun e => e.1 == 53) = some (53, .istore_n 3, 0, 0) := rfl
theorem te_304_54 : (pT M_304).find? (fun e => e.1 == 54) = some (54, .iinc 5 1, 0, 0) := rfl
theorem te_304_57 : (pT M_304).find? (fun e => e.1 == 57) = some (57, .goto (-40), 0, 0) := rfl
theorem te_304_60 : (pT M_304).find? (fun e => e.1 == 60) = some (60, .iinc 4 1, 0, 0) := rfl
theorem te_304_63 : (pT M_304).find? (fun e => e.1 == 63) = some (63, .goto (-58), 0, 0) := rfl
theorem te_304_66 : (pT M_304).find? (fun e => e.1 == 66) = some (66, .iload_n 3, 0, 0) := rfl
theorem te_304_67 : (pT M_304).find? (fun e => e.1 == 67) = some (67, .ireturn, 0, 0) := rfl
theorem te_305_0 : (pT M_305).find? (fun e => e.1 == 0) = some (0, .aload_n 0, 0, 0) := rfl
theorem te_305_1 : (pT M_305).find? (fun e => e.1 == 1) = some (1, .aload_n 0, 0, 0) := rfl
theorem te_305_2 : (pT M_305).find? (fun e => e.1 == 2) = some (2, .iload_n 1, 0, 0) := rfl
theorem te_305_3 : (pT M_305).find? (fun e => e.1 == 3) = some (3, .invokevirtual 122, 235, 0) := rfl
theorem te_305_6 : (pT M_305).find? (fun e => e.1 == 6) = some (6, .ifCond .ne 7, 0, 0) := rfl
theorem te_305_9 : (pT M_305).find? (fun e => e.1 == 9) = some (9, .iconst 1, 0, 0) := rfl
theorem te_305_10 : (pT M_305).find? (fun e => e.1 == 10) = some (10, .goto 40, 0, 0) := rfl
theorem te_305_13 : (pT M_305).find? (fun e => e.1 == 13) = some (13, .iload_n 3, 0, 0) := rfl
theorem te_305_14 : (pT M_305).find? (fun e => e.1 == 14) = some (14, .iconst 0, 0, 0) := rfl
theorem te_305_15 : (pT M_305).find? (fun e => e.1 == 15) = some (15, .iconst 5, 0, 0) := rfl
theorem te_305_16 : (pT M_305).find? (fun e => e.1 == 16) = some (16, .invokestatic 104, 227, 2) := rfl
theorem te_305_19 : (pT M_305).find? (fun e => e.1 == 19) = some (19, .ifCond .ne 7, 0, 0) := rfl
theorem te_305_22 : (pT M_305).find? (fun e => e.1 == 22) = some (22, .iconst 2, 0, 0) := rfl
theorem te_305_23 : (pT M_305).find? (fun e => e.1 == 23) = some (23, .goto 27, 0, 0) := rfl
theorem te_305_26 : (pT M_305).find? (fun e => e.1 == 26) = some (26, .iload_n 2, 0, 0) := rfl
theorem te_305_27 : (pT M_305).find? (fun e => e.1 == 27) = some (27, .invokestatic 202, 253, 2) := rfl
theorem te_305_30 : (pT M_305).find? (fun e => e.1 == 30) = some (30, .ifCond .ne 7, 0, 0) := rfl
theorem te_305_33 : (pT M_305).find? (fun e => e.1 == 33) = some (33, .iconst 3, 0, 0) := rfl
theorem te_305_34 : (pT M_305).find? (fun e => e.1 == 34) = some (34, .goto 16, 0, 0) := rfl
theorem te_305_37 : (pT M_305).find? (fun e => e.1 == 37) = some (37, .aload_n 0, 0, 0) := rfl
theorem te_305_38 : (pT M_305).find? (fun e => e.1 == 38) = some (38, .iload_n 2, 0, 0) := rfl
theorem te_305_39 : (pT M_305).find? (fun e => e.1 == 39) = some (39, .invokevirtual 232, 268, 0) := rfl
theorem te_305_42 : (pT M_305).find? (fun e => e.1 == 42) = some (42, .ifCond .ne 7, 0, 0) := rfl
theorem te_305_45 : (pT M_305).find? (fun e => e.1 == 45) = some (45, .iconst 4, 0, 0) := rfl
theorem te_305_46 : (pT M_305).find? (fun e => e.1 == 46) = some (46, .goto 4, 0, 0) := rfl
theorem te_305_49 : (pT M_305).find? (fun e => e.1 == 49) = some (49, .iconst 0, 0, 0) := rfl
theorem te_305_50 : (pT M_305).find? (fun e => e.1 == 50) = some (50, .putfield 101, 10, 0) := rfl
theorem te_305_53 : (pT M_305).find? (fun e => e.1 == 53) = some (53, .aload_n 0, 0, 0) := rfl
theorem te_305_54 : (pT M_305).find? (fun e => e.1 == 54) = some (54, .getfield 101, 10, 0) := rfl
theorem te_305_57 : (pT M_305).find? (fun e => e.1 == 57) = some (57, .ifCond .le 5, 0, 0) := rfl
theorem te_305_60 : (pT M_305).find? (fun e => e.1 == 60) = some (60, .iconst 0, 0, 0) := rfl
theorem te_305_61 : (pT M_305).find? (fun e => e.1 == 61) = some (61, .ireturn, 0, 0) := rfl
theorem te_305_62 : (pT M_305).find? (fun e => e.1 == 62) = some (62, .iload_n 3, 0, 0) := rfl
theorem te_305_63 : (pT M_305).find? (fun e => e.1 == 63) = some (63, .tableswitch 72 0 4 #[33, 42, 51, 58, 65], 33, 0) := rfl
theorem te_305_96 : (pT M_305).find? (fun e => e.1 == 96) = some (96, .aload_n 0, 0, 0) := rfl
theorem te_305_97 : (pT M_305).find? (fun e => e.1 == 97) = some (97, .getfield 65, 10, 21) := rfl
theorem te_305_100 : (pT M_305).find? (fun e => e.1 == 100) = some (100, .iload_n 1, 0, 0) := rfl
theorem te_305_101 : (pT M_305).find? (fun e => e.1 == 101) = some (101, .iaload, 0, 0) := rfl
theorem te_305_102 : (pT M_305).find? (fun e => e.1 == 102) = some (102, .iload_n 2, 0, 0) := rfl
theorem te_305_103 : (pT M_305).find? (fun e => e.1 == 103) = some (103, .idiv, 0, 0) := rfl
theorem te_305_104 : (pT M_305).find? (fun e => e.1 == 104) = some (104, .ireturn, 0, 0) := rfl
theorem te_305_105 : (pT M_305).find? (fun e => e.1 == 105) = some (105, .aload_n 0, 0, 0) := rfl
theorem te_305_106 : (pT M_305).find? (fun e => e.1 == 106) = some (106, .getfield 65, 10, 21) := rfl
theorem te_305_109 : (pT M_305).find? (fun e => e.1 == 109) = some (109, .iload_n 1, 0, 0) := rfl
theorem te_305_110 : (pT M_305).find? (fun e => e.1 == 110) = some (110, .iaload, 0, 0) := rfl
theorem te_305_111 : (pT M_305).find? (fun e => e.1 == 111) = some (111, .iload_n 2, 0, 0) := rfl
theorem te_305_112 : (pT M_305).find? (fun e => e.1 == 112) = some (112, .irem, 0, 0) := rfl
theorem te_305_113 : (pT M_305).find? (fun e => e.1 == 113) = some (113, .ireturn, 0, 0) := rfl
theorem te_305_114 : (pT M_305).find? (fun e => e.1 == 114) = some (114, .aload_n 0, 0, 0) := rfl
theorem te_305_115 : (pT M_305).find? (fun e => e.1 == 115) = some (115, .iload_n 1, 0, 0) := rfl
theorem te_305_116 : (pT M_305).find? (fun e => e.1 == 116) = some (116, .iload_n 2, 0, 0) := rfl
theorem te_305_117 : (pT M_305).find? (fun e => e.1 == 117) = some (117, .invokevirtual 275, 298, 0) := rfl
theorem te_305_120 : (pT M_305).find? (fun e => e.1 == 120) = some (120, .ireturn, 0, 0) := rfl
theorem te_305_121 : (pT M_305).find? (fun e => e.1 == 121) = some (121, .aload_n 0, 0, 0) := rfl
theorem te_305_122 : (pT M_305).find? (fun e => e.1 == 122) = some (122, .iload_n 1, 0, 0) := rfl
theorem te_305_123 : (pT M_305).find? (fun e => e.1 == 123) = some (123, .iload_n 2, 0, 0) := rfl
theorem te_305_124 : (pT M_305).find? (fun e => e.1 == 124) = some (124, .invokevirtual 278, 297, 0) := rfl
theorem te_305_127 : (pT M_305).find? (fun e => e.1 == 127) = some (127, .ireturn, 0, 0) := rfl
theorem te_305_128 : (pT M_305).find? (fun e => e.1 == 128) = some (128, .aload_n 0, 0, 0) := rfl
theorem te_305_129 : (pT M_305).find? (fun e => e.1 == 129) = some (129, .iload_n 1, 0, 0) := rfl
theorem te_305_130 : (pT M_305).find? (fun e => e.1 == 130) = some (130, .iload_n 2, 0, 0) := rfl
theorem te_305_131 : (pT M_305).find? (fun e => e.1 == 131) = some (131, .invokevirtual 287, 295, 0) := rfl
theorem te_305_134 : (pT M_305).find? (fun e => e.1 == 134) = some (134, .ireturn, 0, 0) := rfl
theorem te_305_135 : (pT M_305).find? (fun e => e.1 == 135) = some (135, .aload_n 0, 0, 0) := rfl
theorem te_305_136 : (pT M_305).find? (fun e => e.1 == 136) = some (136, .iload_n 1, 0, 0) := rfl
theorem te_305_137 : (pT M_305).find? (fun e => e.1 == 137) = some (137, .iload_n 2, 0, 0) := rfl
theorem te_305_138 : (pT M_305).find? (fun e => e.1 == 138) = some (138, .invokevirtual 302, 306, 0) := rfl
theorem te_305_141 : (pT M_305).find? (fun e => e.1 == 141) = some (141, .ireturn, 0, 0) := rfl
theorem te_306_0 : (pT M_306).find? (fun e => e.1 == 0) = some (0, .bipush 99, 0, 0) := rfl
theorem te_306_2 : (pT M_306).find? (fun e => e.1 == 2) = some (2, .istore_n 3, 0, 0) := rfl
theorem te_306_3 : (pT M_306).find? (fun e => e.1 == 3) = some (3, .iconst 0, 0, 0) := rfl
theorem te_306_4 : (pT M_306).find? (fun e => e.1 == 4) = some (4, .istore 4, 0, 0) := rfl
theorem te_306_6 : (pT M_306).find? (fun e => e.1 == 6) = some (6, .iload 4, 0, 0) := rfl
theorem te_306_8 : (pT M_306).find? (fun e => e.1 == 8) = some (8, .aload_n 0, 0, 0) := rfl
theorem te_306_9 : (pT M_306).find? (fun e => e.1 == 9) = some (9, .getfield 141, 10, 12) := rfl
theorem te_306_12 : (pT M_306).find? (fun e => e.1 == 12) = some (12, .if_icmp .ge 73, 0, 0) := rfl
theorem te_306_15 : (pT M_306).find? (fun e => e.1 == 15) = some (15, .aload_n 0, 0, 0) := rfl
theorem te_306_16 : (pT M_306).find? (fun e => e.1 == 16) = some (16, .getfield 40, 10, 13) := rfl
theorem te_306_19 : (pT M_306).find? (fun e => e.1 == 19) = some (19, .iload 4, 0, 0) := rfl
theorem te_306_21 : (pT M_306).find? (fun e => e.1 == 21) = some (21, .iaload, 0, 0) := rfl
theorem te_306_22 : (pT M_306).find? (fun e => e.1 == 22) = some (22, .iload_n 1, 0, 0) := rfl
theorem te_306_23 : (pT M_306).find? (fun e => e.1 == 23) = some (23, .if_icmp .ne 56, 0, 0) := rfl
theorem te_306_26 : (pT M_306).find? (fun e => e.1 == 26) = some (26, .aload_n 0, 0, 0) := rfl
theorem te_306_27 : (pT M_306).find? (fun e => e.1 == 27) = some (27, .getfield 43, 10, 14) := rfl
theorem te_306_30 : (pT M_306).find? (fun e => e.1 == 30) = some (30, .iload 4, 0, 0) := rfl
theorem te_306_32 : (pT M_306).find? (fun e => e.1 == 32) = some (32, .iaload, 0, 0) := rfl
theorem te_306_33 : (pT M_306).find? (fun e => e.1 == 33) = some (33, .iload_n 1, 0, 0) := rfl
theorem te_306_34 : (pT M_306).find? (fun e => e.1 == 34) = some (34, .if_icmp .eq 45, 0, 0) := rfl
theorem te_306_37 : (pT M_306).find? (fun e => e.1 == 37) = some (37, .iload_n 3, 0, 0) := rfl
theorem te_306_38 : (pT M_306).find? (fun e => e.1 == 38) = some (38, .aload_n 0, 0, 0) := rfl
theorem te_306_39 : (pT M_306).find? (fun e => e.1 == 39) = some (39, .getfield 65, 10, 21) := rfl
theorem te_306_42 : (pT M_306).find? (fun e => e.1 == 42) = some (42, .aload_n 0, 0, 0) := rfl
theorem te_306_43 : (pT M_306).find? (fun e => e.1 == 43) = some (43, .getfield 43, 10, 14) := rfl
theorem te_306_46 : (pT M_306).find? (fun e => e.1 == 46) = some (46, .iload 4, 0, 0) := rfl
theorem te_306_48 : (pT M_306).find? (fun e => e.1 == 48) = some (48, .iaload, 0, 0) := rfl
theorem te_306_49 : (pT M_306).find? (fun e => e.1 == 49) = some (49, .iaload, 0, 0) := rfl
theorem te_306_50 : (pT M_306).find? (fun e => e.1 == 50) = some (50, .iload_n 2, 0, 0) := rfl
theorem te_306_51 : (pT M_306).find? (fun e => e.1 == 51) = some (51, .aload_n 0, 0, 0) := rfl
theorem te_306_52 : (pT M_306).find? (fun e => e.1 == 52) = some (52, .getfield 46, 10, 15) := rfl
theorem te_306_55 : (pT M_306).find? (fun e => e.1 == 55) = some (55, .iload 4, 0, 0) := rfl
theorem te_306_57 : (pT M_306).find? (fun e => e.1 == 57) = some (57, .iaload, 0, 0) := rfl
theorem te_306_58 : (pT M_306).find? (fun e => e.1 == 58) = some (58, .imul, 0, 0) := rfl
theorem te_306_59 : (pT M_306).find? (fun e => e.1 == 59) = some (59, .iadd, 0, 0) := rfl
theorem te_306_60 : (pT M_306).find? (fun e => e.1 == 60) = some (60, .aload_n 0, 0, 0) := rfl
theorem te_306_61 : (pT M_306).find? (fun e => e.1 == 61) = some (61, .getfield 49, 10, 16) := rfl
theorem te_306_64 : (pT M_306).find? (fun e => e.1 == 64) = some (64, .iload 4, 0, 0) := rfl
theorem te_306_66 : (pT M_306).find? (fun e => e.1 == 66) = some (66, .iaload, 0, 0) := rfl
theorem te_306_67 : (pT M_306).find? (fun e => e.1 == 67) = some (67, .isub, 0, 0) := rfl
theorem te_306_68 : (pT M_306).find? (fun e => e.1 == 68) = some (68, .aload_n 0, 0, 0) := rfl
theorem te_306_69 : (pT M_306).find? (fun e => e.1 == 69) = some (69, .getfield 65, 10, 21) := rfl
theorem te_306_72 : (pT M_306).find? (fun e => e.1 == 72) = some (72, .iload_n 1, 0, 0) := rfl
theorem te_306_73 : (pT M_306).find? (fun e => e.1 == 73) = some (73, .iaload, 0, 0) := rfl
theorem te_306_74 : (pT M_306).find? (fun e => e.1 == 74) = some (74, .isub, 0, 0) := rfl
theorem te_306_75 : (pT M_306).find? (fun e => e.1 == 75) = some (75, .invokestatic 170, 258, 2) := rfl
theorem te_306_78 : (pT M_306).find? (fun e => e.1 == 78) = some (78, .istore_n 3, 0, 0) := rfl
theorem te_306_79 : (pT M_306).find? (fun e => e.1 == 79) = some (79, .iinc 4 1, 0, 0) := rfl
theorem te_306_82 : (pT M_306).find? (fun e => e.1 == 82) = some (82, .goto (-76), 0, 0) := rfl
theorem te_306_85 : (pT M_306).find? (fun e => e.1 == 85) = some (85, .iload_n 3, 0, 0) := rfl
theorem te_306_86 : (pT M_306).find? (fun e => e.1 == 86) = some (86, .ireturn, 0, 0) := rfl
theorem w_300_0 {C : CXW} (hC : Cmono C) {S : Nat × (Nat → Int32)} {K : WK} {mem : MM} (H : (Wx C S M_300 K 4 [some (.inr 143), some (.inl 0), some (.inl 0)] [] mem)) : Wx C S M_300 K 0 [some (.inr 143), none, none] [] mem := by
  refine Wx.iconst hC te_300_0 rfl ?_
  refine Wx.istore_n hC te_300_1 rfl ?_
  refine Wx.iconst hC te_300_2 rfl ?_
  refine Wx.istore_n hC te_300_3 rfl ?_
  exact H
theorem w_300_4 {C : CXW} (hC : Cmono C) {S : Nat × (Nat → Int32)} {K : WK} {mem : MM} {x1 x2 : Int} (H : ∀ v1 : Int, v1 = mem 143 1 → InI v1 → ((v1 ≤ x2 → (InI x1 → K (some x1) mem)) ∧ (¬ (v1 ≤ x2) → ((0 : Int) ≤ x2 ∧ (x2 : Int) < 8) ∧ ∀ v2 : Int, v2 = mem 161 (Int.toNat x2) → InI v2 → (CWI C 246 [.inr 143, .inl x2] mem fun r4 m3 => InI r4 → (InI (v2 + r4)) ∧ (CWI C 257 [.inl x1, .inl (v2 + r4)] m3 fun r6 m5 => InI r6 → (InI (x2 + 1)) ∧ (Wx C S M_300 K 4 [some (.inr 143), some (.inl r6), some (.inl (x2 + 1))] [] m5)))))) : Wx C S M_300 K 4 [some (.inr 143), some (.inl x1), some (.inl x2)] [] mem := by
  refine Wx.iload_n hC te_300_4 rfl ?_
  refine Wx.aload_n hC te_300_5 rfl ?_
  refine Wx.getI hC te_300_6 rfl rfl rfl (fun v1 e1 e2 => ?_)
  replace H := H v1 e1 e2
  refine Wx.icmp hC (t := 35) te_300_9 (by decide) (fun q => ?_) (fun q => ?_)
  · replace H := H.1 q
    refine Wx.iload_n hC te_300_35 rfl ?_
    exact Wx.ireturn hC te_300_36 rfl H
  · replace H := H.2 q
    refine Wx.iload_n hC te_300_12 rfl ?_
    refine Wx.aload_n hC te_300_13 rfl ?_
    refine Wx.getR hC te_300_14 rfl rfl rfl ?_
    refine Wx.iload_n hC te_300_17 rfl ?_
    refine Wx.iald hC te_300_18 rfl H.1 (fun v2 e1 e2 => ?_)
    replace H := H.2 v2 e1 e2
    refine Wx.aload_n hC te_300_19 rfl ?_
    refine Wx.iload_n hC te_300_20 rfl ?_
    refine Wx.virtI hC te_300_21 mt_246 (args := [.inr 143, .inl x2]) (rest := [.inl v2, .inl x1]) rfl rfl rfl rfl rfl rfl rfl rfl ?_
    refine CWI.mono hC (fun r4 m3 H hy => ?_) H
    replace H := H hy
    refine Wx.iadd hC te_300_24 H.1 ?_
    replace H := H.2
    refine Wx.statI hC te_300_25 (by decide) mt_257 (args := [.inl x1, .inl (v2 + r4)]) (rest := []) rfl rfl rfl rfl rfl ?_
    refine CWI.mono hC (fun r6 m5 H hy => ?_) H
    replace H := H hy
    refine Wx.istore_n hC te_300_28 rfl ?_
    refine Wx.iinc hC te_300_29 rfl rfl H.1 ?_
    replace H := H.2
    refine Wx.goto hC (t := 4) te_300_32 (by decide) ?_
    exact H
theorem w_301_0 {C : CXW} (hC : Cmono C) {S : Nat × (Nat → Int32)} {K : WK} {mem : MM} {x1 : Int} (H : (Wx C S M_301 K 4 [some (.inr 143), some (.inl x1), some (.inl 0), some (.inl 0)] [] mem)) : Wx C S M_301 K 0 [some (.inr 143), some (.inl x1), none, none] [] mem := by
  refine Wx.iconst hC te_301_0 rfl ?_
  refine Wx.istore_n hC te_301_1 rfl ?_
  refine Wx.iconst hC te_301_2 rfl ?_
  refine Wx.istore_n hC te_301_3 rfl ?_
  exact H
theorem w_301_4 {C : CXW} (hC : Cmono C) {S : Nat × (Nat → Int32)} {K : WK} {mem : MM} {x1 x2 x3 : Int} (H : ∀ v1 : Int, v1 = mem 143 1 → InI v1 → ((v1 ≤ x3 → (InI (x2 + 1)) ∧ (InI (x2 + 1) → K (some (x2 + 1)) mem)) ∧ (¬ (v1 ≤ x3) → ((0 : Int) ≤ x3 ∧ (x3 : Int) < 8) ∧ ∀ v2 : Int, v2 = mem 161 (Int.toNat x3) → InI v2 → (0 < x1) ∧ (CWI C 257 [.inl x2, .inl ((v2 : Int).tdiv x1)] mem fun r4 m3 => InI r4 → (InI (x3 + 1)) ∧ (Wx C S M_301 K 4 [some (.inr 143), some (.inl x1), some (.inl r4), some (.inl (x3 + 1))] [] m3))))) : Wx C S M_301 K 4 [some (.inr 143), some (.inl x1), some (.inl x2), some (.inl x3)] [] mem := by
  refine Wx.iload_n hC te_301_4 rfl ?_
  refine Wx.aload_n hC te_301_5 rfl ?_
  refine Wx.getI hC te_301_6 rfl rfl rfl (fun v1 e1 e2 => ?_)
  replace H := H v1 e1 e2
  refine Wx.icmp hC (t := 31) te_301_9 (by decide) (fun q => ?_) (fun q => ?_)
  · replace H := H.1 q
    refine Wx.iload_n hC te_301_31 rfl ?_
    refine Wx.iconst hC te_301_32 rfl ?_
    refine Wx.iadd hC te_301_33 H.1 ?_
    replace H := H.2
    exact Wx.ireturn hC te_301_34 rfl H
  · replace H := H.2 q
    refine Wx.iload_n hC te_301_12 rfl ?_
    refine Wx.aload_n hC te_301_13 rfl ?_
    refine Wx.getR hC te_301_14 rfl rfl rfl ?_
    refine Wx.iload_n hC te_301_17 rfl ?_
    refine Wx.iald hC te_301_18 rfl H.1 (fun v2 e1 e2 => ?_)
    replace H := H.2 v2 e1 e2
    refine Wx.iload_n hC te_301_19 rfl ?_
    refine Wx.idiv hC te_301_20 H.1 ?_
    replace H := H.2
    refine Wx.statI hC te_301_21 (by decide) mt_257 (args := [.inl x2, .inl ((v2 : Int).tdiv x1)]) (rest := []) rfl rfl rfl rfl rfl ?_
    refine CWI.mono hC (fun r4 m3 H hy => ?_) H
    replace H := H hy
    refine Wx.istore_n hC te_301_24 rfl ?_
    refine Wx.iinc hC te_301_25 rfl rfl H.1 ?_
    replace H := H.2
    refine Wx.goto hC (t := 4) te_301_28 (by decide) ?_
    exact H
theorem w_302_0 {C : CXW} (hC : Cmono C) {S : Nat × (Nat → Int32)} {K : WK} {mem : MM} {x1 : Int} (H : (Wx C S M_302 K 4 [some (.inr 143), some (.inl x1), some (.inl 0), some (.inl 0)] [] mem)) : Wx C S M_302 K 0 [some (.inr 143), some (.inl x1), none, none] [] mem := by
  refine Wx.iconst hC te_302_0 rfl ?_
  refine Wx.istore_n hC te_302_1 rfl ?_
  refine Wx.iconst hC te_302_2 rfl ?_
  refine Wx.istore_n hC te_302_3 rfl ?_
  exact H
theorem w_302_4 {C : CXW} (hC : Cmono C) {S : Nat × (Nat → Int32)} {K : WK} {mem : MM} {x1 x2 x3 : Int} (H : ∀ v1 : Int, v1 = mem 143 1 → InI v1 → ((v1 ≤ x3 → (InI x2 → K (some x2) mem)) ∧ (¬ (v1 ≤ x3) → (CWI C 297 [.inr 143, .inl x3, .inl x1] mem fun r3 m2 => InI r3 → (InI (x2 + r3)) ∧ (InI (x3 + 1)) ∧ (Wx C S M_302 K 4 [some (.inr 143), some (.inl x1), some (.inl (x2 + r3)), some (.inl (x3 + 1))] [] m2))))) : Wx C S M_302 K 4 [some (.inr 143), some (.inl x1), some (.inl x2), some (.inl x3)] [] mem := by
  refine Wx.iload_n hC te_302_4 rfl ?_
  refine Wx.aload_n hC te_302_5 rfl ?_
  refine Wx.getI hC te_302_6 rfl rfl rfl (fun v1 e1 e2 => ?_)
  replace H := H v1 e1 e2
  refine Wx.icmp hC (t := 27) te_302_9 (by decide) (fun q => ?_) (fun q => ?_)
  · replace H := H.1 q
    refine Wx.iload_n hC te_302_27 rfl ?_
    exact Wx.ireturn hC te_302_28 rfl H
  · replace H := H.2 q
    refine Wx.iload_n hC te_302_12 rfl ?_
    refine Wx.aload_n hC te_302_13 rfl ?_
    refine Wx.iload_n hC te_302_14 rfl ?_
    refine Wx.iload_n hC te_302_15 rfl ?_
    refine Wx.virtI hC te_302_16 mt_297 (args := [.inr 143, .inl x3, .inl x1]) (rest := [.inl x2]) rfl rfl rfl rfl rfl rfl rfl rfl ?_
    refine CWI.mono hC (fun r3 m2 H hy => ?_) H
    replace H := H hy
    refine Wx.iadd hC te_302_19 H.1 ?_
    replace H := H.2
    refine Wx.istore_n hC te_302_20 rfl ?_
    refine Wx.iinc hC te_302_21 rfl rfl H.1 ?_
    replace H := H.2
    refine Wx.goto hC (t := 4) te_302_24 (by decide) ?_
    exact H
theorem w_303_0 {C : CXW} (hC : Cmono C) {S : Nat × (Nat → Int32)} {K : WK} {mem : MM} {x1 : Int} (H : (Wx C S M_303 K 4 [some (.inr 143), some (.inl x1), some (.inl 0), some (.inl 1)] [] mem)) : Wx C S M_303 K 0 [some (.inr 143), some (.inl x1), none, none] [] mem := by
  refine Wx.iconst hC te_303_0 rfl ?_
  refine Wx.istore_n hC te_303_1 rfl ?_
  refine Wx.iconst hC te_303_2 rfl ?_
  refine Wx.istore_n hC te_303_3 rfl ?_
  exact H
theorem w_303_4 {C : CXW} (hC : Cmono C) {S : Nat × (Nat → Int32)} {K : WK} {mem : MM} {x1 x2 x3 : Int} (H : ((x1 ≤ x3 → (InI x2 → K (some x2) mem)) ∧ (¬ (x1 ≤ x3) → (CWI C 304 [.inr 143, .inl x3, .inl x1] mem fun r2 m1 => InI r2 → (CWI C 304 [.inr 143, .inl x2, .inl x1] m1 fun r4 m3 => InI r4 → ((r2 ≤ r4 → (InI (x3 + 1)) ∧ (Wx C S M_303 K 4 [some (.inr 143), some (.inl x1), some (.inl x2), some (.inl (x3 + 1))] [] m3)) ∧ (¬ (r2 ≤ r4) → (InI (x3 + 1)) ∧ (Wx C S M_303 K 4 [some (.inr 143), some (.inl x1), some (.inl x3), some (.inl (x3 + 1))] [] m3)))))))) : Wx C S M_303 K 4 [some (.inr 143), some (.inl x1), some (.inl x2), some (.inl x3)] [] mem := by
  refine Wx.iload_n hC te_303_4 rfl ?_
  refine Wx.iload_n hC te_303_5 rfl ?_
  refine Wx.icmp hC (t := 32) te_303_6 (by decide) (fun q => ?_) (fun q => ?_)
  · replace H := H.1 q
    refine Wx.iload_n hC te_303_32 rfl ?_
    exact Wx.ireturn hC te_303_33 rfl H
  · replace H := H.2 q
    refine Wx.aload_n hC te_303_9 rfl ?_
    refine Wx.iload_n hC te_303_10 rfl ?_
    refine Wx.iload_n hC te_303_11 rfl ?_
    refine Wx.virtI hC te_303_12 mt_304 (args := [.inr 143, .inl x3, .inl x1]) (rest := []) rfl rfl rfl rfl rfl rfl rfl rfl ?_
    refine CWI.mono hC (fun r2 m1 H hy => ?_) H
    replace H := H hy
    refine Wx.aload_n hC te_303_15 rfl ?_
    refine Wx.iload_n hC te_303_16 rfl ?_
    refine Wx.iload_n hC te_303_17 rfl ?_
    refine Wx.virtI hC te_303_18 mt_304 (args := [.inr 143, .inl x2, .inl x1]) (rest := [.inl r2]) rfl rfl rfl rfl rfl rfl rfl rfl ?_
    refine CWI.mono hC (fun r4 m3 H hy => ?_) H
    replace H := H hy
    refine Wx.icmp hC (t := 26) te_303_21 (by decide) (fun q => ?_) (fun q => ?_)
    · replace H := H.1 q
      refine Wx.iinc hC te_303_26 rfl rfl H.1 ?_
      replace H := H.2
      refine Wx.goto hC (t := 4) te_303_29 (by decide) ?_
      exact H
    · replace H := H.2 q
      refine Wx.iload_n hC te_303_24 rfl ?_
      refine Wx.istore_n hC te_303_25 rfl ?_
      refine Wx.iinc hC te_303_26 rfl rfl H.1 ?_
      replace H := H.2
      refine Wx.goto hC (t := 4) te_303_29 (by decide) ?_
      exact H
theorem w_304_0 {C : CXW} (hC : Cmono C) {S : Nat × (Nat → Int32)} {K : WK} {mem : MM} {x1 x2 : Int} (H : (Wx C S M_304 K 5 [some (.inr 143), some (.inl x1), some (.inl x2), some (.inl 0), some (.inl 0), none] [] mem)) : Wx C S M_304 K 0 [some (.inr 143), some (.inl x1), some (.inl x2), none, none, none] [] mem := by
  refine Wx.iconst hC te_304_0 rfl ?_
  refine Wx.istore_n hC te_304_1 rfl ?_
  refine Wx.iconst hC te_304_2 rfl ?_
  refine Wx.istore hC te_304_3 rfl ?_
  exact H
theorem w_304_5 {C : CXW} (hC : Cmono C) {S : Nat × (Nat → Int32)} {K : WK} {mem : MM} {x1 x2 x3 x4 : Int} (H : ∀ v1 : Int, v1 = mem 143 1 → InI v1 → ((v1 ≤ x4 → (InI x3 → K (some x3) mem)) ∧ (¬ (v1 ≤ x4) → (Wx C S M_304 K 17 [some (.inr 143), some (.inl x1), some (.inl x2), some (.inl x3), some (.inl x4), some (.inl 0)] [] mem)))) : Wx C S M_304 K 5 [some (.inr 143), some (.inl x1), some (.inl x2), some (.inl x3), some (.inl x4), none] [] mem := by
  refine Wx.iload hC te_304_5 rfl ?_
  refine Wx.aload_n hC te_304_7 rfl ?_
  refine Wx.getI hC te_304_8 rfl rfl rfl (fun v1 e1 e2 => ?_)
  replace H := H v1 e1 e2
  refine Wx.icmp hC (t := 66) te_304_11 (by decide) (fun q => ?_) (fun q => ?_)
  · replace H := H.1 q
    refine Wx.iload_n hC te_304_66 rfl ?_
    exact Wx.ireturn hC te_304_67 rfl H
  · replace H := H.2 q
    refine Wx.iconst hC te_304_14 rfl ?_
    refine Wx.istore hC te_304_15 rfl ?_
    exact H
theorem w_304_17 {C : CXW} (hC : Cmono C) {S : Nat × (Nat → Int32)} {K : WK} {mem : MM} {x1 x2 x3 x4 x5 : Int} (H : (CWI C 298 [.inr 143, .inl x4, .inl x2] mem fun r2 m1 => InI r2 → ((r2 ≤ x5 → (InI (x4 + 1)) ∧ (Wx C S M_304 K 5 [some (.inr 143), some (.inl x1), some (.inl x2), some (.inl x3), some (.inl (x4 + 1)), none] [] m1)) ∧ (¬ (r2 ≤ x5) → (CWI C 299 [.inr 143, .inl x4] m1 fun r4 m3 => InI r4 → (InI (r4 + x5)) ∧ (CWI C 272 [.inl (r4 + x5), .inl x2] m3 fun r6 m5 => InI r6 → ((¬ r6 = x1 → (InI (x3 + 0)) ∧ (InI (x5 + 1)) ∧ (Wx C S M_304 K 17 [some (.inr 143), some (.inl x1), some (.inl x2), some (.inl (x3 + 0)), some (.inl x4), some (.inl (x5 + 1))] [] m5)) ∧ (¬ (¬ r6 = x1) → (InI (x3 + 1)) ∧ (InI (x5 + 1)) ∧ (Wx C S M_304 K 17 [some (.inr 143), some (.inl x1), some (.inl x2), some (.inl (x3 + 1)), some (.inl x4), some (.inl (x5 + 1))] [] m5))))))))) : Wx C S M_304 K 17 [some (.inr 143), some (.inl x1), some (.inl x2), some (.inl x3), some (.inl x4), some (.inl x5)] [] mem := by
  refine Wx.iload hC te_304_17 rfl ?_
  refine Wx.aload_n hC te_304_19 rfl ?_
  refine Wx.iload hC te_304_20 rfl ?_
  refine Wx.iload_n hC te_304_22 rfl ?_
  refine Wx.virtI hC te_304_23 mt_298 (args := [.inr 143, .inl x4, .inl x2]) (rest := [.inl x5]) rfl rfl rfl rfl rfl rfl rfl rfl ?_
  refine CWI.mono hC (fun r2 m1 H hy => ?_) H
  replace H := H hy
  refine Wx.icmp hC (t := 60) te_304_26 (by decide) (fun q => ?_) (fun q => ?_)
  · replace H := H.1 q
    refine Wx.iinc hC te_304_60 rfl rfl H.1 ?_
    replace H := H.2
    refine Wx.goto hC (t := 5) te_304_63 (by decide) ?_
    exact Wx.weak (by repeat' (first | exact trivial | exact rfl | constructor)) H
  · replace H := H.2 q
    refine Wx.iload_n hC te_304_29 rfl ?_
    refine Wx.aload_n hC te_304_30 rfl ?_
    refine Wx.iload hC te_304_31 rfl ?_
    refine Wx.virtI hC te_304_33 mt_299 (args := [.inr 143, .inl x4]) (rest := [.inl x3]) rfl rfl rfl rfl rfl rfl rfl rfl ?_
    refine CWI.mono hC (fun r4 m3 H hy => ?_) H
    replace H := H hy
    refine Wx.iload hC te_304_36 rfl ?_
    refine Wx.iadd hC te_304_38 H.1 ?_
    replace H := H.2
    refine Wx.iload_n hC te_304_39 rfl ?_
    refine Wx.statI hC te_304_40 (by decide) mt_272 (args := [.inl (r4 + x5), .inl x2]) (rest := [.inl x3]) rfl rfl rfl rfl rfl ?_
    refine CWI.mono hC (fun r6 m5 H hy => ?_) H
    replace H := H hy
    refine Wx.iload_n hC te_304_43 rfl ?_
    refine Wx.icmp hC (t := 51) te_304_44 (by decide) (fun q => ?_) (fun q => ?_)
    · replace H := H.1 q
      refine Wx.iconst hC te_304_51 rfl ?_
      refine Wx.iadd hC te_304_52 H.1 ?_
      replace H := H.2
      refine Wx.istore_n hC te_304_53 rfl ?_
      refine Wx.iinc hC te_304_54 rfl rfl H.1 ?_
      replace H := H.2
      refine Wx.goto hC (t := 17) te_304_57 (by decide) ?_
      exact H
    · replace H := H.2 q
      refine Wx.iconst hC te_304_47 rfl ?_
      refine Wx.goto hC (t := 52) te_304_48 (by decide) ?_
      refine Wx.iadd hC te_304_52 H.1 ?_
      replace H := H.2
      refine Wx.istore_n hC te_304_53 rfl ?_
      refine Wx.iinc hC te_304_54 rfl rfl H.1 ?_
      replace H := H.2
      refine Wx.goto hC (t := 17) te_304_57 (by decide) ?_
      exact H
theorem w_306_0 {C : CXW} (hC : Cmono C) {S : Nat × (Nat → Int32)} {K : WK} {mem : MM} {x1 x2 : Int} (H : (Wx C S M_306 K 6 [some (.inr 143), some (.inl x1), some (.inl x2), some (.inl 99), some (.inl 0)] [] mem)) : Wx C S M_306 K 0 [some (.inr 143), some (.inl x1), some (.inl x2), none, none] [] mem := by
  refine Wx.bipush hC te_306_0 rfl rfl ?_
  refine Wx.istore_n hC te_306_2 rfl ?_
  refine Wx.iconst hC te_306_3 rfl ?_
  refine Wx.istore hC te_306_4 rfl ?_
  exact H
theorem w_306_6 {C : CXW} (hC : Cmono C) {S : Nat × (Nat → Int32)} {K : WK} {mem : MM} {x1 x2 x3 x4 : Int} (H : ∀ v1 : Int, v1 = mem 143 12 → InI v1 → ((v1 ≤ x4 → (InI x3 → K (some x3) mem)) ∧ (¬ (v1 ≤ x4) → ((0 : Int) ≤ x4 ∧ (x4 : Int) < 48) ∧ ∀ v2 : Int, v2 = mem 154 (Int.toNat x4) → InI v2 → ((¬ v2 = x1 → (InI (x4 + 1)) ∧ (Wx C S M_306 K 6 [some (.inr 143), some (.inl x1), some (.inl x2), some (.inl x3), some (.inl (x4 + 1))] [] mem)) ∧ (¬ (¬ v2 = x1) → ((0 : Int) ≤ x4 ∧ (x4 : Int) < 48) ∧ ∀ v3 : Int, v3 = mem 155 (Int.toNat x4) → InI v3 → ((v3 = x1 → (InI (x4 + 1)) ∧ (Wx C S M_306 K 6 [some (.inr 143), some (.inl x1), some (.inl x2), some (.inl x3), some (.inl (x4 + 1))] [] mem)) ∧ (¬ (v3 = x1) → ((0 : Int) ≤ x4 ∧ (x4 : Int) < 48) ∧ ∀ v4 : Int, v4 = mem 155 (Int.toNat x4) → InI v4 → ((0 : Int) ≤ v4 ∧ (v4 : Int) < 8) ∧ ∀ v5 : Int, v5 = mem 161 (Int.toNat v4) → InI v5 → ((0 : Int) ≤ x4 ∧ (x4 : Int) < 48) ∧ ∀ v6 : Int, v6 = mem 156 (Int.toNat x4) → InI v6 → (InI (x2 * v6)) ∧ (InI (v5 + (x2 * v6))) ∧ ((0 : Int) ≤ x4 ∧ (x4 : Int) < 48) ∧ ∀ v7 : Int, v7 = mem 157 (Int.toNat x4) → InI v7 → (InI ((v5 + (x2 * v6)) - v7)) ∧ ((0 : Int) ≤ x1 ∧ (x1 : Int) < 8) ∧ ∀ v8 : Int, v8 = mem 161 (Int.toNat x1) → InI v8 → (InI (((v5 + (x2 * v6)) - v7) - v8)) ∧ (CWI C 258 [.inl x3, .inl (((v5 + (x2 * v6)) - v7) - v8)] mem fun r10 m9 => InI r10 → (InI (x4 + 1)) ∧ (Wx C S M_306 K 6 [some (.inr 143), some (.inl x1), some (.inl x2), some (.inl r10), some (.inl (x4 + 1))] [] m9))))))))) : Wx C S M_306 K 6 [some (.inr 143), some (.inl x1), some (.inl x2), some (.inl x3), some (.inl x4)] [] mem := by
  refine Wx.iload hC te_306_6 rfl ?_
  refine Wx.aload_n hC te_306_8 rfl ?_
  refine Wx.getI hC te_306_9 rfl rfl rfl (fun v1 e1 e2 => ?_)
  replace H := H v1 e1 e2
  refine Wx.icmp hC (t := 85) te_306_12 (by decide) (fun q => ?_) (fun q => ?_)
  · replace H := H.1 q
    refine Wx.iload_n hC te_306_85 rfl ?_
    exact Wx.ireturn hC te_306_86 rfl H
  · replace H := H.2 q
    refine Wx.aload_n hC te_306_15 rfl ?_
    refine Wx.getR hC te_306_16 rfl rfl rfl ?_
    refine Wx.iload hC te_306_19 rfl ?_
    refine Wx.iald hC te_306_21 rfl H.1 (fun v2 e1 e2 => ?_)
    replace H := H.2 v2 e1 e2
    refine Wx.iload_n hC te_306_22 rfl ?_
    refine Wx.icmp hC (t := 79) te_306_23 (by decide) (fun q => ?_) (fun q => ?_)
    · replace H := H.1 q
      refine Wx.iinc hC te_306_79 rfl rfl H.1 ?_
      replace H := H.2
      refine Wx.goto hC (t := 6) te_306_82 (by decide) ?_
      exact H
    · replace H := H.2 q
      refine Wx.aload_n hC te_306_26 rfl ?_
      refine Wx.getR hC te_306_27 rfl rfl rfl ?_
      refine Wx.iload hC te_306_30 rfl ?_
      refine Wx.iald hC te_306_32 rfl H.1 (fun v3 e1 e2 => ?_)
      replace H := H.2 v3 e1 e2
      refine Wx.iload_n hC te_306_33 rfl ?_
      refine Wx.icmp hC (t := 79) te_306_34 (by decide) (fun q => ?_) (fun q => ?_)
      · replace H := H.1 q
        refine Wx.iinc hC te_306_79 rfl rfl H.1 ?_
        replace H := H.2
        refine Wx.goto hC (t := 6) te_306_82 (by decide) ?_
        exact H
      · replace H := H.2 q
        refine Wx.iload_n hC te_306_37 rfl ?_
        refine Wx.aload_n hC te_306_38 rfl ?_
        refine Wx.getR hC te_306_39 rfl rfl rfl ?_
        refine Wx.aload_n hC te_306_42 rfl ?_
        refine Wx.getR hC te_306_43 rfl rfl rfl ?_
        refine Wx.iload hC te_306_46 rfl ?_
        refine Wx.iald hC te_306_48 rfl H.1 (fun v4 e1 e2 => ?_)
        replace H := H.2 v4 e1 e2
        refine Wx.iald hC te_306_49 rfl H.1 (fun v5 e1 e2 => ?_)
        replace H := H.2 v5 e1 e2
        refine Wx.iload_n hC te_306_50 rfl ?_
        refine Wx.aload_n hC te_306_51 rfl ?_
        refine Wx.getR hC te_306_52 rfl rfl rfl ?_
        refine Wx.iload hC te_306_55 rfl ?_
        refine Wx.iald hC te_306_57 rfl H.1 (fun v6 e1 e2 => ?_)
        replace H := H.2 v6 e1 e2
        refine Wx.imul hC te_306_58 H.1 ?_
        replace H := H.2
        refine Wx.iadd hC te_306_59 H.1 ?_
        replace H := H.2
        refine Wx.aload_n hC te_306_60 rfl ?_
        refine Wx.getR hC te_306_61 rfl rfl rfl ?_
        refine Wx.iload hC te_306_64 rfl ?_
        refine Wx.iald hC te_306_66 rfl H.1 (fun v7 e1 e2 => ?_)
        replace H := H.2 v7 e1 e2
        refine Wx.isub hC te_306_67 H.1 ?_
        replace H := H.2
        refine Wx.aload_n hC te_306_68 rfl ?_
        refine Wx.getR hC te_306_69 rfl rfl rfl ?_
        refine Wx.iload_n hC te_306_72 rfl ?_
        refine Wx.iald hC te_306_73 rfl H.1 (fun v8 e1 e2 => ?_)
        replace H := H.2 v8 e1 e2
        refine Wx.isub hC te_306_74 H.1 ?_
        replace H := H.2
        refine Wx.statI hC te_306_75 (by decide) mt_258 (args := [.inl x3, .inl (((v5 + (x2 * v6)) - v7) - v8)]) (rest := []) rfl rfl rfl rfl rfl ?_
        refine CWI.mono hC (fun r10 m9 H hy => ?_) H
        replace H := H hy
        refine Wx.istore_n hC te_306_78 rfl ?_
        refine Wx.iinc hC te_306_79 rfl rfl H.1 ?_
        replace H := H.2
        refine Wx.goto hC (t := 6) te_306_82 (by decide) ?_
        exact H
theorem w_253_0 {C : CXW} (hC : Cmono C) {S : Nat × (Nat → Int32)} {K : WK} {mem : MM} {x0 : Int} (H : (CWI C 227 [.inl x0, .inl 1, .inl 12] mem fun r2 m1 => InI r2 → ((r2 = 0 ∨ r2 = 1) ∧ K (some r2) m1))) : Wx C S M_253 K 0 [some (.inl x0)] [] mem := by
  refine Wx.iload_n hC te_253_0 rfl ?_
  refine Wx.iconst hC te_253_1 rfl ?_
  refine Wx.bipush hC te_253_2 rfl rfl ?_
  refine Wx.statI hC te_253_4 (by decide) mt_227 (args := [.inl x0, .inl 1, .inl 12]) (rest := []) rfl rfl rfl rfl rfl ?_
  refine CWI.mono hC (fun r2 m1 H hy => ?_) H
  replace H := H hy
  exact Wx.bret hC te_253_7 rfl H.1 H.2
theorem w_235_0 {C : CXW} (hC : Cmono C) {S : Nat × (Nat → Int32)} {K : WK} {mem : MM} {x1 : Int} (H : ∀ v1 : Int, v1 = mem 143 1 → InI v1 → (InI (v1 - 1)) ∧ (CWI C 227 [.inl x1, .inl 0, .inl (v1 - 1)] mem fun r3 m2 => InI r3 → ((r3 = 0 ∨ r3 = 1) ∧ K (some r3) m2))) : Wx C S M_235 K 0 [some (.inr 143), some (.inl x1)] [] mem := by
  refine Wx.iload_n hC te_235_0 rfl ?_
  refine Wx.iconst hC te_235_1 rfl ?_
  refine Wx.aload_n hC te_235_2 rfl ?_
  refine Wx.getI hC te_235_3 rfl rfl rfl (fun v1 e1 e2 => ?_)
  replace H := H v1 e1 e2
  refine Wx.iconst hC te_235_6 rfl ?_
  refine Wx.isub hC te_235_7 H.1 ?_
  replace H := H.2
  refine Wx.statI hC te_235_8 (by decide) mt_227 (args := [.inl x1, .inl 0, .inl (v1 - 1)]) (rest := []) rfl rfl rfl rfl rfl ?_
  refine CWI.mono hC (fun r3 m2 H hy => ?_) H
  replace H := H hy
  exact Wx.bret hC te_235_11 rfl H.1 H.2
theorem w_294_0 {C : CXW} (hC : Cmono C) {S : Nat × (Nat → Int32)} {K : WK} {mem : MM} {x1 x2 : Int} (H : (CWI C 227 [.inl x2, .inl 0, .inl 6] mem fun r2 m1 => InI r2 → ((¬ r2 = 0 → (CWI C 253 [.inl x1] m1 fun r4 m3 => InI r4 → ((¬ r4 = 0 → (CWI C 268 [.inr 143, .inl x1] m3 fun r6 m5 => InI r6 → ((¬ r6 = 0 → (Wx C S M_294 K 56 [some (.inr 143), some (.inl x1), some (.inl x2), some (.inl 0), some (.inl 0)] [] (upm m5 143 0 0))) ∧ (¬ (¬ r6 = 0) → (InI 0 → K (some 0) (upm m5 143 0 3)))))) ∧ (¬ (¬ r4 = 0) → (InI 0 → K (some 0) (upm m3 143 0 2)))))) ∧ (¬ (¬ r2 = 0) → (InI 0 → K (some 0) (upm m1 143 0 1)))))) : Wx C S M_294 K 0 [some (.inr 143), some (.inl x1), some (.inl x2), none, none] [] mem := by
  refine Wx.aload_n hC te_294_0 rfl ?_
  refine Wx.iload_n hC te_294_1 rfl ?_
  refine Wx.iconst hC te_294_2 rfl ?_
  refine Wx.bipush hC te_294_3 rfl rfl ?_
  refine Wx.statI hC te_294_5 (by decide) mt_227 (args := [.inl x2, .inl 0, .inl 6]) (rest := [.inr 143]) rfl rfl rfl rfl rfl ?_
  refine CWI.mono hC (fun r2 m1 H hy => ?_) H
  replace H := H hy
  refine Wx.ifc hC (t := 15) te_294_8 (by decide) (fun q => ?_) (fun q => ?_)
  · replace H := H.1 q
    refine Wx.iload_n hC te_294_15 rfl ?_
    refine Wx.statI hC te_294_16 (by decide) mt_253 (args := [.inl x1]) (rest := [.inr 143]) rfl rfl rfl rfl rfl ?_
    refine CWI.mono hC (fun r4 m3 H hy => ?_) H
    replace H := H hy
    refine Wx.ifc hC (t := 26) te_294_19 (by decide) (fun q => ?_) (fun q => ?_)
    · replace H := H.1 q
      refine Wx.aload_n hC te_294_26 rfl ?_
      refine Wx.iload_n hC te_294_27 rfl ?_
      refine Wx.virtI hC te_294_28 mt_268 (args := [.inr 143, .inl x1]) (rest := [.inr 143]) rfl rfl rfl rfl rfl rfl rfl rfl ?_
      refine CWI.mono hC (fun r6 m5 H hy => ?_) H
      replace H := H hy
      refine Wx.ifc hC (t := 38) te_294_31 (by decide) (fun q => ?_) (fun q => ?_)
      · replace H := H.1 q
        refine Wx.iconst hC te_294_38 rfl ?_
        refine Wx.putI hC te_294_39 rfl rfl rfl rfl ?_
        refine Wx.aload_n hC te_294_42 rfl ?_
        refine Wx.getI hC te_294_43 rfl rfl rfl (fun c7 e1 e2 => ?_)
        rw [upm_eq] at e1
        subst e1
        refine Wx.ifc hC (t := 51) te_294_46 (by decide) (fun q => ?_) (fun q => absurd (show (0 : Int) ≤ 0 by decide) q)
        refine Wx.iconst hC te_294_51 rfl ?_
        refine Wx.istore_n hC te_294_52 rfl ?_
        refine Wx.iconst hC te_294_53 rfl ?_
        refine Wx.istore hC te_294_54 rfl ?_
        exact H
      · replace H := H.2 q
        refine Wx.iconst hC te_294_34 rfl ?_
        refine Wx.goto hC (t := 39) te_294_35 (by decide) ?_
        refine Wx.putI hC te_294_39 rfl rfl rfl rfl ?_
        refine Wx.aload_n hC te_294_42 rfl ?_
        refine Wx.getI hC te_294_43 rfl rfl rfl (fun c8 e1 e2 => ?_)
        rw [upm_eq] at e1
        subst e1
        refine Wx.ifc hC (t := 51) te_294_46 (by decide) (fun q => absurd q (show ¬ ((3 : Int) ≤ 0) by decide)) (fun q => ?_)
        refine Wx.iconst hC te_294_49 rfl ?_
        exact Wx.ireturn hC te_294_50 rfl H
    · replace H := H.2 q
      refine Wx.iconst hC te_294_22 rfl ?_
      refine Wx.goto hC (t := 39) te_294_23 (by decide) ?_
      refine Wx.putI hC te_294_39 rfl rfl rfl rfl ?_
      refine Wx.aload_n hC te_294_42 rfl ?_
      refine Wx.getI hC te_294_43 rfl rfl rfl (fun c9 e1 e2 => ?_)
      rw [upm_eq] at e1
      subst e1
      refine Wx.ifc hC (t := 51) te_294_46 (by decide) (fun q => absurd q (show ¬ ((2 : Int) ≤ 0) by decide)) (fun q => ?_)
      refine Wx.iconst hC te_294_49 rfl ?_
      exact Wx.ireturn hC te_294_50 rfl H
  · replace H := H.2 q
    refine Wx.iconst hC te_294_11 rfl ?_
    refine Wx.goto hC (t := 39) te_294_12 (by decide) ?_
    refine Wx.putI hC te_294_39 rfl rfl rfl rfl ?_
    refine Wx.aload_n hC te_294_42 rfl ?_
    refine Wx.getI hC te_294_43 rfl rfl rfl (fun c10 e1 e2 => ?_)
    rw [upm_eq] at e1
    subst e1
    refine Wx.ifc hC (t := 51) te_294_46 (by decide) (fun q => absurd q (show ¬ ((1 : Int) ≤ 0) by decide)) (fun q => ?_)
    refine Wx.iconst hC te_294_49 rfl ?_
    exact Wx.ireturn hC te_294_50 rfl H
theorem w_294_56 {C : CXW} (hC : Cmono C) {S : Nat × (Nat → Int32)} {K : WK} {mem : MM} {x1 x2 x3 x4 : Int} (H : ∀ v1 : Int, v1 = mem 143 1 → InI v1 → ((v1 ≤ x4 → (Wx C S M_294 K 81 [some (.inr 143), some (.inl x1), some (.inl x2), some (.inl x3), some (.inl x4)] [] mem)) ∧ (¬ (v1 ≤ x4) → (CWI C 295 [.inr 143, .inl x4, .inl x1] mem fun r3 m2 => InI r3 → (InI (x3 + r3)) ∧ (InI (x4 + 1)) ∧ (Wx C S M_294 K 56 [some (.inr 143), some (.inl x1), some (.inl x2), some (.inl (x3 + r3)), some (.inl (x4 + 1))] [] m2))))) : Wx C S M_294 K 56 [some (.inr 143), some (.inl x1), some (.inl x2), some (.inl x3), some (.inl x4)] [] mem := by
  refine Wx.iload hC te_294_56 rfl ?_
  refine Wx.aload_n hC te_294_58 rfl ?_
  refine Wx.getI hC te_294_59 rfl rfl rfl (fun v1 e1 e2 => ?_)
  replace H := H v1 e1 e2
  refine Wx.icmp hC (t := 81) te_294_62 (by decide) (fun q => ?_) (fun q => ?_)
  · replace H := H.1 q
    exact H
  · replace H := H.2 q
    refine Wx.iload_n hC te_294_65 rfl ?_
    refine Wx.aload_n hC te_294_66 rfl ?_
    refine Wx.iload hC te_294_67 rfl ?_
    refine Wx.iload_n hC te_294_69 rfl ?_
    refine Wx.virtI hC te_294_70 mt_295 (args := [.inr 143, .inl x4, .inl x1]) (rest := [.inl x3]) rfl rfl rfl rfl rfl rfl rfl rfl ?_
    refine CWI.mono hC (fun r3 m2 H hy => ?_) H
    replace H := H hy
    refine Wx.iadd hC te_294_73 H.1 ?_
    replace H := H.2
    refine Wx.istore_n hC te_294_74 rfl ?_
    refine Wx.iinc hC te_294_75 rfl rfl H.1 ?_
    replace H := H.2
    refine Wx.goto hC (t := 56) te_294_78 (by decide) ?_
    exact H
theorem w_294_81 {C : CXW} (hC : Cmono C) {S : Nat × (Nat → Int32)} {K : WK} {mem : MM} {x1 x2 x3 x4 : Int} (H : ((x2 < 0 ∨ 5 < x2 → (CWI C 303 [.inr 143, .inl x1] mem fun r2 m1 => InI r2 → (InI r2 → K (some r2) m1))) ∧ (x2 = 0 → (CWI C 300 [.inr 143] mem fun r4 m3 => InI r4 → (InI r4 → K (some r4) m3))) ∧ (x2 = 1 → (CWI C 301 [.inr 143, .inl x1] mem fun r6 m5 => InI r6 → (InI r6 → K (some r6) m5))) ∧ (x2 = 2 → (CWI C 302 [.inr 143, .inl x1] mem fun r8 m7 => InI r8 → (InI r8 → K (some r8) m7))) ∧ (x2 = 3 → (CWI C 296 [.inr 143, .inl x1] mem fun r10 m9 => InI r10 → (InI r10 → K (some r10) m9))) ∧ (x2 = 4 → (InI x3 → K (some x3) mem)) ∧ (x2 = 5 → (CWI C 303 [.inr 143, .inl x1] mem fun r12 m11 => InI r12 → (CWI C 304 [.inr 143, .inl r12, .inl x1] m11 fun r14 m13 => InI r14 → (InI r14 → K (some r14) m13)))))) : Wx C S M_294 K 81 [some (.inr 143), some (.inl x1), some (.inl x2), some (.inl x3), some (.inl x4)] [] mem := by
  refine Wx.iload_n hC te_294_81 rfl ?_
  refine Wx.tsw hC (t := 156) (ts := [120, 125, 131, 137, 143, 145]) te_294_82 rfl (by decide) rfl (fun q => ?_) (fun i t e q => ?_)
  · replace H := H.1 q
    refine Wx.aload_n hC te_294_156 rfl ?_
    refine Wx.iload_n hC te_294_157 rfl ?_
    refine Wx.virtI hC te_294_158 mt_303 (args := [.inr 143, .inl x1]) (rest := []) rfl rfl rfl rfl rfl rfl rfl rfl ?_
    refine CWI.mono hC (fun r2 m1 H hy => ?_) H
    replace H := H hy
    exact Wx.ireturn hC te_294_161 rfl H
  · have hi : i = 0 ∨ i = 1 ∨ i = 2 ∨ i = 3 ∨ i = 4 ∨ i = 5 := by
      have := (List.getElem?_eq_some_iff.mp e).1
      simp only [List.length_cons, List.length_nil] at this
      omega
    rcases hi with hi | hi | hi | hi | hi | hi
    · subst hi
      cases (show some 120 = some t from e)
      replace H := H.2.1 (by omega)
      refine Wx.aload_n hC te_294_120 rfl ?_
      refine Wx.virtI hC te_294_121 mt_300 (args := [.inr 143]) (rest := []) rfl rfl rfl rfl rfl rfl rfl rfl ?_
      refine CWI.mono hC (fun r4 m3 H hy => ?_) H
      replace H := H hy
      exact Wx.ireturn hC te_294_124 rfl H
    · subst hi
      cases (show some 125 = some t from e)
      replace H := H.2.2.1 (by omega)
      refine Wx.aload_n hC te_294_125 rfl ?_
      refine Wx.iload_n hC te_294_126 rfl ?_
      refine Wx.virtI hC te_294_127 mt_301 (args := [.inr 143, .inl x1]) (rest := []) rfl rfl rfl rfl rfl rfl rfl rfl ?_
      refine CWI.mono hC (fun r6 m5 H hy => ?_) H
      replace H := H hy
      exact Wx.ireturn hC te_294_130 rfl H
    · subst hi
      cases (show some 131 = some t from e)
      replace H := H.2.2.2.1 (by omega)
      refine Wx.aload_n hC te_294_131 rfl ?_
      refine Wx.iload_n hC te_294_132 rfl ?_
      refine Wx.virtI hC te_294_133 mt_302 (args := [.inr 143, .inl x1]) (rest := []) rfl rfl rfl rfl rfl rfl rfl rfl ?_
      refine CWI.mono hC (fun r8 m7 H hy => ?_) H
      replace H := H hy
      exact Wx.ireturn hC te_294_136 rfl H
    · subst hi
      cases (show some 137 = some t from e)
      replace H := H.2.2.2.2.1 (by omega)
      refine Wx.aload_n hC te_294_137 rfl ?_
      refine Wx.iload_n hC te_294_138 rfl ?_
      refine Wx.virtI hC te_294_139 mt_296 (args := [.inr 143, .inl x1]) (rest := []) rfl rfl rfl rfl rfl rfl rfl rfl ?_
      refine CWI.mono hC (fun r10 m9 H hy => ?_) H
      replace H := H hy
      exact Wx.ireturn hC te_294_142 rfl H
    · subst hi
      cases (show some 143 = some t from e)
      replace H := H.2.2.2.2.2.1 (by omega)
      refine Wx.iload_n hC te_294_143 rfl ?_
      exact Wx.ireturn hC te_294_144 rfl H
    · subst hi
      cases (show some 145 = some t from e)
      replace H := H.2.2.2.2.2.2 (by omega)
      refine Wx.aload_n hC te_294_145 rfl ?_
      refine Wx.aload_n hC te_294_146 rfl ?_
      refine Wx.iload_n hC te_294_147 rfl ?_
      refine Wx.virtI hC te_294_148 mt_303 (args := [.inr 143, .inl x1]) (rest := [.inr 143]) rfl rfl rfl rfl rfl rfl rfl rfl ?_
      refine CWI.mono hC (fun r12 m11 H hy => ?_) H
      replace H := H hy
      refine Wx.iload_n hC te_294_151 rfl ?_
      refine Wx.virtI hC te_294_152 mt_304 (args := [.inr 143, .inl r12, .inl x1]) (rest := []) rfl rfl rfl rfl rfl rfl rfl rfl ?_
      refine CWI.mono hC (fun r14 m13 H hy => ?_) H
      replace H := H hy
      exact Wx.ireturn hC te_294_155 rfl H
theorem w_305_0 {C : CXW} (hC : Cmono C) {S : Nat × (Nat → Int32)} {K : WK} {mem : MM} {x1 x2 x3 : Int} (H : (CWI C 235 [.inr 143, .inl x1] mem fun r2 m1 => InI r2 → ((¬ r2 = 0 → (CWI C 227 [.inl x3, .inl 0, .inl 5] m1 fun r4 m3 => InI r4 → ((¬ r4 = 0 → (CWI C 253 [.inl x2] m3 fun r6 m5 => InI r6 → ((¬ r6 = 0 → (CWI C 268 [.inr 143, .inl x2] m5 fun r8 m7 => InI r8 → ((¬ r8 = 0 → ((x3 < 0 ∨ 4 < x3 → (CWI C 306 [.inr 143, .inl x1, .inl x2] (upm m7 143 0 0) fun r11 m10 => InI r11 → (InI r11 → K (some r11) m10))) ∧ (x3 = 0 → ((0 : Int) ≤ x1 ∧ (x1 : Int) < 8) ∧ ∀ v12 : Int, v12 = (upm m7 143 0 0) 161 (Int.toNat x1) → InI v12 → (0 < x2) ∧ (InI ((v12 : Int).tdiv x2) → K (some ((v12 : Int).tdiv x2)) (upm m7 143 0 0))) ∧ (x3 = 1 → ((0 : Int) ≤ x1 ∧ (x1 : Int) < 8) ∧ ∀ v13 : Int, v13 = (upm m7 143 0 0) 161 (Int.toNat x1) → InI v13 → (0 < x2) ∧ (InI ((v13 : Int).tmod x2) → K (some ((v13 : Int).tmod x2)) (upm m7 143 0 0))) ∧ (x3 = 2 → (CWI C 298 [.inr 143, .inl x1, .inl x2] (upm m7 143 0 0) fun r15 m14 => InI r15 → (InI r15 → K (some r15) m14))) ∧ (x3 = 3 → (CWI C 297 [.inr 143, .inl x1, .inl x2] (upm m7 143 0 0) fun r17 m16 => InI r17 → (InI r17 → K (some r17) m16))) ∧ (x3 = 4 → (CWI C 295 [.inr 143, .inl x1, .inl x2] (upm m7 143 0 0) fun r19 m18 => InI r19 → (InI r19 → K (some r19) m18))))) ∧ (¬ (¬ r8 = 0) → (InI 0 → K (some 0) (upm m7 143 0 4)))))) ∧ (¬ (¬ r6 = 0) → (InI 0 → K (some 0) (upm m5 143 0 3)))))) ∧ (¬ (¬ r4 = 0) → (InI 0 → K (some 0) (upm m3 143 0 2)))))) ∧ (¬ (¬ r2 = 0) → (InI 0 → K (some 0) (upm m1 143 0 1)))))) : Wx C S M_305 K 0 [some (.inr 143), some (.inl x1), some (.inl x2), some (.inl x3)] [] mem := by
  refine Wx.aload_n hC te_305_0 rfl ?_
  refine Wx.aload_n hC te_305_1 rfl ?_
  refine Wx.iload_n hC te_305_2 rfl ?_
  refine Wx.virtI hC te_305_3 mt_235 (args := [.inr 143, .inl x1]) (rest := [.inr 143]) rfl rfl rfl rfl rfl rfl rfl rfl ?_
  refine CWI.mono hC (fun r2 m1 H hy => ?_) H
  replace H := H hy
  refine Wx.ifc hC (t := 13) te_305_6 (by decide) (fun q => ?_) (fun q => ?_)
  · replace H := H.1 q
    refine Wx.iload_n hC te_305_13 rfl ?_
    refine Wx.iconst hC te_305_14 rfl ?_
    refine Wx.iconst hC te_305_15 rfl ?_
    refine Wx.statI hC te_305_16 (by decide) mt_227 (args := [.inl x3, .inl 0, .inl 5]) (rest := [.inr 143]) rfl rfl rfl rfl rfl ?_
    refine CWI.mono hC (fun r4 m3 H hy => ?_) H
    replace H := H hy
    refine Wx.ifc hC (t := 26) te_305_19 (by decide) (fun q => ?_) (fun q => ?_)
    · replace H := H.1 q
      refine Wx.iload_n hC te_305_26 rfl ?_
      refine Wx.statI hC te_305_27 (by decide) mt_253 (args := [.inl x2]) (rest := [.inr 143]) rfl rfl rfl rfl rfl ?_
      refine CWI.mono hC (fun r6 m5 H hy => ?_) H
      replace H := H hy
      refine Wx.ifc hC (t := 37) te_305_30 (by decide) (fun q => ?_) (fun q => ?_)
      · replace H := H.1 q
        refine Wx.aload_n hC te_305_37 rfl ?_
        refine Wx.iload_n hC te_305_38 rfl ?_
        refine Wx.virtI hC te_305_39 mt_268 (args := [.inr 143, .inl x2]) (rest := [.inr 143]) rfl rfl rfl rfl rfl rfl rfl rfl ?_
        refine CWI.mono hC (fun r8 m7 H hy => ?_) H
        replace H := H hy
        refine Wx.ifc hC (t := 49) te_305_42 (by decide) (fun q => ?_) (fun q => ?_)
        · replace H := H.1 q
          refine Wx.iconst hC te_305_49 rfl ?_
          refine Wx.putI hC te_305_50 rfl rfl rfl rfl ?_
          refine Wx.aload_n hC te_305_53 rfl ?_
          refine Wx.getI hC te_305_54 rfl rfl rfl (fun c9 e1 e2 => ?_)
          rw [upm_eq] at e1
          subst e1
          refine Wx.ifc hC (t := 62) te_305_57 (by decide) (fun q => ?_) (fun q => absurd (show (0 : Int) ≤ 0 by decide) q)
          refine Wx.iload_n hC te_305_62 rfl ?_
          refine Wx.tsw hC (t := 135) (ts := [96, 105, 114, 121, 128]) te_305_63 rfl (by decide) rfl (fun q => ?_) (fun i t e q => ?_)
          · replace H := H.1 q
            refine Wx.aload_n hC te_305_135 rfl ?_
            refine Wx.iload_n hC te_305_136 rfl ?_
            refine Wx.iload_n hC te_305_137 rfl ?_
            refine Wx.virtI hC te_305_138 mt_306 (args := [.inr 143, .inl x1, .inl x2]) (rest := []) rfl rfl rfl rfl rfl rfl rfl rfl ?_
            refine CWI.mono hC (fun r11 m10 H hy => ?_) H
            replace H := H hy
            exact Wx.ireturn hC te_305_141 rfl H
          · have hi : i = 0 ∨ i = 1 ∨ i = 2 ∨ i = 3 ∨ i = 4 := by
              have := (List.getElem?_eq_some_iff.mp e).1
              simp only [List.length_cons, List.length_nil] at this
              omega
            rcases hi with hi | hi | hi | hi | hi
            · subst hi
              cases (show some 96 = some t from e)
              replace H := H.2.1 (by omega)
              refine Wx.aload_n hC te_305_96 rfl ?_
              refine Wx.getR hC te_305_97 rfl rfl rfl ?_
              refine Wx.iload_n hC te_305_100 rfl ?_
              refine Wx.iald hC te_305_101 rfl H.1 (fun v12 e1 e2 => ?_)
              replace H := H.2 v12 e1 e2
              refine Wx.iload_n hC te_305_102 rfl ?_
              refine Wx.idiv hC te_305_103 H.1 ?_
              replace H := H.2
              exact Wx.ireturn hC te_305_104 rfl H
            · subst hi
              cases (show some 105 = some t from e)
              replace H := H.2.2.1 (by omega)
              refine Wx.aload_n hC te_305_105 rfl ?_
              refine Wx.getR hC te_305_106 rfl rfl rfl ?_
              refine Wx.iload_n hC te_305_109 rfl ?_
              refine Wx.iald hC te_305_110 rfl H.1 (fun v13 e1 e2 => ?_)
              replace H := H.2 v13 e1 e2
              refine Wx.iload_n hC te_305_111 rfl ?_
              refine Wx.irem hC te_305_112 H.1 ?_
              replace H := H.2
              exact Wx.ireturn hC te_305_113 rfl H
            · subst hi
              cases (show some 114 = some t from e)
              replace H := H.2.2.2.1 (by omega)
              refine Wx.aload_n hC te_305_114 rfl ?_
              refine Wx.iload_n hC te_305_115 rfl ?_
              refine Wx.iload_n hC te_305_116 rfl ?_
              refine Wx.virtI hC te_305_117 mt_298 (args := [.inr 143, .inl x1, .inl x2]) (rest := []) rfl rfl rfl rfl rfl rfl rfl rfl ?_
              refine CWI.mono hC (fun r15 m14 H hy => ?_) H
              replace H := H hy
              exact Wx.ireturn hC te_305_120 rfl H
            · subst hi
              cases (show some 121 = some t from e)
              replace H := H.2.2.2.2.1 (by omega)
              refine Wx.aload_n hC te_305_121 rfl ?_
              refine Wx.iload_n hC te_305_122 rfl ?_
              refine Wx.iload_n hC te_305_123 rfl ?_
              refine Wx.virtI hC te_305_124 mt_297 (args := [.inr 143, .inl x1, .inl x2]) (rest := []) rfl rfl rfl rfl rfl rfl rfl rfl ?_
              refine CWI.mono hC (fun r17 m16 H hy => ?_) H
              replace H := H hy
              exact Wx.ireturn hC te_305_127 rfl H
            · subst hi
              cases (show some 128 = some t from e)
              replace H := H.2.2.2.2.2 (by omega)
              refine Wx.aload_n hC te_305_128 rfl ?_
              refine Wx.iload_n hC te_305_129 rfl ?_
              refine Wx.iload_n hC te_305_130 rfl ?_
              refine Wx.virtI hC te_305_131 mt_295 (args := [.inr 143, .inl x1, .inl x2]) (rest := []) rfl rfl rfl rfl rfl rfl rfl rfl ?_
              refine CWI.mono hC (fun r19 m18 H hy => ?_) H
              replace H := H hy
              exact Wx.ireturn hC te_305_134 rfl H
        · replace H := H.2 q
          refine Wx.iconst hC te_305_45 rfl ?_
          refine Wx.goto hC (t := 50) te_305_46 (by decide) ?_
          refine Wx.putI hC te_305_50 rfl rfl rfl rfl ?_
          refine Wx.aload_n hC te_305_53 rfl ?_
          refine Wx.getI hC te_305_54 rfl rfl rfl (fun c20 e1 e2 => ?_)
          rw [upm_eq] at e1
          subst e1
          refine Wx.ifc hC (t := 62) te_305_57 (by decide) (fun q => absurd q (show ¬ ((4 : Int) ≤ 0) by decide)) (fun q => ?_)
          refine Wx.iconst hC te_305_60 rfl ?_
          exact Wx.ireturn hC te_305_61 rfl H
      · replace H := H.2 q
        refine Wx.iconst hC te_305_33 rfl ?_
        refine Wx.goto hC (t := 50) te_305_34 (by decide) ?_
        refine Wx.putI hC te_305_50 rfl rfl rfl rfl ?_
        refine Wx.aload_n hC te_305_53 rfl ?_
        refine Wx.getI hC te_305_54 rfl rfl rfl (fun c21 e1 e2 => ?_)
        rw [upm_eq] at e1
        subst e1
        refine Wx.ifc hC (t := 62) te_305_57 (by decide) (fun q => absurd q (show ¬ ((3 : Int) ≤ 0) by decide)) (fun q => ?_)
        refine Wx.iconst hC te_305_60 rfl ?_
        exact Wx.ireturn hC te_305_61 rfl H
    · replace H := H.2 q
      refine Wx.iconst hC te_305_22 rfl ?_
      refine Wx.goto hC (t := 50) te_305_23 (by decide) ?_
      refine Wx.putI hC te_305_50 rfl rfl rfl rfl ?_
      refine Wx.aload_n hC te_305_53 rfl ?_
      refine Wx.getI hC te_305_54 rfl rfl rfl (fun c22 e1 e2 => ?_)
      rw [upm_eq] at e1
      subst e1
      refine Wx.ifc hC (t := 62) te_305_57 (by decide) (fun q => absurd q (show ¬ ((2 : Int) ≤ 0) by decide)) (fun q => ?_)
      refine Wx.iconst hC te_305_60 rfl ?_
      exact Wx.ireturn hC te_305_61 rfl H
  · replace H := H.2 q
    refine Wx.iconst hC te_305_9 rfl ?_
    refine Wx.goto hC (t := 50) te_305_10 (by decide) ?_
    refine Wx.putI hC te_305_50 rfl rfl rfl rfl ?_
    refine Wx.aload_n hC te_305_53 rfl ?_
    refine Wx.getI hC te_305_54 rfl rfl rfl (fun c23 e1 e2 => ?_)
    rw [upm_eq] at e1
    subst e1
    refine Wx.ifc hC (t := 62) te_305_57 (by decide) (fun q => absurd q (show ¬ ((1 : Int) ≤ 0) by decide)) (fun q => ?_)
    refine Wx.iconst hC te_305_60 rfl ?_
    exact Wx.ireturn hC te_305_61 rfl H
/-! plan and life of the reference -/
theorem FrF.snd {m m' : MM} (k : FrF m m') (h : SoundM m) : SoundM m' := by
  have e : ∀ A i, (143 < A ∧ A < 154) ∨ (A = 143 ∧ i = 1) → m' A i = m A i := fun A i q => k A i (by omega) (by omega) (by omega) (by omega) (by omega) (by omega) (by omega) (by omega) (by omega) (by omega)
  intro o ho q h1 h2
  rw [e 143 1 (by omega)] at ho
  have e1 : srcN m' o = srcN m o := by unfold srcN; rw [e 144 o (by omega)]
  have e2 : srcA m' o q = srcA m o q := by unfold srcA; rw [e 145 o (by omega), e 147 o (by omega)]
  have e3 : srcB m' o q = srcB m o q := by unfold srcB; rw [e 146 o (by omega), e 148 o (by omega)]
  have := h o ho q h1 (by omega)
  unfold SrcS at this ⊢
  rw [e2, e3, e 143 1 (by omega), e 144 _ (by omega)]
  exact this
theorem TmOK.th {m : MM} {d z : Int} (h : TmOK m d) : TmOK (upm m 143 0 z) d := h
theorem NdsOK.th {m : MM} {z : Int} (h : NdsOK m) : NdsOK (upm m 143 0 z) := h
theorem tdiv_b {v d : Int} (hv : 0 ≤ v) (hd : 1 ≤ d) : 0 ≤ v.tdiv d ∧ v.tdiv d ≤ v := tdiv_r hv (by omega)
section PLAN
variable {S : Nat × (Nat → Int32)} {n : Nat} {mem : MM} {K : Int → MM → Prop} {d : Int}
theorem f_268r (h : RefOK mem) (hd : 1 ≤ d ∧ d ≤ 12) (H1 : ∀ m', RefOK m' → FrQ mem m' → Kp mem m' → SoundM m' → NdsOK m' → TmOK m' d → K 1 m') (H0 : ∀ m', RefOK m' → FrQ mem m' → K 0 m') : CWI (Ex S (n + 5)) 268 [.inr 143, .inl d] mem K :=
  f_268 h.ops h.un h.sl h.lo hd (fun m' k1 k2 k3 k4 k5 _ k7 => H1 m' (k1.rest k2 k3 h) k1.q k1.kp (k1.snd k4) k5 k7) (fun m' k1 k2 k3 _ => H0 m' (k1.rest k2 k3 h) k1.q)
theorem f_253 {x : Int} (H1 : 1 ≤ x → x ≤ 12 → K 1 mem) (H0 : K 0 mem) : CWI (Ex S (n + 2)) 253 [.inl x] mem K :=
  CW.of (k := 0) mt_253 rfl rfl (w_253_0 (Ex.mono S (n + 1)) (f_227 (fun a b _ => ⟨Or.inr rfl, _, rfl, H1 a b⟩) (fun _ _ => ⟨Or.inl rfl, _, rfl, H0⟩)))
theorem f_235 {x : Int} (h8 : 0 ≤ mem 143 1 ∧ mem 143 1 ≤ 8) (H1 : 0 ≤ x → x < mem 143 1 → K 1 mem) (H0 : K 0 mem) : CWI (Ex S (n + 2)) 235 [.inr 143, .inl x] mem K :=
  CW.of (k := 0) mt_235 rfl rfl (w_235_0 (Ex.mono S (n + 1)) (fun v e _ => ⟨by unfold InI; omega, f_227 (fun a b _ => ⟨Or.inr rfl, _, rfl, H1 a (by omega)⟩) (fun _ _ => ⟨Or.inl rfl, _, rfl, H0⟩)⟩))
theorem f_300 (hO : OpsOK mem) (hd : 1 ≤ d ∧ d ≤ 12) (hT : TmOK mem d) (H : ∀ r, 0 ≤ r → r ≤ 147 → (∀ o : Nat, (o : Int) < mem 143 1 → mem 161 o + latF mem o ≤ r) → K r mem) : CWI (Ex S (n + 2)) 300 [.inr 143] mem K := by
  have h8 := hO.1
  have key : ∀ (N : Nat) (c : Int) (o : Nat), 0 ≤ c → c ≤ 147 → (∀ u : Nat, u < o → mem 161 u + latF mem u ≤ c) → (o : Int) ≤ mem 143 1 → (mem 143 1 - o).toNat < N → Wx (Ex S (n + 1)) S M_300 (fun r m => ∃ y, r = some y ∧ K y m) 4 [some (.inr 143), some (.inl c), some (.inl (o : Int))] [] mem := by
    intro N
    induction N with
    | zero => intros; omega
    | succ N ih =>
      intro c o hc hc2 hA ho2 hN
      refine w_300_4 (Ex.mono S (n + 1)) (fun v1 e1 _ => ⟨fun q _ => ⟨_, rfl, H c hc hc2 (fun u hu => hA u (by omega))⟩, fun q => ⟨by omega, fun v2 e2 _ => f_246 hO ⟨by omega, by omega⟩ (fun _ => ?_)⟩⟩)
      rw [Int.toNat_natCast] at e2 ⊢
      have hl := hO.lat (o := o) (by omega)
      have ht := hT o (by omega)
      refine ⟨by unfold InI; omega, f_257 (fun _ _ => ⟨by unfold InI; omega, ih _ (o + 1) (by omega) (by omega) (fun u hu => ?_) (by omega) (by omega)⟩)⟩
      by_cases e : u = o
      · subst e; omega
      · have := hA u (by omega); omega
  exact CW.of (k := 2) mt_300 rfl rfl (w_300_0 (Ex.mono S (n + 1)) (key 9 0 0 (by omega) (by omega) (fun u hu => by omega) (by omega) (by omega)))
theorem f_301 (hO : OpsOK mem) (hd : 1 ≤ d ∧ d ≤ 12) (hT : TmOK mem d) (H : ∀ r, 1 ≤ r → r ≤ 142 → K r mem) : CWI (Ex S (n + 2)) 301 [.inr 143, .inl d] mem K := by
  have h8 := hO.1
  have key : ∀ (N : Nat) (c : Int) (o : Nat), 0 ≤ c → c ≤ 141 → (o : Int) ≤ mem 143 1 → (mem 143 1 - o).toNat < N → Wx (Ex S (n + 1)) S M_301 (fun r m => ∃ y, r = some y ∧ K y m) 4 [some (.inr 143), some (.inl d), some (.inl c), some (.inl (o : Int))] [] mem := by
    intro N
    induction N with
    | zero => intros; omega
    | succ N ih =>
      intro c o hc hc2 ho2 hN
      refine w_301_4 (Ex.mono S (n + 1)) (fun v1 e1 _ => ⟨fun q => ⟨by unfold InI; omega, fun _ => ⟨_, rfl, H _ (by omega) (by omega)⟩⟩, fun q => ⟨by omega, fun v2 e2 _ => ⟨by omega, ?_⟩⟩⟩)
      rw [Int.toNat_natCast] at e2
      have ht := hT o (by omega)
      have hv := tdiv_b (show 0 ≤ v2 by omega) hd.1
      exact f_257 (fun _ _ => ⟨by unfold InI; omega, ih _ (o + 1) (by omega) (by omega) (by omega) (by omega)⟩)
  exact CW.of (k := 2) mt_301 rfl rfl (w_301_0 (Ex.mono S (n + 1)) (key 9 0 0 (by omega) (by omega) (by omega) (by omega)))
theorem f_302 (hO : OpsOK mem) (hd : 1 ≤ d ∧ d ≤ 12) (hT : TmOK mem d) (H : ∀ r, 0 ≤ r → r ≤ 360 → K r mem) : CWI (Ex S (n + 5)) 302 [.inr 143, .inl d] mem K := by
  have h8 := hO.1
  have key : ∀ (N : Nat) (c : Int) (o : Nat), 0 ≤ c → c ≤ 45 * o → (o : Int) ≤ mem 143 1 → (mem 143 1 - o).toNat < N → Wx (Ex S (n + 4)) S M_302 (fun r m => ∃ y, r = some y ∧ K y m) 4 [some (.inr 143), some (.inl d), some (.inl c), some (.inl (o : Int))] [] mem := by
    intro N
    induction N with
    | zero => intros; omega
    | succ N ih =>
      intro c o hc hc2 ho2 hN
      refine w_302_4 (Ex.mono S (n + 4)) (fun v1 e1 _ => ⟨fun q => fun _ => ⟨_, rfl, H _ (by omega) (by omega)⟩, fun q => f_297 hO hT hd (by omega) (fun _ => ?_)⟩)
      have hv := copF_rng hO hT hd (o := o) (by omega)
      exact ⟨by unfold InI; omega, by unfold InI; omega, ih _ (o + 1) (by omega) (by omega) (by omega) (by omega)⟩
  exact CW.of (k := 2) mt_302 rfl rfl (w_302_0 (Ex.mono S (n + 4)) (key 9 0 0 (by omega) (by omega) (by omega) (by omega)))
theorem f_304 (hO : OpsOK mem) (hd : 1 ≤ d ∧ d ≤ 12) (hT : TmOK mem d) {s : Int} (H : ∀ r, 0 ≤ r → K r mem) : CWI (Ex S (n + 4)) 304 [.inr 143, .inl s, .inl d] mem K := by
  have h8 := hO.1
  have key : ∀ (N : Nat) (c : Int) (o : Nat), 0 ≤ c → c ≤ 1000 * o → (o : Int) ≤ mem 143 1 → (mem 143 1 - o).toNat < N → Wx (Ex S (n + 3)) S M_304 (fun r m => ∃ y, r = some y ∧ K y m) 5 [some (.inr 143), some (.inl s), some (.inl d), some (.inl c), some (.inl (o : Int)), none] [] mem := by
    intro N
    induction N with
    | zero => intros; omega
    | succ N ih =>
      intro c o hc hc2 ho2 hN
      refine w_304_5 (Ex.mono S (n + 3)) (fun v1 e1 _ => ⟨fun q => fun _ => ⟨_, rfl, H _ hc⟩, fun q => ?_⟩)
      have hl := lifeF_rng hO hT hd (o := o) (by omega)
      have ht := hT o (by omega)
      have hla := hO.lat (o := o) (by omega)
      have inner : ∀ (N' : Nat) (c' x : Int), 0 ≤ x → c ≤ c' → c' ≤ c + x → x ≤ 1000 → (1000 - x).toNat < N' → Wx (Ex S (n + 3)) S M_304 (fun r m => ∃ y, r = some y ∧ K y m) 17 [some (.inr 143), some (.inl s), some (.inl d), some (.inl c'), some (.inl (o : Int)), some (.inl x)] [] mem := by
        intro N'
        induction N' with
        | zero => intros; omega
        | succ N' ih2 =>
          intro c' x hx h1 h2 h3 hN'
          refine w_304_17 (Ex.mono S (n + 3)) (f_298 hO hT hd (by omega) (fun _ => ⟨fun q2 => ⟨by unfold InI; omega, ih c' (o + 1) (by omega) (by omega) (by omega) (by omega)⟩, fun q2 => f_299 hO ⟨by omega, by omega⟩ (by rw [Int.toNat_natCast]; omega) (fun _ => ?_)⟩))
          rw [Int.toNat_natCast]
          refine ⟨by unfold InI; omega, f_272 ⟨by omega, by omega⟩ (fun r _ _ _ => ⟨fun _ => ⟨by unfold InI; omega, by unfold InI; omega, ih2 (c' + 0) (x + 1) (by omega) (by omega) (by omega) (by omega) (by omega)⟩, fun _ => ⟨by unfold InI; omega, by unfold InI; omega, ih2 (c' + 1) (x + 1) (by omega) (by omega) (by omega) (by omega) (by omega)⟩⟩)⟩
      exact inner 1001 c 0 (by omega) (by omega) (by omega) (by omega) (by omega)
  exact CW.of (k := 3) mt_304 rfl rfl (w_304_0 (Ex.mono S (n + 3)) (key 9 0 0 (by omega) (by omega) (by omega) (by omega)))
theorem f_303 (hO : OpsOK mem) (hd : 1 ≤ d ∧ d ≤ 12) (hT : TmOK mem d) (H : ∀ r, K r mem) : CWI (Ex S (n + 5)) 303 [.inr 143, .inl d] mem K := by
  have key : ∀ (N : Nat) (b s : Int), 1 ≤ s → (12 - s).toNat < N → Wx (Ex S (n + 4)) S M_303 (fun r m => ∃ y, r = some y ∧ K y m) 4 [some (.inr 143), some (.inl d), some (.inl b), some (.inl s)] [] mem := by
    intro N
    induction N with
    | zero => intros; omega
    | succ N ih =>
      intro b s hs hN
      refine w_303_4 (Ex.mono S (n + 4)) ⟨fun q _ => ⟨_, rfl, H _⟩, fun q => f_304 hO hd hT (fun r _ _ => f_304 hO hd hT (fun r2 _ _ => ⟨fun _ => ⟨by unfold InI; omega, ih b (s + 1) (by omega) (by omega)⟩, fun _ => ⟨by unfold InI; omega, ih s (s + 1) (by omega) (by omega)⟩⟩))⟩
  exact CW.of (k := 2) mt_303 rfl rfl (w_303_0 (Ex.mono S (n + 4)) (key 12 0 1 (by omega) (by omega)))
theorem d7 {x : Int} (hd : 1 ≤ d ∧ d ≤ 12) (hx : 0 ≤ x ∧ x ≤ 7) : 0 ≤ d * x ∧ d * x ≤ 84 := by
  have a1 : 0 ≤ d * x := Int.mul_nonneg (by omega) (by omega)
  have a2 : d * x ≤ 12 * x := Int.mul_le_mul_of_nonneg_right hd.2 (by omega)
  omega
theorem f_306 (hd : 1 ≤ d ∧ d ≤ 12) (hN : NdsOK mem) (hT : TmOK mem d) {o : Int} (ho : 0 ≤ o ∧ o < mem 143 1) (H : ∀ r, K r mem) : CWI (Ex S (n + 2)) 306 [.inr 143, .inl o, .inl d] mem K := by
  have h8 := hN.1
  have h48 := hN.2.1
  have key : ∀ (N : Nat) (c : Int) (k : Nat), (k : Int) ≤ mem 143 12 → (mem 143 12 - k).toNat < N → Wx (Ex S (n + 1)) S M_306 (fun r m => ∃ y, r = some y ∧ K y m) 6 [some (.inr 143), some (.inl o), some (.inl d), some (.inl c), some (.inl (k : Int))] [] mem := by
    intro N
    induction N with
    | zero => intros; omega
    | succ N ih =>
      intro c k hk hNN
      refine w_306_6 (Ex.mono S (n + 1)) (fun v1 e1 _ => ⟨fun q _ => ⟨_, rfl, H _⟩, fun q => ?_⟩)
      have hk48 : 0 ≤ (k : Int) ∧ (k : Int) < 48 := by omega
      obtain ⟨p1, p2, p3, p4, p5, p6, p7, p8, p9⟩ := hN.2.2 k (by omega)
      have nx : ∀ c, InI ((k : Int) + 1) ∧ Wx (Ex S (n + 1)) S M_306 (fun r m => ∃ y, r = some y ∧ K y m) 6 [some (.inr 143), some (.inl o), some (.inl d), some (.inl c), some (.inl ((k : Int) + 1))] [] mem := fun c => ⟨by unfold InI; omega, ih c (k + 1) (by omega) (by omega)⟩
      rw [Int.toNat_natCast]
      refine ⟨hk48, fun v2 e2 _ => ⟨fun _ => nx _, fun _ => ⟨hk48, fun v3 e3 _ => ⟨fun _ => nx _, fun _ => ⟨hk48, fun v4 e4 _ => ⟨by omega, fun v5 e5 _ => ⟨hk48, fun v6 e6 _ => ?_⟩⟩⟩⟩⟩⟩⟩
      have t5 := hT v4.toNat (by omega)
      have t8 := hT o.toNat (by omega)
      have m6 := d7 (x := v6) hd (by omega)
      exact ⟨by unfold InI; omega, by unfold InI; omega, hk48, fun v7 e7 _ => ⟨by unfold InI; omega, by omega, fun v8 e8 _ => ⟨by unfold InI; omega, f_258 (fun _ _ => nx _)⟩⟩⟩
  exact CW.of (k := 2) mt_306 rfl rfl (w_306_0 (Ex.mono S (n + 1)) (key 49 99 0 (by omega) (by omega)))
theorem f_294 {x : Int} (h : RefOK mem) (H : Fin mem K) : CWI (Ex S (n + 7)) 294 [.inr 143, .inl d, .inl x] mem K := by
  refine CW.of (k := 2) mt_294 rfl rfl (w_294_0 (Ex.mono S (n + 6)) (f_227 (fun _ _ _ => ⟨fun _ => f_253 (fun d1 d2 _ => ⟨fun _ => f_268r h ⟨d1, d2⟩ (fun m' h1 h2 hk h3 h4 h5 _ => ⟨fun _ => ?_, fun z => absurd (by decide) z⟩) (fun m' h1 h2 _ => ⟨fun z => absurd rfl z, fun _ _ => H.thr h1 h2 0 (by omega)⟩), fun z => absurd (by decide) z⟩) (fun _ => ⟨fun z => absurd rfl z, fun _ _ => H.thr h FrQ.rf 0 (by omega)⟩), fun z => absurd (by decide) z⟩) (fun _ _ => ⟨fun z => absurd rfl z, fun _ _ => H.thr h FrQ.rf 0 (by omega)⟩)))
  have hm := h1.th' (z := 0) (by omega)
  have hq := h2.tr (FrQ.th (z := 0))
  have hT : TmOK (upm m' 143 0 0) d := h5
  generalize upm m' 143 0 0 = M at hm hq hT
  have hO := hm.ops
  have h8 := hO.1
  have hd : 1 ≤ d ∧ d ≤ 12 := ⟨d1, d2⟩
  have key : ∀ (N : Nat) (c : Int) (o : Nat), 0 ≤ c → c ≤ 45 * o → (o : Int) ≤ M 143 1 → (M 143 1 - o).toNat < N → Wx (Ex S (n + 6)) S M_294 (fun r m => ∃ y, r = some y ∧ K y m) 56 [some (.inr 143), some (.inl d), some (.inl x), some (.inl c), some (.inl (o : Int))] [] M := by
    intro N
    induction N with
    | zero => intros; omega
    | succ N ih =>
      intro c o hc hc2 ho2 hN
      refine w_294_56 (Ex.mono S (n + 6)) (fun v1 e1 _ => ⟨fun q => ?_, fun q => f_295 hO hT hd (by omega) (fun r r1 r2 _ _ => ⟨by unfold InI; omega, by unfold InI; omega, ih _ (o + 1) (by omega) (by omega) (by omega) (by omega)⟩)⟩)
      exact w_294_81 (Ex.mono S (n + 6)) ⟨fun _ => f_303 hO hd hT (fun r _ _ => H.at hm hq _), fun _ => f_300 hO hd hT (fun r _ _ _ _ _ => H.at hm hq _), fun _ => f_301 hO hd hT (fun r _ _ _ _ => H.at hm hq _), fun _ => f_302 hO hd hT (fun r _ _ _ _ => H.at hm hq _), fun _ => f_296 hO hT hd (fun r _ _ _ _ _ => H.at hm hq _), fun _ _ => H.at hm hq _, fun _ => f_303 hO hd hT (fun r _ => f_304 hO hd hT (fun r2 _ _ _ => H.at hm hq _))⟩
  exact key 9 0 0 (by omega) (by omega) (by omega) (by omega)
theorem f_305 {x y : Int} (h : RefOK mem) (H : Fin mem K) : CWI (Ex S (n + 7)) 305 [.inr 143, .inl x, .inl d, .inl y] mem K := by
  have h8 := h.ops.1
  refine CW.of (k := 0) mt_305 rfl rfl (w_305_0 (Ex.mono S (n + 6)) (f_235 h8 (fun o1 o2 _ => ⟨fun _ => f_227 (fun _ _ _ => ⟨fun _ => f_253 (fun d1 d2 _ => ⟨fun _ => f_268r h ⟨d1, d2⟩ (fun m' h1 h2 hk h3 h4 h5 _ => ⟨fun _ => ?_, fun z => absurd (by decide) z⟩) (fun m' h1 h2 _ => ⟨fun z => absurd rfl z, fun _ _ => H.thr h1 h2 0 (by omega)⟩), fun z => absurd (by decide) z⟩) (fun _ => ⟨fun z => absurd rfl z, fun _ _ => H.thr h FrQ.rf 0 (by omega)⟩), fun z => absurd (by decide) z⟩) (fun _ _ => ⟨fun z => absurd rfl z, fun _ _ => H.thr h FrQ.rf 0 (by omega)⟩), fun z => absurd (by decide) z⟩) (fun _ => ⟨fun z => absurd rfl z, fun _ _ => H.thr h FrQ.rf 0 (by omega)⟩)))
  have hm := h1.th' (z := 0) (by omega)
  have hq := h2.tr (FrQ.th (z := 0))
  have hT : TmOK (upm m' 143 0 0) d := h5
  have hN : NdsOK (upm m' 143 0 0) := h4
  have e1 : upm m' 143 0 0 143 1 = mem 143 1 := by rw [upm_ne (by omega)]; exact hk _ _ (by omega)
  generalize upm m' 143 0 0 = M at hm hq hT hN e1
  have hO := hm.ops
  have hd : 1 ≤ d ∧ d ≤ 12 := ⟨d1, d2⟩
  obtain ⟨o, rfl⟩ : ∃ o : Nat, x = (o : Int) := ⟨x.toNat, by omega⟩
  exact ⟨fun _ => f_306 hd hN hT ⟨o1, by omega⟩ (fun r _ _ => H.at hm hq _), fun _ => ⟨by omega, fun v _ _ => ⟨by omega, fun _ => H.at hm hq _⟩⟩, fun _ => ⟨by omega, fun v _ _ => ⟨by omega, fun _ => H.at hm hq _⟩⟩, fun _ => f_298 hO hT hd (by omega) (fun _ _ => H.at hm hq _), fun _ => f_297 hO hT hd (by omega) (fun _ _ => H.at hm hq _), fun _ => f_295 hO hT hd (by omega) (fun r _ _ _ _ _ => H.at hm hq _)⟩
end PLAN
/-! laid by wip/hand/wxg.py: runs: what the paths of methods ask for -/
set_option maxRecDepth 100000 in
theorem mt_309 : MT[309]? = some M_309 := rfl
set_option maxRecDepth 100000 in
theorem mt_311 : MT[311]? = some M_311 := rfl
set_option maxRecDepth 100000 in
theorem mt_313 : MT[313]? = some M_313 := rfl
set_option maxRecDepth 100000 in
theorem mt_315 : MT[315]? = some M_315 := rfl
set_option maxRecDepth 100000 in
theorem mt_316 : MT[316]? = some M_316 := rfl
set_option maxRecDepth 100000 in
theorem mt_317 : MT[317]? = some M_317 := rfl
set_option maxRecDepth 100000 in
theorem mt_318 : MT[318]? = some M_318 := rfl
set_option maxRecDepth 100000 in
theorem mt_320 : MT[320]? = some M_320 := rfl
set_option maxRecDepth 100000 in
theorem mt_321 : MT[321]? = some M_321 := rfl
set_option maxRecDepth 100000 in
theorem mt_322 : MT[322]? = some M_322 := rfl
set_option maxRecDepth 100000 in
theorem mt_323 : MT[323]? = some M_323 := rfl
set_option maxRecDepth 100000 in
theorem mt_324 : MT[324]? = some M_324 := rfl
set_option maxRecDepth 100000 in
theorem mt_325 : MT[325]? = some M_325 := rfl
set_option maxRecDepth 100000 in
theorem mt_326 : MT[326]? = some M_326 := rfl
set_option maxRecDepth 100000 in
theorem mt_327 : MT[327]? = some M_327 := rfl
set_option maxRecDepth 100000 in
theorem mt_328 : MT[328]? = some M_328 := rfl
set_option maxRecDepth 100000 in
theorem mt_329 : MT[329]? = some M_329 := rfl
set_option maxRecDepth 100000 in
theorem mt_330 : MT[330]? = some M_330 := rfl
set_option maxRecDepth 100000 in
theorem mt_364 : MT[364]? = some M_364 := rfl
set_option maxRecDepth 100000 in
theorem mt_365 : MT[365]? = some M_365 := rfl
theorem te_309_0 : (pT M_309).find? (fun e => e.1 == 0) = some (0, .iload_n 0, 0, 0) := rfl
theorem te_309_1 : (pT M_309).find? (fun e => e.1 == 1) = some (1, .iconst 0, 0, 0) := rfl
theorem te_309_2 : (pT M_309).find? (fun e => e.1 == 2) = some (2, .bipush 40, 0, 0) := rfl
theorem te_309_4 : (pT M_309).find? (fun e => e.1 == 4) = some (4, .invokestatic 104, 227, 2) := rfl
theorem te_309_7 : (pT M_309).find? (fun e => e.1 == 7) = some (7, .ireturn, 0, 0) := rfl
theorem te_311_0 : (pT M_311).find? (fun e => e.1 == 0) = some (0, .iload_n 1, 0, 0) := rfl
theorem te_311_1 : (pT M_311).find? (fun e => e.1 == 1) = some (1, .invokestatic 202, 253, 2) := rfl
theorem te_311_4 : (pT M_311).find? (fun e => e.1 == 4) = some (4, .ifCond .eq 10, 0, 0) := rfl
theorem te_311_7 : (pT M_311).find? (fun e => e.1 == 7) = some (7, .iload_n 2, 0, 0) := rfl
theorem te_311_8 : (pT M_311).find? (fun e => e.1 == 8) = some (8, .invokestatic 305, 309, 2) := rfl
theorem te_311_11 : (pT M_311).find? (fun e => e.1 == 11) = some (11, .ifCond .ne 7, 0, 0) := rfl
theorem te_311_14 : (pT M_311).find? (fun e => e.1 == 14) = some (14, .iconst 1, 0, 0) := rfl
theorem te_311_15 : (pT M_311).find? (fun e => e.1 == 15) = some (15, .goto 16, 0, 0) := rfl
theorem te_311_18 : (pT M_311).find? (fun e => e.1 == 18) = some (18, .aload_n 0, 0, 0) := rfl
theorem te_311_19 : (pT M_311).find? (fun e => e.1 == 19) = some (19, .iload_n 1, 0, 0) := rfl
theorem te_311_20 : (pT M_311).find? (fun e => e.1 == 20) = some (20, .invokevirtual 232, 268, 0) := rfl
theorem te_311_23 : (pT M_311).find? (fun e => e.1 == 23) = some (23, .ifCond .ne 7, 0, 0) := rfl
theorem te_311_26 : (pT M_311).find? (fun e => e.1 == 26) = some (26, .iconst 2, 0, 0) := rfl
theorem te_311_27 : (pT M_311).find? (fun e => e.1 == 27) = some (27, .goto 4, 0, 0) := rfl
theorem te_311_30 : (pT M_311).find? (fun e => e.1 == 30) = some (30, .iconst 0, 0, 0) := rfl
theorem te_311_31 : (pT M_311).find? (fun e => e.1 == 31) = some (31, .ireturn, 0, 0) := rfl
theorem te_313_0 : (pT M_313).find? (fun e => e.1 == 0) = some (0, .iload_n 2, 0, 0) := rfl
theorem te_313_1 : (pT M_313).find? (fun e => e.1 == 1) = some (1, .ifCond .ne 7, 0, 0) := rfl
theorem te_313_4 : (pT M_313).find? (fun e => e.1 == 4) = some (4, .iconst 0, 0, 0) := rfl
theorem te_313_5 : (pT M_313).find? (fun e => e.1 == 5) = some (5, .goto 13, 0, 0) := rfl
theorem te_313_8 : (pT M_313).find? (fun e => e.1 == 8) = some (8, .iload_n 1, 0, 0) := rfl
theorem te_313_9 : (pT M_313).find? (fun e => e.1 == 9) = some (9, .iload_n 2, 0, 0) := rfl
theorem te_313_10 : (pT M_313).find? (fun e => e.1 == 10) = some (10, .iconst 1, 0, 0) := rfl
theorem te_313_11 : (pT M_313).find? (fun e => e.1 == 11) = some (11, .isub, 0, 0) := rfl
theorem te_313_12 : (pT M_313).find? (fun e => e.1 == 12) = some (12, .imul, 0, 0) := rfl
theorem te_313_13 : (pT M_313).find? (fun e => e.1 == 13) = some (13, .aload_n 0, 0, 0) := rfl
theorem te_313_14 : (pT M_313).find? (fun e => e.1 == 14) = some (14, .invokevirtual 290, 300, 0) := rfl
theorem te_313_17 : (pT M_313).find? (fun e => e.1 == 17) = some (17, .iadd, 0, 0) := rfl
theorem te_313_18 : (pT M_313).find? (fun e => e.1 == 18) = some (18, .ireturn, 0, 0) := rfl
theorem te_315_0 : (pT M_315).find? (fun e => e.1 == 0) = some (0, .aload_n 0, 0, 0) := rfl
theorem te_315_1 : (pT M_315).find? (fun e => e.1 == 1) = some (1, .iload_n 1, 0, 0) := rfl
theorem te_315_2 : (pT M_315).find? (fun e => e.1 == 2) = some (2, .iload_n 2, 0, 0) := rfl
theorem te_315_3 : (pT M_315).find? (fun e => e.1 == 3) = some (3, .invokestatic 343, 316, 2) := rfl
theorem te_315_6 : (pT M_315).find? (fun e => e.1 == 6) = some (6, .ifCond .ne 7, 0, 0) := rfl
theorem te_315_9 : (pT M_315).find? (fun e => e.1 == 9) = some (9, .iconst 1, 0, 0) := rfl
theorem te_315_10 : (pT M_315).find? (fun e => e.1 == 10) = some (10, .goto 10, 0, 0) := rfl
theorem te_315_13 : (pT M_315).find? (fun e => e.1 == 13) = some (13, .aload_n 0, 0, 0) := rfl
theorem te_315_14 : (pT M_315).find? (fun e => e.1 == 14) = some (14, .iload_n 3, 0, 0) := rfl
theorem te_315_15 : (pT M_315).find? (fun e => e.1 == 15) = some (15, .iload 4, 0, 0) := rfl
theorem te_315_17 : (pT M_315).find? (fun e => e.1 == 17) = some (17, .invokevirtual 314, 311, 0) := rfl
theorem te_315_20 : (pT M_315).find? (fun e => e.1 == 20) = some (20, .putfield 101, 10, 0) := rfl
theorem te_315_23 : (pT M_315).find? (fun e => e.1 == 23) = some (23, .aload_n 0, 0, 0) := rfl
theorem te_315_24 : (pT M_315).find? (fun e => e.1 == 24) = some (24, .getfield 101, 10, 0) := rfl
theorem te_315_27 : (pT M_315).find? (fun e => e.1 == 27) = some (27, .ifCond .le 5, 0, 0) := rfl
theorem te_315_30 : (pT M_315).find? (fun e => e.1 == 30) = some (30, .iconst 0, 0, 0) := rfl
theorem te_315_31 : (pT M_315).find? (fun e => e.1 == 31) = some (31, .ireturn, 0, 0) := rfl
theorem te_315_32 : (pT M_315).find? (fun e => e.1 == 32) = some (32, .aload_n 0, 0, 0) := rfl
theorem te_315_33 : (pT M_315).find? (fun e => e.1 == 33) = some (33, .iload_n 3, 0, 0) := rfl
theorem te_315_34 : (pT M_315).find? (fun e => e.1 == 34) = some (34, .iload 4, 0, 0) := rfl
theorem te_315_36 : (pT M_315).find? (fun e => e.1 == 36) = some (36, .aload_n 0, 0, 0) := rfl
theorem te_315_37 : (pT M_315).find? (fun e => e.1 == 37) = some (37, .iload_n 3, 0, 0) := rfl
theorem te_315_38 : (pT M_315).find? (fun e => e.1 == 38) = some (38, .iload 4, 0, 0) := rfl
theorem te_315_40 : (pT M_315).find? (fun e => e.1 == 40) = some (40, .invokevirtual 308, 313, 0) := rfl
theorem te_315_43 : (pT M_315).find? (fun e => e.1 == 43) = some (43, .invokevirtual 346, 317, 0) := rfl
theorem te_315_46 : (pT M_315).find? (fun e => e.1 == 46) = some (46, .aload_n 0, 0, 0) := rfl
theorem te_315_47 : (pT M_315).find? (fun e => e.1 == 47) = some (47, .getfield 77, 10, 26) := rfl
theorem te_315_50 : (pT M_315).find? (fun e => e.1 == 50) = some (50, .bipush 64, 0, 0) := rfl
theorem te_315_52 : (pT M_315).find? (fun e => e.1 == 52) = some (52, .iload_n 1, 0, 0) := rfl
theorem te_315_53 : (pT M_315).find? (fun e => e.1 == 53) = some (53, .imul, 0, 0) := rfl
theorem te_315_54 : (pT M_315).find? (fun e => e.1 == 54) = some (54, .iload_n 2, 0, 0) := rfl
theorem te_315_55 : (pT M_315).find? (fun e => e.1 == 55) = some (55, .iadd, 0, 0) := rfl
theorem te_315_56 : (pT M_315).find? (fun e => e.1 == 56) = some (56, .iaload, 0, 0) := rfl
theorem te_315_57 : (pT M_315).find? (fun e => e.1 == 57) = some (57, .ireturn, 0, 0) := rfl
theorem te_316_0 : (pT M_316).find? (fun e => e.1 == 0) = some (0, .iload_n 0, 0, 0) := rfl
theorem te_316_1 : (pT M_316).find? (fun e => e.1 == 1) = some (1, .iconst 0, 0, 0) := rfl
theorem te_316_2 : (pT M_316).find? (fun e => e.1 == 2) = some (2, .iconst 1, 0, 0) := rfl
theorem te_316_3 : (pT M_316).find? (fun e => e.1 == 3) = some (3, .invokestatic 104, 227, 2) := rfl
theorem te_316_6 : (pT M_316).find? (fun e => e.1 == 6) = some (6, .ifCond .eq 17, 0, 0) := rfl
theorem te_316_9 : (pT M_316).find? (fun e => e.1 == 9) = some (9, .iload_n 1, 0, 0) := rfl
theorem te_316_10 : (pT M_316).find? (fun e => e.1 == 10) = some (10, .iconst 0, 0, 0) := rfl
theorem te_316_11 : (pT M_316).find? (fun e => e.1 == 11) = some (11, .bipush 63, 0, 0) := rfl
theorem te_316_13 : (pT M_316).find? (fun e => e.1 == 13) = some (13, .invokestatic 104, 227, 2) := rfl
theorem te_316_16 : (pT M_316).find? (fun e => e.1 == 16) = some (16, .ifCond .eq 7, 0, 0) := rfl
theorem te_316_19 : (pT M_316).find? (fun e => e.1 == 19) = some (19, .iconst 1, 0, 0) := rfl
theorem te_316_20 : (pT M_316).find? (fun e => e.1 == 20) = some (20, .goto 4, 0, 0) := rfl
theorem te_316_23 : (pT M_316).find? (fun e => e.1 == 23) = some (23, .iconst 0, 0, 0) := rfl
theorem te_316_24 : (pT M_316).find? (fun e => e.1 == 24) = some (24, .ireturn, 0, 0) := rfl
theorem te_317_0 : (pT M_317).find? (fun e => e.1 == 0) = some (0, .aload_n 0, 0, 0) := rfl
theorem te_317_1 : (pT M_317).find? (fun e => e.1 == 1) = some (1, .invokevirtual 330, 318, 0) := rfl
theorem te_317_4 : (pT M_317).find? (fun e => e.1 == 4) = some (4, .iconst 0, 0, 0) := rfl
theorem te_317_5 : (pT M_317).find? (fun e => e.1 == 5) = some (5, .istore 4, 0, 0) := rfl
theorem te_317_7 : (pT M_317).find? (fun e => e.1 == 7) = some (7, .iload 4, 0, 0) := rfl
theorem te_317_9 : (pT M_317).find? (fun e => e.1 == 9) = some (9, .aload_n 0, 0, 0) := rfl
theorem te_317_10 : (pT M_317).find? (fun e => e.1 == 10) = some (10, .getfield 108, 10, 1) := rfl
theorem te_317_13 : (pT M_317).find? (fun e => e.1 == 13) = some (13, .if_icmp .ge 59, 0, 0) := rfl
theorem te_317_16 : (pT M_317).find? (fun e => e.1 == 16) = some (16, .aload_n 0, 0, 0) := rfl
theorem te_317_17 : (pT M_317).find? (fun e => e.1 == 17) = some (17, .getfield 86, 10, 29) := rfl
theorem te_317_20 : (pT M_317).find? (fun e => e.1 == 20) = some (20, .iload 4, 0, 0) := rfl
theorem te_317_22 : (pT M_317).find? (fun e => e.1 == 22) = some (22, .aload_n 0, 0, 0) := rfl
theorem te_317_23 : (pT M_317).find? (fun e => e.1 == 23) = some (23, .iload 4, 0, 0) := rfl
theorem te_317_25 : (pT M_317).find? (fun e => e.1 == 25) = some (25, .iload_n 1, 0, 0) := rfl
theorem te_317_26 : (pT M_317).find? (fun e => e.1 == 26) = some (26, .invokevirtual 287, 295, 0) := rfl
theorem te_317_29 : (pT M_317).find? (fun e => e.1 == 29) = some (29, .iastore, 0, 0) := rfl
theorem te_317_30 : (pT M_317).find? (fun e => e.1 == 30) = some (30, .iconst 0, 0, 0) := rfl
theorem te_317_31 : (pT M_317).find? (fun e => e.1 == 31) = some (31, .istore 5, 0, 0) := rfl
theorem te_317_33 : (pT M_317).find? (fun e => e.1 == 33) = some (33, .iload 5, 0, 0) := rfl
theorem te_317_35 : (pT M_317).find? (fun e => e.1 == 35) = some (35, .bipush 80, 0, 0) := rfl
theorem te_317_37 : (pT M_317).find? (fun e => e.1 == 37) = some (37, .if_icmp .ge 29, 0, 0) := rfl
theorem te_317_40 : (pT M_317).find? (fun e => e.1 == 40) = some (40, .aload_n 0, 0, 0) := rfl
theorem te_317_41 : (pT M_317).find? (fun e => e.1 == 41) = some (41, .getfield 80, 10, 27) := rfl
theorem te_317_44 : (pT M_317).find? (fun e => e.1 == 44) = some (44, .bipush 80, 0, 0) := rfl
theorem te_317_46 : (pT M_317).find? (fun e => e.1 == 46) = some (46, .iload 4, 0, 0) := rfl
theorem te_317_48 : (pT M_317).find? (fun e => e.1 == 48) = some (48, .imul, 0, 0) := rfl
theorem te_317_49 : (pT M_317).find? (fun e => e.1 == 49) = some (49, .iload 5, 0, 0) := rfl
theorem te_317_51 : (pT M_317).find? (fun e => e.1 == 51) = some (51, .iadd, 0, 0) := rfl
theorem te_317_52 : (pT M_317).find? (fun e => e.1 == 52) = some (52, .aload_n 0, 0, 0) := rfl
theorem te_317_53 : (pT M_317).find? (fun e => e.1 == 53) = some (53, .getfield 25, 10, 7) := rfl
theorem te_317_56 : (pT M_317).find? (fun e => e.1 == 56) = some (56, .iload 4, 0, 0) := rfl
theorem te_317_58 : (pT M_317).find? (fun e => e.1 == 58) = some (58, .iaload, 0, 0) := rfl
theorem te_317_59 : (pT M_317).find? (fun e => e.1 == 59) = some (59, .iastore, 0, 0) := rfl
theorem te_317_60 : (pT M_317).find? (fun e => e.1 == 60) = some (60, .iinc 5 1, 0, 0) := rfl
theorem te_317_63 : (pT M_317).find? (fun e => e.1 == 63) = some (63, .goto (-30), 0, 0) := rfl
theorem te_317_66 : (pT M_317).find? (fun e => e.1 == 66) = some (66, .iinc 4 1, 0, 0) := rfl
theorem te_317_69 : (pT M_317).find? (fun e => e.1 == 69) = some (69, .goto (-62), 0, 0) := rfl
theorem te_317_72 : (pT M_317).find? (fun e => e.1 == 72) = some (72, .iconst 0, 0, 0) := rfl
theorem te_317_73 : (pT M_317).find? (fun e => e.1 == 73) = some (73, .istore 4, 0, 0) := rfl
theorem te_317_75 : (pT M_317).find? (fun e => e.1 == 75) = some (75, .iload 4, 0, 0) := rfl
theorem te_317_77 : (pT M_317).find? (fun e => e.1 == 77) = some (77, .iload_n 3, 0, 0) := rfl
theorem te_317_78 : (pT M_317).find? (fun e => e.1 == 78) = some (78, .if_icmp .gt 144, 0, 0) := rfl
theorem te_317_81 : (pT M_317).find? (fun e => e.1 == 81) = some (81, .iconst 0, 0, 0) := rfl
theorem te_317_82 : (pT M_317).find? (fun e => e.1 == 82) = some (82, .istore 5, 0, 0) := rfl
theorem te_317_84 : (pT M_317).find? (fun e => e.1 == 84) = some (84, .iload 5, 0, 0) := rfl
theorem te_317_86 : (pT M_317).find? (fun e => e.1 == 86) = some (86, .aload_n 0, 0, 0) := rfl
theorem te_317_87 : (pT M_317).find? (fun e => e.1 == 87) = some (87, .getfield 108, 10, 1) := rfl
theorem te_317_90 : (pT M_317).find? (fun e => e.1 == 90) = some (90, .if_icmp .ge 45, 0, 0) := rfl
theorem te_317_93 : (pT M_317).find? (fun e => e.1 == 93) = some (93, .iload 4, 0, 0) := rfl
theorem te_317_95 : (pT M_317).find? (fun e => e.1 == 95) = some (95, .aload_n 0, 0, 0) := rfl
theorem te_317_96 : (pT M_317).find? (fun e => e.1 == 96) = some (96, .iload 5, 0, 0) := rfl
theorem te_317_98 : (pT M_317).find? (fun e => e.1 == 98) = some (98, .invokevirtual 272, 299, 0) := rfl
theorem te_317_101 : (pT M_317).find? (fun e => e.1 == 101) = some (101, .iload_n 1, 0, 0) := rfl
theorem te_317_102 : (pT M_317).find? (fun e => e.1 == 102) = some (102, .iload_n 2, 0, 0) := rfl
theorem te_317_103 : (pT M_317).find? (fun e => e.1 == 103) = some (103, .invokestatic 333, 319, 2) := rfl
theorem te_317_106 : (pT M_317).find? (fun e => e.1 == 106) = some (106, .iconst (-1), 0, 0) := rfl
theorem te_317_107 : (pT M_317).find? (fun e => e.1 == 107) = some (107, .if_icmp .eq 22, 0, 0) := rfl
theorem te_317_110 : (pT M_317).find? (fun e => e.1 == 110) = some (110, .aload_n 0, 0, 0) := rfl
theorem te_317_111 : (pT M_317).find? (fun e => e.1 == 111) = some (111, .iload 5, 0, 0) := rfl
theorem te_317_113 : (pT M_317).find? (fun e => e.1 == 113) = some (113, .iload 4, 0, 0) := rfl
theorem te_317_115 : (pT M_317).find? (fun e => e.1 == 115) = some (115, .aload_n 0, 0, 0) := rfl
theorem te_317_116 : (pT M_317).find? (fun e => e.1 == 116) = some (116, .iload 5, 0, 0) := rfl
theorem te_317_118 : (pT M_317).find? (fun e => e.1 == 118) = some (118, .invokevirtual 272, 299, 0) := rfl
theorem te_317_121 : (pT M_317).find? (fun e => e.1 == 121) = some (121, .iload_n 1, 0, 0) := rfl
theorem te_317_122 : (pT M_317).find? (fun e => e.1 == 122) = some (122, .iload_n 2, 0, 0) := rfl
theorem te_317_123 : (pT M_317).find? (fun e => e.1 == 123) = some (123, .invokestatic 333, 319, 2) := rfl
theorem te_317_126 : (pT M_317).find? (fun e => e.1 == 126) = some (126, .invokevirtual 337, 320, 0) := rfl
theorem te_317_129 : (pT M_317).find? (fun e => e.1 == 129) = some (129, .iinc 5 1, 0, 0) := rfl
theorem te_317_132 : (pT M_317).find? (fun e => e.1 == 132) = some (132, .goto (-48), 0, 0) := rfl
theorem te_317_135 : (pT M_317).find? (fun e => e.1 == 135) = some (135, .iconst 0, 0, 0) := rfl
theorem te_317_136 : (pT M_317).find? (fun e => e.1 == 136) = some (136, .istore 5, 0, 0) := rfl
theorem te_317_138 : (pT M_317).find? (fun e => e.1 == 138) = some (138, .iload 5, 0, 0) := rfl
theorem te_317_140 : (pT M_317).find? (fun e => e.1 == 140) = some (140, .aload_n 0, 0, 0) := rfl
theorem te_317_141 : (pT M_317).find? (fun e => e.1 == 141) = some (141, .getfield 108, 10, 1) := rfl
theorem te_317_144 : (pT M_317).find? (fun e => e.1 == 144) = some (144, .if_icmp .ge 72, 0, 0) := rfl
theorem te_317_147 : (pT M_317).find? (fun e => e.1 == 147) = some (147, .iload 4, 0, 0) := rfl
theorem te_317_149 : (pT M_317).find? (fun e => e.1 == 149) = some (149, .aload_n 0, 0, 0) := rfl
theorem te_317_150 : (pT M_317).find? (fun e => e.1 == 150) = some (150, .getfield 65, 10, 21) := rfl
theorem te_317_153 : (pT M_317).find? (fun e => e.1 == 153) = some (153, .iload 5, 0, 0) := rfl
theorem te_317_155 : (pT M_317).find? (fun e => e.1 == 155) = some (155, .iaload, 0, 0) := rfl
theorem te_317_156 : (pT M_317).find? (fun e => e.1 == 156) = some (156, .iload_n 1, 0, 0) := rfl
theorem te_317_157 : (pT M_317).find? (fun e => e.1 == 157) = some (157, .iload_n 2, 0, 0) := rfl
theorem te_317_158 : (pT M_317).find? (fun e => e.1 == 158) = some (158, .invokestatic 333, 319, 2) := rfl
theorem te_317_161 : (pT M_317).find? (fun e => e.1 == 161) = some (161, .iconst (-1), 0, 0) := rfl
theorem te_317_162 : (pT M_317).find? (fun e => e.1 == 162) = some (162, .if_icmp .eq 48, 0, 0) := rfl
theorem te_317_165 : (pT M_317).find? (fun e => e.1 == 165) = some (165, .aload_n 0, 0, 0) := rfl
theorem te_317_166 : (pT M_317).find? (fun e => e.1 == 166) = some (166, .getfield 83, 10, 28) := rfl
theorem te_317_169 : (pT M_317).find? (fun e => e.1 == 169) = some (169, .bipush 41, 0, 0) := rfl
theorem te_317_171 : (pT M_317).find? (fun e => e.1 == 171) = some (171, .iload 5, 0, 0) := rfl
theorem te_317_173 : (pT M_317).find? (fun e => e.1 == 173) = some (173, .imul, 0, 0) := rfl
theorem te_317_174 : (pT M_317).find? (fun e => e.1 == 174) = some (174, .iload 4, 0, 0) := rfl
theorem te_317_176 : (pT M_317).find? (fun e => e.1 == 176) = some (176, .aload_n 0, 0, 0) := rfl
theorem te_317_177 : (pT M_317).find? (fun e => e.1 == 177) = some (177, .getfield 65, 10, 21) := rfl
theorem te_317_180 : (pT M_317).find? (fun e => e.1 == 180) = some (180, .iload 5, 0, 0) := rfl
theorem te_317_182 : (pT M_317).find? (fun e => e.1 == 182) = some (182, .iaload, 0, 0) := rfl
theorem te_317_183 : (pT M_317).find? (fun e => e.1 == 183) = some (183, .iload_n 1, 0, 0) := rfl
theorem te_317_184 : (pT M_317).find? (fun e => e.1 == 184) = some (184, .iload_n 2, 0, 0) := rfl
theorem te_317_185 : (pT M_317).find? (fun e => e.1 == 185) = some (185, .invokestatic 333, 319, 2) := rfl
theorem te_317_188 : (pT M_317).find? (fun e => e.1 == 188) = some (188, .iadd, 0, 0) := rfl
theorem te_317_189 : (pT M_317).find? (fun e => e.1 == 189) = some (189, .aload_n 0, 0, 0) := rfl
theorem te_317_190 : (pT M_317).find? (fun e => e.1 == 190) = some (190, .iload 5, 0, 0) := rfl
theorem te_317_192 : (pT M_317).find? (fun e => e.1 == 192) = some (192, .iload 4, 0, 0) := rfl
theorem te_317_194 : (pT M_317).find? (fun e => e.1 == 194) = some (194, .aload_n 0, 0, 0) := rfl
theorem te_317_195 : (pT M_317).find? (fun e => e.1 == 195) = some (195, .getfield 65, 10, 21) := rfl
theorem te_317_198 : (pT M_317).find? (fun e => e.1 == 198) = some (198, .iload 5, 0, 0) := rfl
theorem te_317_200 : (pT M_317).find? (fun e => e.1 == 200) = some (200, .iaload, 0, 0) := rfl
theorem te_317_201 : (pT M_317).find? (fun e => e.1 == 201) = some (201, .iload_n 1, 0, 0) := rfl
theorem te_317_202 : (pT M_317).find? (fun e => e.1 == 202) = some (202, .iload_n 2, 0, 0) := rfl
theorem te_317_203 : (pT M_317).find? (fun e => e.1 == 203) = some (203, .invokestatic 333, 319, 2) := rfl
theorem te_317_206 : (pT M_317).find? (fun e => e.1 == 206) = some (206, .invokevirtual 340, 322, 0) := rfl
theorem te_317_209 : (pT M_317).find? (fun e => e.1 == 209) = some (209, .iastore, 0, 0) := rfl
theorem te_317_210 : (pT M_317).find? (fun e => e.1 == 210) = some (210, .iinc 5 1, 0, 0) := rfl
theorem te_317_213 : (pT M_317).find? (fun e => e.1 == 213) = some (213, .goto (-75), 0, 0) := rfl
theorem te_317_216 : (pT M_317).find? (fun e => e.1 == 216) = some (216, .iinc 4 1, 0, 0) := rfl
theorem te_317_219 : (pT M_317).find? (fun e => e.1 == 219) = some (219, .goto (-144), 0, 0) := rfl
theorem te_317_222 : (pT M_317).find? (fun e => e.1 == 222) = some (222, .return_, 0, 0) := rfl
theorem te_318_0 : (pT M_318).find? (fun e => e.1 == 0) = some (0, .iconst 0, 0, 0) := rfl
theorem te_318_1 : (pT M_318).find? (fun e => e.1 == 1) = some (1, .istore_n 1, 0, 0) := rfl
theorem te_318_2 : (pT M_318).find? (fun e => e.1 == 2) = some (2, .iload_n 1, 0, 0) := rfl
theorem te_318_3 : (pT M_318).find? (fun e => e.1 == 3) = some (3, .bipush 64, 0, 0) := rfl
theorem te_318_5 : (pT M_318).find? (fun e => e.1 == 5) = some (5, .if_icmp .ge 35, 0, 0) := rfl
theorem te_318_8 : (pT M_318).find? (fun e => e.1 == 8) = some (8, .aload_n 0, 0, 0) := rfl
theorem te_318_9 : (pT M_318).find? (fun e => e.1 == 9) = some (9, .getfield 77, 10, 26) := rfl
theorem te_318_12 : (pT M_318).find? (fun e => e.1 == 12) = some (12, .iload_n 1, 0, 0) := rfl
theorem te_318_13 : (pT M_318).find? (fun e => e.1 == 13) = some (13, .iconst 3, 0, 0) := rfl
theorem te_318_14 : (pT M_318).find? (fun e => e.1 == 14) = some (14, .iload_n 1, 0, 0) := rfl
theorem te_318_15 : (pT M_318).find? (fun e => e.1 == 15) = some (15, .imul, 0, 0) := rfl
theorem te_318_16 : (pT M_318).find? (fun e => e.1 == 16) = some (16, .iconst 1, 0, 0) := rfl
theorem te_318_17 : (pT M_318).find? (fun e => e.1 == 17) = some (17, .iadd, 0, 0) := rfl
theorem te_318_18 : (pT M_318).find? (fun e => e.1 == 18) = some (18, .iastore, 0, 0) := rfl
theorem te_318_19 : (pT M_318).find? (fun e => e.1 == 19) = some (19, .aload_n 0, 0, 0) := rfl
theorem te_318_20 : (pT M_318).find? (fun e => e.1 == 20) = some (20, .getfield 77, 10, 26) := rfl
theorem te_318_23 : (pT M_318).find? (fun e => e.1 == 23) = some (23, .bipush 64, 0, 0) := rfl
theorem te_318_25 : (pT M_318).find? (fun e => e.1 == 25) = some (25, .iload_n 1, 0, 0) := rfl
theorem te_318_26 : (pT M_318).find? (fun e => e.1 == 26) = some (26, .iadd, 0, 0) := rfl
theorem te_318_27 : (pT M_318).find? (fun e => e.1 == 27) = some (27, .bipush 7, 0, 0) := rfl
theorem te_318_29 : (pT M_318).find? (fun e => e.1 == 29) = some (29, .iload_n 1, 0, 0) := rfl
theorem te_318_30 : (pT M_318).find? (fun e => e.1 == 30) = some (30, .imul, 0, 0) := rfl
theorem te_318_31 : (pT M_318).find? (fun e => e.1 == 31) = some (31, .iconst 5, 0, 0) := rfl
theorem te_318_32 : (pT M_318).find? (fun e => e.1 == 32) = some (32, .isub, 0, 0) := rfl
theorem te_318_33 : (pT M_318).find? (fun e => e.1 == 33) = some (33, .iastore, 0, 0) := rfl
theorem te_318_34 : (pT M_318).find? (fun e => e.1 == 34) = some (34, .iinc 1 1, 0, 0) := rfl
theorem te_318_37 : (pT M_318).find? (fun e => e.1 == 37) = some (37, .goto (-35), 0, 0) := rfl
theorem te_318_40 : (pT M_318).find? (fun e => e.1 == 40) = some (40, .return_, 0, 0) := rfl
theorem te_320_0 : (pT M_320).find? (fun e => e.1 == 0) = some (0, .aload_n 0, 0, 0) := rfl
theorem te_320_1 : (pT M_320).find? (fun e => e.1 == 1) = some (1, .getfield 83, 10, 28) := rfl
theorem te_320_4 : (pT M_320).find? (fun e => e.1 == 4) = some (4, .bipush 41, 0, 0) := rfl
theorem te_320_6 : (pT M_320).find? (fun e => e.1 == 6) = some (6, .iload_n 1, 0, 0) := rfl
theorem te_320_7 : (pT M_320).find? (fun e => e.1 == 7) = some (7, .imul, 0, 0) := rfl
theorem te_320_8 : (pT M_320).find? (fun e => e.1 == 8) = some (8, .iload_n 2, 0, 0) := rfl
theorem te_320_9 : (pT M_320).find? (fun e => e.1 == 9) = some (9, .iadd, 0, 0) := rfl
theorem te_320_10 : (pT M_320).find? (fun e => e.1 == 10) = some (10, .iaload, 0, 0) := rfl
theorem te_320_11 : (pT M_320).find? (fun e => e.1 == 11) = some (11, .istore_n 3, 0, 0) := rfl
theorem te_320_12 : (pT M_320).find? (fun e => e.1 == 12) = some (12, .aload_n 0, 0, 0) := rfl
theorem te_320_13 : (pT M_320).find? (fun e => e.1 == 13) = some (13, .getfield 7, 10, 2) := rfl
theorem te_320_16 : (pT M_320).find? (fun e => e.1 == 16) = some (16, .iload_n 1, 0, 0) := rfl
theorem te_320_17 : (pT M_320).find? (fun e => e.1 == 17) = some (17, .iaload, 0, 0) := rfl
theorem te_320_18 : (pT M_320).find? (fun e => e.1 == 18) = some (18, .iconst 5, 0, 0) := rfl
theorem te_320_19 : (pT M_320).find? (fun e => e.1 == 19) = some (19, .if_icmp .ne 28, 0, 0) := rfl
theorem te_320_22 : (pT M_320).find? (fun e => e.1 == 22) = some (22, .aload_n 0, 0, 0) := rfl
theorem te_320_23 : (pT M_320).find? (fun e => e.1 == 23) = some (23, .getfield 77, 10, 26) := rfl
theorem te_320_26 : (pT M_320).find? (fun e => e.1 == 26) = some (26, .bipush 64, 0, 0) := rfl
theorem te_320_28 : (pT M_320).find? (fun e => e.1 == 28) = some (28, .aload_n 0, 0, 0) := rfl
theorem te_320_29 : (pT M_320).find? (fun e => e.1 == 29) = some (29, .iload_n 1, 0, 0) := rfl
theorem te_320_30 : (pT M_320).find? (fun e => e.1 == 30) = some (30, .invokevirtual 158, 250, 0) := rfl
theorem te_320_33 : (pT M_320).find? (fun e => e.1 == 33) = some (33, .imul, 0, 0) := rfl
theorem te_320_34 : (pT M_320).find? (fun e => e.1 == 34) = some (34, .iload_n 2, 0, 0) := rfl
theorem te_320_35 : (pT M_320).find? (fun e => e.1 == 35) = some (35, .iadd, 0, 0) := rfl
theorem te_320_36 : (pT M_320).find? (fun e => e.1 == 36) = some (36, .aload_n 0, 0, 0) := rfl
theorem te_320_37 : (pT M_320).find? (fun e => e.1 == 37) = some (37, .iload_n 1, 0, 0) := rfl
theorem te_320_38 : (pT M_320).find? (fun e => e.1 == 38) = some (38, .invokevirtual 161, 251, 0) := rfl
theorem te_320_41 : (pT M_320).find? (fun e => e.1 == 41) = some (41, .iadd, 0, 0) := rfl
theorem te_320_42 : (pT M_320).find? (fun e => e.1 == 42) = some (42, .iload_n 3, 0, 0) := rfl
theorem te_320_43 : (pT M_320).find? (fun e => e.1 == 43) = some (43, .iastore, 0, 0) := rfl
theorem te_320_44 : (pT M_320).find? (fun e => e.1 == 44) = some (44, .goto 21, 0, 0) := rfl
theorem te_320_47 : (pT M_320).find? (fun e => e.1 == 47) = some (47, .aload_n 0, 0, 0) := rfl
theorem te_320_48 : (pT M_320).find? (fun e => e.1 == 48) = some (48, .getfield 80, 10, 27) := rfl
theorem te_320_51 : (pT M_320).find? (fun e => e.1 == 51) = some (51, .aload_n 0, 0, 0) := rfl
theorem te_320_52 : (pT M_320).find? (fun e => e.1 == 52) = some (52, .iload_n 1, 0, 0) := rfl
theorem te_320_53 : (pT M_320).find? (fun e => e.1 == 53) = some (53, .iload_n 2, 0, 0) := rfl
theorem te_320_54 : (pT M_320).find? (fun e => e.1 == 54) = some (54, .aload_n 0, 0, 0) := rfl
theorem te_320_55 : (pT M_320).find? (fun e => e.1 == 55) = some (55, .getfield 86, 10, 29) := rfl
theorem te_320_58 : (pT M_320).find? (fun e => e.1 == 58) = some (58, .iload_n 1, 0, 0) := rfl
theorem te_320_59 : (pT M_320).find? (fun e => e.1 == 59) = some (59, .iaload, 0, 0) := rfl
theorem te_320_60 : (pT M_320).find? (fun e => e.1 == 60) = some (60, .invokevirtual 320, 321, 0) := rfl
theorem te_320_63 : (pT M_320).find? (fun e => e.1 == 63) = some (63, .iload_n 3, 0, 0) := rfl
theorem te_320_64 : (pT M_320).find? (fun e => e.1 == 64) = some (64, .iastore, 0, 0) := rfl
theorem te_320_65 : (pT M_320).find? (fun e => e.1 == 65) = some (65, .return_, 0, 0) := rfl
theorem te_321_0 : (pT M_321).find? (fun e => e.1 == 0) = some (0, .bipush 80, 0, 0) := rfl
theorem te_321_2 : (pT M_321).find? (fun e => e.1 == 2) = some (2, .iload_n 1, 0, 0) := rfl
theorem te_321_3 : (pT M_321).find? (fun e => e.1 == 3) = some (3, .imul, 0, 0) := rfl
theorem te_321_4 : (pT M_321).find? (fun e => e.1 == 4) = some (4, .iload_n 2, 0, 0) := rfl
theorem te_321_5 : (pT M_321).find? (fun e => e.1 == 5) = some (5, .iload_n 3, 0, 0) := rfl
theorem te_321_6 : (pT M_321).find? (fun e => e.1 == 6) = some (6, .invokestatic 211, 272, 2) := rfl
theorem te_321_9 : (pT M_321).find? (fun e => e.1 == 9) = some (9, .iadd, 0, 0) := rfl
theorem te_321_10 : (pT M_321).find? (fun e => e.1 == 10) = some (10, .ireturn, 0, 0) := rfl
theorem te_322_0 : (pT M_322).find? (fun e => e.1 == 0) = some (0, .aload_n 0, 0, 0) := rfl
theorem te_322_1 : (pT M_322).find? (fun e => e.1 == 1) = some (1, .getfield 7, 10, 2) := rfl
theorem te_322_4 : (pT M_322).find? (fun e => e.1 == 4) = some (4, .iload_n 1, 0, 0) := rfl
theorem te_322_5 : (pT M_322).find? (fun e => e.1 == 5) = some (5, .iaload, 0, 0) := rfl
theorem te_322_6 : (pT M_322).find? (fun e => e.1 == 6) = some (6, .iconst 4, 0, 0) := rfl
theorem te_322_7 : (pT M_322).find? (fun e => e.1 == 7) = some (7, .if_icmp .ne 25, 0, 0) := rfl
theorem te_322_10 : (pT M_322).find? (fun e => e.1 == 10) = some (10, .aload_n 0, 0, 0) := rfl
theorem te_322_11 : (pT M_322).find? (fun e => e.1 == 11) = some (11, .getfield 77, 10, 26) := rfl
theorem te_322_14 : (pT M_322).find? (fun e => e.1 == 14) = some (14, .bipush 64, 0, 0) := rfl
theorem te_322_16 : (pT M_322).find? (fun e => e.1 == 16) = some (16, .aload_n 0, 0, 0) := rfl
theorem te_322_17 : (pT M_322).find? (fun e => e.1 == 17) = some (17, .iload_n 1, 0, 0) := rfl
theorem te_322_18 : (pT M_322).find? (fun e => e.1 == 18) = some (18, .invokevirtual 158, 250, 0) := rfl
theorem te_322_21 : (pT M_322).find? (fun e => e.1 == 21) = some (21, .imul, 0, 0) := rfl
theorem te_322_22 : (pT M_322).find? (fun e => e.1 == 22) = some (22, .iload_n 2, 0, 0) := rfl
theorem te_322_23 : (pT M_322).find? (fun e => e.1 == 23) = some (23, .iadd, 0, 0) := rfl
theorem te_322_24 : (pT M_322).find? (fun e => e.1 == 24) = some (24, .aload_n 0, 0, 0) := rfl
theorem te_322_25 : (pT M_322).find? (fun e => e.1 == 25) = some (25, .iload_n 1, 0, 0) := rfl
theorem te_322_26 : (pT M_322).find? (fun e => e.1 == 26) = some (26, .invokevirtual 161, 251, 0) := rfl
theorem te_322_29 : (pT M_322).find? (fun e => e.1 == 29) = some (29, .iadd, 0, 0) := rfl
theorem te_322_30 : (pT M_322).find? (fun e => e.1 == 30) = some (30, .iaload, 0, 0) := rfl
theorem te_322_31 : (pT M_322).find? (fun e => e.1 == 31) = some (31, .ireturn, 0, 0) := rfl
theorem te_322_32 : (pT M_322).find? (fun e => e.1 == 32) = some (32, .aload_n 0, 0, 0) := rfl
theorem te_322_33 : (pT M_322).find? (fun e => e.1 == 33) = some (33, .getfield 7, 10, 2) := rfl
theorem te_322_36 : (pT M_322).find? (fun e => e.1 == 36) = some (36, .iload_n 1, 0, 0) := rfl
theorem te_322_37 : (pT M_322).find? (fun e => e.1 == 37) = some (37, .iaload, 0, 0) := rfl
theorem te_322_38 : (pT M_322).find? (fun e => e.1 == 38) = some (38, .iconst 5, 0, 0) := rfl
theorem te_322_39 : (pT M_322).find? (fun e => e.1 == 39) = some (39, .if_icmp .ne 11, 0, 0) := rfl
theorem te_322_42 : (pT M_322).find? (fun e => e.1 == 42) = some (42, .aload_n 0, 0, 0) := rfl
theorem te_322_43 : (pT M_322).find? (fun e => e.1 == 43) = some (43, .iload_n 1, 0, 0) := rfl
theorem te_322_44 : (pT M_322).find? (fun e => e.1 == 44) = some (44, .iconst 0, 0, 0) := rfl
theorem te_322_45 : (pT M_322).find? (fun e => e.1 == 45) = some (45, .iload_n 2, 0, 0) := rfl
theorem te_322_46 : (pT M_322).find? (fun e => e.1 == 46) = some (46, .invokevirtual 324, 323, 0) := rfl
theorem te_322_49 : (pT M_322).find? (fun e => e.1 == 49) = some (49, .ireturn, 0, 0) := rfl
theorem te_322_50 : (pT M_322).find? (fun e => e.1 == 50) = some (50, .aload_n 0, 0, 0) := rfl
theorem te_322_51 : (pT M_322).find? (fun e => e.1 == 51) = some (51, .getfield 7, 10, 2) := rfl
theorem te_322_54 : (pT M_322).find? (fun e => e.1 == 54) = some (54, .iload_n 1, 0, 0) := rfl
theorem te_322_55 : (pT M_322).find? (fun e => e.1 == 55) = some (55, .iaload, 0, 0) := rfl
theorem te_322_56 : (pT M_322).find? (fun e => e.1 == 56) = some (56, .aload_n 0, 0, 0) := rfl
theorem te_322_57 : (pT M_322).find? (fun e => e.1 == 57) = some (57, .iload_n 1, 0, 0) := rfl
theorem te_322_58 : (pT M_322).find? (fun e => e.1 == 58) = some (58, .iconst 0, 0, 0) := rfl
theorem te_322_59 : (pT M_322).find? (fun e => e.1 == 59) = some (59, .iload_n 2, 0, 0) := rfl
theorem te_322_60 : (pT M_322).find? (fun e => e.1 == 60) = some (60, .invokevirtual 324, 323, 0) := rfl
theorem te_322_63 : (pT M_322).find? (fun e => e.1 == 63) = some (63, .aload_n 0, 0, 0) := rfl
theorem te_322_64 : (pT M_322).find? (fun e => e.1 == 64) = some (64, .iload_n 1, 0, 0) := rfl
theorem te_322_65 : (pT M_322).find? (fun e => e.1 == 65) = some (65, .iconst 1, 0, 0) := rfl
theorem te_322_66 : (pT M_322).find? (fun e => e.1 == 66) = some (66, .iload_n 2, 0, 0) := rfl
theorem te_322_67 : (pT M_322).find? (fun e => e.1 == 67) = some (67, .invokevirtual 324, 323, 0) := rfl
theorem te_322_70 : (pT M_322).find? (fun e => e.1 == 70) = some (70, .invokestatic 327, 324, 2) := rfl
theorem te_322_73 : (pT M_322).find? (fun e => e.1 == 73) = some (73, .ireturn, 0, 0) := rfl
theorem te_323_0 : (pT M_323).find? (fun e => e.1 == 0) = some (0, .aload_n 0, 0, 0) := rfl
theorem te_323_1 : (pT M_323).find? (fun e => e.1 == 1) = some (1, .iload_n 1, 0, 0) := rfl
theorem te_323_2 : (pT M_323).find? (fun e => e.1 == 2) = some (2, .iload_n 2, 0, 0) := rfl
theorem te_323_3 : (pT M_323).find? (fun e => e.1 == 3) = some (3, .invokevirtual 130, 242, 0) := rfl
theorem te_323_6 : (pT M_323).find? (fun e => e.1 == 6) = some (6, .istore 4, 0, 0) := rfl
theorem te_323_8 : (pT M_323).find? (fun e => e.1 == 8) = some (8, .iload 4, 0, 0) := rfl
theorem te_323_10 : (pT M_323).find? (fun e => e.1 == 10) = some (10, .iconst (-1), 0, 0) := rfl
theorem te_323_11 : (pT M_323).find? (fun e => e.1 == 11) = some (11, .if_icmp .ne 5, 0, 0) := rfl
theorem te_323_14 : (pT M_323).find? (fun e => e.1 == 14) = some (14, .iload_n 3, 0, 0) := rfl
theorem te_323_15 : (pT M_323).find? (fun e => e.1 == 15) = some (15, .ireturn, 0, 0) := rfl
theorem te_323_16 : (pT M_323).find? (fun e => e.1 == 16) = some (16, .iload 4, 0, 0) := rfl
theorem te_323_18 : (pT M_323).find? (fun e => e.1 == 18) = some (18, .bipush (-2), 0, 0) := rfl
theorem te_323_20 : (pT M_323).find? (fun e => e.1 == 20) = some (20, .if_icmp .ne 10, 0, 0) := rfl
theorem te_323_23 : (pT M_323).find? (fun e => e.1 == 23) = some (23, .aload_n 0, 0, 0) := rfl
theorem te_323_24 : (pT M_323).find? (fun e => e.1 == 24) = some (24, .iload_n 1, 0, 0) := rfl
theorem te_323_25 : (pT M_323).find? (fun e => e.1 == 25) = some (25, .iload_n 2, 0, 0) := rfl
theorem te_323_26 : (pT M_323).find? (fun e => e.1 == 26) = some (26, .invokevirtual 134, 243, 0) := rfl
theorem te_323_29 : (pT M_323).find? (fun e => e.1 == 29) = some (29, .ireturn, 0, 0) := rfl
theorem te_323_30 : (pT M_323).find? (fun e => e.1 == 30) = some (30, .aload_n 0, 0, 0) := rfl
theorem te_323_31 : (pT M_323).find? (fun e => e.1 == 31) = some (31, .getfield 80, 10, 27) := rfl
theorem te_323_34 : (pT M_323).find? (fun e => e.1 == 34) = some (34, .aload_n 0, 0, 0) := rfl
theorem te_323_35 : (pT M_323).find? (fun e => e.1 == 35) = some (35, .iload 4, 0, 0) := rfl
theorem te_323_37 : (pT M_323).find? (fun e => e.1 == 37) = some (37, .iload_n 3, 0, 0) := rfl
theorem te_323_38 : (pT M_323).find? (fun e => e.1 == 38) = some (38, .aload_n 0, 0, 0) := rfl
theorem te_323_39 : (pT M_323).find? (fun e => e.1 == 39) = some (39, .iload_n 1, 0, 0) := rfl
theorem te_323_40 : (pT M_323).find? (fun e => e.1 == 40) = some (40, .iload_n 2, 0, 0) := rfl
theorem te_323_41 : (pT M_323).find? (fun e => e.1 == 41) = some (41, .invokevirtual 134, 243, 0) := rfl
theorem te_323_44 : (pT M_323).find? (fun e => e.1 == 44) = some (44, .isub, 0, 0) := rfl
theorem te_323_45 : (pT M_323).find? (fun e => e.1 == 45) = some (45, .aload_n 0, 0, 0) := rfl
theorem te_323_46 : (pT M_323).find? (fun e => e.1 == 46) = some (46, .getfield 86, 10, 29) := rfl
theorem te_323_49 : (pT M_323).find? (fun e => e.1 == 49) = some (49, .iload 4, 0, 0) := rfl
theorem te_323_51 : (pT M_323).find? (fun e => e.1 == 51) = some (51, .iaload, 0, 0) := rfl
theorem te_323_52 : (pT M_323).find? (fun e => e.1 == 52) = some (52, .invokevirtual 320, 321, 0) := rfl
theorem te_323_55 : (pT M_323).find? (fun e => e.1 == 55) = some (55, .iaload, 0, 0) := rfl
theorem te_323_56 : (pT M_323).find? (fun e => e.1 == 56) = some (56, .ireturn, 0, 0) := rfl
theorem te_324_0 : (pT M_324).find? (fun e => e.1 == 0) = some (0, .iload_n 0, 0, 0) := rfl
theorem te_324_1 : (pT M_324).find? (fun e => e.1 == 1) = some (1, .ifCond .ne 9, 0, 0) := rfl
theorem te_324_4 : (pT M_324).find? (fun e => e.1 == 4) = some (4, .iload_n 1, 0, 0) := rfl
theorem te_324_5 : (pT M_324).find? (fun e => e.1 == 5) = some (5, .iload_n 2, 0, 0) := rfl
theorem te_324_6 : (pT M_324).find? (fun e => e.1 == 6) = some (6, .iadd, 0, 0) := rfl
theorem te_324_7 : (pT M_324).find? (fun e => e.1 == 7) = some (7, .goto 30, 0, 0) := rfl
theorem te_324_10 : (pT M_324).find? (fun e => e.1 == 10) = some (10, .iload_n 0, 0, 0) := rfl
theorem te_324_11 : (pT M_324).find? (fun e => e.1 == 11) = some (11, .iconst 1, 0, 0) := rfl
theorem te_324_12 : (pT M_324).find? (fun e => e.1 == 12) = some (12, .if_icmp .ne 9, 0, 0) := rfl
theorem te_324_15 : (pT M_324).find? (fun e => e.1 == 15) = some (15, .iload_n 1, 0, 0) := rfl
theorem te_324_16 : (pT M_324).find? (fun e => e.1 == 16) = some (16, .iload_n 2, 0, 0) := rfl
theorem te_324_17 : (pT M_324).find? (fun e => e.1 == 17) = some (17, .isub, 0, 0) := rfl
theorem te_324_18 : (pT M_324).find? (fun e => e.1 == 18) = some (18, .goto 19, 0, 0) := rfl
theorem te_324_21 : (pT M_324).find? (fun e => e.1 == 21) = some (21, .iload_n 0, 0, 0) := rfl
theorem te_324_22 : (pT M_324).find? (fun e => e.1 == 22) = some (22, .iconst 2, 0, 0) := rfl
theorem te_324_23 : (pT M_324).find? (fun e => e.1 == 23) = some (23, .if_icmp .ne 9, 0, 0) := rfl
theorem te_324_26 : (pT M_324).find? (fun e => e.1 == 26) = some (26, .iload_n 1, 0, 0) := rfl
theorem te_324_27 : (pT M_324).find? (fun e => e.1 == 27) = some (27, .iload_n 2, 0, 0) := rfl
theorem te_324_28 : (pT M_324).find? (fun e => e.1 == 28) = some (28, .imul, 0, 0) := rfl
theorem te_324_29 : (pT M_324).find? (fun e => e.1 == 29) = some (29, .goto 8, 0, 0) := rfl
theorem te_324_32 : (pT M_324).find? (fun e => e.1 == 32) = some (32, .iload_n 1, 0, 0) := rfl
theorem te_324_33 : (pT M_324).find? (fun e => e.1 == 33) = some (33, .iload_n 2, 0, 0) := rfl
theorem te_324_34 : (pT M_324).find? (fun e => e.1 == 34) = some (34, .invokestatic 170, 258, 2) := rfl
theorem te_324_37 : (pT M_324).find? (fun e => e.1 == 37) = some (37, .ireturn, 0, 0) := rfl
theorem te_325_0 : (pT M_325).find? (fun e => e.1 == 0) = some (0, .aload_n 0, 0, 0) := rfl
theorem te_325_1 : (pT M_325).find? (fun e => e.1 == 1) = some (1, .aload_n 0, 0, 0) := rfl
theorem te_325_2 : (pT M_325).find? (fun e => e.1 == 2) = some (2, .iload_n 1, 0, 0) := rfl
theorem te_325_3 : (pT M_325).find? (fun e => e.1 == 3) = some (3, .invokevirtual 122, 235, 0) := rfl
theorem te_325_6 : (pT M_325).find? (fun e => e.1 == 6) = some (6, .ifCond .ne 7, 0, 0) := rfl
theorem te_325_9 : (pT M_325).find? (fun e => e.1 == 9) = some (9, .iconst 1, 0, 0) := rfl
theorem te_325_10 : (pT M_325).find? (fun e => e.1 == 10) = some (10, .goto 18, 0, 0) := rfl
theorem te_325_13 : (pT M_325).find? (fun e => e.1 == 13) = some (13, .aload_n 0, 0, 0) := rfl
theorem te_325_14 : (pT M_325).find? (fun e => e.1 == 14) = some (14, .getfield 7, 10, 2) := rfl
theorem te_325_17 : (pT M_325).find? (fun e => e.1 == 17) = some (17, .iload_n 1, 0, 0) := rfl
theorem te_325_18 : (pT M_325).find? (fun e => e.1 == 18) = some (18, .iaload, 0, 0) := rfl
theorem te_325_19 : (pT M_325).find? (fun e => e.1 == 19) = some (19, .iconst 5, 0, 0) := rfl
theorem te_325_20 : (pT M_325).find? (fun e => e.1 == 20) = some (20, .if_icmp .ne 7, 0, 0) := rfl
theorem te_325_23 : (pT M_325).find? (fun e => e.1 == 23) = some (23, .iconst 2, 0, 0) := rfl
theorem te_325_24 : (pT M_325).find? (fun e => e.1 == 24) = some (24, .goto 4, 0, 0) := rfl
theorem te_325_27 : (pT M_325).find? (fun e => e.1 == 27) = some (27, .iconst 0, 0, 0) := rfl
theorem te_325_28 : (pT M_325).find? (fun e => e.1 == 28) = some (28, .putfield 101, 10, 0) := rfl
theorem te_325_31 : (pT M_325).find? (fun e => e.1 == 31) = some (31, .aload_n 0, 0, 0) := rfl
theorem te_325_32 : (pT M_325).find? (fun e => e.1 == 32) = some (32, .getfield 101, 10, 0) := rfl
theorem te_325_35 : (pT M_325).find? (fun e => e.1 == 35) = some (35, .ifCond .le 5, 0, 0) := rfl
theorem te_325_38 : (pT M_325).find? (fun e => e.1 == 38) = some (38, .iconst 0, 0, 0) := rfl
theorem te_325_39 : (pT M_325).find? (fun e => e.1 == 39) = some (39, .ireturn, 0, 0) := rfl
theorem te_325_40 : (pT M_325).find? (fun e => e.1 == 40) = some (40, .aload_n 0, 0, 0) := rfl
theorem te_325_41 : (pT M_325).find? (fun e => e.1 == 41) = some (41, .iload_n 2, 0, 0) := rfl
theorem te_325_42 : (pT M_325).find? (fun e => e.1 == 42) = some (42, .iload_n 3, 0, 0) := rfl
theorem te_325_43 : (pT M_325).find? (fun e => e.1 == 43) = some (43, .invokevirtual 314, 311, 0) := rfl
theorem te_325_46 : (pT M_325).find? (fun e => e.1 == 46) = some (46, .istore 4, 0, 0) := rfl
theorem te_325_48 : (pT M_325).find? (fun e => e.1 == 48) = some (48, .aload_n 0, 0, 0) := rfl
theorem te_325_49 : (pT M_325).find? (fun e => e.1 == 49) = some (49, .iload 4, 0, 0) := rfl
theorem te_325_51 : (pT M_325).find? (fun e => e.1 == 51) = some (51, .ifCond .le 10, 0, 0) := rfl
theorem te_325_54 : (pT M_325).find? (fun e => e.1 == 54) = some (54, .iload 4, 0, 0) := rfl
theorem te_325_56 : (pT M_325).find? (fun e => e.1 == 56) = some (56, .iconst 1, 0, 0) := rfl
theorem te_325_57 : (pT M_325).find? (fun e => e.1 == 57) = some (57, .iadd, 0, 0) := rfl
theorem te_325_58 : (pT M_325).find? (fun e => e.1 == 58) = some (58, .goto 4, 0, 0) := rfl
theorem te_325_61 : (pT M_325).find? (fun e => e.1 == 61) = some (61, .iconst 0, 0, 0) := rfl
theorem te_325_62 : (pT M_325).find? (fun e => e.1 == 62) = some (62, .putfield 101, 10, 0) := rfl
theorem te_325_65 : (pT M_325).find? (fun e => e.1 == 65) = some (65, .aload_n 0, 0, 0) := rfl
theorem te_325_66 : (pT M_325).find? (fun e => e.1 == 66) = some (66, .getfield 101, 10, 0) := rfl
theorem te_325_69 : (pT M_325).find? (fun e => e.1 == 69) = some (69, .ifCond .le 5, 0, 0) := rfl
theorem te_325_72 : (pT M_325).find? (fun e => e.1 == 72) = some (72, .iconst 0, 0, 0) := rfl
theorem te_325_73 : (pT M_325).find? (fun e => e.1 == 73) = some (73, .ireturn, 0, 0) := rfl
theorem te_325_74 : (pT M_325).find? (fun e => e.1 == 74) = some (74, .aload_n 0, 0, 0) := rfl
theorem te_325_75 : (pT M_325).find? (fun e => e.1 == 75) = some (75, .iload_n 2, 0, 0) := rfl
theorem te_325_76 : (pT M_325).find? (fun e => e.1 == 76) = some (76, .iload_n 3, 0, 0) := rfl
theorem te_325_77 : (pT M_325).find? (fun e => e.1 == 77) = some (77, .aload_n 0, 0, 0) := rfl
theorem te_325_78 : (pT M_325).find? (fun e => e.1 == 78) = some (78, .iload_n 2, 0, 0) := rfl
theorem te_325_79 : (pT M_325).find? (fun e => e.1 == 79) = some (79, .iload_n 3, 0, 0) := rfl
theorem te_325_80 : (pT M_325).find? (fun e => e.1 == 80) = some (80, .invokevirtual 308, 313, 0) := rfl
theorem te_325_83 : (pT M_325).find? (fun e => e.1 == 83) = some (83, .invokevirtual 346, 317, 0) := rfl
theorem te_325_86 : (pT M_325).find? (fun e => e.1 == 86) = some (86, .iload_n 3, 0, 0) := rfl
theorem te_325_87 : (pT M_325).find? (fun e => e.1 == 87) = some (87, .ifCond .ne 12, 0, 0) := rfl
theorem te_325_90 : (pT M_325).find? (fun e => e.1 == 90) = some (90, .aload_n 0, 0, 0) := rfl
theorem te_325_91 : (pT M_325).find? (fun e => e.1 == 91) = some (91, .getfield 25, 10, 7) := rfl
theorem te_325_94 : (pT M_325).find? (fun e => e.1 == 94) = some (94, .iload_n 1, 0, 0) := rfl
theorem te_325_95 : (pT M_325).find? (fun e => e.1 == 95) = some (95, .iaload, 0, 0) := rfl
theorem te_325_96 : (pT M_325).find? (fun e => e.1 == 96) = some (96, .goto 16, 0, 0) := rfl
theorem te_325_99 : (pT M_325).find? (fun e => e.1 == 99) = some (99, .aload_n 0, 0, 0) := rfl
theorem te_325_100 : (pT M_325).find? (fun e => e.1 == 100) = some (100, .getfield 83, 10, 28) := rfl
theorem te_325_103 : (pT M_325).find? (fun e => e.1 == 103) = some (103, .bipush 41, 0, 0) := rfl
theorem te_325_105 : (pT M_325).find? (fun e => e.1 == 105) = some (105, .iload_n 1, 0, 0) := rfl
theorem te_325_106 : (pT M_325).find? (fun e => e.1 == 106) = some (106, .imul, 0, 0) := rfl
theorem te_325_107 : (pT M_325).find? (fun e => e.1 == 107) = some (107, .iload_n 3, 0, 0) := rfl
theorem te_325_108 : (pT M_325).find? (fun e => e.1 == 108) = some (108, .iadd, 0, 0) := rfl
theorem te_325_109 : (pT M_325).find? (fun e => e.1 == 109) = some (109, .iconst 1, 0, 0) := rfl
theorem te_325_110 : (pT M_325).find? (fun e => e.1 == 110) = some (110, .isub, 0, 0) := rfl
theorem te_325_111 : (pT M_325).find? (fun e => e.1 == 111) = some (111, .iaload, 0, 0) := rfl
theorem te_325_112 : (pT M_325).find? (fun e => e.1 == 112) = some (112, .ireturn, 0, 0) := rfl
theorem te_326_0 : (pT M_326).find? (fun e => e.1 == 0) = some (0, .aload_n 0, 0, 0) := rfl
theorem te_326_1 : (pT M_326).find? (fun e => e.1 == 1) = some (1, .aload_n 0, 0, 0) := rfl
theorem te_326_2 : (pT M_326).find? (fun e => e.1 == 2) = some (2, .iload_n 1, 0, 0) := rfl
theorem te_326_3 : (pT M_326).find? (fun e => e.1 == 3) = some (3, .invokevirtual 122, 235, 0) := rfl
theorem te_326_6 : (pT M_326).find? (fun e => e.1 == 6) = some (6, .ifCond .ne 7, 0, 0) := rfl
theorem te_326_9 : (pT M_326).find? (fun e => e.1 == 9) = some (9, .iconst 1, 0, 0) := rfl
theorem te_326_10 : (pT M_326).find? (fun e => e.1 == 10) = some (10, .goto 18, 0, 0) := rfl
theorem te_326_13 : (pT M_326).find? (fun e => e.1 == 13) = some (13, .aload_n 0, 0, 0) := rfl
theorem te_326_14 : (pT M_326).find? (fun e => e.1 == 14) = some (14, .getfield 7, 10, 2) := rfl
theorem te_326_17 : (pT M_326).find? (fun e => e.1 == 17) = some (17, .iload_n 1, 0, 0) := rfl
theorem te_326_18 : (pT M_326).find? (fun e => e.1 == 18) = some (18, .iaload, 0, 0) := rfl
theorem te_326_19 : (pT M_326).find? (fun e => e.1 == 19) = some (19, .iconst 5, 0, 0) := rfl
theorem te_326_20 : (pT M_326).find? (fun e => e.1 == 20) = some (20, .if_icmp .ne 7, 0, 0) := rfl
theorem te_326_23 : (pT M_326).find? (fun e => e.1 == 23) = some (23, .iconst 2, 0, 0) := rfl
theorem te_326_24 : (pT M_326).find? (fun e => e.1 == 24) = some (24, .goto 4, 0, 0) := rfl
theorem te_326_27 : (pT M_326).find? (fun e => e.1 == 27) = some (27, .iconst 0, 0, 0) := rfl
theorem te_326_28 : (pT M_326).find? (fun e => e.1 == 28) = some (28, .putfield 101, 10, 0) := rfl
theorem te_326_31 : (pT M_326).find? (fun e => e.1 == 31) = some (31, .aload_n 0, 0, 0) := rfl
theorem te_326_32 : (pT M_326).find? (fun e => e.1 == 32) = some (32, .getfield 101, 10, 0) := rfl
theorem te_326_35 : (pT M_326).find? (fun e => e.1 == 35) = some (35, .ifCond .le 5, 0, 0) := rfl
theorem te_326_38 : (pT M_326).find? (fun e => e.1 == 38) = some (38, .iconst 0, 0, 0) := rfl
theorem te_326_39 : (pT M_326).find? (fun e => e.1 == 39) = some (39, .ireturn, 0, 0) := rfl
theorem te_326_40 : (pT M_326).find? (fun e => e.1 == 40) = some (40, .aload_n 0, 0, 0) := rfl
theorem te_326_41 : (pT M_326).find? (fun e => e.1 == 41) = some (41, .iload 4, 0, 0) := rfl
theorem te_326_43 : (pT M_326).find? (fun e => e.1 == 43) = some (43, .iload 5, 0, 0) := rfl
theorem te_326_45 : (pT M_326).find? (fun e => e.1 == 45) = some (45, .invokevirtual 314, 311, 0) := rfl
theorem te_326_48 : (pT M_326).find? (fun e => e.1 == 48) = some (48, .istore 6, 0, 0) := rfl
theorem te_326_50 : (pT M_326).find? (fun e => e.1 == 50) = some (50, .iload 6, 0, 0) := rfl
theorem te_326_52 : (pT M_326).find? (fun e => e.1 == 52) = some (52, .ifCond .ne 40, 0, 0) := rfl
theorem te_326_55 : (pT M_326).find? (fun e => e.1 == 55) = some (55, .iload_n 2, 0, 0) := rfl
theorem te_326_56 : (pT M_326).find? (fun e => e.1 == 56) = some (56, .iconst 0, 0, 0) := rfl
theorem te_326_57 : (pT M_326).find? (fun e => e.1 == 57) = some (57, .aload_n 0, 0, 0) := rfl
theorem te_326_58 : (pT M_326).find? (fun e => e.1 == 58) = some (58, .iload_n 1, 0, 0) := rfl
theorem te_326_59 : (pT M_326).find? (fun e => e.1 == 59) = some (59, .iload 4, 0, 0) := rfl
theorem te_326_61 : (pT M_326).find? (fun e => e.1 == 61) = some (61, .invokevirtual 287, 295, 0) := rfl
theorem te_326_64 : (pT M_326).find? (fun e => e.1 == 64) = some (64, .iconst 1, 0, 0) := rfl
theorem te_326_65 : (pT M_326).find? (fun e => e.1 == 65) = some (65, .isub, 0, 0) := rfl
theorem te_326_66 : (pT M_326).find? (fun e => e.1 == 66) = some (66, .invokestatic 104, 227, 2) := rfl
theorem te_326_69 : (pT M_326).find? (fun e => e.1 == 69) = some (69, .ifCond .eq 23, 0, 0) := rfl
theorem te_326_72 : (pT M_326).find? (fun e => e.1 == 72) = some (72, .iload_n 3, 0, 0) := rfl
theorem te_326_73 : (pT M_326).find? (fun e => e.1 == 73) = some (73, .iconst 0, 0, 0) := rfl
theorem te_326_74 : (pT M_326).find? (fun e => e.1 == 74) = some (74, .aload_n 0, 0, 0) := rfl
theorem te_326_75 : (pT M_326).find? (fun e => e.1 == 75) = some (75, .iload 4, 0, 0) := rfl
theorem te_326_77 : (pT M_326).find? (fun e => e.1 == 77) = some (77, .iload 5, 0, 0) := rfl
theorem te_326_79 : (pT M_326).find? (fun e => e.1 == 79) = some (79, .invokevirtual 308, 313, 0) := rfl
theorem te_326_82 : (pT M_326).find? (fun e => e.1 == 82) = some (82, .invokestatic 104, 227, 2) := rfl
theorem te_326_85 : (pT M_326).find? (fun e => e.1 == 85) = some (85, .ifCond .eq 7, 0, 0) := rfl
theorem te_326_88 : (pT M_326).find? (fun e => e.1 == 88) = some (88, .iconst 1, 0, 0) := rfl
theorem te_326_89 : (pT M_326).find? (fun e => e.1 == 89) = some (89, .goto 4, 0, 0) := rfl
theorem te_326_92 : (pT M_326).find? (fun e => e.1 == 92) = some (92, .iconst 0, 0, 0) := rfl
theorem te_326_93 : (pT M_326).find? (fun e => e.1 == 93) = some (93, .istore 7, 0, 0) := rfl
theorem te_326_95 : (pT M_326).find? (fun e => e.1 == 95) = some (95, .aload_n 0, 0, 0) := rfl
theorem te_326_96 : (pT M_326).find? (fun e => e.1 == 96) = some (96, .iload 6, 0, 0) := rfl
theorem te_326_98 : (pT M_326).find? (fun e => e.1 == 98) = some (98, .iconst 2, 0, 0) := rfl
theorem te_326_99 : (pT M_326).find? (fun e => e.1 == 99) = some (99, .if_icmp .ne 15, 0, 0) := rfl
theorem te_326_102 : (pT M_326).find? (fun e => e.1 == 102) = some (102, .iload_n 3, 0, 0) := rfl
theorem te_326_103 : (pT M_326).find? (fun e => e.1 == 103) = some (103, .ifCond .lt 11, 0, 0) := rfl
theorem te_326_106 : (pT M_326).find? (fun e => e.1 == 106) = some (106, .iload_n 2, 0, 0) := rfl
theorem te_326_107 : (pT M_326).find? (fun e => e.1 == 107) = some (107, .ifCond .lt 7, 0, 0) := rfl
theorem te_326_110 : (pT M_326).find? (fun e => e.1 == 110) = some (110, .iconst 3, 0, 0) := rfl
theorem te_326_111 : (pT M_326).find? (fun e => e.1 == 111) = some (111, .goto 13, 0, 0) := rfl
theorem te_326_114 : (pT M_326).find? (fun e => e.1 == 114) = some (114, .iload 7, 0, 0) := rfl
theorem te_326_116 : (pT M_326).find? (fun e => e.1 == 116) = some (116, .ifCond .eq 7, 0, 0) := rfl
theorem te_326_119 : (pT M_326).find? (fun e => e.1 == 119) = some (119, .iconst 0, 0, 0) := rfl
theorem te_326_120 : (pT M_326).find? (fun e => e.1 == 120) = some (120, .goto 4, 0, 0) := rfl
theorem te_326_123 : (pT M_326).find? (fun e => e.1 == 123) = some (123, .iconst 2, 0, 0) := rfl
theorem te_326_124 : (pT M_326).find? (fun e => e.1 == 124) = some (124, .putfield 101, 10, 0) := rfl
theorem te_326_127 : (pT M_326).find? (fun e => e.1 == 127) = some (127, .aload_n 0, 0, 0) := rfl
theorem te_326_128 : (pT M_326).find? (fun e => e.1 == 128) = some (128, .getfield 101, 10, 0) := rfl
theorem te_326_131 : (pT M_326).find? (fun e => e.1 == 131) = some (131, .ifCond .le 5, 0, 0) := rfl
theorem te_326_134 : (pT M_326).find? (fun e => e.1 == 134) = some (134, .iconst 0, 0, 0) := rfl
theorem te_326_135 : (pT M_326).find? (fun e => e.1 == 135) = some (135, .ireturn, 0, 0) := rfl
theorem te_326_136 : (pT M_326).find? (fun e => e.1 == 136) = some (136, .aload_n 0, 0, 0) := rfl
theorem te_326_137 : (pT M_326).find? (fun e => e.1 == 137) = some (137, .iload 4, 0, 0) := rfl
theorem te_326_139 : (pT M_326).find? (fun e => e.1 == 139) = some (139, .iload 5, 0, 0) := rfl
theorem te_326_141 : (pT M_326).find? (fun e => e.1 == 141) = some (141, .iload_n 3, 0, 0) := rfl
theorem te_326_142 : (pT M_326).find? (fun e => e.1 == 142) = some (142, .invokevirtual 346, 317, 0) := rfl
theorem te_326_145 : (pT M_326).find? (fun e => e.1 == 145) = some (145, .aload_n 0, 0, 0) := rfl
theorem te_326_146 : (pT M_326).find? (fun e => e.1 == 146) = some (146, .getfield 80, 10, 27) := rfl
theorem te_326_149 : (pT M_326).find? (fun e => e.1 == 149) = some (149, .bipush 80, 0, 0) := rfl
theorem te_326_151 : (pT M_326).find? (fun e => e.1 == 151) = some (151, .iload_n 1, 0, 0) := rfl
theorem te_326_152 : (pT M_326).find? (fun e => e.1 == 152) = some (152, .imul, 0, 0) := rfl
theorem te_326_153 : (pT M_326).find? (fun e => e.1 == 153) = some (153, .iload_n 2, 0, 0) := rfl
theorem te_326_154 : (pT M_326).find? (fun e => e.1 == 154) = some (154, .iadd, 0, 0) := rfl
theorem te_326_155 : (pT M_326).find? (fun e => e.1 == 155) = some (155, .iaload, 0, 0) := rfl
theorem te_326_156 : (pT M_326).find? (fun e => e.1 == 156) = some (156, .ireturn, 0, 0) := rfl
theorem te_327_0 : (pT M_327).find? (fun e => e.1 == 0) = some (0, .aload_n 0, 0, 0) := rfl
theorem te_327_1 : (pT M_327).find? (fun e => e.1 == 1) = some (1, .iload_n 1, 0, 0) := rfl
theorem te_327_2 : (pT M_327).find? (fun e => e.1 == 2) = some (2, .iload_n 2, 0, 0) := rfl
theorem te_327_3 : (pT M_327).find? (fun e => e.1 == 3) = some (3, .invokestatic 343, 316, 2) := rfl
theorem te_327_6 : (pT M_327).find? (fun e => e.1 == 6) = some (6, .ifCond .eq 10, 0, 0) := rfl
theorem te_327_9 : (pT M_327).find? (fun e => e.1 == 9) = some (9, .iload_n 3, 0, 0) := rfl
theorem te_327_10 : (pT M_327).find? (fun e => e.1 == 10) = some (10, .invokestatic 305, 309, 2) := rfl
theorem te_327_13 : (pT M_327).find? (fun e => e.1 == 13) = some (13, .ifCond .ne 7, 0, 0) := rfl
theorem te_327_16 : (pT M_327).find? (fun e => e.1 == 16) = some (16, .iconst 1, 0, 0) := rfl
theorem te_327_17 : (pT M_327).find? (fun e => e.1 == 17) = some (17, .goto 15, 0, 0) := rfl
theorem te_327_20 : (pT M_327).find? (fun e => e.1 == 20) = some (20, .aload_n 0, 0, 0) := rfl
theorem te_327_21 : (pT M_327).find? (fun e => e.1 == 21) = some (21, .invokevirtual 137, 240, 0) := rfl
theorem te_327_24 : (pT M_327).find? (fun e => e.1 == 24) = some (24, .ifCond .ne 7, 0, 0) := rfl
theorem te_327_27 : (pT M_327).find? (fun e => e.1 == 27) = some (27, .iconst 2, 0, 0) := rfl
theorem te_327_28 : (pT M_327).find? (fun e => e.1 == 28) = some (28, .goto 4, 0, 0) := rfl
theorem te_327_31 : (pT M_327).find? (fun e => e.1 == 31) = some (31, .iconst 0, 0, 0) := rfl
theorem te_327_32 : (pT M_327).find? (fun e => e.1 == 32) = some (32, .putfield 101, 10, 0) := rfl
theorem te_327_35 : (pT M_327).find? (fun e => e.1 == 35) = some (35, .aload_n 0, 0, 0) := rfl
theorem te_327_36 : (pT M_327).find? (fun e => e.1 == 36) = some (36, .getfield 101, 10, 0) := rfl
theorem te_327_39 : (pT M_327).find? (fun e => e.1 == 39) = some (39, .ifCond .le 5, 0, 0) := rfl
theorem te_327_42 : (pT M_327).find? (fun e => e.1 == 42) = some (42, .iconst 0, 0, 0) := rfl
theorem te_327_43 : (pT M_327).find? (fun e => e.1 == 43) = some (43, .ireturn, 0, 0) := rfl
theorem te_327_44 : (pT M_327).find? (fun e => e.1 == 44) = some (44, .aload_n 0, 0, 0) := rfl
theorem te_327_45 : (pT M_327).find? (fun e => e.1 == 45) = some (45, .iload_n 3, 0, 0) := rfl
theorem te_327_46 : (pT M_327).find? (fun e => e.1 == 46) = some (46, .invokevirtual 356, 328, 0) := rfl
theorem te_327_49 : (pT M_327).find? (fun e => e.1 == 49) = some (49, .aload_n 0, 0, 0) := rfl
theorem te_327_50 : (pT M_327).find? (fun e => e.1 == 50) = some (50, .getfield 77, 10, 26) := rfl
theorem te_327_53 : (pT M_327).find? (fun e => e.1 == 53) = some (53, .bipush 64, 0, 0) := rfl
theorem te_327_55 : (pT M_327).find? (fun e => e.1 == 55) = some (55, .iload_n 1, 0, 0) := rfl
theorem te_327_56 : (pT M_327).find? (fun e => e.1 == 56) = some (56, .imul, 0, 0) := rfl
theorem te_327_57 : (pT M_327).find? (fun e => e.1 == 57) = some (57, .iload_n 2, 0, 0) := rfl
theorem te_327_58 : (pT M_327).find? (fun e => e.1 == 58) = some (58, .iadd, 0, 0) := rfl
theorem te_327_59 : (pT M_327).find? (fun e => e.1 == 59) = some (59, .iaload, 0, 0) := rfl
theorem te_327_60 : (pT M_327).find? (fun e => e.1 == 60) = some (60, .ireturn, 0, 0) := rfl
theorem te_328_0 : (pT M_328).find? (fun e => e.1 == 0) = some (0, .aload_n 0, 0, 0) := rfl
theorem te_328_1 : (pT M_328).find? (fun e => e.1 == 1) = some (1, .invokevirtual 330, 318, 0) := rfl
theorem te_328_4 : (pT M_328).find? (fun e => e.1 == 4) = some (4, .iconst 0, 0, 0) := rfl
theorem te_328_5 : (pT M_328).find? (fun e => e.1 == 5) = some (5, .istore_n 2, 0, 0) := rfl
theorem te_328_6 : (pT M_328).find? (fun e => e.1 == 6) = some (6, .iload_n 2, 0, 0) := rfl
theorem te_328_7 : (pT M_328).find? (fun e => e.1 == 7) = some (7, .iload_n 1, 0, 0) := rfl
theorem te_328_8 : (pT M_328).find? (fun e => e.1 == 8) = some (8, .if_icmp .ge 79, 0, 0) := rfl
theorem te_328_11 : (pT M_328).find? (fun e => e.1 == 11) = some (11, .iconst 0, 0, 0) := rfl
theorem te_328_12 : (pT M_328).find? (fun e => e.1 == 12) = some (12, .istore_n 3, 0, 0) := rfl
theorem te_328_13 : (pT M_328).find? (fun e => e.1 == 13) = some (13, .iload_n 3, 0, 0) := rfl
theorem te_328_14 : (pT M_328).find? (fun e => e.1 == 14) = some (14, .aload_n 0, 0, 0) := rfl
theorem te_328_15 : (pT M_328).find? (fun e => e.1 == 15) = some (15, .getfield 108, 10, 1) := rfl
theorem te_328_18 : (pT M_328).find? (fun e => e.1 == 18) = some (18, .if_icmp .ge 63, 0, 0) := rfl
theorem te_328_21 : (pT M_328).find? (fun e => e.1 == 21) = some (21, .aload_n 0, 0, 0) := rfl
theorem te_328_22 : (pT M_328).find? (fun e => e.1 == 22) = some (22, .iload_n 3, 0, 0) := rfl
theorem te_328_23 : (pT M_328).find? (fun e => e.1 == 23) = some (23, .iload_n 2, 0, 0) := rfl
theorem te_328_24 : (pT M_328).find? (fun e => e.1 == 24) = some (24, .invokevirtual 350, 329, 0) := rfl
theorem te_328_27 : (pT M_328).find? (fun e => e.1 == 27) = some (27, .istore 4, 0, 0) := rfl
theorem te_328_29 : (pT M_328).find? (fun e => e.1 == 29) = some (29, .aload_n 0, 0, 0) := rfl
theorem te_328_30 : (pT M_328).find? (fun e => e.1 == 30) = some (30, .getfield 83, 10, 28) := rfl
theorem te_328_33 : (pT M_328).find? (fun e => e.1 == 33) = some (33, .bipush 41, 0, 0) := rfl
theorem te_328_35 : (pT M_328).find? (fun e => e.1 == 35) = some (35, .iload_n 3, 0, 0) := rfl
theorem te_328_36 : (pT M_328).find? (fun e => e.1 == 36) = some (36, .imul, 0, 0) := rfl
theorem te_328_37 : (pT M_328).find? (fun e => e.1 == 37) = some (37, .iload_n 2, 0, 0) := rfl
theorem te_328_38 : (pT M_328).find? (fun e => e.1 == 38) = some (38, .iadd, 0, 0) := rfl
theorem te_328_39 : (pT M_328).find? (fun e => e.1 == 39) = some (39, .iload 4, 0, 0) := rfl
theorem te_328_41 : (pT M_328).find? (fun e => e.1 == 41) = some (41, .iastore, 0, 0) := rfl
theorem te_328_42 : (pT M_328).find? (fun e => e.1 == 42) = some (42, .aload_n 0, 0, 0) := rfl
theorem te_328_43 : (pT M_328).find? (fun e => e.1 == 43) = some (43, .getfield 7, 10, 2) := rfl
theorem te_328_46 : (pT M_328).find? (fun e => e.1 == 46) = some (46, .iload_n 3, 0, 0) := rfl
theorem te_328_47 : (pT M_328).find? (fun e => e.1 == 47) = some (47, .iaload, 0, 0) := rfl
theorem te_328_48 : (pT M_328).find? (fun e => e.1 == 48) = some (48, .iconst 5, 0, 0) := rfl
theorem te_328_49 : (pT M_328).find? (fun e => e.1 == 49) = some (49, .if_icmp .ne 26, 0, 0) := rfl
theorem te_328_52 : (pT M_328).find? (fun e => e.1 == 52) = some (52, .aload_n 0, 0, 0) := rfl
theorem te_328_53 : (pT M_328).find? (fun e => e.1 == 53) = some (53, .getfield 77, 10, 26) := rfl
theorem te_328_56 : (pT M_328).find? (fun e => e.1 == 56) = some (56, .bipush 64, 0, 0) := rfl
theorem te_328_58 : (pT M_328).find? (fun e => e.1 == 58) = some (58, .aload_n 0, 0, 0) := rfl
theorem te_328_59 : (pT M_328).find? (fun e => e.1 == 59) = some (59, .iload_n 3, 0, 0) := rfl
theorem te_328_60 : (pT M_328).find? (fun e => e.1 == 60) = some (60, .invokevirtual 158, 250, 0) := rfl
theorem te_328_63 : (pT M_328).find? (fun e => e.1 == 63) = some (63, .imul, 0, 0) := rfl
theorem te_328_64 : (pT M_328).find? (fun e => e.1 == 64) = some (64, .iload_n 2, 0, 0) := rfl
theorem te_328_65 : (pT M_328).find? (fun e => e.1 == 65) = some (65, .iadd, 0, 0) := rfl
theorem te_328_66 : (pT M_328).find? (fun e => e.1 == 66) = some (66, .aload_n 0, 0, 0) := rfl
theorem te_328_67 : (pT M_328).find? (fun e => e.1 == 67) = some (67, .iload_n 3, 0, 0) := rfl
theorem te_328_68 : (pT M_328).find? (fun e => e.1 == 68) = some (68, .invokevirtual 161, 251, 0) := rfl
theorem te_328_71 : (pT M_328).find? (fun e => e.1 == 71) = some (71, .iadd, 0, 0) := rfl
theorem te_328_72 : (pT M_328).find? (fun e => e.1 == 72) = some (72, .iload 4, 0, 0) := rfl
theorem te_328_74 : (pT M_328).find? (fun e => e.1 == 74) = some (74, .iastore, 0, 0) := rfl
theorem te_328_75 : (pT M_328).find? (fun e => e.1 == 75) = some (75, .iinc 3 1, 0, 0) := rfl
theorem te_328_78 : (pT M_328).find? (fun e => e.1 == 78) = some (78, .goto (-65), 0, 0) := rfl
theorem te_328_81 : (pT M_328).find? (fun e => e.1 == 81) = some (81, .iinc 2 1, 0, 0) := rfl
theorem te_328_84 : (pT M_328).find? (fun e => e.1 == 84) = some (84, .goto (-78), 0, 0) := rfl
theorem te_328_87 : (pT M_328).find? (fun e => e.1 == 87) = some (87, .return_, 0, 0) := rfl
theorem te_329_0 : (pT M_329).find? (fun e => e.1 == 0) = some (0, .aload_n 0, 0, 0) := rfl
theorem te_329_1 : (pT M_329).find? (fun e => e.1 == 1) = some (1, .getfield 7, 10, 2) := rfl
theorem te_329_4 : (pT M_329).find? (fun e => e.1 == 4) = some (4, .iload_n 1, 0, 0) := rfl
theorem te_329_5 : (pT M_329).find? (fun e => e.1 == 5) = some (5, .iaload, 0, 0) := rfl
theorem te_329_6 : (pT M_329).find? (fun e => e.1 == 6) = some (6, .iconst 4, 0, 0) := rfl
theorem te_329_7 : (pT M_329).find? (fun e => e.1 == 7) = some (7, .if_icmp .ne 25, 0, 0) := rfl
theorem te_329_10 : (pT M_329).find? (fun e => e.1 == 10) = some (10, .aload_n 0, 0, 0) := rfl
theorem te_329_11 : (pT M_329).find? (fun e => e.1 == 11) = some (11, .getfield 77, 10, 26) := rfl
theorem te_329_14 : (pT M_329).find? (fun e => e.1 == 14) = some (14, .bipush 64, 0, 0) := rfl
theorem te_329_16 : (pT M_329).find? (fun e => e.1 == 16) = some (16, .aload_n 0, 0, 0) := rfl
theorem te_329_17 : (pT M_329).find? (fun e => e.1 == 17) = some (17, .iload_n 1, 0, 0) := rfl
theorem te_329_18 : (pT M_329).find? (fun e => e.1 == 18) = some (18, .invokevirtual 158, 250, 0) := rfl
theorem te_329_21 : (pT M_329).find? (fun e => e.1 == 21) = some (21, .imul, 0, 0) := rfl
theorem te_329_22 : (pT M_329).find? (fun e => e.1 == 22) = some (22, .iload_n 2, 0, 0) := rfl
theorem te_329_23 : (pT M_329).find? (fun e => e.1 == 23) = some (23, .iadd, 0, 0) := rfl
theorem te_329_24 : (pT M_329).find? (fun e => e.1 == 24) = some (24, .aload_n 0, 0, 0) := rfl
theorem te_329_25 : (pT M_329).find? (fun e => e.1 == 25) = some (25, .iload_n 1, 0, 0) := rfl
theorem te_329_26 : (pT M_329).find? (fun e => e.1 == 26) = some (26, .invokevirtual 161, 251, 0) := rfl
theorem te_329_29 : (pT M_329).find? (fun e => e.1 == 29) = some (29, .iadd, 0, 0) := rfl
theorem te_329_30 : (pT M_329).find? (fun e => e.1 == 30) = some (30, .iaload, 0, 0) := rfl
theorem te_329_31 : (pT M_329).find? (fun e => e.1 == 31) = some (31, .ireturn, 0, 0) := rfl
theorem te_329_32 : (pT M_329).find? (fun e => e.1 == 32) = some (32, .aload_n 0, 0, 0) := rfl
theorem te_329_33 : (pT M_329).find? (fun e => e.1 == 33) = some (33, .getfield 7, 10, 2) := rfl
theorem te_329_36 : (pT M_329).find? (fun e => e.1 == 36) = some (36, .iload_n 1, 0, 0) := rfl
theorem te_329_37 : (pT M_329).find? (fun e => e.1 == 37) = some (37, .iaload, 0, 0) := rfl
theorem te_329_38 : (pT M_329).find? (fun e => e.1 == 38) = some (38, .iconst 5, 0, 0) := rfl
theorem te_329_39 : (pT M_329).find? (fun e => e.1 == 39) = some (39, .if_icmp .ne 13, 0, 0) := rfl
theorem te_329_42 : (pT M_329).find? (fun e => e.1 == 42) = some (42, .aload_n 0, 0, 0) := rfl
theorem te_329_43 : (pT M_329).find? (fun e => e.1 == 43) = some (43, .iload_n 1, 0, 0) := rfl
theorem te_329_44 : (pT M_329).find? (fun e => e.1 == 44) = some (44, .iconst 0, 0, 0) := rfl
theorem te_329_45 : (pT M_329).find? (fun e => e.1 == 45) = some (45, .iload_n 2, 0, 0) := rfl
theorem te_329_46 : (pT M_329).find? (fun e => e.1 == 46) = some (46, .invokevirtual 353, 330, 0) := rfl
theorem te_329_49 : (pT M_329).find? (fun e => e.1 == 49) = some (49, .goto 26, 0, 0) := rfl
theorem te_329_52 : (pT M_329).find? (fun e => e.1 == 52) = some (52, .aload_n 0, 0, 0) := rfl
theorem te_329_53 : (pT M_329).find? (fun e => e.1 == 53) = some (53, .getfield 7, 10, 2) := rfl
theorem te_329_56 : (pT M_329).find? (fun e => e.1 == 56) = some (56, .iload_n 1, 0, 0) := rfl
theorem te_329_57 : (pT M_329).find? (fun e => e.1 == 57) = some (57, .iaload, 0, 0) := rfl
theorem te_329_58 : (pT M_329).find? (fun e => e.1 == 58) = some (58, .aload_n 0, 0, 0) := rfl
theorem te_329_59 : (pT M_329).find? (fun e => e.1 == 59) = some (59, .iload_n 1, 0, 0) := rfl
theorem te_329_60 : (pT M_329).find? (fun e => e.1 == 60) = some (60, .iconst 0, 0, 0) := rfl
theorem te_329_61 : (pT M_329).find? (fun e => e.1 == 61) = some (61, .iload_n 2, 0, 0) := rfl
theorem te_329_62 : (pT M_329).find? (fun e => e.1 == 62) = some (62, .invokevirtual 353, 330, 0) := rfl
theorem te_329_65 : (pT M_329).find? (fun e => e.1 == 65) = some (65, .aload_n 0, 0, 0) := rfl
theorem te_329_66 : (pT M_329).find? (fun e => e.1 == 66) = some (66, .iload_n 1, 0, 0) := rfl
theorem te_329_67 : (pT M_329).find? (fun e => e.1 == 67) = some (67, .iconst 1, 0, 0) := rfl
theorem te_329_68 : (pT M_329).find? (fun e => e.1 == 68) = some (68, .iload_n 2, 0, 0) := rfl
theorem te_329_69 : (pT M_329).find? (fun e => e.1 == 69) = some (69, .invokevirtual 353, 330, 0) := rfl
theorem te_329_72 : (pT M_329).find? (fun e => e.1 == 72) = some (72, .invokestatic 327, 324, 2) := rfl
theorem te_329_75 : (pT M_329).find? (fun e => e.1 == 75) = some (75, .ireturn, 0, 0) := rfl
theorem te_330_0 : (pT M_330).find? (fun e => e.1 == 0) = some (0, .aload_n 0, 0, 0) := rfl
theorem te_330_1 : (pT M_330).find? (fun e => e.1 == 1) = some (1, .iload_n 1, 0, 0) := rfl
theorem te_330_2 : (pT M_330).find? (fun e => e.1 == 2) = some (2, .iload_n 2, 0, 0) := rfl
theorem te_330_3 : (pT M_330).find? (fun e => e.1 == 3) = some (3, .invokevirtual 130, 242, 0) := rfl
theorem te_330_6 : (pT M_330).find? (fun e => e.1 == 6) = some (6, .istore 4, 0, 0) := rfl
theorem te_330_8 : (pT M_330).find? (fun e => e.1 == 8) = some (8, .iload 4, 0, 0) := rfl
theorem te_330_10 : (pT M_330).find? (fun e => e.1 == 10) = some (10, .iconst (-1), 0, 0) := rfl
theorem te_330_11 : (pT M_330).find? (fun e => e.1 == 11) = some (11, .if_icmp .ne 5, 0, 0) := rfl
theorem te_330_14 : (pT M_330).find? (fun e => e.1 == 14) = some (14, .iload_n 3, 0, 0) := rfl
theorem te_330_15 : (pT M_330).find? (fun e => e.1 == 15) = some (15, .ireturn, 0, 0) := rfl
theorem te_330_16 : (pT M_330).find? (fun e => e.1 == 16) = some (16, .iload 4, 0, 0) := rfl
theorem te_330_18 : (pT M_330).find? (fun e => e.1 == 18) = some (18, .bipush (-2), 0, 0) := rfl
theorem te_330_20 : (pT M_330).find? (fun e => e.1 == 20) = some (20, .if_icmp .ne 10, 0, 0) := rfl
theorem te_330_23 : (pT M_330).find? (fun e => e.1 == 23) = some (23, .aload_n 0, 0, 0) := rfl
theorem te_330_24 : (pT M_330).find? (fun e => e.1 == 24) = some (24, .iload_n 1, 0, 0) := rfl
theorem te_330_25 : (pT M_330).find? (fun e => e.1 == 25) = some (25, .iload_n 2, 0, 0) := rfl
theorem te_330_26 : (pT M_330).find? (fun e => e.1 == 26) = some (26, .invokevirtual 134, 243, 0) := rfl
theorem te_330_29 : (pT M_330).find? (fun e => e.1 == 29) = some (29, .ireturn, 0, 0) := rfl
theorem te_330_30 : (pT M_330).find? (fun e => e.1 == 30) = some (30, .iload_n 3, 0, 0) := rfl
theorem te_330_31 : (pT M_330).find? (fun e => e.1 == 31) = some (31, .aload_n 0, 0, 0) := rfl
theorem te_330_32 : (pT M_330).find? (fun e => e.1 == 32) = some (32, .iload_n 1, 0, 0) := rfl
theorem te_330_33 : (pT M_330).find? (fun e => e.1 == 33) = some (33, .iload_n 2, 0, 0) := rfl
theorem te_330_34 : (pT M_330).find? (fun e => e.1 == 34) = some (34, .invokevirtual 134, 243, 0) := rfl
theorem te_330_37 : (pT M_330).find? (fun e => e.1 == 37) = some (37, .isub, 0, 0) := rfl
theorem te_330_38 : (pT M_330).find? (fun e => e.1 == 38) = some (38, .istore 5, 0, 0) := rfl
theorem te_330_40 : (pT M_330).find? (fun e => e.1 == 40) = some (40, .iload 5, 0, 0) := rfl
theorem te_330_42 : (pT M_330).find? (fun e => e.1 == 42) = some (42, .ifCond .ge 13, 0, 0) := rfl
theorem te_330_45 : (pT M_330).find? (fun e => e.1 == 45) = some (45, .aload_n 0, 0, 0) := rfl
theorem te_330_46 : (pT M_330).find? (fun e => e.1 == 46) = some (46, .getfield 25, 10, 7) := rfl
theorem te_330_49 : (pT M_330).find? (fun e => e.1 == 49) = some (49, .iload 4, 0, 0) := rfl
theorem te_330_51 : (pT M_330).find? (fun e => e.1 == 51) = some (51, .iaload, 0, 0) := rfl
theorem te_330_52 : (pT M_330).find? (fun e => e.1 == 52) = some (52, .goto 16, 0, 0) := rfl
theorem te_330_55 : (pT M_330).find? (fun e => e.1 == 55) = some (55, .aload_n 0, 0, 0) := rfl
theorem te_330_56 : (pT M_330).find? (fun e => e.1 == 56) = some (56, .getfield 83, 10, 28) := rfl
theorem te_330_59 : (pT M_330).find? (fun e => e.1 == 59) = some (59, .bipush 41, 0, 0) := rfl
theorem te_330_61 : (pT M_330).find? (fun e => e.1 == 61) = some (61, .iload 4, 0, 0) := rfl
theorem te_330_63 : (pT M_330).find? (fun e => e.1 == 63) = some (63, .imul, 0, 0) := rfl
theorem te_330_64 : (pT M_330).find? (fun e => e.1 == 64) = some (64, .iload 5, 0, 0) := rfl
theorem te_330_66 : (pT M_330).find? (fun e => e.1 == 66) = some (66, .iadd, 0, 0) := rfl
theorem te_330_67 : (pT M_330).find? (fun e => e.1 == 67) = some (67, .iaload, 0, 0) := rfl
theorem te_330_68 : (pT M_330).find? (fun e => e.1 == 68) = some (68, .ireturn, 0, 0) := rfl
theorem te_364_0 : (pT M_364).find? (fun e => e.1 == 0) = some (0, .aload_n 0, 0, 0) := rfl
theorem te_364_1 : (pT M_364).find? (fun e => e.1 == 1) = some (1, .iload_n 3, 0, 0) := rfl
theorem te_364_2 : (pT M_364).find? (fun e => e.1 == 2) = some (2, .iconst 1, 0, 0) := rfl
theorem te_364_3 : (pT M_364).find? (fun e => e.1 == 3) = some (3, .bipush 9, 0, 0) := rfl
theorem te_364_5 : (pT M_364).find? (fun e => e.1 == 5) = some (5, .invokestatic 104, 227, 2) := rfl
theorem te_364_8 : (pT M_364).find? (fun e => e.1 == 8) = some (8, .ifCond .eq 14, 0, 0) := rfl
theorem te_364_11 : (pT M_364).find? (fun e => e.1 == 11) = some (11, .iload 4, 0, 0) := rfl
theorem te_364_13 : (pT M_364).find? (fun e => e.1 == 13) = some (13, .iconst 1, 0, 0) := rfl
theorem te_364_14 : (pT M_364).find? (fun e => e.1 == 14) = some (14, .bipush 9, 0, 0) := rfl
theorem te_364_16 : (pT M_364).find? (fun e => e.1 == 16) = some (16, .invokestatic 104, 227, 2) := rfl
theorem te_364_19 : (pT M_364).find? (fun e => e.1 == 19) = some (19, .ifCond .ne 7, 0, 0) := rfl
theorem te_364_22 : (pT M_364).find? (fun e => e.1 == 22) = some (22, .iconst 1, 0, 0) := rfl
theorem te_364_23 : (pT M_364).find? (fun e => e.1 == 23) = some (23, .goto 9, 0, 0) := rfl
theorem te_364_26 : (pT M_364).find? (fun e => e.1 == 26) = some (26, .aload_n 0, 0, 0) := rfl
theorem te_364_27 : (pT M_364).find? (fun e => e.1 == 27) = some (27, .iload_n 1, 0, 0) := rfl
theorem te_364_28 : (pT M_364).find? (fun e => e.1 == 28) = some (28, .iload_n 2, 0, 0) := rfl
theorem te_364_29 : (pT M_364).find? (fun e => e.1 == 29) = some (29, .invokevirtual 314, 311, 0) := rfl
theorem te_364_32 : (pT M_364).find? (fun e => e.1 == 32) = some (32, .putfield 101, 10, 0) := rfl
theorem te_364_35 : (pT M_364).find? (fun e => e.1 == 35) = some (35, .aload_n 0, 0, 0) := rfl
theorem te_364_36 : (pT M_364).find? (fun e => e.1 == 36) = some (36, .getfield 101, 10, 0) := rfl
theorem te_364_39 : (pT M_364).find? (fun e => e.1 == 39) = some (39, .ifCond .le 5, 0, 0) := rfl
theorem te_364_42 : (pT M_364).find? (fun e => e.1 == 42) = some (42, .iconst 0, 0, 0) := rfl
theorem te_364_43 : (pT M_364).find? (fun e => e.1 == 43) = some (43, .ireturn, 0, 0) := rfl
theorem te_364_44 : (pT M_364).find? (fun e => e.1 == 44) = some (44, .iconst 0, 0, 0) := rfl
theorem te_364_45 : (pT M_364).find? (fun e => e.1 == 45) = some (45, .istore 5, 0, 0) := rfl
theorem te_364_47 : (pT M_364).find? (fun e => e.1 == 47) = some (47, .iconst 0, 0, 0) := rfl
theorem te_364_48 : (pT M_364).find? (fun e => e.1 == 48) = some (48, .istore 6, 0, 0) := rfl
theorem te_364_50 : (pT M_364).find? (fun e => e.1 == 50) = some (50, .iload 6, 0, 0) := rfl
theorem te_364_52 : (pT M_364).find? (fun e => e.1 == 52) = some (52, .aload_n 0, 0, 0) := rfl
theorem te_364_53 : (pT M_364).find? (fun e => e.1 == 53) = some (53, .iload_n 1, 0, 0) := rfl
theorem te_364_54 : (pT M_364).find? (fun e => e.1 == 54) = some (54, .iload_n 2, 0, 0) := rfl
theorem te_364_55 : (pT M_364).find? (fun e => e.1 == 55) = some (55, .invokevirtual 308, 313, 0) := rfl
theorem te_364_58 : (pT M_364).find? (fun e => e.1 == 58) = some (58, .if_icmp .ge 217, 0, 0) := rfl
theorem te_364_61 : (pT M_364).find? (fun e => e.1 == 61) = some (61, .iload 6, 0, 0) := rfl
theorem te_364_63 : (pT M_364).find? (fun e => e.1 == 63) = some (63, .iload 5, 0, 0) := rfl
theorem te_364_65 : (pT M_364).find? (fun e => e.1 == 65) = some (65, .iadd, 0, 0) := rfl
theorem te_364_66 : (pT M_364).find? (fun e => e.1 == 66) = some (66, .istore 7, 0, 0) := rfl
theorem te_364_68 : (pT M_364).find? (fun e => e.1 == 68) = some (68, .iconst 0, 0, 0) := rfl
theorem te_364_69 : (pT M_364).find? (fun e => e.1 == 69) = some (69, .istore 8, 0, 0) := rfl
theorem te_364_71 : (pT M_364).find? (fun e => e.1 == 71) = some (71, .iload 8, 0, 0) := rfl
theorem te_364_73 : (pT M_364).find? (fun e => e.1 == 73) = some (73, .aload_n 0, 0, 0) := rfl
theorem te_364_74 : (pT M_364).find? (fun e => e.1 == 74) = some (74, .getfield 108, 10, 1) := rfl
theorem te_364_77 : (pT M_364).find? (fun e => e.1 == 77) = some (77, .if_icmp .ge 76, 0, 0) := rfl
theorem te_364_80 : (pT M_364).find? (fun e => e.1 == 80) = some (80, .iconst 0, 0, 0) := rfl
theorem te_364_81 : (pT M_364).find? (fun e => e.1 == 81) = some (81, .istore 9, 0, 0) := rfl
theorem te_364_83 : (pT M_364).find? (fun e => e.1 == 83) = some (83, .iload 9, 0, 0) := rfl
theorem te_364_85 : (pT M_364).find? (fun e => e.1 == 85) = some (85, .aload_n 0, 0, 0) := rfl
theorem te_364_86 : (pT M_364).find? (fun e => e.1 == 86) = some (86, .iload 8, 0, 0) := rfl
theorem te_364_88 : (pT M_364).find? (fun e => e.1 == 88) = some (88, .invokevirtual 126, 241, 0) := rfl
theorem te_364_91 : (pT M_364).find? (fun e => e.1 == 91) = some (91, .if_icmp .ge 56, 0, 0) := rfl
theorem te_364_94 : (pT M_364).find? (fun e => e.1 == 94) = some (94, .iload 6, 0, 0) := rfl
theorem te_364_96 : (pT M_364).find? (fun e => e.1 == 96) = some (96, .aload_n 0, 0, 0) := rfl
theorem te_364_97 : (pT M_364).find? (fun e => e.1 == 97) = some (97, .getfield 65, 10, 21) := rfl
theorem te_364_100 : (pT M_364).find? (fun e => e.1 == 100) = some (100, .iload 8, 0, 0) := rfl
theorem te_364_102 : (pT M_364).find? (fun e => e.1 == 102) = some (102, .iaload, 0, 0) := rfl
theorem te_364_103 : (pT M_364).find? (fun e => e.1 == 103) = some (103, .iload_n 1, 0, 0) := rfl
theorem te_364_104 : (pT M_364).find? (fun e => e.1 == 104) = some (104, .iload_n 2, 0, 0) := rfl
theorem te_364_105 : (pT M_364).find? (fun e => e.1 == 105) = some (105, .invokestatic 333, 319, 2) := rfl
theorem te_364_108 : (pT M_364).find? (fun e => e.1 == 108) = some (108, .iconst (-1), 0, 0) := rfl
theorem te_364_109 : (pT M_364).find? (fun e => e.1 == 109) = some (109, .if_icmp .eq 38, 0, 0) := rfl
theorem te_364_112 : (pT M_364).find? (fun e => e.1 == 112) = some (112, .iload 7, 0, 0) := rfl
theorem te_364_114 : (pT M_364).find? (fun e => e.1 == 114) = some (114, .aload_n 0, 0, 0) := rfl
theorem te_364_115 : (pT M_364).find? (fun e => e.1 == 115) = some (115, .iload 8, 0, 0) := rfl
theorem te_364_117 : (pT M_364).find? (fun e => e.1 == 117) = some (117, .iload 9, 0, 0) := rfl
theorem te_364_119 : (pT M_364).find? (fun e => e.1 == 119) = some (119, .iload 6, 0, 0) := rfl
theorem te_364_121 : (pT M_364).find? (fun e => e.1 == 121) = some (121, .aload_n 0, 0, 0) := rfl
theorem te_364_122 : (pT M_364).find? (fun e => e.1 == 122) = some (122, .getfield 65, 10, 21) := rfl
theorem te_364_125 : (pT M_364).find? (fun e => e.1 == 125) = some (125, .iload 8, 0, 0) := rfl
theorem te_364_127 : (pT M_364).find? (fun e => e.1 == 127) = some (127, .iaload, 0, 0) := rfl
theorem te_364_128 : (pT M_364).find? (fun e => e.1 == 128) = some (128, .iload_n 1, 0, 0) := rfl
theorem te_364_129 : (pT M_364).find? (fun e => e.1 == 129) = some (129, .iload_n 2, 0, 0) := rfl
theorem te_364_130 : (pT M_364).find? (fun e => e.1 == 130) = some (130, .invokestatic 333, 319, 2) := rfl
theorem te_364_133 : (pT M_364).find? (fun e => e.1 == 133) = some (133, .invokevirtual 411, 365, 0) := rfl
theorem te_364_136 : (pT M_364).find? (fun e => e.1 == 136) = some (136, .invokestatic 167, 257, 2) := rfl
theorem te_364_139 : (pT M_364).find? (fun e => e.1 == 139) = some (139, .istore 7, 0, 0) := rfl
theorem te_364_141 : (pT M_364).find? (fun e => e.1 == 141) = some (141, .iinc 9 1, 0, 0) := rfl
theorem te_364_144 : (pT M_364).find? (fun e => e.1 == 144) = some (144, .goto (-61), 0, 0) := rfl
theorem te_364_147 : (pT M_364).find? (fun e => e.1 == 147) = some (147, .iinc 8 1, 0, 0) := rfl
theorem te_364_150 : (pT M_364).find? (fun e => e.1 == 150) = some (150, .goto (-79), 0, 0) := rfl
theorem te_364_153 : (pT M_364).find? (fun e => e.1 == 153) = some (153, .iload 7, 0, 0) := rfl
theorem te_364_155 : (pT M_364).find? (fun e => e.1 == 155) = some (155, .iload 6, 0, 0) := rfl
theorem te_364_157 : (pT M_364).find? (fun e => e.1 == 157) = some (157, .isub, 0, 0) := rfl
theorem te_364_158 : (pT M_364).find? (fun e => e.1 == 158) = some (158, .istore 5, 0, 0) := rfl
theorem te_364_160 : (pT M_364).find? (fun e => e.1 == 160) = some (160, .iconst 0, 0, 0) := rfl
theorem te_364_161 : (pT M_364).find? (fun e => e.1 == 161) = some (161, .istore 8, 0, 0) := rfl
theorem te_364_163 : (pT M_364).find? (fun e => e.1 == 163) = some (163, .iload 8, 0, 0) := rfl
theorem te_364_165 : (pT M_364).find? (fun e => e.1 == 165) = some (165, .aload_n 0, 0, 0) := rfl
theorem te_364_166 : (pT M_364).find? (fun e => e.1 == 166) = some (166, .getfield 108, 10, 1) := rfl
theorem te_364_169 : (pT M_364).find? (fun e => e.1 == 169) = some (169, .if_icmp .ge 100, 0, 0) := rfl
theorem te_364_172 : (pT M_364).find? (fun e => e.1 == 172) = some (172, .iload 6, 0, 0) := rfl
theorem te_364_174 : (pT M_364).find? (fun e => e.1 == 174) = some (174, .aload_n 0, 0, 0) := rfl
theorem te_364_175 : (pT M_364).find? (fun e => e.1 == 175) = some (175, .getfield 65, 10, 21) := rfl
theorem te_364_178 : (pT M_364).find? (fun e => e.1 == 178) = some (178, .iload 8, 0, 0) := rfl
theorem te_364_180 : (pT M_364).find? (fun e => e.1 == 180) = some (180, .iaload, 0, 0) := rfl
theorem te_364_181 : (pT M_364).find? (fun e => e.1 == 181) = some (181, .iload_n 1, 0, 0) := rfl
theorem te_364_182 : (pT M_364).find? (fun e => e.1 == 182) = some (182, .iload_n 2, 0, 0) := rfl
theorem te_364_183 : (pT M_364).find? (fun e => e.1 == 183) = some (183, .invokestatic 333, 319, 2) := rfl
theorem te_364_186 : (pT M_364).find? (fun e => e.1 == 186) = some (186, .istore 9, 0, 0) := rfl
theorem te_364_188 : (pT M_364).find? (fun e => e.1 == 188) = some (188, .iload 9, 0, 0) := rfl
theorem te_364_190 : (pT M_364).find? (fun e => e.1 == 190) = some (190, .iconst (-1), 0, 0) := rfl
theorem te_364_191 : (pT M_364).find? (fun e => e.1 == 191) = some (191, .if_icmp .ne 6, 0, 0) := rfl
theorem te_364_194 : (pT M_364).find? (fun e => e.1 == 194) = some (194, .goto 69, 0, 0) := rfl
theorem te_364_197 : (pT M_364).find? (fun e => e.1 == 197) = some (197, .aload_n 0, 0, 0) := rfl
theorem te_364_198 : (pT M_364).find? (fun e => e.1 == 198) = some (198, .getfield 7, 10, 2) := rfl
theorem te_364_201 : (pT M_364).find? (fun e => e.1 == 201) = some (201, .iload 8, 0, 0) := rfl
theorem te_364_203 : (pT M_364).find? (fun e => e.1 == 203) = some (203, .iaload, 0, 0) := rfl
theorem te_364_204 : (pT M_364).find? (fun e => e.1 == 204) = some (204, .iconst 4, 0, 0) := rfl
theorem te_364_205 : (pT M_364).find? (fun e => e.1 == 205) = some (205, .if_icmp .ne 21, 0, 0) := rfl
theorem te_364_208 : (pT M_364).find? (fun e => e.1 == 208) = some (208, .iload 9, 0, 0) := rfl
theorem te_364_210 : (pT M_364).find? (fun e => e.1 == 210) = some (210, .aload_n 0, 0, 0) := rfl
theorem te_364_211 : (pT M_364).find? (fun e => e.1 == 211) = some (211, .iload 8, 0, 0) := rfl
theorem te_364_213 : (pT M_364).find? (fun e => e.1 == 213) = some (213, .invokevirtual 161, 251, 0) := rfl
theorem te_364_216 : (pT M_364).find? (fun e => e.1 == 216) = some (216, .iadd, 0, 0) := rfl
theorem te_364_217 : (pT M_364).find? (fun e => e.1 == 217) = some (217, .iload_n 3, 0, 0) := rfl
theorem te_364_218 : (pT M_364).find? (fun e => e.1 == 218) = some (218, .irem, 0, 0) := rfl
theorem te_364_219 : (pT M_364).find? (fun e => e.1 == 219) = some (219, .ifCond .ne 7, 0, 0) := rfl
theorem te_364_222 : (pT M_364).find? (fun e => e.1 == 222) = some (222, .iconst 1, 0, 0) := rfl
theorem te_364_223 : (pT M_364).find? (fun e => e.1 == 223) = some (223, .goto 4, 0, 0) := rfl
theorem te_364_226 : (pT M_364).find? (fun e => e.1 == 226) = some (226, .iconst 0, 0, 0) := rfl
theorem te_364_227 : (pT M_364).find? (fun e => e.1 == 227) = some (227, .istore 10, 0, 0) := rfl
theorem te_364_229 : (pT M_364).find? (fun e => e.1 == 229) = some (229, .aload_n 0, 0, 0) := rfl
theorem te_364_230 : (pT M_364).find? (fun e => e.1 == 230) = some (230, .getfield 83, 10, 28) := rfl
theorem te_364_233 : (pT M_364).find? (fun e => e.1 == 233) = some (233, .bipush 41, 0, 0) := rfl
theorem te_364_235 : (pT M_364).find? (fun e => e.1 == 235) = some (235, .iload 8, 0, 0) := rfl
theorem te_364_237 : (pT M_364).find? (fun e => e.1 == 237) = some (237, .imul, 0, 0) := rfl
theorem te_364_238 : (pT M_364).find? (fun e => e.1 == 238) = some (238, .iload 9, 0, 0) := rfl
theorem te_364_240 : (pT M_364).find? (fun e => e.1 == 240) = some (240, .iadd, 0, 0) := rfl
theorem te_364_241 : (pT M_364).find? (fun e => e.1 == 241) = some (241, .iload 7, 0, 0) := rfl
theorem te_364_243 : (pT M_364).find? (fun e => e.1 == 243) = some (243, .aload_n 0, 0, 0) := rfl
theorem te_364_244 : (pT M_364).find? (fun e => e.1 == 244) = some (244, .iload 8, 0, 0) := rfl
theorem te_364_246 : (pT M_364).find? (fun e => e.1 == 246) = some (246, .invokevirtual 148, 246, 0) := rfl
theorem te_364_249 : (pT M_364).find? (fun e => e.1 == 249) = some (249, .iadd, 0, 0) := rfl
theorem te_364_250 : (pT M_364).find? (fun e => e.1 == 250) = some (250, .iload 10, 0, 0) := rfl
theorem te_364_252 : (pT M_364).find? (fun e => e.1 == 252) = some (252, .ifCond .eq 8, 0, 0) := rfl
theorem te_364_255 : (pT M_364).find? (fun e => e.1 == 255) = some (255, .iload 4, 0, 0) := rfl
theorem te_364_257 : (pT M_364).find? (fun e => e.1 == 257) = some (257, .goto 4, 0, 0) := rfl
theorem te_364_260 : (pT M_364).find? (fun e => e.1 == 260) = some (260, .iconst 0, 0, 0) := rfl
theorem te_364_261 : (pT M_364).find? (fun e => e.1 == 261) = some (261, .iadd, 0, 0) := rfl
theorem te_364_262 : (pT M_364).find? (fun e => e.1 == 262) = some (262, .iastore, 0, 0) := rfl
theorem te_364_263 : (pT M_364).find? (fun e => e.1 == 263) = some (263, .iinc 8 1, 0, 0) := rfl
theorem te_364_266 : (pT M_364).find? (fun e => e.1 == 266) = some (266, .goto (-103), 0, 0) := rfl
theorem te_364_269 : (pT M_364).find? (fun e => e.1 == 269) = some (269, .iinc 6 1, 0, 0) := rfl
theorem te_364_272 : (pT M_364).find? (fun e => e.1 == 272) = some (272, .goto (-222), 0, 0) := rfl
theorem te_364_275 : (pT M_364).find? (fun e => e.1 == 275) = some (275, .iload 5, 0, 0) := rfl
theorem te_364_277 : (pT M_364).find? (fun e => e.1 == 277) = some (277, .ireturn, 0, 0) := rfl
theorem te_365_0 : (pT M_365).find? (fun e => e.1 == 0) = some (0, .aload_n 0, 0, 0) := rfl
theorem te_365_1 : (pT M_365).find? (fun e => e.1 == 1) = some (1, .iload_n 1, 0, 0) := rfl
theorem te_365_2 : (pT M_365).find? (fun e => e.1 == 2) = some (2, .iload_n 2, 0, 0) := rfl
theorem te_365_3 : (pT M_365).find? (fun e => e.1 == 3) = some (3, .invokevirtual 130, 242, 0) := rfl
theorem te_365_6 : (pT M_365).find? (fun e => e.1 == 6) = some (6, .istore 4, 0, 0) := rfl
theorem te_365_8 : (pT M_365).find? (fun e => e.1 == 8) = some (8, .iload 4, 0, 0) := rfl
theorem te_365_10 : (pT M_365).find? (fun e => e.1 == 10) = some (10, .ifCond .lt 13, 0, 0) := rfl
theorem te_365_13 : (pT M_365).find? (fun e => e.1 == 13) = some (13, .iload_n 3, 0, 0) := rfl
theorem te_365_14 : (pT M_365).find? (fun e => e.1 == 14) = some (14, .aload_n 0, 0, 0) := rfl
theorem te_365_15 : (pT M_365).find? (fun e => e.1 == 15) = some (15, .iload_n 1, 0, 0) := rfl
theorem te_365_16 : (pT M_365).find? (fun e => e.1 == 16) = some (16, .iload_n 2, 0, 0) := rfl
theorem te_365_17 : (pT M_365).find? (fun e => e.1 == 17) = some (17, .invokevirtual 134, 243, 0) := rfl
theorem te_365_20 : (pT M_365).find? (fun e => e.1 == 20) = some (20, .if_icmp .ge 5, 0, 0) := rfl
theorem te_365_23 : (pT M_365).find? (fun e => e.1 == 23) = some (23, .iconst 0, 0, 0) := rfl
theorem te_365_24 : (pT M_365).find? (fun e => e.1 == 24) = some (24, .ireturn, 0, 0) := rfl
theorem te_365_25 : (pT M_365).find? (fun e => e.1 == 25) = some (25, .aload_n 0, 0, 0) := rfl
theorem te_365_26 : (pT M_365).find? (fun e => e.1 == 26) = some (26, .getfield 83, 10, 28) := rfl
theorem te_365_29 : (pT M_365).find? (fun e => e.1 == 29) = some (29, .bipush 41, 0, 0) := rfl
theorem te_365_31 : (pT M_365).find? (fun e => e.1 == 31) = some (31, .iload 4, 0, 0) := rfl
theorem te_365_33 : (pT M_365).find? (fun e => e.1 == 33) = some (33, .imul, 0, 0) := rfl
theorem te_365_34 : (pT M_365).find? (fun e => e.1 == 34) = some (34, .iload_n 3, 0, 0) := rfl
theorem te_365_35 : (pT M_365).find? (fun e => e.1 == 35) = some (35, .iadd, 0, 0) := rfl
theorem te_365_36 : (pT M_365).find? (fun e => e.1 == 36) = some (36, .aload_n 0, 0, 0) := rfl
theorem te_365_37 : (pT M_365).find? (fun e => e.1 == 37) = some (37, .iload_n 1, 0, 0) := rfl
theorem te_365_38 : (pT M_365).find? (fun e => e.1 == 38) = some (38, .iload_n 2, 0, 0) := rfl
theorem te_365_39 : (pT M_365).find? (fun e => e.1 == 39) = some (39, .invokevirtual 134, 243, 0) := rfl
theorem te_365_42 : (pT M_365).find? (fun e => e.1 == 42) = some (42, .isub, 0, 0) := rfl
theorem te_365_43 : (pT M_365).find? (fun e => e.1 == 43) = some (43, .iaload, 0, 0) := rfl
theorem te_365_44 : (pT M_365).find? (fun e => e.1 == 44) = some (44, .ireturn, 0, 0) := rfl
theorem w_309_0 {C : CXW} (hC : Cmono C) {S : Nat × (Nat → Int32)} {K : WK} {mem : MM} {x0 : Int} (H : (CWI C 227 [.inl x0, .inl 0, .inl 40] mem fun r2 m1 => InI r2 → ((r2 = 0 ∨ r2 = 1) ∧ K (some r2) m1))) : Wx C S M_309 K 0 [some (.inl x0)] [] mem := by
  refine Wx.iload_n hC te_309_0 rfl ?_
  refine Wx.iconst hC te_309_1 rfl ?_
  refine Wx.bipush hC te_309_2 rfl rfl ?_
  refine Wx.statI hC te_309_4 (by decide) mt_227 (args := [.inl x0, .inl 0, .inl 40]) (rest := []) rfl rfl rfl rfl rfl ?_
  refine CWI.mono hC (fun r2 m1 H hy => ?_) H
  replace H := H hy
  exact Wx.bret hC te_309_7 rfl H.1 H.2
theorem w_311_0 {C : CXW} (hC : Cmono C) {S : Nat × (Nat → Int32)} {K : WK} {mem : MM} {x1 x2 : Int} (H : (CWI C 253 [.inl x1] mem fun r2 m1 => InI r2 → ((r2 = 0 → (InI 1 → K (some 1) m1)) ∧ (¬ (r2 = 0) → (CWI C 309 [.inl x2] m1 fun r4 m3 => InI r4 → ((¬ r4 = 0 → (CWI C 268 [.inr 143, .inl x1] m3 fun r6 m5 => InI r6 → ((¬ r6 = 0 → (InI 0 → K (some 0) m5)) ∧ (¬ (¬ r6 = 0) → (InI 2 → K (some 2) m5))))) ∧ (¬ (¬ r4 = 0) → (InI 1 → K (some 1) m3)))))))) : Wx C S M_311 K 0 [some (.inr 143), some (.inl x1), some (.inl x2)] [] mem := by
  refine Wx.iload_n hC te_311_0 rfl ?_
  refine Wx.statI hC te_311_1 (by decide) mt_253 (args := [.inl x1]) (rest := []) rfl rfl rfl rfl rfl ?_
  refine CWI.mono hC (fun r2 m1 H hy => ?_) H
  replace H := H hy
  refine Wx.ifc hC (t := 14) te_311_4 (by decide) (fun q => ?_) (fun q => ?_)
  · replace H := H.1 q
    refine Wx.iconst hC te_311_14 rfl ?_
    refine Wx.goto hC (t := 31) te_311_15 (by decide) ?_
    exact Wx.ireturn hC te_311_31 rfl H
  · replace H := H.2 q
    refine Wx.iload_n hC te_311_7 rfl ?_
    refine Wx.statI hC te_311_8 (by decide) mt_309 (args := [.inl x2]) (rest := []) rfl rfl rfl rfl rfl ?_
    refine CWI.mono hC (fun r4 m3 H hy => ?_) H
    replace H := H hy
    refine Wx.ifc hC (t := 18) te_311_11 (by decide) (fun q => ?_) (fun q => ?_)
    · replace H := H.1 q
      refine Wx.aload_n hC te_311_18 rfl ?_
      refine Wx.iload_n hC te_311_19 rfl ?_
      refine Wx.virtI hC te_311_20 mt_268 (args := [.inr 143, .inl x1]) (rest := []) rfl rfl rfl rfl rfl rfl rfl rfl ?_
      refine CWI.mono hC (fun r6 m5 H hy => ?_) H
      replace H := H hy
      refine Wx.ifc hC (t := 30) te_311_23 (by decide) (fun q => ?_) (fun q => ?_)
      · replace H := H.1 q
        refine Wx.iconst hC te_311_30 rfl ?_
        exact Wx.ireturn hC te_311_31 rfl H
      · replace H := H.2 q
        refine Wx.iconst hC te_311_26 rfl ?_
        refine Wx.goto hC (t := 31) te_311_27 (by decide) ?_
        exact Wx.ireturn hC te_311_31 rfl H
    · replace H := H.2 q
      refine Wx.iconst hC te_311_14 rfl ?_
      refine Wx.goto hC (t := 31) te_311_15 (by decide) ?_
      exact Wx.ireturn hC te_311_31 rfl H
theorem w_313_0 {C : CXW} (hC : Cmono C) {S : Nat × (Nat → Int32)} {K : WK} {mem : MM} {x1 x2 : Int} (H : ((¬ x2 = 0 → (InI (x2 - 1)) ∧ (InI (x1 * (x2 - 1))) ∧ (CWI C 300 [.inr 143] mem fun r2 m1 => InI r2 → (InI ((x1 * (x2 - 1)) + r2)) ∧ (InI ((x1 * (x2 - 1)) + r2) → K (some ((x1 * (x2 - 1)) + r2)) m1))) ∧ (¬ (¬ x2 = 0) → (InI 0 → K (some 0) mem)))) : Wx C S M_313 K 0 [some (.inr 143), some (.inl x1), some (.inl x2)] [] mem := by
  refine Wx.iload_n hC te_313_0 rfl ?_
  refine Wx.ifc hC (t := 8) te_313_1 (by decide) (fun q => ?_) (fun q => ?_)
  · replace H := H.1 q
    refine Wx.iload_n hC te_313_8 rfl ?_
    refine Wx.iload_n hC te_313_9 rfl ?_
    refine Wx.iconst hC te_313_10 rfl ?_
    refine Wx.isub hC te_313_11 H.1 ?_
    replace H := H.2
    refine Wx.imul hC te_313_12 H.1 ?_
    replace H := H.2
    refine Wx.aload_n hC te_313_13 rfl ?_
    refine Wx.virtI hC te_313_14 mt_300 (args := [.inr 143]) (rest := [.inl (x1 * (x2 - 1))]) rfl rfl rfl rfl rfl rfl rfl rfl ?_
    refine CWI.mono hC (fun r2 m1 H hy => ?_) H
    replace H := H hy
    refine Wx.iadd hC te_313_17 H.1 ?_
    replace H := H.2
    exact Wx.ireturn hC te_313_18 rfl H
  · replace H := H.2 q
    refine Wx.iconst hC te_313_4 rfl ?_
    refine Wx.goto hC (t := 18) te_313_5 (by decide) ?_
    exact Wx.ireturn hC te_313_18 rfl H
theorem w_316_0 {C : CXW} (hC : Cmono C) {S : Nat × (Nat → Int32)} {K : WK} {mem : MM} {x0 x1 : Int} (H : (CWI C 227 [.inl x0, .inl 0, .inl 1] mem fun r2 m1 => InI r2 → ((r2 = 0 → (K (some 0) m1)) ∧ (¬ (r2 = 0) → (CWI C 227 [.inl x1, .inl 0, .inl 63] m1 fun r4 m3 => InI r4 → ((r4 = 0 → (K (some 0) m3)) ∧ (¬ (r4 = 0) → (K (some 1) m3)))))))) : Wx C S M_316 K 0 [some (.inl x0), some (.inl x1)] [] mem := by
  refine Wx.iload_n hC te_316_0 rfl ?_
  refine Wx.iconst hC te_316_1 rfl ?_
  refine Wx.iconst hC te_316_2 rfl ?_
  refine Wx.statI hC te_316_3 (by decide) mt_227 (args := [.inl x0, .inl 0, .inl 1]) (rest := []) rfl rfl rfl rfl rfl ?_
  refine CWI.mono hC (fun r2 m1 H hy => ?_) H
  replace H := H hy
  refine Wx.ifc hC (t := 23) te_316_6 (by decide) (fun q => ?_) (fun q => ?_)
  · replace H := H.1 q
    refine Wx.iconst hC te_316_23 rfl ?_
    exact Wx.bret hC te_316_24 rfl (Or.inl rfl) H
  · replace H := H.2 q
    refine Wx.iload_n hC te_316_9 rfl ?_
    refine Wx.iconst hC te_316_10 rfl ?_
    refine Wx.bipush hC te_316_11 rfl rfl ?_
    refine Wx.statI hC te_316_13 (by decide) mt_227 (args := [.inl x1, .inl 0, .inl 63]) (rest := []) rfl rfl rfl rfl rfl ?_
    refine CWI.mono hC (fun r4 m3 H hy => ?_) H
    replace H := H hy
    refine Wx.ifc hC (t := 23) te_316_16 (by decide) (fun q => ?_) (fun q => ?_)
    · replace H := H.1 q
      refine Wx.iconst hC te_316_23 rfl ?_
      exact Wx.bret hC te_316_24 rfl (Or.inl rfl) H
    · replace H := H.2 q
      refine Wx.iconst hC te_316_19 rfl ?_
      refine Wx.goto hC (t := 24) te_316_20 (by decide) ?_
      exact Wx.bret hC te_316_24 rfl (Or.inr rfl) H
theorem w_318_0 {C : CXW} (hC : Cmono C) {S : Nat × (Nat → Int32)} {K : WK} {mem : MM} (H : (Wx C S M_318 K 2 [some (.inr 143), some (.inl 0)] [] mem)) : Wx C S M_318 K 0 [some (.inr 143), none] [] mem := by
  refine Wx.iconst hC te_318_0 rfl ?_
  refine Wx.istore_n hC te_318_1 rfl ?_
  exact H
theorem w_318_2 {C : CXW} (hC : Cmono C) {S : Nat × (Nat → Int32)} {K : WK} {mem : MM} {x1 : Int} (H : ((64 ≤ x1 → (K none mem)) ∧ (¬ (64 ≤ x1) → (InI (3 * x1)) ∧ (InI ((3 * x1) + 1)) ∧ ((0 : Int) ≤ x1 ∧ (x1 : Int) < 128) ∧ (InI (64 + x1)) ∧ (InI (7 * x1)) ∧ (InI ((7 * x1) - 5)) ∧ ((0 : Int) ≤ (64 + x1) ∧ ((64 + x1) : Int) < 128) ∧ (InI (x1 + 1)) ∧ (Wx C S M_318 K 2 [some (.inr 143), some (.inl (x1 + 1))] [] (upm (upm mem 165 (Int.toNat x1) ((3 * x1) + 1)) 165 (Int.toNat (64 + x1)) ((7 * x1) - 5)))))) : Wx C S M_318 K 2 [some (.inr 143), some (.inl x1)] [] mem := by
  refine Wx.iload_n hC te_318_2 rfl ?_
  refine Wx.bipush hC te_318_3 rfl rfl ?_
  refine Wx.icmp hC (t := 40) te_318_5 (by decide) (fun q => ?_) (fun q => ?_)
  · replace H := H.1 q
    exact Wx.vret hC te_318_40 rfl H
  · replace H := H.2 q
    refine Wx.aload_n hC te_318_8 rfl ?_
    refine Wx.getR hC te_318_9 rfl rfl rfl ?_
    refine Wx.iload_n hC te_318_12 rfl ?_
    refine Wx.iconst hC te_318_13 rfl ?_
    refine Wx.iload_n hC te_318_14 rfl ?_
    refine Wx.imul hC te_318_15 H.1 ?_
    replace H := H.2
    refine Wx.iconst hC te_318_16 rfl ?_
    refine Wx.iadd hC te_318_17 H.1 ?_
    replace H := H.2
    refine Wx.iast hC te_318_18 rfl H.1 ?_
    replace H := H.2
    refine Wx.aload_n hC te_318_19 rfl ?_
    refine Wx.getR hC te_318_20 rfl rfl rfl ?_
    refine Wx.bipush hC te_318_23 rfl rfl ?_
    refine Wx.iload_n hC te_318_25 rfl ?_
    refine Wx.iadd hC te_318_26 H.1 ?_
    replace H := H.2
    refine Wx.bipush hC te_318_27 rfl rfl ?_
    refine Wx.iload_n hC te_318_29 rfl ?_
    refine Wx.imul hC te_318_30 H.1 ?_
    replace H := H.2
    refine Wx.iconst hC te_318_31 rfl ?_
    refine Wx.isub hC te_318_32 H.1 ?_
    replace H := H.2
    refine Wx.iast hC te_318_33 rfl H.1 ?_
    replace H := H.2
    refine Wx.iinc hC te_318_34 rfl rfl H.1 ?_
    replace H := H.2
    refine Wx.goto hC (t := 2) te_318_37 (by decide) ?_
    exact H
theorem w_321_0 {C : CXW} (hC : Cmono C) {S : Nat × (Nat → Int32)} {K : WK} {mem : MM} {x1 x2 x3 : Int} (H : (InI (80 * x1)) ∧ (CWI C 272 [.inl x2, .inl x3] mem fun r2 m1 => InI r2 → (InI ((80 * x1) + r2)) ∧ (InI ((80 * x1) + r2) → K (some ((80 * x1) + r2)) m1))) : Wx C S M_321 K 0 [some (.inr 143), some (.inl x1), some (.inl x2), some (.inl x3)] [] mem := by
  refine Wx.bipush hC te_321_0 rfl rfl ?_
  refine Wx.iload_n hC te_321_2 rfl ?_
  refine Wx.imul hC te_321_3 H.1 ?_
  replace H := H.2
  refine Wx.iload_n hC te_321_4 rfl ?_
  refine Wx.iload_n hC te_321_5 rfl ?_
  refine Wx.statI hC te_321_6 (by decide) mt_272 (args := [.inl x2, .inl x3]) (rest := [.inl (80 * x1)]) rfl rfl rfl rfl rfl ?_
  refine CWI.mono hC (fun r2 m1 H hy => ?_) H
  replace H := H hy
  refine Wx.iadd hC te_321_9 H.1 ?_
  replace H := H.2
  exact Wx.ireturn hC te_321_10 rfl H
theorem w_324_0 {C : CXW} (hC : Cmono C) {S : Nat × (Nat → Int32)} {K : WK} {mem : MM} {x0 x1 x2 : Int} (H : ((¬ x0 = 0 → ((¬ x0 = 1 → ((¬ x0 = 2 → (CWI C 258 [.inl x1, .inl x2] mem fun r2 m1 => InI r2 → (InI r2 → K (some r2) m1))) ∧ (¬ (¬ x0 = 2) → ∀ b3 : Int, b3 = ((fun (x y : Int32) => x * y) (Int32.ofInt x1) (Int32.ofInt x2)).toInt → InI b3 → (InI b3 → K (some b3) mem)))) ∧ (¬ (¬ x0 = 1) → ∀ b4 : Int, b4 = ((fun (x y : Int32) => x - y) (Int32.ofInt x1) (Int32.ofInt x2)).toInt → InI b4 → (InI b4 → K (some b4) mem)))) ∧ (¬ (¬ x0 = 0) → ∀ z5 : Int, InI z5 → (InI (x1 + x2) → z5 = x1 + x2) → (InI z5 → K (some z5) mem)))) : Wx C S M_324 K 0 [some (.inl x0), some (.inl x1), some (.inl x2)] [] mem := by
  refine Wx.iload_n hC te_324_0 rfl ?_
  refine Wx.ifc hC (t := 10) te_324_1 (by decide) (fun q => ?_) (fun q => ?_)
  · replace H := H.1 q
    refine Wx.iload_n hC te_324_10 rfl ?_
    refine Wx.iconst hC te_324_11 rfl ?_
    refine Wx.icmp hC (t := 21) te_324_12 (by decide) (fun q => ?_) (fun q => ?_)
    · replace H := H.1 q
      refine Wx.iload_n hC te_324_21 rfl ?_
      refine Wx.iconst hC te_324_22 rfl ?_
      refine Wx.icmp hC (t := 32) te_324_23 (by decide) (fun q => ?_) (fun q => ?_)
      · replace H := H.1 q
        refine Wx.iload_n hC te_324_32 rfl ?_
        refine Wx.iload_n hC te_324_33 rfl ?_
        refine Wx.statI hC te_324_34 (by decide) mt_258 (args := [.inl x1, .inl x2]) (rest := []) rfl rfl rfl rfl rfl ?_
        refine CWI.mono hC (fun r2 m1 H hy => ?_) H
        replace H := H hy
        exact Wx.ireturn hC te_324_37 rfl H
      · replace H := H.2 q
        refine Wx.iload_n hC te_324_26 rfl ?_
        refine Wx.iload_n hC te_324_27 rfl ?_
        refine Wx.bits hC (f := (fun (x y : Int32) => x * y)) te_324_28 (fun _ _ _ _ => Iff.rfl) (fun b3 e1 e2 => ?_)
        replace H := H b3 e1 e2
        refine Wx.goto hC (t := 37) te_324_29 (by decide) ?_
        exact Wx.ireturn hC te_324_37 rfl H
    · replace H := H.2 q
      refine Wx.iload_n hC te_324_15 rfl ?_
      refine Wx.iload_n hC te_324_16 rfl ?_
      refine Wx.bits hC (f := (fun (x y : Int32) => x - y)) te_324_17 (fun _ _ _ _ => Iff.rfl) (fun b4 e1 e2 => ?_)
      replace H := H b4 e1 e2
      refine Wx.goto hC (t := 37) te_324_18 (by decide) ?_
      exact Wx.ireturn hC te_324_37 rfl H
  · replace H := H.2 q
    refine Wx.iload_n hC te_324_4 rfl ?_
    refine Wx.iload_n hC te_324_5 rfl ?_
    refine Wx.iaddW hC te_324_6 (fun z5 e1 e2 => ?_)
    replace H := H z5 e1 e2
    refine Wx.goto hC (t := 37) te_324_7 (by decide) ?_
    exact Wx.ireturn hC te_324_37 rfl H
theorem w_323_0 {C : CXW} (hC : Cmono C) {S : Nat × (Nat → Int32)} {K : WK} {mem : MM} {x1 x2 x3 : Int} (H : (CWI C 242 [.inr 143, .inl x1, .inl x2] mem fun r2 m1 => InI r2 → ((¬ r2 = (-1) → ((¬ r2 = (-2) → (CWI C 243 [.inr 143, .inl x1, .inl x2] m1 fun r4 m3 => InI r4 → (InI (x3 - r4)) ∧ ((0 : Int) ≤ r2 ∧ (r2 : Int) < 8) ∧ ∀ v5 : Int, v5 = m3 168 (Int.toNat r2) → InI v5 → (CWI C 321 [.inr 143, .inl r2, .inl (x3 - r4), .inl v5] m3 fun r7 m6 => InI r7 → ((0 : Int) ≤ r7 ∧ (r7 : Int) < 640) ∧ ∀ v8 : Int, v8 = m6 166 (Int.toNat r7) → InI v8 → (InI v8 → K (some v8) m6)))) ∧ (¬ (¬ r2 = (-2)) → (CWI C 243 [.inr 143, .inl x1, .inl x2] m1 fun r10 m9 => InI r10 → (InI r10 → K (some r10) m9))))) ∧ (¬ (¬ r2 = (-1)) → (InI x3 → K (some x3) m1))))) : Wx C S M_323 K 0 [some (.inr 143), some (.inl x1), some (.inl x2), some (.inl x3), none] [] mem := by
  refine Wx.aload_n hC te_323_0 rfl ?_
  refine Wx.iload_n hC te_323_1 rfl ?_
  refine Wx.iload_n hC te_323_2 rfl ?_
  refine Wx.virtI hC te_323_3 mt_242 (args := [.inr 143, .inl x1, .inl x2]) (rest := []) rfl rfl rfl rfl rfl rfl rfl rfl ?_
  refine CWI.mono hC (fun r2 m1 H hy => ?_) H
  replace H := H hy
  refine Wx.istore hC te_323_6 rfl ?_
  refine Wx.iload hC te_323_8 rfl ?_
  refine Wx.iconst hC te_323_10 rfl ?_
  refine Wx.icmp hC (t := 16) te_323_11 (by decide) (fun q => ?_) (fun q => ?_)
  · replace H := H.1 q
    refine Wx.iload hC te_323_16 rfl ?_
    refine Wx.bipush hC te_323_18 rfl rfl ?_
    refine Wx.icmp hC (t := 30) te_323_20 (by decide) (fun q => ?_) (fun q => ?_)
    · replace H := H.1 q
      refine Wx.aload_n hC te_323_30 rfl ?_
      refine Wx.getR hC te_323_31 rfl rfl rfl ?_
      refine Wx.aload_n hC te_323_34 rfl ?_
      refine Wx.iload hC te_323_35 rfl ?_
      refine Wx.iload_n hC te_323_37 rfl ?_
      refine Wx.aload_n hC te_323_38 rfl ?_
      refine Wx.iload_n hC te_323_39 rfl ?_
      refine Wx.iload_n hC te_323_40 rfl ?_
      refine Wx.virtI hC te_323_41 mt_243 (args := [.inr 143, .inl x1, .inl x2]) (rest := [.inl x3, .inl r2, .inr 143, .inr 166]) rfl rfl rfl rfl rfl rfl rfl rfl ?_
      refine CWI.mono hC (fun r4 m3 H hy => ?_) H
      replace H := H hy
      refine Wx.isub hC te_323_44 H.1 ?_
      replace H := H.2
      refine Wx.aload_n hC te_323_45 rfl ?_
      refine Wx.getR hC te_323_46 rfl rfl rfl ?_
      refine Wx.iload hC te_323_49 rfl ?_
      refine Wx.iald hC te_323_51 rfl H.1 (fun v5 e1 e2 => ?_)
      replace H := H.2 v5 e1 e2
      refine Wx.virtI hC te_323_52 mt_321 (args := [.inr 143, .inl r2, .inl (x3 - r4), .inl v5]) (rest := [.inr 166]) rfl rfl rfl rfl rfl rfl rfl rfl ?_
      refine CWI.mono hC (fun r7 m6 H hy => ?_) H
      replace H := H hy
      refine Wx.iald hC te_323_55 rfl H.1 (fun v8 e1 e2 => ?_)
      replace H := H.2 v8 e1 e2
      exact Wx.ireturn hC te_323_56 rfl H
    · replace H := H.2 q
      refine Wx.aload_n hC te_323_23 rfl ?_
      refine Wx.iload_n hC te_323_24 rfl ?_
      refine Wx.iload_n hC te_323_25 rfl ?_
      refine Wx.virtI hC te_323_26 mt_243 (args := [.inr 143, .inl x1, .inl x2]) (rest := []) rfl rfl rfl rfl rfl rfl rfl rfl ?_
      refine CWI.mono hC (fun r10 m9 H hy => ?_) H
      replace H := H hy
      exact Wx.ireturn hC te_323_29 rfl H
  · replace H := H.2 q
    refine Wx.iload_n hC te_323_14 rfl ?_
    exact Wx.ireturn hC te_323_15 rfl H
theorem w_322_0 {C : CXW} (hC : Cmono C) {S : Nat × (Nat → Int32)} {K : WK} {mem : MM} {x1 x2 : Int} (H : ((0 : Int) ≤ x1 ∧ (x1 : Int) < 8) ∧ ∀ v1 : Int, v1 = mem 144 (Int.toNat x1) → InI v1 → ((¬ v1 = 4 → ((0 : Int) ≤ x1 ∧ (x1 : Int) < 8) ∧ ∀ v2 : Int, v2 = mem 144 (Int.toNat x1) → InI v2 → ((¬ v2 = 5 → ((0 : Int) ≤ x1 ∧ (x1 : Int) < 8) ∧ ∀ v3 : Int, v3 = mem 144 (Int.toNat x1) → InI v3 → (CWI C 323 [.inr 143, .inl x1, .inl 0, .inl x2] mem fun r5 m4 => InI r5 → (CWI C 323 [.inr 143, .inl x1, .inl 1, .inl x2] m4 fun r7 m6 => InI r7 → (CWI C 324 [.inl v3, .inl r5, .inl r7] m6 fun r9 m8 => InI r9 → (InI r9 → K (some r9) m8))))) ∧ (¬ (¬ v2 = 5) → (CWI C 323 [.inr 143, .inl x1, .inl 0, .inl x2] mem fun r11 m10 => InI r11 → (InI r11 → K (some r11) m10))))) ∧ (¬ (¬ v1 = 4) → (CWI C 250 [.inr 143, .inl x1] mem fun r13 m12 => InI r13 → (InI (64 * r13)) ∧ (InI ((64 * r13) + x2)) ∧ (CWI C 251 [.inr 143, .inl x1] m12 fun r15 m14 => InI r15 → (InI (((64 * r13) + x2) + r15)) ∧ ((0 : Int) ≤ (((64 * r13) + x2) + r15) ∧ ((((64 * r13) + x2) + r15) : Int) < 128) ∧ ∀ v16 : Int, v16 = m14 165 (Int.toNat (((64 * r13) + x2) + r15)) → InI v16 → (InI v16 → K (some v16) m14)))))) : Wx C S M_322 K 0 [some (.inr 143), some (.inl x1), some (.inl x2)] [] mem := by
  refine Wx.aload_n hC te_322_0 rfl ?_
  refine Wx.getR hC te_322_1 rfl rfl rfl ?_
  refine Wx.iload_n hC te_322_4 rfl ?_
  refine Wx.iald hC te_322_5 rfl H.1 (fun v1 e1 e2 => ?_)
  replace H := H.2 v1 e1 e2
  refine Wx.iconst hC te_322_6 rfl ?_
  refine Wx.icmp hC (t := 32) te_322_7 (by decide) (fun q => ?_) (fun q => ?_)
  · replace H := H.1 q
    refine Wx.aload_n hC te_322_32 rfl ?_
    refine Wx.getR hC te_322_33 rfl rfl rfl ?_
    refine Wx.iload_n hC te_322_36 rfl ?_
    refine Wx.iald hC te_322_37 rfl H.1 (fun v2 e1 e2 => ?_)
    replace H := H.2 v2 e1 e2
    refine Wx.iconst hC te_322_38 rfl ?_
    refine Wx.icmp hC (t := 50) te_322_39 (by decide) (fun q => ?_) (fun q => ?_)
    · replace H := H.1 q
      refine Wx.aload_n hC te_322_50 rfl ?_
      refine Wx.getR hC te_322_51 rfl rfl rfl ?_
      refine Wx.iload_n hC te_322_54 rfl ?_
      refine Wx.iald hC te_322_55 rfl H.1 (fun v3 e1 e2 => ?_)
      replace H := H.2 v3 e1 e2
      refine Wx.aload_n hC te_322_56 rfl ?_
      refine Wx.iload_n hC te_322_57 rfl ?_
      refine Wx.iconst hC te_322_58 rfl ?_
      refine Wx.iload_n hC te_322_59 rfl ?_
      refine Wx.virtI hC te_322_60 mt_323 (args := [.inr 143, .inl x1, .inl 0, .inl x2]) (rest := [.inl v3]) rfl rfl rfl rfl rfl rfl rfl rfl ?_
      refine CWI.mono hC (fun r5 m4 H hy => ?_) H
      replace H := H hy
      refine Wx.aload_n hC te_322_63 rfl ?_
      refine Wx.iload_n hC te_322_64 rfl ?_
      refine Wx.iconst hC te_322_65 rfl ?_
      refine Wx.iload_n hC te_322_66 rfl ?_
      refine Wx.virtI hC te_322_67 mt_323 (args := [.inr 143, .inl x1, .inl 1, .inl x2]) (rest := [.inl r5, .inl v3]) rfl rfl rfl rfl rfl rfl rfl rfl ?_
      refine CWI.mono hC (fun r7 m6 H hy => ?_) H
      replace H := H hy
      refine Wx.statI hC te_322_70 (by decide) mt_324 (args := [.inl v3, .inl r5, .inl r7]) (rest := []) rfl rfl rfl rfl rfl ?_
      refine CWI.mono hC (fun r9 m8 H hy => ?_) H
      replace H := H hy
      exact Wx.ireturn hC te_322_73 rfl H
    · replace H := H.2 q
      refine Wx.aload_n hC te_322_42 rfl ?_
      refine Wx.iload_n hC te_322_43 rfl ?_
      refine Wx.iconst hC te_322_44 rfl ?_
      refine Wx.iload_n hC te_322_45 rfl ?_
      refine Wx.virtI hC te_322_46 mt_323 (args := [.inr 143, .inl x1, .inl 0, .inl x2]) (rest := []) rfl rfl rfl rfl rfl rfl rfl rfl ?_
      refine CWI.mono hC (fun r11 m10 H hy => ?_) H
      replace H := H hy
      exact Wx.ireturn hC te_322_49 rfl H
  · replace H := H.2 q
    refine Wx.aload_n hC te_322_10 rfl ?_
    refine Wx.getR hC te_322_11 rfl rfl rfl ?_
    refine Wx.bipush hC te_322_14 rfl rfl ?_
    refine Wx.aload_n hC te_322_16 rfl ?_
    refine Wx.iload_n hC te_322_17 rfl ?_
    refine Wx.virtI hC te_322_18 mt_250 (args := [.inr 143, .inl x1]) (rest := [.inl 64, .inr 165]) rfl rfl rfl rfl rfl rfl rfl rfl ?_
    refine CWI.mono hC (fun r13 m12 H hy => ?_) H
    replace H := H hy
    refine Wx.imul hC te_322_21 H.1 ?_
    replace H := H.2
    refine Wx.iload_n hC te_322_22 rfl ?_
    refine Wx.iadd hC te_322_23 H.1 ?_
    replace H := H.2
    refine Wx.aload_n hC te_322_24 rfl ?_
    refine Wx.iload_n hC te_322_25 rfl ?_
    refine Wx.virtI hC te_322_26 mt_251 (args := [.inr 143, .inl x1]) (rest := [.inl ((64 * r13) + x2), .inr 165]) rfl rfl rfl rfl rfl rfl rfl rfl ?_
    refine CWI.mono hC (fun r15 m14 H hy => ?_) H
    replace H := H hy
    refine Wx.iadd hC te_322_29 H.1 ?_
    replace H := H.2
    refine Wx.iald hC te_322_30 rfl H.1 (fun v16 e1 e2 => ?_)
    replace H := H.2 v16 e1 e2
    exact Wx.ireturn hC te_322_31 rfl H
theorem w_320_0 {C : CXW} (hC : Cmono C) {S : Nat × (Nat → Int32)} {K : WK} {mem : MM} {x1 x2 : Int} (H : (InI (41 * x1)) ∧ (InI ((41 * x1) + x2)) ∧ ((0 : Int) ≤ ((41 * x1) + x2) ∧ (((41 * x1) + x2) : Int) < 328) ∧ ∀ v1 : Int, v1 = mem 167 (Int.toNat ((41 * x1) + x2)) → InI v1 → ((0 : Int) ≤ x1 ∧ (x1 : Int) < 8) ∧ ∀ v2 : Int, v2 = mem 144 (Int.toNat x1) → InI v2 → ((¬ v2 = 5 → ((0 : Int) ≤ x1 ∧ (x1 : Int) < 8) ∧ ∀ v3 : Int, v3 = mem 168 (Int.toNat x1) → InI v3 → (CWI C 321 [.inr 143, .inl x1, .inl x2, .inl v3] mem fun r5 m4 => InI r5 → ((0 : Int) ≤ r5 ∧ (r5 : Int) < 640) ∧ (K none (upm m4 166 (Int.toNat r5) v1)))) ∧ (¬ (¬ v2 = 5) → (CWI C 250 [.inr 143, .inl x1] mem fun r7 m6 => InI r7 → (InI (64 * r7)) ∧ (InI ((64 * r7) + x2)) ∧ (CWI C 251 [.inr 143, .inl x1] m6 fun r9 m8 => InI r9 → (InI (((64 * r7) + x2) + r9)) ∧ ((0 : Int) ≤ (((64 * r7) + x2) + r9) ∧ ((((64 * r7) + x2) + r9) : Int) < 128) ∧ (K none (upm m8 165 (Int.toNat (((64 * r7) + x2) + r9)) v1))))))) : Wx C S M_320 K 0 [some (.inr 143), some (.inl x1), some (.inl x2), none] [] mem := by
  refine Wx.aload_n hC te_320_0 rfl ?_
  refine Wx.getR hC te_320_1 rfl rfl rfl ?_
  refine Wx.bipush hC te_320_4 rfl rfl ?_
  refine Wx.iload_n hC te_320_6 rfl ?_
  refine Wx.imul hC te_320_7 H.1 ?_
  replace H := H.2
  refine Wx.iload_n hC te_320_8 rfl ?_
  refine Wx.iadd hC te_320_9 H.1 ?_
  replace H := H.2
  refine Wx.iald hC te_320_10 rfl H.1 (fun v1 e1 e2 => ?_)
  replace H := H.2 v1 e1 e2
  refine Wx.istore_n hC te_320_11 rfl ?_
  refine Wx.aload_n hC te_320_12 rfl ?_
  refine Wx.getR hC te_320_13 rfl rfl rfl ?_
  refine Wx.iload_n hC te_320_16 rfl ?_
  refine Wx.iald hC te_320_17 rfl H.1 (fun v2 e1 e2 => ?_)
  replace H := H.2 v2 e1 e2
  refine Wx.iconst hC te_320_18 rfl ?_
  refine Wx.icmp hC (t := 47) te_320_19 (by decide) (fun q => ?_) (fun q => ?_)
  · replace H := H.1 q
    refine Wx.aload_n hC te_320_47 rfl ?_
    refine Wx.getR hC te_320_48 rfl rfl rfl ?_
    refine Wx.aload_n hC te_320_51 rfl ?_
    refine Wx.iload_n hC te_320_52 rfl ?_
    refine Wx.iload_n hC te_320_53 rfl ?_
    refine Wx.aload_n hC te_320_54 rfl ?_
    refine Wx.getR hC te_320_55 rfl rfl rfl ?_
    refine Wx.iload_n hC te_320_58 rfl ?_
    refine Wx.iald hC te_320_59 rfl H.1 (fun v3 e1 e2 => ?_)
    replace H := H.2 v3 e1 e2
    refine Wx.virtI hC te_320_60 mt_321 (args := [.inr 143, .inl x1, .inl x2, .inl v3]) (rest := [.inr 166]) rfl rfl rfl rfl rfl rfl rfl rfl ?_
    refine CWI.mono hC (fun r5 m4 H hy => ?_) H
    replace H := H hy
    refine Wx.iload_n hC te_320_63 rfl ?_
    refine Wx.iast hC te_320_64 rfl H.1 ?_
    replace H := H.2
    exact Wx.vret hC te_320_65 rfl H
  · replace H := H.2 q
    refine Wx.aload_n hC te_320_22 rfl ?_
    refine Wx.getR hC te_320_23 rfl rfl rfl ?_
    refine Wx.bipush hC te_320_26 rfl rfl ?_
    refine Wx.aload_n hC te_320_28 rfl ?_
    refine Wx.iload_n hC te_320_29 rfl ?_
    refine Wx.virtI hC te_320_30 mt_250 (args := [.inr 143, .inl x1]) (rest := [.inl 64, .inr 165]) rfl rfl rfl rfl rfl rfl rfl rfl ?_
    refine CWI.mono hC (fun r7 m6 H hy => ?_) H
    replace H := H hy
    refine Wx.imul hC te_320_33 H.1 ?_
    replace H := H.2
    refine Wx.iload_n hC te_320_34 rfl ?_
    refine Wx.iadd hC te_320_35 H.1 ?_
    replace H := H.2
    refine Wx.aload_n hC te_320_36 rfl ?_
    refine Wx.iload_n hC te_320_37 rfl ?_
    refine Wx.virtI hC te_320_38 mt_251 (args := [.inr 143, .inl x1]) (rest := [.inl ((64 * r7) + x2), .inr 165]) rfl rfl rfl rfl rfl rfl rfl rfl ?_
    refine CWI.mono hC (fun r9 m8 H hy => ?_) H
    replace H := H hy
    refine Wx.iadd hC te_320_41 H.1 ?_
    replace H := H.2
    refine Wx.iload_n hC te_320_42 rfl ?_
    refine Wx.iast hC te_320_43 rfl H.1 ?_
    replace H := H.2
    refine Wx.goto hC (t := 65) te_320_44 (by decide) ?_
    exact Wx.vret hC te_320_65 rfl H
theorem w_317_0 {C : CXW} (hC : Cmono C) {S : Nat × (Nat → Int32)} {K : WK} {mem : MM} {x1 x2 x3 : Int} (H : (CWV C 318 [.inr 143] mem fun m1 => (Wx C S M_317 K 7 [some (.inr 143), some (.inl x1), some (.inl x2), some (.inl x3), some (.inl 0), none] [] m1))) : Wx C S M_317 K 0 [some (.inr 143), some (.inl x1), some (.inl x2), some (.inl x3), none, none] [] mem := by
  refine Wx.aload_n hC te_317_0 rfl ?_
  refine Wx.virtV hC te_317_1 mt_318 (args := [.inr 143]) (rest := []) rfl rfl rfl rfl rfl rfl rfl rfl ?_
  refine CWV.mono hC (fun m1 H => ?_) H
  refine Wx.iconst hC te_317_4 rfl ?_
  refine Wx.istore hC te_317_5 rfl ?_
  exact H
theorem w_317_7 {C : CXW} (hC : Cmono C) {S : Nat × (Nat → Int32)} {K : WK} {mem : MM} {x1 x2 x3 x4 : Int} (H : ∀ v1 : Int, v1 = mem 143 1 → InI v1 → ((v1 ≤ x4 → (Wx C S M_317 K 75 [some (.inr 143), some (.inl x1), some (.inl x2), some (.inl x3), some (.inl 0), none] [] mem)) ∧ (¬ (v1 ≤ x4) → (CWI C 295 [.inr 143, .inl x4, .inl x1] mem fun r3 m2 => InI r3 → ((0 : Int) ≤ x4 ∧ (x4 : Int) < 8) ∧ (Wx C S M_317 K 33 [some (.inr 143), some (.inl x1), some (.inl x2), some (.inl x3), some (.inl x4), some (.inl 0)] [] (upm m2 168 (Int.toNat x4) r3)))))) : Wx C S M_317 K 7 [some (.inr 143), some (.inl x1), some (.inl x2), some (.inl x3), some (.inl x4), none] [] mem := by
  refine Wx.iload hC te_317_7 rfl ?_
  refine Wx.aload_n hC te_317_9 rfl ?_
  refine Wx.getI hC te_317_10 rfl rfl rfl (fun v1 e1 e2 => ?_)
  replace H := H v1 e1 e2
  refine Wx.icmp hC (t := 72) te_317_13 (by decide) (fun q => ?_) (fun q => ?_)
  · replace H := H.1 q
    refine Wx.iconst hC te_317_72 rfl ?_
    refine Wx.istore hC te_317_73 rfl ?_
    exact H
  · replace H := H.2 q
    refine Wx.aload_n hC te_317_16 rfl ?_
    refine Wx.getR hC te_317_17 rfl rfl rfl ?_
    refine Wx.iload hC te_317_20 rfl ?_
    refine Wx.aload_n hC te_317_22 rfl ?_
    refine Wx.iload hC te_317_23 rfl ?_
    refine Wx.iload_n hC te_317_25 rfl ?_
    refine Wx.virtI hC te_317_26 mt_295 (args := [.inr 143, .inl x4, .inl x1]) (rest := [.inl x4, .inr 168]) rfl rfl rfl rfl rfl rfl rfl rfl ?_
    refine CWI.mono hC (fun r3 m2 H hy => ?_) H
    replace H := H hy
    refine Wx.iast hC te_317_29 rfl H.1 ?_
    replace H := H.2
    refine Wx.iconst hC te_317_30 rfl ?_
    refine Wx.istore hC te_317_31 rfl ?_
    exact H
theorem w_317_33 {C : CXW} (hC : Cmono C) {S : Nat × (Nat → Int32)} {K : WK} {mem : MM} {x1 x2 x3 x4 x5 : Int} (H : ((80 ≤ x5 → (InI (x4 + 1)) ∧ (Wx C S M_317 K 7 [some (.inr 143), some (.inl x1), some (.inl x2), some (.inl x3), some (.inl (x4 + 1)), none] [] mem)) ∧ (¬ (80 ≤ x5) → (InI (80 * x4)) ∧ (InI ((80 * x4) + x5)) ∧ ((0 : Int) ≤ x4 ∧ (x4 : Int) < 8) ∧ ∀ v1 : Int, v1 = mem 149 (Int.toNat x4) → InI v1 → ((0 : Int) ≤ ((80 * x4) + x5) ∧ (((80 * x4) + x5) : Int) < 640) ∧ (InI (x5 + 1)) ∧ (Wx C S M_317 K 33 [some (.inr 143), some (.inl x1), some (.inl x2), some (.inl x3), some (.inl x4), some (.inl (x5 + 1))] [] (upm mem 166 (Int.toNat ((80 * x4) + x5)) v1))))) : Wx C S M_317 K 33 [some (.inr 143), some (.inl x1), some (.inl x2), some (.inl x3), some (.inl x4), some (.inl x5)] [] mem := by
  refine Wx.iload hC te_317_33 rfl ?_
  refine Wx.bipush hC te_317_35 rfl rfl ?_
  refine Wx.icmp hC (t := 66) te_317_37 (by decide) (fun q => ?_) (fun q => ?_)
  · replace H := H.1 q
    refine Wx.iinc hC te_317_66 rfl rfl H.1 ?_
    replace H := H.2
    refine Wx.goto hC (t := 7) te_317_69 (by decide) ?_
    exact Wx.weak (by repeat' (first | exact trivial | exact rfl | constructor)) H
  · replace H := H.2 q
    refine Wx.aload_n hC te_317_40 rfl ?_
    refine Wx.getR hC te_317_41 rfl rfl rfl ?_
    refine Wx.bipush hC te_317_44 rfl rfl ?_
    refine Wx.iload hC te_317_46 rfl ?_
    refine Wx.imul hC te_317_48 H.1 ?_
    replace H := H.2
    refine Wx.iload hC te_317_49 rfl ?_
    refine Wx.iadd hC te_317_51 H.1 ?_
    replace H := H.2
    refine Wx.aload_n hC te_317_52 rfl ?_
    refine Wx.getR hC te_317_53 rfl rfl rfl ?_
    refine Wx.iload hC te_317_56 rfl ?_
    refine Wx.iald hC te_317_58 rfl H.1 (fun v1 e1 e2 => ?_)
    replace H := H.2 v1 e1 e2
    refine Wx.iast hC te_317_59 rfl H.1 ?_
    replace H := H.2
    refine Wx.iinc hC te_317_60 rfl rfl H.1 ?_
    replace H := H.2
    refine Wx.goto hC (t := 33) te_317_63 (by decide) ?_
    exact H
theorem w_317_75 {C : CXW} (hC : Cmono C) {S : Nat × (Nat → Int32)} {K : WK} {mem : MM} {x1 x2 x3 x4 : Int} (H : ((x3 < x4 → (K none mem)) ∧ (¬ (x3 < x4) → (Wx C S M_317 K 84 [some (.inr 143), some (.inl x1), some (.inl x2), some (.inl x3), some (.inl x4), some (.inl 0)] [] mem)))) : Wx C S M_317 K 75 [some (.inr 143), some (.inl x1), some (.inl x2), some (.inl x3), some (.inl x4), none] [] mem := by
  refine Wx.iload hC te_317_75 rfl ?_
  refine Wx.iload_n hC te_317_77 rfl ?_
  refine Wx.icmp hC (t := 222) te_317_78 (by decide) (fun q => ?_) (fun q => ?_)
  · replace H := H.1 q
    exact Wx.vret hC te_317_222 rfl H
  · replace H := H.2 q
    refine Wx.iconst hC te_317_81 rfl ?_
    refine Wx.istore hC te_317_82 rfl ?_
    exact H
theorem w_317_84 {C : CXW} (hC : Cmono C) {S : Nat × (Nat → Int32)} {K : WK} {mem : MM} {x1 x2 x3 x4 x5 : Int} (H : ∀ v1 : Int, v1 = mem 143 1 → InI v1 → ((v1 ≤ x5 → (Wx C S M_317 K 138 [some (.inr 143), some (.inl x1), some (.inl x2), some (.inl x3), some (.inl x4), some (.inl 0)] [] mem)) ∧ (¬ (v1 ≤ x5) → (CWI C 299 [.inr 143, .inl x5] mem fun r3 m2 => InI r3 → (CWI C 319 [.inl x4, .inl r3, .inl x1, .inl x2] m2 fun r5 m4 => InI r5 → ((r5 = (-1) → (InI (x5 + 1)) ∧ (Wx C S M_317 K 84 [some (.inr 143), some (.inl x1), some (.inl x2), some (.inl x3), some (.inl x4), some (.inl (x5 + 1))] [] m4)) ∧ (¬ (r5 = (-1)) → (CWI C 299 [.inr 143, .inl x5] m4 fun r7 m6 => InI r7 → (CWI C 319 [.inl x4, .inl r7, .inl x1, .inl x2] m6 fun r9 m8 => InI r9 → (CWV C 320 [.inr 143, .inl x5, .inl r9] m8 fun m10 => (InI (x5 + 1)) ∧ (Wx C S M_317 K 84 [some (.inr 143), some (.inl x1), some (.inl x2), some (.inl x3), some (.inl x4), some (.inl (x5 + 1))] [] m10))))))))))) : Wx C S M_317 K 84 [some (.inr 143), some (.inl x1), some (.inl x2), some (.inl x3), some (.inl x4), some (.inl x5)] [] mem := by
  refine Wx.iload hC te_317_84 rfl ?_
  refine Wx.aload_n hC te_317_86 rfl ?_
  refine Wx.getI hC te_317_87 rfl rfl rfl (fun v1 e1 e2 => ?_)
  replace H := H v1 e1 e2
  refine Wx.icmp hC (t := 135) te_317_90 (by decide) (fun q => ?_) (fun q => ?_)
  · replace H := H.1 q
    refine Wx.iconst hC te_317_135 rfl ?_
    refine Wx.istore hC te_317_136 rfl ?_
    exact H
  · replace H := H.2 q
    refine Wx.iload hC te_317_93 rfl ?_
    refine Wx.aload_n hC te_317_95 rfl ?_
    refine Wx.iload hC te_317_96 rfl ?_
    refine Wx.virtI hC te_317_98 mt_299 (args := [.inr 143, .inl x5]) (rest := [.inl x4]) rfl rfl rfl rfl rfl rfl rfl rfl ?_
    refine CWI.mono hC (fun r3 m2 H hy => ?_) H
    replace H := H hy
    refine Wx.iload_n hC te_317_101 rfl ?_
    refine Wx.iload_n hC te_317_102 rfl ?_
    refine Wx.statI hC te_317_103 (by decide) mt_319 (args := [.inl x4, .inl r3, .inl x1, .inl x2]) (rest := []) rfl rfl rfl rfl rfl ?_
    refine CWI.mono hC (fun r5 m4 H hy => ?_) H
    replace H := H hy
    refine Wx.iconst hC te_317_106 rfl ?_
    refine Wx.icmp hC (t := 129) te_317_107 (by decide) (fun q => ?_) (fun q => ?_)
    · replace H := H.1 q
      refine Wx.iinc hC te_317_129 rfl rfl H.1 ?_
      replace H := H.2
      refine Wx.goto hC (t := 84) te_317_132 (by decide) ?_
      exact H
    · replace H := H.2 q
      refine Wx.aload_n hC te_317_110 rfl ?_
      refine Wx.iload hC te_317_111 rfl ?_
      refine Wx.iload hC te_317_113 rfl ?_
      refine Wx.aload_n hC te_317_115 rfl ?_
      refine Wx.iload hC te_317_116 rfl ?_
      refine Wx.virtI hC te_317_118 mt_299 (args := [.inr 143, .inl x5]) (rest := [.inl x4, .inl x5, .inr 143]) rfl rfl rfl rfl rfl rfl rfl rfl ?_
      refine CWI.mono hC (fun r7 m6 H hy => ?_) H
      replace H := H hy
      refine Wx.iload_n hC te_317_121 rfl ?_
      refine Wx.iload_n hC te_317_122 rfl ?_
      refine Wx.statI hC te_317_123 (by decide) mt_319 (args := [.inl x4, .inl r7, .inl x1, .inl x2]) (rest := [.inl x5, .inr 143]) rfl rfl rfl rfl rfl ?_
      refine CWI.mono hC (fun r9 m8 H hy => ?_) H
      replace H := H hy
      refine Wx.virtV hC te_317_126 mt_320 (args := [.inr 143, .inl x5, .inl r9]) (rest := []) rfl rfl rfl rfl rfl rfl rfl rfl ?_
      refine CWV.mono hC (fun m10 H => ?_) H
      refine Wx.iinc hC te_317_129 rfl rfl H.1 ?_
      replace H := H.2
      refine Wx.goto hC (t := 84) te_317_132 (by decide) ?_
      exact H
theorem w_317_138 {C : CXW} (hC : Cmono C) {S : Nat × (Nat → Int32)} {K : WK} {mem : MM} {x1 x2 x3 x4 x5 : Int} (H : ∀ v1 : Int, v1 = mem 143 1 → InI v1 → ((v1 ≤ x5 → (InI (x4 + 1)) ∧ (Wx C S M_317 K 75 [some (.inr 143), some (.inl x1), some (.inl x2), some (.inl x3), some (.inl (x4 + 1)), none] [] mem)) ∧ (¬ (v1 ≤ x5) → ((0 : Int) ≤ x5 ∧ (x5 : Int) < 8) ∧ ∀ v2 : Int, v2 = mem 161 (Int.toNat x5) → InI v2 → (CWI C 319 [.inl x4, .inl v2, .inl x1, .inl x2] mem fun r4 m3 => InI r4 → ((r4 = (-1) → (InI (x5 + 1)) ∧ (Wx C S M_317 K 138 [some (.inr 143), some (.inl x1), some (.inl x2), some (.inl x3), some (.inl x4), some (.inl (x5 + 1))] [] m3)) ∧ (¬ (r4 = (-1)) → (InI (41 * x5)) ∧ ((0 : Int) ≤ x5 ∧ (x5 : Int) < 8) ∧ ∀ v5 : Int, v5 = m3 161 (Int.toNat x5) → InI v5 → (CWI C 319 [.inl x4, .inl v5, .inl x1, .inl x2] m3 fun r7 m6 => InI r7 → (InI ((41 * x5) + r7)) ∧ ((0 : Int) ≤ x5 ∧ (x5 : Int) < 8) ∧ ∀ v8 : Int, v8 = m6 161 (Int.toNat x5) → InI v8 → (CWI C 319 [.inl x4, .inl v8, .inl x1, .inl x2] m6 fun r10 m9 => InI r10 → (CWI C 322 [.inr 143, .inl x5, .inl r10] m9 fun r12 m11 => InI r12 → ((0 : Int) ≤ ((41 * x5) + r7) ∧ (((41 * x5) + r7) : Int) < 328) ∧ (InI (x5 + 1)) ∧ (Wx C S M_317 K 138 [some (.inr 143), some (.inl x1), some (.inl x2), some (.inl x3), some (.inl x4), some (.inl (x5 + 1))] [] (upm m11 167 (Int.toNat ((41 * x5) + r7)) r12))))))))))) : Wx C S M_317 K 138 [some (.inr 143), some (.inl x1), some (.inl x2), some (.inl x3), some (.inl x4), some (.inl x5)] [] mem := by
  refine Wx.iload hC te_317_138 rfl ?_
  refine Wx.aload_n hC te_317_140 rfl ?_
  refine Wx.getI hC te_317_141 rfl rfl rfl (fun v1 e1 e2 => ?_)
  replace H := H v1 e1 e2
  refine Wx.icmp hC (t := 216) te_317_144 (by decide) (fun q => ?_) (fun q => ?_)
  · replace H := H.1 q
    refine Wx.iinc hC te_317_216 rfl rfl H.1 ?_
    replace H := H.2
    refine Wx.goto hC (t := 75) te_317_219 (by decide) ?_
    exact Wx.weak (by repeat' (first | exact trivial | exact rfl | constructor)) H
  · replace H := H.2 q
    refine Wx.iload hC te_317_147 rfl ?_
    refine Wx.aload_n hC te_317_149 rfl ?_
    refine Wx.getR hC te_317_150 rfl rfl rfl ?_
    refine Wx.iload hC te_317_153 rfl ?_
    refine Wx.iald hC te_317_155 rfl H.1 (fun v2 e1 e2 => ?_)
    replace H := H.2 v2 e1 e2
    refine Wx.iload_n hC te_317_156 rfl ?_
    refine Wx.iload_n hC te_317_157 rfl ?_
    refine Wx.statI hC te_317_158 (by decide) mt_319 (args := [.inl x4, .inl v2, .inl x1, .inl x2]) (rest := []) rfl rfl rfl rfl rfl ?_
    refine CWI.mono hC (fun r4 m3 H hy => ?_) H
    replace H := H hy
    refine Wx.iconst hC te_317_161 rfl ?_
    refine Wx.icmp hC (t := 210) te_317_162 (by decide) (fun q => ?_) (fun q => ?_)
    · replace H := H.1 q
      refine Wx.iinc hC te_317_210 rfl rfl H.1 ?_
      replace H := H.2
      refine Wx.goto hC (t := 138) te_317_213 (by decide) ?_
      exact H
    · replace H := H.2 q
      refine Wx.aload_n hC te_317_165 rfl ?_
      refine Wx.getR hC te_317_166 rfl rfl rfl ?_
      refine Wx.bipush hC te_317_169 rfl rfl ?_
      refine Wx.iload hC te_317_171 rfl ?_
      refine Wx.imul hC te_317_173 H.1 ?_
      replace H := H.2
      refine Wx.iload hC te_317_174 rfl ?_
      refine Wx.aload_n hC te_317_176 rfl ?_
      refine Wx.getR hC te_317_177 rfl rfl rfl ?_
      refine Wx.iload hC te_317_180 rfl ?_
      refine Wx.iald hC te_317_182 rfl H.1 (fun v5 e1 e2 => ?_)
      replace H := H.2 v5 e1 e2
      refine Wx.iload_n hC te_317_183 rfl ?_
      refine Wx.iload_n hC te_317_184 rfl ?_
      refine Wx.statI hC te_317_185 (by decide) mt_319 (args := [.inl x4, .inl v5, .inl x1, .inl x2]) (rest := [.inl (41 * x5), .inr 167]) rfl rfl rfl rfl rfl ?_
      refine CWI.mono hC (fun r7 m6 H hy => ?_) H
      replace H := H hy
      refine Wx.iadd hC te_317_188 H.1 ?_
      replace H := H.2
      refine Wx.aload_n hC te_317_189 rfl ?_
      refine Wx.iload hC te_317_190 rfl ?_
      refine Wx.iload hC te_317_192 rfl ?_
      refine Wx.aload_n hC te_317_194 rfl ?_
      refine Wx.getR hC te_317_195 rfl rfl rfl ?_
      refine Wx.iload hC te_317_198 rfl ?_
      refine Wx.iald hC te_317_200 rfl H.1 (fun v8 e1 e2 => ?_)
      replace H := H.2 v8 e1 e2
      refine Wx.iload_n hC te_317_201 rfl ?_
      refine Wx.iload_n hC te_317_202 rfl ?_
      refine Wx.statI hC te_317_203 (by decide) mt_319 (args := [.inl x4, .inl v8, .inl x1, .inl x2]) (rest := [.inl x5, .inr 143, .inl ((41 * x5) + r7), .inr 167]) rfl rfl rfl rfl rfl ?_
      refine CWI.mono hC (fun r10 m9 H hy => ?_) H
      replace H := H hy
      refine Wx.virtI hC te_317_206 mt_322 (args := [.inr 143, .inl x5, .inl r10]) (rest := [.inl ((41 * x5) + r7), .inr 167]) rfl rfl rfl rfl rfl rfl rfl rfl ?_
      refine CWI.mono hC (fun r12 m11 H hy => ?_) H
      replace H := H hy
      refine Wx.iast hC te_317_209 rfl H.1 ?_
      replace H := H.2
      refine Wx.iinc hC te_317_210 rfl rfl H.1 ?_
      replace H := H.2
      refine Wx.goto hC (t := 138) te_317_213 (by decide) ?_
      exact H
theorem w_315_0 {C : CXW} (hC : Cmono C) {S : Nat × (Nat → Int32)} {K : WK} {mem : MM} {x1 x2 x3 x4 : Int} (H : (CWI C 316 [.inl x1, .inl x2] mem fun r2 m1 => InI r2 → ((¬ r2 = 0 → (CWI C 311 [.inr 143, .inl x3, .inl x4] m1 fun r4 m3 => InI r4 → ((r4 ≤ 0 → (CWI C 313 [.inr 143, .inl x3, .inl x4] (upm m3 143 0 r4) fun r7 m6 => InI r7 → (CWV C 317 [.inr 143, .inl x3, .inl x4, .inl r7] m6 fun m8 => (InI (64 * x1)) ∧ (InI ((64 * x1) + x2)) ∧ ((0 : Int) ≤ ((64 * x1) + x2) ∧ (((64 * x1) + x2) : Int) < 128) ∧ ∀ v9 : Int, v9 = m8 165 (Int.toNat ((64 * x1) + x2)) → InI v9 → (InI v9 → K (some v9) m8)))) ∧ (¬ (r4 ≤ 0) → (InI 0 → K (some 0) (upm m3 143 0 r4)))))) ∧ (¬ (¬ r2 = 0) → (InI 0 → K (some 0) (upm m1 143 0 1)))))) : Wx C S M_315 K 0 [some (.inr 143), some (.inl x1), some (.inl x2), some (.inl x3), some (.inl x4)] [] mem := by
  refine Wx.aload_n hC te_315_0 rfl ?_
  refine Wx.iload_n hC te_315_1 rfl ?_
  refine Wx.iload_n hC te_315_2 rfl ?_
  refine Wx.statI hC te_315_3 (by decide) mt_316 (args := [.inl x1, .inl x2]) (rest := [.inr 143]) rfl rfl rfl rfl rfl ?_
  refine CWI.mono hC (fun r2 m1 H hy => ?_) H
  replace H := H hy
  refine Wx.ifc hC (t := 13) te_315_6 (by decide) (fun q => ?_) (fun q => ?_)
  · replace H := H.1 q
    refine Wx.aload_n hC te_315_13 rfl ?_
    refine Wx.iload_n hC te_315_14 rfl ?_
    refine Wx.iload hC te_315_15 rfl ?_
    refine Wx.virtI hC te_315_17 mt_311 (args := [.inr 143, .inl x3, .inl x4]) (rest := [.inr 143]) rfl rfl rfl rfl rfl rfl rfl rfl ?_
    refine CWI.mono hC (fun r4 m3 H hy => ?_) H
    replace H := H hy
    refine Wx.putI hC te_315_20 rfl rfl rfl rfl ?_
    refine Wx.aload_n hC te_315_23 rfl ?_
    refine Wx.getI hC te_315_24 rfl rfl rfl (fun c5 e1 e2 => ?_)
    rw [upm_eq] at e1
    subst e1
    refine Wx.ifc hC (t := 32) te_315_27 (by decide) (fun q => ?_) (fun q => ?_)
    · replace H := H.1 q
      refine Wx.aload_n hC te_315_32 rfl ?_
      refine Wx.iload_n hC te_315_33 rfl ?_
      refine Wx.iload hC te_315_34 rfl ?_
      refine Wx.aload_n hC te_315_36 rfl ?_
      refine Wx.iload_n hC te_315_37 rfl ?_
      refine Wx.iload hC te_315_38 rfl ?_
      refine Wx.virtI hC te_315_40 mt_313 (args := [.inr 143, .inl x3, .inl x4]) (rest := [.inl x4, .inl x3, .inr 143]) rfl rfl rfl rfl rfl rfl rfl rfl ?_
      refine CWI.mono hC (fun r7 m6 H hy => ?_) H
      replace H := H hy
      refine Wx.virtV hC te_315_43 mt_317 (args := [.inr 143, .inl x3, .inl x4, .inl r7]) (rest := []) rfl rfl rfl rfl rfl rfl rfl rfl ?_
      refine CWV.mono hC (fun m8 H => ?_) H
      refine Wx.aload_n hC te_315_46 rfl ?_
      refine Wx.getR hC te_315_47 rfl rfl rfl ?_
      refine Wx.bipush hC te_315_50 rfl rfl ?_
      refine Wx.iload_n hC te_315_52 rfl ?_
      refine Wx.imul hC te_315_53 H.1 ?_
      replace H := H.2
      refine Wx.iload_n hC te_315_54 rfl ?_
      refine Wx.iadd hC te_315_55 H.1 ?_
      replace H := H.2
      refine Wx.iald hC te_315_56 rfl H.1 (fun v9 e1 e2 => ?_)
      replace H := H.2 v9 e1 e2
      exact Wx.ireturn hC te_315_57 rfl H
    · replace H := H.2 q
      refine Wx.iconst hC te_315_30 rfl ?_
      exact Wx.ireturn hC te_315_31 rfl H
  · replace H := H.2 q
    refine Wx.iconst hC te_315_9 rfl ?_
    refine Wx.goto hC (t := 20) te_315_10 (by decide) ?_
    refine Wx.putI hC te_315_20 rfl rfl rfl rfl ?_
    refine Wx.aload_n hC te_315_23 rfl ?_
    refine Wx.getI hC te_315_24 rfl rfl rfl (fun c10 e1 e2 => ?_)
    rw [upm_eq] at e1
    subst e1
    refine Wx.ifc hC (t := 32) te_315_27 (by decide) (fun q => absurd q (show ¬ ((1 : Int) ≤ 0) by decide)) (fun q => ?_)
    refine Wx.iconst hC te_315_30 rfl ?_
    exact Wx.ireturn hC te_315_31 rfl H
theorem w_325_0 {C : CXW} (hC : Cmono C) {S : Nat × (Nat → Int32)} {K : WK} {mem : MM} {x1 x2 x3 : Int} (H : (CWI C 235 [.inr 143, .inl x1] mem fun r2 m1 => InI r2 → ((¬ r2 = 0 → ((0 : Int) ≤ x1 ∧ (x1 : Int) < 8) ∧ ∀ v3 : Int, v3 = m1 144 (Int.toNat x1) → InI v3 → ((¬ v3 = 5 → (CWI C 311 [.inr 143, .inl x2, .inl x3] (upm m1 143 0 0) fun r6 m5 => InI r6 → ((r6 ≤ 0 → (CWI C 313 [.inr 143, .inl x2, .inl x3] (upm m5 143 0 0) fun r9 m8 => InI r9 → (CWV C 317 [.inr 143, .inl x2, .inl x3, .inl r9] m8 fun m10 => ((¬ x3 = 0 → (InI (41 * x1)) ∧ (InI ((41 * x1) + x3)) ∧ (InI (((41 * x1) + x3) - 1)) ∧ ((0 : Int) ≤ (((41 * x1) + x3) - 1) ∧ ((((41 * x1) + x3) - 1) : Int) < 328) ∧ ∀ v11 : Int, v11 = m10 167 (Int.toNat (((41 * x1) + x3) - 1)) → InI v11 → (InI v11 → K (some v11) m10)) ∧ (¬ (¬ x3 = 0) → ((0 : Int) ≤ x1 ∧ (x1 : Int) < 8) ∧ ∀ v12 : Int, v12 = m10 149 (Int.toNat x1) → InI v12 → (InI v12 → K (some v12) m10)))))) ∧ (¬ (r6 ≤ 0) → (InI (r6 + 1)) ∧ ∀ v13 : Int, v13 = (upm m5 143 0 (r6 + 1)) 143 0 → InI v13 → ((v13 ≤ 0 → (CWI C 313 [.inr 143, .inl x2, .inl x3] (upm m5 143 0 (r6 + 1)) fun r15 m14 => InI r15 → (CWV C 317 [.inr 143, .inl x2, .inl x3, .inl r15] m14 fun m16 => ((¬ x3 = 0 → (InI (41 * x1)) ∧ (InI ((41 * x1) + x3)) ∧ (InI (((41 * x1) + x3) - 1)) ∧ ((0 : Int) ≤ (((41 * x1) + x3) - 1) ∧ ((((41 * x1) + x3) - 1) : Int) < 328) ∧ ∀ v17 : Int, v17 = m16 167 (Int.toNat (((41 * x1) + x3) - 1)) → InI v17 → (InI v17 → K (some v17) m16)) ∧ (¬ (¬ x3 = 0) → ((0 : Int) ≤ x1 ∧ (x1 : Int) < 8) ∧ ∀ v18 : Int, v18 = m16 149 (Int.toNat x1) → InI v18 → (InI v18 → K (some v18) m16)))))) ∧ (¬ (v13 ≤ 0) → (InI 0 → K (some 0) (upm m5 143 0 (r6 + 1))))))))) ∧ (¬ (¬ v3 = 5) → (InI 0 → K (some 0) (upm m1 143 0 2))))) ∧ (¬ (¬ r2 = 0) → (InI 0 → K (some 0) (upm m1 143 0 1)))))) : Wx C S M_325 K 0 [some (.inr 143), some (.inl x1), some (.inl x2), some (.inl x3), none] [] mem := by
  refine Wx.aload_n hC te_325_0 rfl ?_
  refine Wx.aload_n hC te_325_1 rfl ?_
  refine Wx.iload_n hC te_325_2 rfl ?_
  refine Wx.virtI hC te_325_3 mt_235 (args := [.inr 143, .inl x1]) (rest := [.inr 143]) rfl rfl rfl rfl rfl rfl rfl rfl ?_
  refine CWI.mono hC (fun r2 m1 H hy => ?_) H
  replace H := H hy
  refine Wx.ifc hC (t := 13) te_325_6 (by decide) (fun q => ?_) (fun q => ?_)
  · replace H := H.1 q
    refine Wx.aload_n hC te_325_13 rfl ?_
    refine Wx.getR hC te_325_14 rfl rfl rfl ?_
    refine Wx.iload_n hC te_325_17 rfl ?_
    refine Wx.iald hC te_325_18 rfl H.1 (fun v3 e1 e2 => ?_)
    replace H := H.2 v3 e1 e2
    refine Wx.iconst hC te_325_19 rfl ?_
    refine Wx.icmp hC (t := 27) te_325_20 (by decide) (fun q => ?_) (fun q => ?_)
    · replace H := H.1 q
      refine Wx.iconst hC te_325_27 rfl ?_
      refine Wx.putI hC te_325_28 rfl rfl rfl rfl ?_
      refine Wx.aload_n hC te_325_31 rfl ?_
      refine Wx.getI hC te_325_32 rfl rfl rfl (fun c4 e1 e2 => ?_)
      rw [upm_eq] at e1
      subst e1
      refine Wx.ifc hC (t := 40) te_325_35 (by decide) (fun q => ?_) (fun q => absurd (show (0 : Int) ≤ 0 by decide) q)
      refine Wx.aload_n hC te_325_40 rfl ?_
      refine Wx.iload_n hC te_325_41 rfl ?_
      refine Wx.iload_n hC te_325_42 rfl ?_
      refine Wx.virtI hC te_325_43 mt_311 (args := [.inr 143, .inl x2, .inl x3]) (rest := []) rfl rfl rfl rfl rfl rfl rfl rfl ?_
      refine CWI.mono hC (fun r6 m5 H hy => ?_) H
      replace H := H hy
      refine Wx.istore hC te_325_46 rfl ?_
      refine Wx.aload_n hC te_325_48 rfl ?_
      refine Wx.iload hC te_325_49 rfl ?_
      refine Wx.ifc hC (t := 61) te_325_51 (by decide) (fun q => ?_) (fun q => ?_)
      · replace H := H.1 q
        refine Wx.iconst hC te_325_61 rfl ?_
        refine Wx.putI hC te_325_62 rfl rfl rfl rfl ?_
        refine Wx.aload_n hC te_325_65 rfl ?_
        refine Wx.getI hC te_325_66 rfl rfl rfl (fun c7 e1 e2 => ?_)
        rw [upm_eq] at e1
        subst e1
        refine Wx.ifc hC (t := 74) te_325_69 (by decide) (fun q => ?_) (fun q => absurd (show (0 : Int) ≤ 0 by decide) q)
        refine Wx.aload_n hC te_325_74 rfl ?_
        refine Wx.iload_n hC te_325_75 rfl ?_
        refine Wx.iload_n hC te_325_76 rfl ?_
        refine Wx.aload_n hC te_325_77 rfl ?_
        refine Wx.iload_n hC te_325_78 rfl ?_
        refine Wx.iload_n hC te_325_79 rfl ?_
        refine Wx.virtI hC te_325_80 mt_313 (args := [.inr 143, .inl x2, .inl x3]) (rest := [.inl x3, .inl x2, .inr 143]) rfl rfl rfl rfl rfl rfl rfl rfl ?_
        refine CWI.mono hC (fun r9 m8 H hy => ?_) H
        replace H := H hy
        refine Wx.virtV hC te_325_83 mt_317 (args := [.inr 143, .inl x2, .inl x3, .inl r9]) (rest := []) rfl rfl rfl rfl rfl rfl rfl rfl ?_
        refine CWV.mono hC (fun m10 H => ?_) H
        refine Wx.iload_n hC te_325_86 rfl ?_
        refine Wx.ifc hC (t := 99) te_325_87 (by decide) (fun q => ?_) (fun q => ?_)
        · replace H := H.1 q
          refine Wx.aload_n hC te_325_99 rfl ?_
          refine Wx.getR hC te_325_100 rfl rfl rfl ?_
          refine Wx.bipush hC te_325_103 rfl rfl ?_
          refine Wx.iload_n hC te_325_105 rfl ?_
          refine Wx.imul hC te_325_106 H.1 ?_
          replace H := H.2
          refine Wx.iload_n hC te_325_107 rfl ?_
          refine Wx.iadd hC te_325_108 H.1 ?_
          replace H := H.2
          refine Wx.iconst hC te_325_109 rfl ?_
          refine Wx.isub hC te_325_110 H.1 ?_
          replace H := H.2
          refine Wx.iald hC te_325_111 rfl H.1 (fun v11 e1 e2 => ?_)
          replace H := H.2 v11 e1 e2
          exact Wx.ireturn hC te_325_112 rfl H
        · replace H := H.2 q
          refine Wx.aload_n hC te_325_90 rfl ?_
          refine Wx.getR hC te_325_91 rfl rfl rfl ?_
          refine Wx.iload_n hC te_325_94 rfl ?_
          refine Wx.iald hC te_325_95 rfl H.1 (fun v12 e1 e2 => ?_)
          replace H := H.2 v12 e1 e2
          refine Wx.goto hC (t := 112) te_325_96 (by decide) ?_
          exact Wx.ireturn hC te_325_112 rfl H
      · replace H := H.2 q
        refine Wx.iload hC te_325_54 rfl ?_
        refine Wx.iconst hC te_325_56 rfl ?_
        refine Wx.iadd hC te_325_57 H.1 ?_
        replace H := H.2
        refine Wx.goto hC (t := 62) te_325_58 (by decide) ?_
        refine Wx.putI hC te_325_62 rfl rfl rfl rfl ?_
        refine Wx.aload_n hC te_325_65 rfl ?_
        refine Wx.getI hC te_325_66 rfl rfl rfl (fun v13 e1 e2 => ?_)
        replace H := H v13 e1 e2
        refine Wx.ifc hC (t := 74) te_325_69 (by decide) (fun q => ?_) (fun q => ?_)
        · replace H := H.1 q
          refine Wx.aload_n hC te_325_74 rfl ?_
          refine Wx.iload_n hC te_325_75 rfl ?_
          refine Wx.iload_n hC te_325_76 rfl ?_
          refine Wx.aload_n hC te_325_77 rfl ?_
          refine Wx.iload_n hC te_325_78 rfl ?_
          refine Wx.iload_n hC te_325_79 rfl ?_
          refine Wx.virtI hC te_325_80 mt_313 (args := [.inr 143, .inl x2, .inl x3]) (rest := [.inl x3, .inl x2, .inr 143]) rfl rfl rfl rfl rfl rfl rfl rfl ?_
          refine CWI.mono hC (fun r15 m14 H hy => ?_) H
          replace H := H hy
          refine Wx.virtV hC te_325_83 mt_317 (args := [.inr 143, .inl x2, .inl x3, .inl r15]) (rest := []) rfl rfl rfl rfl rfl rfl rfl rfl ?_
          refine CWV.mono hC (fun m16 H => ?_) H
          refine Wx.iload_n hC te_325_86 rfl ?_
          refine Wx.ifc hC (t := 99) te_325_87 (by decide) (fun q => ?_) (fun q => ?_)
          · replace H := H.1 q
            refine Wx.aload_n hC te_325_99 rfl ?_
            refine Wx.getR hC te_325_100 rfl rfl rfl ?_
            refine Wx.bipush hC te_325_103 rfl rfl ?_
            refine Wx.iload_n hC te_325_105 rfl ?_
            refine Wx.imul hC te_325_106 H.1 ?_
            replace H := H.2
            refine Wx.iload_n hC te_325_107 rfl ?_
            refine Wx.iadd hC te_325_108 H.1 ?_
            replace H := H.2
            refine Wx.iconst hC te_325_109 rfl ?_
            refine Wx.isub hC te_325_110 H.1 ?_
            replace H := H.2
            refine Wx.iald hC te_325_111 rfl H.1 (fun v17 e1 e2 => ?_)
            replace H := H.2 v17 e1 e2
            exact Wx.ireturn hC te_325_112 rfl H
          · replace H := H.2 q
            refine Wx.aload_n hC te_325_90 rfl ?_
            refine Wx.getR hC te_325_91 rfl rfl rfl ?_
            refine Wx.iload_n hC te_325_94 rfl ?_
            refine Wx.iald hC te_325_95 rfl H.1 (fun v18 e1 e2 => ?_)
            replace H := H.2 v18 e1 e2
            refine Wx.goto hC (t := 112) te_325_96 (by decide) ?_
            exact Wx.ireturn hC te_325_112 rfl H
        · replace H := H.2 q
          refine Wx.iconst hC te_325_72 rfl ?_
          exact Wx.ireturn hC te_325_73 rfl H
    · replace H := H.2 q
      refine Wx.iconst hC te_325_23 rfl ?_
      refine Wx.goto hC (t := 28) te_325_24 (by decide) ?_
      refine Wx.putI hC te_325_28 rfl rfl rfl rfl ?_
      refine Wx.aload_n hC te_325_31 rfl ?_
      refine Wx.getI hC te_325_32 rfl rfl rfl (fun c19 e1 e2 => ?_)
      rw [upm_eq] at e1
      subst e1
      refine Wx.ifc hC (t := 40) te_325_35 (by decide) (fun q => absurd q (show ¬ ((2 : Int) ≤ 0) by decide)) (fun q => ?_)
      refine Wx.iconst hC te_325_38 rfl ?_
      exact Wx.ireturn hC te_325_39 rfl H
  · replace H := H.2 q
    refine Wx.iconst hC te_325_9 rfl ?_
    refine Wx.goto hC (t := 28) te_325_10 (by decide) ?_
    refine Wx.putI hC te_325_28 rfl rfl rfl rfl ?_
    refine Wx.aload_n hC te_325_31 rfl ?_
    refine Wx.getI hC te_325_32 rfl rfl rfl (fun c20 e1 e2 => ?_)
    rw [upm_eq] at e1
    subst e1
    refine Wx.ifc hC (t := 40) te_325_35 (by decide) (fun q => absurd q (show ¬ ((1 : Int) ≤ 0) by decide)) (fun q => ?_)
    refine Wx.iconst hC te_325_38 rfl ?_
    exact Wx.ireturn hC te_325_39 rfl H
theorem w_326_0 {C : CXW} (hC : Cmono C) {S : Nat × (Nat → Int32)} {K : WK} {mem : MM} {x1 x2 x3 x4 x5 : Int} (H : (CWI C 235 [.inr 143, .inl x1] mem fun r2 m1 => InI r2 → ((¬ r2 = 0 → ((0 : Int) ≤ x1 ∧ (x1 : Int) < 8) ∧ ∀ v3 : Int, v3 = m1 144 (Int.toNat x1) → InI v3 → ((¬ v3 = 5 → (CWI C 311 [.inr 143, .inl x4, .inl x5] (upm m1 143 0 0) fun r6 m5 => InI r6 → ((¬ r6 = 0 → ((¬ r6 = 2 → (InI 0 → K (some 0) (upm m5 143 0 2))) ∧ (¬ (¬ r6 = 2) → ((x3 < 0 → (InI 0 → K (some 0) (upm m5 143 0 2))) ∧ (¬ (x3 < 0) → ((x2 < 0 → (InI 0 → K (some 0) (upm m5 143 0 2))) ∧ (¬ (x2 < 0) → (InI 0 → K (some 0) (upm m5 143 0 3))))))))) ∧ (¬ (¬ r6 = 0) → (CWI C 295 [.inr 143, .inl x1, .inl x4] m5 fun r12 m11 => InI r12 → (InI (r12 - 1)) ∧ (CWI C 227 [.inl x2, .inl 0, .inl (r12 - 1)] m11 fun r14 m13 => InI r14 → ((r14 = 0 → ((¬ r6 = 2 → (InI 0 → K (some 0) (upm m13 143 0 2))) ∧ (¬ (¬ r6 = 2) → ((x3 < 0 → (InI 0 → K (some 0) (upm m13 143 0 2))) ∧ (¬ (x3 < 0) → ((x2 < 0 → (InI 0 → K (some 0) (upm m13 143 0 2))) ∧ (¬ (x2 < 0) → (InI 0 → K (some 0) (upm m13 143 0 3))))))))) ∧ (¬ (r14 = 0) → (CWI C 313 [.inr 143, .inl x4, .inl x5] m13 fun r20 m19 => InI r20 → (CWI C 227 [.inl x3, .inl 0, .inl r20] m19 fun r22 m21 => InI r22 → ((r22 = 0 → ((¬ r6 = 2 → (InI 0 → K (some 0) (upm m21 143 0 2))) ∧ (¬ (¬ r6 = 2) → ((x3 < 0 → (InI 0 → K (some 0) (upm m21 143 0 2))) ∧ (¬ (x3 < 0) → ((x2 < 0 → (InI 0 → K (some 0) (upm m21 143 0 2))) ∧ (¬ (x2 < 0) → (InI 0 → K (some 0) (upm m21 143 0 3))))))))) ∧ (¬ (r22 = 0) → ((¬ r6 = 2 → (CWV C 317 [.inr 143, .inl x4, .inl x5, .inl x3] (upm m21 143 0 0) fun m28 => (InI (80 * x1)) ∧ (InI ((80 * x1) + x2)) ∧ ((0 : Int) ≤ ((80 * x1) + x2) ∧ (((80 * x1) + x2) : Int) < 640) ∧ ∀ v29 : Int, v29 = m28 166 (Int.toNat ((80 * x1) + x2)) → InI v29 → (InI v29 → K (some v29) m28))) ∧ (¬ (¬ r6 = 2) → ((x3 < 0 → (CWV C 317 [.inr 143, .inl x4, .inl x5, .inl x3] (upm m21 143 0 0) fun m31 => (InI (80 * x1)) ∧ (InI ((80 * x1) + x2)) ∧ ((0 : Int) ≤ ((80 * x1) + x2) ∧ (((80 * x1) + x2) : Int) < 640) ∧ ∀ v32 : Int, v32 = m31 166 (Int.toNat ((80 * x1) + x2)) → InI v32 → (InI v32 → K (some v32) m31))) ∧ (¬ (x3 < 0) → ((x2 < 0 → (CWV C 317 [.inr 143, .inl x4, .inl x5, .inl x3] (upm m21 143 0 0) fun m34 => (InI (80 * x1)) ∧ (InI ((80 * x1) + x2)) ∧ ((0 : Int) ≤ ((80 * x1) + x2) ∧ (((80 * x1) + x2) : Int) < 640) ∧ ∀ v35 : Int, v35 = m34 166 (Int.toNat ((80 * x1) + x2)) → InI v35 → (InI v35 → K (some v35) m34))) ∧ (¬ (x2 < 0) → (InI 0 → K (some 0) (upm m21 143 0 3)))))))))))))))))))) ∧ (¬ (¬ v3 = 5) → (InI 0 → K (some 0) (upm m1 143 0 2))))) ∧ (¬ (¬ r2 = 0) → (InI 0 → K (some 0) (upm m1 143 0 1)))))) : Wx C S M_326 K 0 [some (.inr 143), some (.inl x1), some (.inl x2), some (.inl x3), some (.inl x4), some (.inl x5), none, none] [] mem := by
  refine Wx.aload_n hC te_326_0 rfl ?_
  refine Wx.aload_n hC te_326_1 rfl ?_
  refine Wx.iload_n hC te_326_2 rfl ?_
  refine Wx.virtI hC te_326_3 mt_235 (args := [.inr 143, .inl x1]) (rest := [.inr 143]) rfl rfl rfl rfl rfl rfl rfl rfl ?_
  refine CWI.mono hC (fun r2 m1 H hy => ?_) H
  replace H := H hy
  refine Wx.ifc hC (t := 13) te_326_6 (by decide) (fun q => ?_) (fun q => ?_)
  · replace H := H.1 q
    refine Wx.aload_n hC te_326_13 rfl ?_
    refine Wx.getR hC te_326_14 rfl rfl rfl ?_
    refine Wx.iload_n hC te_326_17 rfl ?_
    refine Wx.iald hC te_326_18 rfl H.1 (fun v3 e1 e2 => ?_)
    replace H := H.2 v3 e1 e2
    refine Wx.iconst hC te_326_19 rfl ?_
    refine Wx.icmp hC (t := 27) te_326_20 (by decide) (fun q => ?_) (fun q => ?_)
    · replace H := H.1 q
      refine Wx.iconst hC te_326_27 rfl ?_
      refine Wx.putI hC te_326_28 rfl rfl rfl rfl ?_
      refine Wx.aload_n hC te_326_31 rfl ?_
      refine Wx.getI hC te_326_32 rfl rfl rfl (fun c4 e1 e2 => ?_)
      rw [upm_eq] at e1
      subst e1
      refine Wx.ifc hC (t := 40) te_326_35 (by decide) (fun q => ?_) (fun q => absurd (show (0 : Int) ≤ 0 by decide) q)
      refine Wx.aload_n hC te_326_40 rfl ?_
      refine Wx.iload hC te_326_41 rfl ?_
      refine Wx.iload hC te_326_43 rfl ?_
      refine Wx.virtI hC te_326_45 mt_311 (args := [.inr 143, .inl x4, .inl x5]) (rest := []) rfl rfl rfl rfl rfl rfl rfl rfl ?_
      refine CWI.mono hC (fun r6 m5 H hy => ?_) H
      replace H := H hy
      refine Wx.istore hC te_326_48 rfl ?_
      refine Wx.iload hC te_326_50 rfl ?_
      refine Wx.ifc hC (t := 92) te_326_52 (by decide) (fun q => ?_) (fun q => ?_)
      · replace H := H.1 q
        refine Wx.iconst hC te_326_92 rfl ?_
        refine Wx.istore hC te_326_93 rfl ?_
        refine Wx.aload_n hC te_326_95 rfl ?_
        refine Wx.iload hC te_326_96 rfl ?_
        refine Wx.iconst hC te_326_98 rfl ?_
        refine Wx.icmp hC (t := 114) te_326_99 (by decide) (fun q => ?_) (fun q => ?_)
        · replace H := H.1 q
          refine Wx.iload hC te_326_114 rfl ?_
          refine Wx.ifc hC (t := 123) te_326_116 (by decide) (fun q => ?_) (fun q => absurd (show (0 : Int) = 0 by decide) q)
          refine Wx.iconst hC te_326_123 rfl ?_
          refine Wx.putI hC te_326_124 rfl rfl rfl rfl ?_
          refine Wx.aload_n hC te_326_127 rfl ?_
          refine Wx.getI hC te_326_128 rfl rfl rfl (fun c7 e1 e2 => ?_)
          rw [upm_eq] at e1
          subst e1
          refine Wx.ifc hC (t := 136) te_326_131 (by decide) (fun q => absurd q (show ¬ ((2 : Int) ≤ 0) by decide)) (fun q => ?_)
          refine Wx.iconst hC te_326_134 rfl ?_
          exact Wx.ireturn hC te_326_135 rfl H
        · replace H := H.2 q
          refine Wx.iload_n hC te_326_102 rfl ?_
          refine Wx.ifc hC (t := 114) te_326_103 (by decide) (fun q => ?_) (fun q => ?_)
          · replace H := H.1 q
            refine Wx.iload hC te_326_114 rfl ?_
            refine Wx.ifc hC (t := 123) te_326_116 (by decide) (fun q => ?_) (fun q => absurd (show (0 : Int) = 0 by decide) q)
            refine Wx.iconst hC te_326_123 rfl ?_
            refine Wx.putI hC te_326_124 rfl rfl rfl rfl ?_
            refine Wx.aload_n hC te_326_127 rfl ?_
            refine Wx.getI hC te_326_128 rfl rfl rfl (fun c8 e1 e2 => ?_)
            rw [upm_eq] at e1
            subst e1
            refine Wx.ifc hC (t := 136) te_326_131 (by decide) (fun q => absurd q (show ¬ ((2 : Int) ≤ 0) by decide)) (fun q => ?_)
            refine Wx.iconst hC te_326_134 rfl ?_
            exact Wx.ireturn hC te_326_135 rfl H
          · replace H := H.2 q
            refine Wx.iload_n hC te_326_106 rfl ?_
            refine Wx.ifc hC (t := 114) te_326_107 (by decide) (fun q => ?_) (fun q => ?_)
            · replace H := H.1 q
              refine Wx.iload hC te_326_114 rfl ?_
              refine Wx.ifc hC (t := 123) te_326_116 (by decide) (fun q => ?_) (fun q => absurd (show (0 : Int) = 0 by decide) q)
              refine Wx.iconst hC te_326_123 rfl ?_
              refine Wx.putI hC te_326_124 rfl rfl rfl rfl ?_
              refine Wx.aload_n hC te_326_127 rfl ?_
              refine Wx.getI hC te_326_128 rfl rfl rfl (fun c9 e1 e2 => ?_)
              rw [upm_eq] at e1
              subst e1
              refine Wx.ifc hC (t := 136) te_326_131 (by decide) (fun q => absurd q (show ¬ ((2 : Int) ≤ 0) by decide)) (fun q => ?_)
              refine Wx.iconst hC te_326_134 rfl ?_
              exact Wx.ireturn hC te_326_135 rfl H
            · replace H := H.2 q
              refine Wx.iconst hC te_326_110 rfl ?_
              refine Wx.goto hC (t := 124) te_326_111 (by decide) ?_
              refine Wx.putI hC te_326_124 rfl rfl rfl rfl ?_
              refine Wx.aload_n hC te_326_127 rfl ?_
              refine Wx.getI hC te_326_128 rfl rfl rfl (fun c10 e1 e2 => ?_)
              rw [upm_eq] at e1
              subst e1
              refine Wx.ifc hC (t := 136) te_326_131 (by decide) (fun q => absurd q (show ¬ ((3 : Int) ≤ 0) by decide)) (fun q => ?_)
              refine Wx.iconst hC te_326_134 rfl ?_
              exact Wx.ireturn hC te_326_135 rfl H
      · replace H := H.2 q
        refine Wx.iload_n hC te_326_55 rfl ?_
        refine Wx.iconst hC te_326_56 rfl ?_
        refine Wx.aload_n hC te_326_57 rfl ?_
        refine Wx.iload_n hC te_326_58 rfl ?_
        refine Wx.iload hC te_326_59 rfl ?_
        refine Wx.virtI hC te_326_61 mt_295 (args := [.inr 143, .inl x1, .inl x4]) (rest := [.inl 0, .inl x2]) rfl rfl rfl rfl rfl rfl rfl rfl ?_
        refine CWI.mono hC (fun r12 m11 H hy => ?_) H
        replace H := H hy
        refine Wx.iconst hC te_326_64 rfl ?_
        refine Wx.isub hC te_326_65 H.1 ?_
        replace H := H.2
        refine Wx.statI hC te_326_66 (by decide) mt_227 (args := [.inl x2, .inl 0, .inl (r12 - 1)]) (rest := []) rfl rfl rfl rfl rfl ?_
        refine CWI.mono hC (fun r14 m13 H hy => ?_) H
        replace H := H hy
        refine Wx.ifc hC (t := 92) te_326_69 (by decide) (fun q => ?_) (fun q => ?_)
        · replace H := H.1 q
          refine Wx.iconst hC te_326_92 rfl ?_
          refine Wx.istore hC te_326_93 rfl ?_
          refine Wx.aload_n hC te_326_95 rfl ?_
          refine Wx.iload hC te_326_96 rfl ?_
          refine Wx.iconst hC te_326_98 rfl ?_
          refine Wx.icmp hC (t := 114) te_326_99 (by decide) (fun q => ?_) (fun q => ?_)
          · replace H := H.1 q
            refine Wx.iload hC te_326_114 rfl ?_
            refine Wx.ifc hC (t := 123) te_326_116 (by decide) (fun q => ?_) (fun q => absurd (show (0 : Int) = 0 by decide) q)
            refine Wx.iconst hC te_326_123 rfl ?_
            refine Wx.putI hC te_326_124 rfl rfl rfl rfl ?_
            refine Wx.aload_n hC te_326_127 rfl ?_
            refine Wx.getI hC te_326_128 rfl rfl rfl (fun c15 e1 e2 => ?_)
            rw [upm_eq] at e1
            subst e1
            refine Wx.ifc hC (t := 136) te_326_131 (by decide) (fun q => absurd q (show ¬ ((2 : Int) ≤ 0) by decide)) (fun q => ?_)
            refine Wx.iconst hC te_326_134 rfl ?_
            exact Wx.ireturn hC te_326_135 rfl H
          · replace H := H.2 q
            refine Wx.iload_n hC te_326_102 rfl ?_
            refine Wx.ifc hC (t := 114) te_326_103 (by decide) (fun q => ?_) (fun q => ?_)
            · replace H := H.1 q
              refine Wx.iload hC te_326_114 rfl ?_
              refine Wx.ifc hC (t := 123) te_326_116 (by decide) (fun q => ?_) (fun q => absurd (show (0 : Int) = 0 by decide) q)
              refine Wx.iconst hC te_326_123 rfl ?_
              refine Wx.putI hC te_326_124 rfl rfl rfl rfl ?_
              refine Wx.aload_n hC te_326_127 rfl ?_
              refine Wx.getI hC te_326_128 rfl rfl rfl (fun c16 e1 e2 => ?_)
              rw [upm_eq] at e1
              subst e1
              refine Wx.ifc hC (t := 136) te_326_131 (by decide) (fun q => absurd q (show ¬ ((2 : Int) ≤ 0) by decide)) (fun q => ?_)
              refine Wx.iconst hC te_326_134 rfl ?_
              exact Wx.ireturn hC te_326_135 rfl H
            · replace H := H.2 q
              refine Wx.iload_n hC te_326_106 rfl ?_
              refine Wx.ifc hC (t := 114) te_326_107 (by decide) (fun q => ?_) (fun q => ?_)
              · replace H := H.1 q
                refine Wx.iload hC te_326_114 rfl ?_
                refine Wx.ifc hC (t := 123) te_326_116 (by decide) (fun q => ?_) (fun q => absurd (show (0 : Int) = 0 by decide) q)
                refine Wx.iconst hC te_326_123 rfl ?_
                refine Wx.putI hC te_326_124 rfl rfl rfl rfl ?_
                refine Wx.aload_n hC te_326_127 rfl ?_
                refine Wx.getI hC te_326_128 rfl rfl rfl (fun c17 e1 e2 => ?_)
                rw [upm_eq] at e1
                subst e1
                refine Wx.ifc hC (t := 136) te_326_131 (by decide) (fun q => absurd q (show ¬ ((2 : Int) ≤ 0) by decide)) (fun q => ?_)
                refine Wx.iconst hC te_326_134 rfl ?_
                exact Wx.ireturn hC te_326_135 rfl H
              · replace H := H.2 q
                refine Wx.iconst hC te_326_110 rfl ?_
                refine Wx.goto hC (t := 124) te_326_111 (by decide) ?_
                refine Wx.putI hC te_326_124 rfl rfl rfl rfl ?_
                refine Wx.aload_n hC te_326_127 rfl ?_
                refine Wx.getI hC te_326_128 rfl rfl rfl (fun c18 e1 e2 => ?_)
                rw [upm_eq] at e1
                subst e1
                refine Wx.ifc hC (t := 136) te_326_131 (by decide) (fun q => absurd q (show ¬ ((3 : Int) ≤ 0) by decide)) (fun q => ?_)
                refine Wx.iconst hC te_326_134 rfl ?_
                exact Wx.ireturn hC te_326_135 rfl H
        · replace H := H.2 q
          refine Wx.iload_n hC te_326_72 rfl ?_
          refine Wx.iconst hC te_326_73 rfl ?_
          refine Wx.aload_n hC te_326_74 rfl ?_
          refine Wx.iload hC te_326_75 rfl ?_
          refine Wx.iload hC te_326_77 rfl ?_
          refine Wx.virtI hC te_326_79 mt_313 (args := [.inr 143, .inl x4, .inl x5]) (rest := [.inl 0, .inl x3]) rfl rfl rfl rfl rfl rfl rfl rfl ?_
          refine CWI.mono hC (fun r20 m19 H hy => ?_) H
          replace H := H hy
          refine Wx.statI hC te_326_82 (by decide) mt_227 (args := [.inl x3, .inl 0, .inl r20]) (rest := []) rfl rfl rfl rfl rfl ?_
          refine CWI.mono hC (fun r22 m21 H hy => ?_) H
          replace H := H hy
          refine Wx.ifc hC (t := 92) te_326_85 (by decide) (fun q => ?_) (fun q => ?_)
          · replace H := H.1 q
            refine Wx.iconst hC te_326_92 rfl ?_
            refine Wx.istore hC te_326_93 rfl ?_
            refine Wx.aload_n hC te_326_95 rfl ?_
            refine Wx.iload hC te_326_96 rfl ?_
            refine Wx.iconst hC te_326_98 rfl ?_
            refine Wx.icmp hC (t := 114) te_326_99 (by decide) (fun q => ?_) (fun q => ?_)
            · replace H := H.1 q
              refine Wx.iload hC te_326_114 rfl ?_
              refine Wx.ifc hC (t := 123) te_326_116 (by decide) (fun q => ?_) (fun q => absurd (show (0 : Int) = 0 by decide) q)
              refine Wx.iconst hC te_326_123 rfl ?_
              refine Wx.putI hC te_326_124 rfl rfl rfl rfl ?_
              refine Wx.aload_n hC te_326_127 rfl ?_
              refine Wx.getI hC te_326_128 rfl rfl rfl (fun c23 e1 e2 => ?_)
              rw [upm_eq] at e1
              subst e1
              refine Wx.ifc hC (t := 136) te_326_131 (by decide) (fun q => absurd q (show ¬ ((2 : Int) ≤ 0) by decide)) (fun q => ?_)
              refine Wx.iconst hC te_326_134 rfl ?_
              exact Wx.ireturn hC te_326_135 rfl H
            · replace H := H.2 q
              refine Wx.iload_n hC te_326_102 rfl ?_
              refine Wx.ifc hC (t := 114) te_326_103 (by decide) (fun q => ?_) (fun q => ?_)
              · replace H := H.1 q
                refine Wx.iload hC te_326_114 rfl ?_
                refine Wx.ifc hC (t := 123) te_326_116 (by decide) (fun q => ?_) (fun q => absurd (show (0 : Int) = 0 by decide) q)
                refine Wx.iconst hC te_326_123 rfl ?_
                refine Wx.putI hC te_326_124 rfl rfl rfl rfl ?_
                refine Wx.aload_n hC te_326_127 rfl ?_
                refine Wx.getI hC te_326_128 rfl rfl rfl (fun c24 e1 e2 => ?_)
                rw [upm_eq] at e1
                subst e1
                refine Wx.ifc hC (t := 136) te_326_131 (by decide) (fun q => absurd q (show ¬ ((2 : Int) ≤ 0) by decide)) (fun q => ?_)
                refine Wx.iconst hC te_326_134 rfl ?_
                exact Wx.ireturn hC te_326_135 rfl H
              · replace H := H.2 q
                refine Wx.iload_n hC te_326_106 rfl ?_
                refine Wx.ifc hC (t := 114) te_326_107 (by decide) (fun q => ?_) (fun q => ?_)
                · replace H := H.1 q
                  refine Wx.iload hC te_326_114 rfl ?_
                  refine Wx.ifc hC (t := 123) te_326_116 (by decide) (fun q => ?_) (fun q => absurd (show (0 : Int) = 0 by decide) q)
                  refine Wx.iconst hC te_326_123 rfl ?_
                  refine Wx.putI hC te_326_124 rfl rfl rfl rfl ?_
                  refine Wx.aload_n hC te_326_127 rfl ?_
                  refine Wx.getI hC te_326_128 rfl rfl rfl (fun c25 e1 e2 => ?_)
                  rw [upm_eq] at e1
                  subst e1
                  refine Wx.ifc hC (t := 136) te_326_131 (by decide) (fun q => absurd q (show ¬ ((2 : Int) ≤ 0) by decide)) (fun q => ?_)
                  refine Wx.iconst hC te_326_134 rfl ?_
                  exact Wx.ireturn hC te_326_135 rfl H
                · replace H := H.2 q
                  refine Wx.iconst hC te_326_110 rfl ?_
                  refine Wx.goto hC (t := 124) te_326_111 (by decide) ?_
                  refine Wx.putI hC te_326_124 rfl rfl rfl rfl ?_
                  refine Wx.aload_n hC te_326_127 rfl ?_
                  refine Wx.getI hC te_326_128 rfl rfl rfl (fun c26 e1 e2 => ?_)
                  rw [upm_eq] at e1
                  subst e1
                  refine Wx.ifc hC (t := 136) te_326_131 (by decide) (fun q => absurd q (show ¬ ((3 : Int) ≤ 0) by decide)) (fun q => ?_)
                  refine Wx.iconst hC te_326_134 rfl ?_
                  exact Wx.ireturn hC te_326_135 rfl H
          · replace H := H.2 q
            refine Wx.iconst hC te_326_88 rfl ?_
            refine Wx.goto hC (t := 93) te_326_89 (by decide) ?_
            refine Wx.istore hC te_326_93 rfl ?_
            refine Wx.aload_n hC te_326_95 rfl ?_
            refine Wx.iload hC te_326_96 rfl ?_
            refine Wx.iconst hC te_326_98 rfl ?_
            refine Wx.icmp hC (t := 114) te_326_99 (by decide) (fun q => ?_) (fun q => ?_)
            · replace H := H.1 q
              refine Wx.iload hC te_326_114 rfl ?_
              refine Wx.ifc hC (t := 123) te_326_116 (by decide) (fun q => absurd q (show ¬ ((1 : Int) = 0) by decide)) (fun q => ?_)
              refine Wx.iconst hC te_326_119 rfl ?_
              refine Wx.goto hC (t := 124) te_326_120 (by decide) ?_
              refine Wx.putI hC te_326_124 rfl rfl rfl rfl ?_
              refine Wx.aload_n hC te_326_127 rfl ?_
              refine Wx.getI hC te_326_128 rfl rfl rfl (fun c27 e1 e2 => ?_)
              rw [upm_eq] at e1
              subst e1
              refine Wx.ifc hC (t := 136) te_326_131 (by decide) (fun q => ?_) (fun q => absurd (show (0 : Int) ≤ 0 by decide) q)
              refine Wx.aload_n hC te_326_136 rfl ?_
              refine Wx.iload hC te_326_137 rfl ?_
              refine Wx.iload hC te_326_139 rfl ?_
              refine Wx.iload_n hC te_326_141 rfl ?_
              refine Wx.virtV hC te_326_142 mt_317 (args := [.inr 143, .inl x4, .inl x5, .inl x3]) (rest := []) rfl rfl rfl rfl rfl rfl rfl rfl ?_
              refine CWV.mono hC (fun m28 H => ?_) H
              refine Wx.aload_n hC te_326_145 rfl ?_
              refine Wx.getR hC te_326_146 rfl rfl rfl ?_
              refine Wx.bipush hC te_326_149 rfl rfl ?_
              refine Wx.iload_n hC te_326_151 rfl ?_
              refine Wx.imul hC te_326_152 H.1 ?_
              replace H := H.2
              refine Wx.iload_n hC te_326_153 rfl ?_
              refine Wx.iadd hC te_326_154 H.1 ?_
              replace H := H.2
              refine Wx.iald hC te_326_155 rfl H.1 (fun v29 e1 e2 => ?_)
              replace H := H.2 v29 e1 e2
              exact Wx.ireturn hC te_326_156 rfl H
            · replace H := H.2 q
              refine Wx.iload_n hC te_326_102 rfl ?_
              refine Wx.ifc hC (t := 114) te_326_103 (by decide) (fun q => ?_) (fun q => ?_)
              · replace H := H.1 q
                refine Wx.iload hC te_326_114 rfl ?_
                refine Wx.ifc hC (t := 123) te_326_116 (by decide) (fun q => absurd q (show ¬ ((1 : Int) = 0) by decide)) (fun q => ?_)
                refine Wx.iconst hC te_326_119 rfl ?_
                refine Wx.goto hC (t := 124) te_326_120 (by decide) ?_
                refine Wx.putI hC te_326_124 rfl rfl rfl rfl ?_
                refine Wx.aload_n hC te_326_127 rfl ?_
                refine Wx.getI hC te_326_128 rfl rfl rfl (fun c30 e1 e2 => ?_)
                rw [upm_eq] at e1
                subst e1
                refine Wx.ifc hC (t := 136) te_326_131 (by decide) (fun q => ?_) (fun q => absurd (show (0 : Int) ≤ 0 by decide) q)
                refine Wx.aload_n hC te_326_136 rfl ?_
                refine Wx.iload hC te_326_137 rfl ?_
                refine Wx.iload hC te_326_139 rfl ?_
                refine Wx.iload_n hC te_326_141 rfl ?_
                refine Wx.virtV hC te_326_142 mt_317 (args := [.inr 143, .inl x4, .inl x5, .inl x3]) (rest := []) rfl rfl rfl rfl rfl rfl rfl rfl ?_
                refine CWV.mono hC (fun m31 H => ?_) H
                refine Wx.aload_n hC te_326_145 rfl ?_
                refine Wx.getR hC te_326_146 rfl rfl rfl ?_
                refine Wx.bipush hC te_326_149 rfl rfl ?_
                refine Wx.iload_n hC te_326_151 rfl ?_
                refine Wx.imul hC te_326_152 H.1 ?_
                replace H := H.2
                refine Wx.iload_n hC te_326_153 rfl ?_
                refine Wx.iadd hC te_326_154 H.1 ?_
                replace H := H.2
                refine Wx.iald hC te_326_155 rfl H.1 (fun v32 e1 e2 => ?_)
                replace H := H.2 v32 e1 e2
                exact Wx.ireturn hC te_326_156 rfl H
              · replace H := H.2 q
                refine Wx.iload_n hC te_326_106 rfl ?_
                refine Wx.ifc hC (t := 114) te_326_107 (by decide) (fun q => ?_) (fun q => ?_)
                · replace H := H.1 q
                  refine Wx.iload hC te_326_114 rfl ?_
                  refine Wx.ifc hC (t := 123) te_326_116 (by decide) (fun q => absurd q (show ¬ ((1 : Int) = 0) by decide)) (fun q => ?_)
                  refine Wx.iconst hC te_326_119 rfl ?_
                  refine Wx.goto hC (t := 124) te_326_120 (by decide) ?_
                  refine Wx.putI hC te_326_124 rfl rfl rfl rfl ?_
                  refine Wx.aload_n hC te_326_127 rfl ?_
                  refine Wx.getI hC te_326_128 rfl rfl rfl (fun c33 e1 e2 => ?_)
                  rw [upm_eq] at e1
                  subst e1
                  refine Wx.ifc hC (t := 136) te_326_131 (by decide) (fun q => ?_) (fun q => absurd (show (0 : Int) ≤ 0 by decide) q)
                  refine Wx.aload_n hC te_326_136 rfl ?_
                  refine Wx.iload hC te_326_137 rfl ?_
                  refine Wx.iload hC te_326_139 rfl ?_
                  refine Wx.iload_n hC te_326_141 rfl ?_
                  refine Wx.virtV hC te_326_142 mt_317 (args := [.inr 143, .inl x4, .inl x5, .inl x3]) (rest := []) rfl rfl rfl rfl rfl rfl rfl rfl ?_
                  refine CWV.mono hC (fun m34 H => ?_) H
                  refine Wx.aload_n hC te_326_145 rfl ?_
                  refine Wx.getR hC te_326_146 rfl rfl rfl ?_
                  refine Wx.bipush hC te_326_149 rfl rfl ?_
                  refine Wx.iload_n hC te_326_151 rfl ?_
                  refine Wx.imul hC te_326_152 H.1 ?_
                  replace H := H.2
                  refine Wx.iload_n hC te_326_153 rfl ?_
                  refine Wx.iadd hC te_326_154 H.1 ?_
                  replace H := H.2
                  refine Wx.iald hC te_326_155 rfl H.1 (fun v35 e1 e2 => ?_)
                  replace H := H.2 v35 e1 e2
                  exact Wx.ireturn hC te_326_156 rfl H
                · replace H := H.2 q
                  refine Wx.iconst hC te_326_110 rfl ?_
                  refine Wx.goto hC (t := 124) te_326_111 (by decide) ?_
                  refine Wx.putI hC te_326_124 rfl rfl rfl rfl ?_
                  refine Wx.aload_n hC te_326_127 rfl ?_
                  refine Wx.getI hC te_326_128 rfl rfl rfl (fun c36 e1 e2 => ?_)
                  rw [upm_eq] at e1
                  subst e1
                  refine Wx.ifc hC (t := 136) te_326_131 (by decide) (fun q => absurd q (show ¬ ((3 : Int) ≤ 0) by decide)) (fun q => ?_)
                  refine Wx.iconst hC te_326_134 rfl ?_
                  exact Wx.ireturn hC te_326_135 rfl H
    · replace H := H.2 q
      refine Wx.iconst hC te_326_23 rfl ?_
      refine Wx.goto hC (t := 28) te_326_24 (by decide) ?_
      refine Wx.putI hC te_326_28 rfl rfl rfl rfl ?_
      refine Wx.aload_n hC te_326_31 rfl ?_
      refine Wx.getI hC te_326_32 rfl rfl rfl (fun c37 e1 e2 => ?_)
      rw [upm_eq] at e1
      subst e1
      refine Wx.ifc hC (t := 40) te_326_35 (by decide) (fun q => absurd q (show ¬ ((2 : Int) ≤ 0) by decide)) (fun q => ?_)
      refine Wx.iconst hC te_326_38 rfl ?_
      exact Wx.ireturn hC te_326_39 rfl H
  · replace H := H.2 q
    refine Wx.iconst hC te_326_9 rfl ?_
    refine Wx.goto hC (t := 28) te_326_10 (by decide) ?_
    refine Wx.putI hC te_326_28 rfl rfl rfl rfl ?_
    refine Wx.aload_n hC te_326_31 rfl ?_
    refine Wx.getI hC te_326_32 rfl rfl rfl (fun c38 e1 e2 => ?_)
    rw [upm_eq] at e1
    subst e1
    refine Wx.ifc hC (t := 40) te_326_35 (by decide) (fun q => absurd q (show ¬ ((1 : Int) ≤ 0) by decide)) (fun q => ?_)
    refine Wx.iconst hC te_326_38 rfl ?_
    exact Wx.ireturn hC te_326_39 rfl H
theorem w_330_0 {C : CXW} (hC : Cmono C) {S : Nat × (Nat → Int32)} {K : WK} {mem : MM} {x1 x2 x3 : Int} (H : (CWI C 242 [.inr 143, .inl x1, .inl x2] mem fun r2 m1 => InI r2 → ((¬ r2 = (-1) → ((¬ r2 = (-2) → (CWI C 243 [.inr 143, .inl x1, .inl x2] m1 fun r4 m3 => InI r4 → (InI (x3 - r4)) ∧ ((0 ≤ (x3 - r4) → (InI (41 * r2)) ∧ (InI ((41 * r2) + (x3 - r4))) ∧ ((0 : Int) ≤ ((41 * r2) + (x3 - r4)) ∧ (((41 * r2) + (x3 - r4)) : Int) < 328) ∧ ∀ v5 : Int, v5 = m3 167 (Int.toNat ((41 * r2) + (x3 - r4))) → InI v5 → (InI v5 → K (some v5) m3)) ∧ (¬ (0 ≤ (x3 - r4)) → ((0 : Int) ≤ r2 ∧ (r2 : Int) < 8) ∧ ∀ v6 : Int, v6 = m3 149 (Int.toNat r2) → InI v6 → (InI v6 → K (some v6) m3))))) ∧ (¬ (¬ r2 = (-2)) → (CWI C 243 [.inr 143, .inl x1, .inl x2] m1 fun r8 m7 => InI r8 → (InI r8 → K (some r8) m7))))) ∧ (¬ (¬ r2 = (-1)) → (InI x3 → K (some x3) m1))))) : Wx C S M_330 K 0 [some (.inr 143), some (.inl x1), some (.inl x2), some (.inl x3), none, none] [] mem := by
  refine Wx.aload_n hC te_330_0 rfl ?_
  refine Wx.iload_n hC te_330_1 rfl ?_
  refine Wx.iload_n hC te_330_2 rfl ?_
  refine Wx.virtI hC te_330_3 mt_242 (args := [.inr 143, .inl x1, .inl x2]) (rest := []) rfl rfl rfl rfl rfl rfl rfl rfl ?_
  refine CWI.mono hC (fun r2 m1 H hy => ?_) H
  replace H := H hy
  refine Wx.istore hC te_330_6 rfl ?_
  refine Wx.iload hC te_330_8 rfl ?_
  refine Wx.iconst hC te_330_10 rfl ?_
  refine Wx.icmp hC (t := 16) te_330_11 (by decide) (fun q => ?_) (fun q => ?_)
  · replace H := H.1 q
    refine Wx.iload hC te_330_16 rfl ?_
    refine Wx.bipush hC te_330_18 rfl rfl ?_
    refine Wx.icmp hC (t := 30) te_330_20 (by decide) (fun q => ?_) (fun q => ?_)
    · replace H := H.1 q
      refine Wx.iload_n hC te_330_30 rfl ?_
      refine Wx.aload_n hC te_330_31 rfl ?_
      refine Wx.iload_n hC te_330_32 rfl ?_
      refine Wx.iload_n hC te_330_33 rfl ?_
      refine Wx.virtI hC te_330_34 mt_243 (args := [.inr 143, .inl x1, .inl x2]) (rest := [.inl x3]) rfl rfl rfl rfl rfl rfl rfl rfl ?_
      refine CWI.mono hC (fun r4 m3 H hy => ?_) H
      replace H := H hy
      refine Wx.isub hC te_330_37 H.1 ?_
      replace H := H.2
      refine Wx.istore hC te_330_38 rfl ?_
      refine Wx.iload hC te_330_40 rfl ?_
      refine Wx.ifc hC (t := 55) te_330_42 (by decide) (fun q => ?_) (fun q => ?_)
      · replace H := H.1 q
        refine Wx.aload_n hC te_330_55 rfl ?_
        refine Wx.getR hC te_330_56 rfl rfl rfl ?_
        refine Wx.bipush hC te_330_59 rfl rfl ?_
        refine Wx.iload hC te_330_61 rfl ?_
        refine Wx.imul hC te_330_63 H.1 ?_
        replace H := H.2
        refine Wx.iload hC te_330_64 rfl ?_
        refine Wx.iadd hC te_330_66 H.1 ?_
        replace H := H.2
        refine Wx.iald hC te_330_67 rfl H.1 (fun v5 e1 e2 => ?_)
        replace H := H.2 v5 e1 e2
        exact Wx.ireturn hC te_330_68 rfl H
      · replace H := H.2 q
        refine Wx.aload_n hC te_330_45 rfl ?_
        refine Wx.getR hC te_330_46 rfl rfl rfl ?_
        refine Wx.iload hC te_330_49 rfl ?_
        refine Wx.iald hC te_330_51 rfl H.1 (fun v6 e1 e2 => ?_)
        replace H := H.2 v6 e1 e2
        refine Wx.goto hC (t := 68) te_330_52 (by decide) ?_
        exact Wx.ireturn hC te_330_68 rfl H
    · replace H := H.2 q
      refine Wx.aload_n hC te_330_23 rfl ?_
      refine Wx.iload_n hC te_330_24 rfl ?_
      refine Wx.iload_n hC te_330_25 rfl ?_
      refine Wx.virtI hC te_330_26 mt_243 (args := [.inr 143, .inl x1, .inl x2]) (rest := []) rfl rfl rfl rfl rfl rfl rfl rfl ?_
      refine CWI.mono hC (fun r8 m7 H hy => ?_) H
      replace H := H hy
      exact Wx.ireturn hC te_330_29 rfl H
  · replace H := H.2 q
    refine Wx.iload_n hC te_330_14 rfl ?_
    exact Wx.ireturn hC te_330_15 rfl H
theorem w_329_0 {C : CXW} (hC : Cmono C) {S : Nat × (Nat → Int32)} {K : WK} {mem : MM} {x1 x2 : Int} (H : ((0 : Int) ≤ x1 ∧ (x1 : Int) < 8) ∧ ∀ v1 : Int, v1 = mem 144 (Int.toNat x1) → InI v1 → ((¬ v1 = 4 → ((0 : Int) ≤ x1 ∧ (x1 : Int) < 8) ∧ ∀ v2 : Int, v2 = mem 144 (Int.toNat x1) → InI v2 → ((¬ v2 = 5 → ((0 : Int) ≤ x1 ∧ (x1 : Int) < 8) ∧ ∀ v3 : Int, v3 = mem 144 (Int.toNat x1) → InI v3 → (CWI C 330 [.inr 143, .inl x1, .inl 0, .inl x2] mem fun r5 m4 => InI r5 → (CWI C 330 [.inr 143, .inl x1, .inl 1, .inl x2] m4 fun r7 m6 => InI r7 → (CWI C 324 [.inl v3, .inl r5, .inl r7] m6 fun r9 m8 => InI r9 → (InI r9 → K (some r9) m8))))) ∧ (¬ (¬ v2 = 5) → (CWI C 330 [.inr 143, .inl x1, .inl 0, .inl x2] mem fun r11 m10 => InI r11 → (InI r11 → K (some r11) m10))))) ∧ (¬ (¬ v1 = 4) → (CWI C 250 [.inr 143, .inl x1] mem fun r13 m12 => InI r13 → (InI (64 * r13)) ∧ (InI ((64 * r13) + x2)) ∧ (CWI C 251 [.inr 143, .inl x1] m12 fun r15 m14 => InI r15 → (InI (((64 * r13) + x2) + r15)) ∧ ((0 : Int) ≤ (((64 * r13) + x2) + r15) ∧ ((((64 * r13) + x2) + r15) : Int) < 128) ∧ ∀ v16 : Int, v16 = m14 165 (Int.toNat (((64 * r13) + x2) + r15)) → InI v16 → (InI v16 → K (some v16) m14)))))) : Wx C S M_329 K 0 [some (.inr 143), some (.inl x1), some (.inl x2)] [] mem := by
  refine Wx.aload_n hC te_329_0 rfl ?_
  refine Wx.getR hC te_329_1 rfl rfl rfl ?_
  refine Wx.iload_n hC te_329_4 rfl ?_
  refine Wx.iald hC te_329_5 rfl H.1 (fun v1 e1 e2 => ?_)
  replace H := H.2 v1 e1 e2
  refine Wx.iconst hC te_329_6 rfl ?_
  refine Wx.icmp hC (t := 32) te_329_7 (by decide) (fun q => ?_) (fun q => ?_)
  · replace H := H.1 q
    refine Wx.aload_n hC te_329_32 rfl ?_
    refine Wx.getR hC te_329_33 rfl rfl rfl ?_
    refine Wx.iload_n hC te_329_36 rfl ?_
    refine Wx.iald hC te_329_37 rfl H.1 (fun v2 e1 e2 => ?_)
    replace H := H.2 v2 e1 e2
    refine Wx.iconst hC te_329_38 rfl ?_
    refine Wx.icmp hC (t := 52) te_329_39 (by decide) (fun q => ?_) (fun q => ?_)
    · replace H := H.1 q
      refine Wx.aload_n hC te_329_52 rfl ?_
      refine Wx.getR hC te_329_53 rfl rfl rfl ?_
      refine Wx.iload_n hC te_329_56 rfl ?_
      refine Wx.iald hC te_329_57 rfl H.1 (fun v3 e1 e2 => ?_)
      replace H := H.2 v3 e1 e2
      refine Wx.aload_n hC te_329_58 rfl ?_
      refine Wx.iload_n hC te_329_59 rfl ?_
      refine Wx.iconst hC te_329_60 rfl ?_
      refine Wx.iload_n hC te_329_61 rfl ?_
      refine Wx.virtI hC te_329_62 mt_330 (args := [.inr 143, .inl x1, .inl 0, .inl x2]) (rest := [.inl v3]) rfl rfl rfl rfl rfl rfl rfl rfl ?_
      refine CWI.mono hC (fun r5 m4 H hy => ?_) H
      replace H := H hy
      refine Wx.aload_n hC te_329_65 rfl ?_
      refine Wx.iload_n hC te_329_66 rfl ?_
      refine Wx.iconst hC te_329_67 rfl ?_
      refine Wx.iload_n hC te_329_68 rfl ?_
      refine Wx.virtI hC te_329_69 mt_330 (args := [.inr 143, .inl x1, .inl 1, .inl x2]) (rest := [.inl r5, .inl v3]) rfl rfl rfl rfl rfl rfl rfl rfl ?_
      refine CWI.mono hC (fun r7 m6 H hy => ?_) H
      replace H := H hy
      refine Wx.statI hC te_329_72 (by decide) mt_324 (args := [.inl v3, .inl r5, .inl r7]) (rest := []) rfl rfl rfl rfl rfl ?_
      refine CWI.mono hC (fun r9 m8 H hy => ?_) H
      replace H := H hy
      exact Wx.ireturn hC te_329_75 rfl H
    · replace H := H.2 q
      refine Wx.aload_n hC te_329_42 rfl ?_
      refine Wx.iload_n hC te_329_43 rfl ?_
      refine Wx.iconst hC te_329_44 rfl ?_
      refine Wx.iload_n hC te_329_45 rfl ?_
      refine Wx.virtI hC te_329_46 mt_330 (args := [.inr 143, .inl x1, .inl 0, .inl x2]) (rest := []) rfl rfl rfl rfl rfl rfl rfl rfl ?_
      refine CWI.mono hC (fun r11 m10 H hy => ?_) H
      replace H := H hy
      refine Wx.goto hC (t := 75) te_329_49 (by decide) ?_
      exact Wx.ireturn hC te_329_75 rfl H
  · replace H := H.2 q
    refine Wx.aload_n hC te_329_10 rfl ?_
    refine Wx.getR hC te_329_11 rfl rfl rfl ?_
    refine Wx.bipush hC te_329_14 rfl rfl ?_
    refine Wx.aload_n hC te_329_16 rfl ?_
    refine Wx.iload_n hC te_329_17 rfl ?_
    refine Wx.virtI hC te_329_18 mt_250 (args := [.inr 143, .inl x1]) (rest := [.inl 64, .inr 165]) rfl rfl rfl rfl rfl rfl rfl rfl ?_
    refine CWI.mono hC (fun r13 m12 H hy => ?_) H
    replace H := H hy
    refine Wx.imul hC te_329_21 H.1 ?_
    replace H := H.2
    refine Wx.iload_n hC te_329_22 rfl ?_
    refine Wx.iadd hC te_329_23 H.1 ?_
    replace H := H.2
    refine Wx.aload_n hC te_329_24 rfl ?_
    refine Wx.iload_n hC te_329_25 rfl ?_
    refine Wx.virtI hC te_329_26 mt_251 (args := [.inr 143, .inl x1]) (rest := [.inl ((64 * r13) + x2), .inr 165]) rfl rfl rfl rfl rfl rfl rfl rfl ?_
    refine CWI.mono hC (fun r15 m14 H hy => ?_) H
    replace H := H hy
    refine Wx.iadd hC te_329_29 H.1 ?_
    replace H := H.2
    refine Wx.iald hC te_329_30 rfl H.1 (fun v16 e1 e2 => ?_)
    replace H := H.2 v16 e1 e2
    exact Wx.ireturn hC te_329_31 rfl H
theorem w_328_0 {C : CXW} (hC : Cmono C) {S : Nat × (Nat → Int32)} {K : WK} {mem : MM} {x1 : Int} (H : (CWV C 318 [.inr 143] mem fun m1 => (Wx C S M_328 K 6 [some (.inr 143), some (.inl x1), some (.inl 0), none, none] [] m1))) : Wx C S M_328 K 0 [some (.inr 143), some (.inl x1), none, none, none] [] mem := by
  refine Wx.aload_n hC te_328_0 rfl ?_
  refine Wx.virtV hC te_328_1 mt_318 (args := [.inr 143]) (rest := []) rfl rfl rfl rfl rfl rfl rfl rfl ?_
  refine CWV.mono hC (fun m1 H => ?_) H
  refine Wx.iconst hC te_328_4 rfl ?_
  refine Wx.istore_n hC te_328_5 rfl ?_
  exact H
theorem w_328_6 {C : CXW} (hC : Cmono C) {S : Nat × (Nat → Int32)} {K : WK} {mem : MM} {x1 x2 : Int} (H : ((x1 ≤ x2 → (K none mem)) ∧ (¬ (x1 ≤ x2) → (Wx C S M_328 K 13 [some (.inr 143), some (.inl x1), some (.inl x2), some (.inl 0), none] [] mem)))) : Wx C S M_328 K 6 [some (.inr 143), some (.inl x1), some (.inl x2), none, none] [] mem := by
  refine Wx.iload_n hC te_328_6 rfl ?_
  refine Wx.iload_n hC te_328_7 rfl ?_
  refine Wx.icmp hC (t := 87) te_328_8 (by decide) (fun q => ?_) (fun q => ?_)
  · replace H := H.1 q
    exact Wx.vret hC te_328_87 rfl H
  · replace H := H.2 q
    refine Wx.iconst hC te_328_11 rfl ?_
    refine Wx.istore_n hC te_328_12 rfl ?_
    exact H
theorem w_328_13 {C : CXW} (hC : Cmono C) {S : Nat × (Nat → Int32)} {K : WK} {mem : MM} {x1 x2 x3 : Int} (H : ∀ v1 : Int, v1 = mem 143 1 → InI v1 → ((v1 ≤ x3 → (InI (x2 + 1)) ∧ (Wx C S M_328 K 6 [some (.inr 143), some (.inl x1), some (.inl (x2 + 1)), none, none] [] mem)) ∧ (¬ (v1 ≤ x3) → (CWI C 329 [.inr 143, .inl x3, .inl x2] mem fun r3 m2 => InI r3 → (InI (41 * x3)) ∧ (InI ((41 * x3) + x2)) ∧ ((0 : Int) ≤ ((41 * x3) + x2) ∧ (((41 * x3) + x2) : Int) < 328) ∧ ((0 : Int) ≤ x3 ∧ (x3 : Int) < 8) ∧ ∀ v4 : Int, v4 = (upm m2 167 (Int.toNat ((41 * x3) + x2)) r3) 144 (Int.toNat x3) → InI v4 → ((¬ v4 = 5 → (InI (x3 + 1)) ∧ (Wx C S M_328 K 13 [some (.inr 143), some (.inl x1), some (.inl x2), some (.inl (x3 + 1)), none] [] (upm m2 167 (Int.toNat ((41 * x3) + x2)) r3))) ∧ (¬ (¬ v4 = 5) → (CWI C 250 [.inr 143, .inl x3] (upm m2 167 (Int.toNat ((41 * x3) + x2)) r3) fun r6 m5 => InI r6 → (InI (64 * r6)) ∧ (InI ((64 * r6) + x2)) ∧ (CWI C 251 [.inr 143, .inl x3] m5 fun r8 m7 => InI r8 → (InI (((64 * r6) + x2) + r8)) ∧ ((0 : Int) ≤ (((64 * r6) + x2) + r8) ∧ ((((64 * r6) + x2) + r8) : Int) < 128) ∧ (InI (x3 + 1)) ∧ (Wx C S M_328 K 13 [some (.inr 143), some (.inl x1), some (.inl x2), some (.inl (x3 + 1)), none] [] (upm m7 165 (Int.toNat (((64 * r6) + x2) + r8)) r3)))))))))) : Wx C S M_328 K 13 [some (.inr 143), some (.inl x1), some (.inl x2), some (.inl x3), none] [] mem := by
  refine Wx.iload_n hC te_328_13 rfl ?_
  refine Wx.aload_n hC te_328_14 rfl ?_
  refine Wx.getI hC te_328_15 rfl rfl rfl (fun v1 e1 e2 => ?_)
  replace H := H v1 e1 e2
  refine Wx.icmp hC (t := 81) te_328_18 (by decide) (fun q => ?_) (fun q => ?_)
  · replace H := H.1 q
    refine Wx.iinc hC te_328_81 rfl rfl H.1 ?_
    replace H := H.2
    refine Wx.goto hC (t := 6) te_328_84 (by decide) ?_
    exact Wx.weak (by repeat' (first | exact trivial | exact rfl | constructor)) H
  · replace H := H.2 q
    refine Wx.aload_n hC te_328_21 rfl ?_
    refine Wx.iload_n hC te_328_22 rfl ?_
    refine Wx.iload_n hC te_328_23 rfl ?_
    refine Wx.virtI hC te_328_24 mt_329 (args := [.inr 143, .inl x3, .inl x2]) (rest := []) rfl rfl rfl rfl rfl rfl rfl rfl ?_
    refine CWI.mono hC (fun r3 m2 H hy => ?_) H
    replace H := H hy
    refine Wx.istore hC te_328_27 rfl ?_
    refine Wx.aload_n hC te_328_29 rfl ?_
    refine Wx.getR hC te_328_30 rfl rfl rfl ?_
    refine Wx.bipush hC te_328_33 rfl rfl ?_
    refine Wx.iload_n hC te_328_35 rfl ?_
    refine Wx.imul hC te_328_36 H.1 ?_
    replace H := H.2
    refine Wx.iload_n hC te_328_37 rfl ?_
    refine Wx.iadd hC te_328_38 H.1 ?_
    replace H := H.2
    refine Wx.iload hC te_328_39 rfl ?_
    refine Wx.iast hC te_328_41 rfl H.1 ?_
    replace H := H.2
    refine Wx.aload_n hC te_328_42 rfl ?_
    refine Wx.getR hC te_328_43 rfl rfl rfl ?_
    refine Wx.iload_n hC te_328_46 rfl ?_
    refine Wx.iald hC te_328_47 rfl H.1 (fun v4 e1 e2 => ?_)
    replace H := H.2 v4 e1 e2
    refine Wx.iconst hC te_328_48 rfl ?_
    refine Wx.icmp hC (t := 75) te_328_49 (by decide) (fun q => ?_) (fun q => ?_)
    · replace H := H.1 q
      refine Wx.iinc hC te_328_75 rfl rfl H.1 ?_
      replace H := H.2
      refine Wx.goto hC (t := 13) te_328_78 (by decide) ?_
      exact Wx.weak (by repeat' (first | exact trivial | exact rfl | constructor)) H
    · replace H := H.2 q
      refine Wx.aload_n hC te_328_52 rfl ?_
      refine Wx.getR hC te_328_53 rfl rfl rfl ?_
      refine Wx.bipush hC te_328_56 rfl rfl ?_
      refine Wx.aload_n hC te_328_58 rfl ?_
      refine Wx.iload_n hC te_328_59 rfl ?_
      refine Wx.virtI hC te_328_60 mt_250 (args := [.inr 143, .inl x3]) (rest := [.inl 64, .inr 165]) rfl rfl rfl rfl rfl rfl rfl rfl ?_
      refine CWI.mono hC (fun r6 m5 H hy => ?_) H
      replace H := H hy
      refine Wx.imul hC te_328_63 H.1 ?_
      replace H := H.2
      refine Wx.iload_n hC te_328_64 rfl ?_
      refine Wx.iadd hC te_328_65 H.1 ?_
      replace H := H.2
      refine Wx.aload_n hC te_328_66 rfl ?_
      refine Wx.iload_n hC te_328_67 rfl ?_
      refine Wx.virtI hC te_328_68 mt_251 (args := [.inr 143, .inl x3]) (rest := [.inl ((64 * r6) + x2), .inr 165]) rfl rfl rfl rfl rfl rfl rfl rfl ?_
      refine CWI.mono hC (fun r8 m7 H hy => ?_) H
      replace H := H hy
      refine Wx.iadd hC te_328_71 H.1 ?_
      replace H := H.2
      refine Wx.iload hC te_328_72 rfl ?_
      refine Wx.iast hC te_328_74 rfl H.1 ?_
      replace H := H.2
      refine Wx.iinc hC te_328_75 rfl rfl H.1 ?_
      replace H := H.2
      refine Wx.goto hC (t := 13) te_328_78 (by decide) ?_
      exact Wx.weak (by repeat' (first | exact trivial | exact rfl | constructor)) H
theorem w_327_0 {C : CXW} (hC : Cmono C) {S : Nat × (Nat → Int32)} {K : WK} {mem : MM} {x1 x2 x3 : Int} (H : (CWI C 316 [.inl x1, .inl x2] mem fun r2 m1 => InI r2 → ((r2 = 0 → (InI 0 → K (some 0) (upm m1 143 0 1))) ∧ (¬ (r2 = 0) → (CWI C 309 [.inl x3] m1 fun r5 m4 => InI r5 → ((¬ r5 = 0 → (CWI C 240 [.inr 143] m4 fun r7 m6 => InI r7 → ((¬ r7 = 0 → (CWV C 328 [.inr 143, .inl x3] (upm m6 143 0 0) fun m9 => (InI (64 * x1)) ∧ (InI ((64 * x1) + x2)) ∧ ((0 : Int) ≤ ((64 * x1) + x2) ∧ (((64 * x1) + x2) : Int) < 128) ∧ ∀ v10 : Int, v10 = m9 165 (Int.toNat ((64 * x1) + x2)) → InI v10 → (InI v10 → K (some v10) m9))) ∧ (¬ (¬ r7 = 0) → (InI 0 → K (some 0) (upm m6 143 0 2)))))) ∧ (¬ (¬ r5 = 0) → (InI 0 → K (some 0) (upm m4 143 0 1))))))))) : Wx C S M_327 K 0 [some (.inr 143), some (.inl x1), some (.inl x2), some (.inl x3)] [] mem := by
  refine Wx.aload_n hC te_327_0 rfl ?_
  refine Wx.iload_n hC te_327_1 rfl ?_
  refine Wx.iload_n hC te_327_2 rfl ?_
  refine Wx.statI hC te_327_3 (by decide) mt_316 (args := [.inl x1, .inl x2]) (rest := [.inr 143]) rfl rfl rfl rfl rfl ?_
  refine CWI.mono hC (fun r2 m1 H hy => ?_) H
  replace H := H hy
  refine Wx.ifc hC (t := 16) te_327_6 (by decide) (fun q => ?_) (fun q => ?_)
  · replace H := H.1 q
    refine Wx.iconst hC te_327_16 rfl ?_
    refine Wx.goto hC (t := 32) te_327_17 (by decide) ?_
    refine Wx.putI hC te_327_32 rfl rfl rfl rfl ?_
    refine Wx.aload_n hC te_327_35 rfl ?_
    refine Wx.getI hC te_327_36 rfl rfl rfl (fun c3 e1 e2 => ?_)
    rw [upm_eq] at e1
    subst e1
    refine Wx.ifc hC (t := 44) te_327_39 (by decide) (fun q => absurd q (show ¬ ((1 : Int) ≤ 0) by decide)) (fun q => ?_)
    refine Wx.iconst hC te_327_42 rfl ?_
    exact Wx.ireturn hC te_327_43 rfl H
  · replace H := H.2 q
    refine Wx.iload_n hC te_327_9 rfl ?_
    refine Wx.statI hC te_327_10 (by decide) mt_309 (args := [.inl x3]) (rest := [.inr 143]) rfl rfl rfl rfl rfl ?_
    refine CWI.mono hC (fun r5 m4 H hy => ?_) H
    replace H := H hy
    refine Wx.ifc hC (t := 20) te_327_13 (by decide) (fun q => ?_) (fun q => ?_)
    · replace H := H.1 q
      refine Wx.aload_n hC te_327_20 rfl ?_
      refine Wx.virtI hC te_327_21 mt_240 (args := [.inr 143]) (rest := [.inr 143]) rfl rfl rfl rfl rfl rfl rfl rfl ?_
      refine CWI.mono hC (fun r7 m6 H hy => ?_) H
      replace H := H hy
      refine Wx.ifc hC (t := 31) te_327_24 (by decide) (fun q => ?_) (fun q => ?_)
      · replace H := H.1 q
        refine Wx.iconst hC te_327_31 rfl ?_
        refine Wx.putI hC te_327_32 rfl rfl rfl rfl ?_
        refine Wx.aload_n hC te_327_35 rfl ?_
        refine Wx.getI hC te_327_36 rfl rfl rfl (fun c8 e1 e2 => ?_)
        rw [upm_eq] at e1
        subst e1
        refine Wx.ifc hC (t := 44) te_327_39 (by decide) (fun q => ?_) (fun q => absurd (show (0 : Int) ≤ 0 by decide) q)
        refine Wx.aload_n hC te_327_44 rfl ?_
        refine Wx.iload_n hC te_327_45 rfl ?_
        refine Wx.virtV hC te_327_46 mt_328 (args := [.inr 143, .inl x3]) (rest := []) rfl rfl rfl rfl rfl rfl rfl rfl ?_
        refine CWV.mono hC (fun m9 H => ?_) H
        refine Wx.aload_n hC te_327_49 rfl ?_
        refine Wx.getR hC te_327_50 rfl rfl rfl ?_
        refine Wx.bipush hC te_327_53 rfl rfl ?_
        refine Wx.iload_n hC te_327_55 rfl ?_
        refine Wx.imul hC te_327_56 H.1 ?_
        replace H := H.2
        refine Wx.iload_n hC te_327_57 rfl ?_
        refine Wx.iadd hC te_327_58 H.1 ?_
        replace H := H.2
        refine Wx.iald hC te_327_59 rfl H.1 (fun v10 e1 e2 => ?_)
        replace H := H.2 v10 e1 e2
        exact Wx.ireturn hC te_327_60 rfl H
      · replace H := H.2 q
        refine Wx.iconst hC te_327_27 rfl ?_
        refine Wx.goto hC (t := 32) te_327_28 (by decide) ?_
        refine Wx.putI hC te_327_32 rfl rfl rfl rfl ?_
        refine Wx.aload_n hC te_327_35 rfl ?_
        refine Wx.getI hC te_327_36 rfl rfl rfl (fun c11 e1 e2 => ?_)
        rw [upm_eq] at e1
        subst e1
        refine Wx.ifc hC (t := 44) te_327_39 (by decide) (fun q => absurd q (show ¬ ((2 : Int) ≤ 0) by decide)) (fun q => ?_)
        refine Wx.iconst hC te_327_42 rfl ?_
        exact Wx.ireturn hC te_327_43 rfl H
    · replace H := H.2 q
      refine Wx.iconst hC te_327_16 rfl ?_
      refine Wx.goto hC (t := 32) te_327_17 (by decide) ?_
      refine Wx.putI hC te_327_32 rfl rfl rfl rfl ?_
      refine Wx.aload_n hC te_327_35 rfl ?_
      refine Wx.getI hC te_327_36 rfl rfl rfl (fun c12 e1 e2 => ?_)
      rw [upm_eq] at e1
      subst e1
      refine Wx.ifc hC (t := 44) te_327_39 (by decide) (fun q => absurd q (show ¬ ((1 : Int) ≤ 0) by decide)) (fun q => ?_)
      refine Wx.iconst hC te_327_42 rfl ?_
      exact Wx.ireturn hC te_327_43 rfl H
theorem w_365_0 {C : CXW} (hC : Cmono C) {S : Nat × (Nat → Int32)} {K : WK} {mem : MM} {x1 x2 x3 : Int} (H : (CWI C 242 [.inr 143, .inl x1, .inl x2] mem fun r2 m1 => InI r2 → ((r2 < 0 → (InI 0 → K (some 0) m1)) ∧ (¬ (r2 < 0) → (CWI C 243 [.inr 143, .inl x1, .inl x2] m1 fun r4 m3 => InI r4 → ((r4 ≤ x3 → (InI (41 * r2)) ∧ (InI ((41 * r2) + x3)) ∧ (CWI C 243 [.inr 143, .inl x1, .inl x2] m3 fun r6 m5 => InI r6 → (InI (((41 * r2) + x3) - r6)) ∧ ((0 : Int) ≤ (((41 * r2) + x3) - r6) ∧ ((((41 * r2) + x3) - r6) : Int) < 328) ∧ ∀ v7 : Int, v7 = m5 167 (Int.toNat (((41 * r2) + x3) - r6)) → InI v7 → (InI v7 → K (some v7) m5))) ∧ (¬ (r4 ≤ x3) → (InI 0 → K (some 0) m3)))))))) : Wx C S M_365 K 0 [some (.inr 143), some (.inl x1), some (.inl x2), some (.inl x3), none] [] mem := by
  refine Wx.aload_n hC te_365_0 rfl ?_
  refine Wx.iload_n hC te_365_1 rfl ?_
  refine Wx.iload_n hC te_365_2 rfl ?_
  refine Wx.virtI hC te_365_3 mt_242 (args := [.inr 143, .inl x1, .inl x2]) (rest := []) rfl rfl rfl rfl rfl rfl rfl rfl ?_
  refine CWI.mono hC (fun r2 m1 H hy => ?_) H
  replace H := H hy
  refine Wx.istore hC te_365_6 rfl ?_
  refine Wx.iload hC te_365_8 rfl ?_
  refine Wx.ifc hC (t := 23) te_365_10 (by decide) (fun q => ?_) (fun q => ?_)
  · replace H := H.1 q
    refine Wx.iconst hC te_365_23 rfl ?_
    exact Wx.ireturn hC te_365_24 rfl H
  · replace H := H.2 q
    refine Wx.iload_n hC te_365_13 rfl ?_
    refine Wx.aload_n hC te_365_14 rfl ?_
    refine Wx.iload_n hC te_365_15 rfl ?_
    refine Wx.iload_n hC te_365_16 rfl ?_
    refine Wx.virtI hC te_365_17 mt_243 (args := [.inr 143, .inl x1, .inl x2]) (rest := [.inl x3]) rfl rfl rfl rfl rfl rfl rfl rfl ?_
    refine CWI.mono hC (fun r4 m3 H hy => ?_) H
    replace H := H hy
    refine Wx.icmp hC (t := 25) te_365_20 (by decide) (fun q => ?_) (fun q => ?_)
    · replace H := H.1 q
      refine Wx.aload_n hC te_365_25 rfl ?_
      refine Wx.getR hC te_365_26 rfl rfl rfl ?_
      refine Wx.bipush hC te_365_29 rfl rfl ?_
      refine Wx.iload hC te_365_31 rfl ?_
      refine Wx.imul hC te_365_33 H.1 ?_
      replace H := H.2
      refine Wx.iload_n hC te_365_34 rfl ?_
      refine Wx.iadd hC te_365_35 H.1 ?_
      replace H := H.2
      refine Wx.aload_n hC te_365_36 rfl ?_
      refine Wx.iload_n hC te_365_37 rfl ?_
      refine Wx.iload_n hC te_365_38 rfl ?_
      refine Wx.virtI hC te_365_39 mt_243 (args := [.inr 143, .inl x1, .inl x2]) (rest := [.inl ((41 * r2) + x3), .inr 167]) rfl rfl rfl rfl rfl rfl rfl rfl ?_
      refine CWI.mono hC (fun r6 m5 H hy => ?_) H
      replace H := H hy
      refine Wx.isub hC te_365_42 H.1 ?_
      replace H := H.2
      refine Wx.iald hC te_365_43 rfl H.1 (fun v7 e1 e2 => ?_)
      replace H := H.2 v7 e1 e2
      exact Wx.ireturn hC te_365_44 rfl H
    · replace H := H.2 q
      refine Wx.iconst hC te_365_23 rfl ?_
      exact Wx.ireturn hC te_365_24 rfl H
theorem w_364_0 {C : CXW} (hC : Cmono C) {S : Nat × (Nat → Int32)} {K : WK} {mem : MM} {x1 x2 x3 x4 : Int} (H : (CWI C 227 [.inl x3, .inl 1, .inl 9] mem fun r2 m1 => InI r2 → ((r2 = 0 → (InI 0 → K (some 0) (upm m1 143 0 1))) ∧ (¬ (r2 = 0) → (CWI C 227 [.inl x4, .inl 1, .inl 9] m1 fun r5 m4 => InI r5 → ((¬ r5 = 0 → (CWI C 311 [.inr 143, .inl x1, .inl x2] m4 fun r7 m6 => InI r7 → ((r7 ≤ 0 → (Wx C S M_364 K 50 [some (.inr 143), some (.inl x1), some (.inl x2), some (.inl x3), some (.inl x4), some (.inl 0), some (.inl 0), none, none, none, none] [] (upm m6 143 0 r7))) ∧ (¬ (r7 ≤ 0) → (InI 0 → K (some 0) (upm m6 143 0 r7)))))) ∧ (¬ (¬ r5 = 0) → (InI 0 → K (some 0) (upm m4 143 0 1))))))))) : Wx C S M_364 K 0 [some (.inr 143), some (.inl x1), some (.inl x2), some (.inl x3), some (.inl x4), none, none, none, none, none, none] [] mem := by
  refine Wx.aload_n hC te_364_0 rfl ?_
  refine Wx.iload_n hC te_364_1 rfl ?_
  refine Wx.iconst hC te_364_2 rfl ?_
  refine Wx.bipush hC te_364_3 rfl rfl ?_
  refine Wx.statI hC te_364_5 (by decide) mt_227 (args := [.inl x3, .inl 1, .inl 9]) (rest := [.inr 143]) rfl rfl rfl rfl rfl ?_
  refine CWI.mono hC (fun r2 m1 H hy => ?_) H
  replace H := H hy
  refine Wx.ifc hC (t := 22) te_364_8 (by decide) (fun q => ?_) (fun q => ?_)
  · replace H := H.1 q
    refine Wx.iconst hC te_364_22 rfl ?_
    refine Wx.goto hC (t := 32) te_364_23 (by decide) ?_
    refine Wx.putI hC te_364_32 rfl rfl rfl rfl ?_
    refine Wx.aload_n hC te_364_35 rfl ?_
    refine Wx.getI hC te_364_36 rfl rfl rfl (fun c3 e1 e2 => ?_)
    rw [upm_eq] at e1
    subst e1
    refine Wx.ifc hC (t := 44) te_364_39 (by decide) (fun q => absurd q (show ¬ ((1 : Int) ≤ 0) by decide)) (fun q => ?_)
    refine Wx.iconst hC te_364_42 rfl ?_
    exact Wx.ireturn hC te_364_43 rfl H
  · replace H := H.2 q
    refine Wx.iload hC te_364_11 rfl ?_
    refine Wx.iconst hC te_364_13 rfl ?_
    refine Wx.bipush hC te_364_14 rfl rfl ?_
    refine Wx.statI hC te_364_16 (by decide) mt_227 (args := [.inl x4, .inl 1, .inl 9]) (rest := [.inr 143]) rfl rfl rfl rfl rfl ?_
    refine CWI.mono hC (fun r5 m4 H hy => ?_) H
    replace H := H hy
    refine Wx.ifc hC (t := 26) te_364_19 (by decide) (fun q => ?_) (fun q => ?_)
    · replace H := H.1 q
      refine Wx.aload_n hC te_364_26 rfl ?_
      refine Wx.iload_n hC te_364_27 rfl ?_
      refine Wx.iload_n hC te_364_28 rfl ?_
      refine Wx.virtI hC te_364_29 mt_311 (args := [.inr 143, .inl x1, .inl x2]) (rest := [.inr 143]) rfl rfl rfl rfl rfl rfl rfl rfl ?_
      refine CWI.mono hC (fun r7 m6 H hy => ?_) H
      replace H := H hy
      refine Wx.putI hC te_364_32 rfl rfl rfl rfl ?_
      refine Wx.aload_n hC te_364_35 rfl ?_
      refine Wx.getI hC te_364_36 rfl rfl rfl (fun c8 e1 e2 => ?_)
      rw [upm_eq] at e1
      subst e1
      refine Wx.ifc hC (t := 44) te_364_39 (by decide) (fun q => ?_) (fun q => ?_)
      · replace H := H.1 q
        refine Wx.iconst hC te_364_44 rfl ?_
        refine Wx.istore hC te_364_45 rfl ?_
        refine Wx.iconst hC te_364_47 rfl ?_
        refine Wx.istore hC te_364_48 rfl ?_
        exact H
      · replace H := H.2 q
        refine Wx.iconst hC te_364_42 rfl ?_
        exact Wx.ireturn hC te_364_43 rfl H
    · replace H := H.2 q
      refine Wx.iconst hC te_364_22 rfl ?_
      refine Wx.goto hC (t := 32) te_364_23 (by decide) ?_
      refine Wx.putI hC te_364_32 rfl rfl rfl rfl ?_
      refine Wx.aload_n hC te_364_35 rfl ?_
      refine Wx.getI hC te_364_36 rfl rfl rfl (fun c9 e1 e2 => ?_)
      rw [upm_eq] at e1
      subst e1
      refine Wx.ifc hC (t := 44) te_364_39 (by decide) (fun q => absurd q (show ¬ ((1 : Int) ≤ 0) by decide)) (fun q => ?_)
      refine Wx.iconst hC te_364_42 rfl ?_
      exact Wx.ireturn hC te_364_43 rfl H
theorem w_364_50 {C : CXW} (hC : Cmono C) {S : Nat × (Nat → Int32)} {K : WK} {mem : MM} {x1 x2 x3 x4 x5 x6 : Int} (H : (CWI C 313 [.inr 143, .inl x1, .inl x2] mem fun r2 m1 => InI r2 → ((r2 ≤ x6 → (InI x5 → K (some x5) m1)) ∧ (¬ (r2 ≤ x6) → ∀ z3 : Int, InI z3 → (InI (x6 + x5) → z3 = x6 + x5) → (Wx C S M_364 K 71 [some (.inr 143), some (.inl x1), some (.inl x2), some (.inl x3), some (.inl x4), some (.inl x5), some (.inl x6), some (.inl z3), some (.inl 0), none, none] [] m1))))) : Wx C S M_364 K 50 [some (.inr 143), some (.inl x1), some (.inl x2), some (.inl x3), some (.inl x4), some (.inl x5), some (.inl x6), none, none, none, none] [] mem := by
  refine Wx.iload hC te_364_50 rfl ?_
  refine Wx.aload_n hC te_364_52 rfl ?_
  refine Wx.iload_n hC te_364_53 rfl ?_
  refine Wx.iload_n hC te_364_54 rfl ?_
  refine Wx.virtI hC te_364_55 mt_313 (args := [.inr 143, .inl x1, .inl x2]) (rest := [.inl x6]) rfl rfl rfl rfl rfl rfl rfl rfl ?_
  refine CWI.mono hC (fun r2 m1 H hy => ?_) H
  replace H := H hy
  refine Wx.icmp hC (t := 275) te_364_58 (by decide) (fun q => ?_) (fun q => ?_)
  · replace H := H.1 q
    refine Wx.iload hC te_364_275 rfl ?_
    exact Wx.ireturn hC te_364_277 rfl H
  · replace H := H.2 q
    refine Wx.iload hC te_364_61 rfl ?_
    refine Wx.iload hC te_364_63 rfl ?_
    refine Wx.iaddW hC te_364_65 (fun z3 e1 e2 => ?_)
    replace H := H z3 e1 e2
    refine Wx.istore hC te_364_66 rfl ?_
    refine Wx.iconst hC te_364_68 rfl ?_
    refine Wx.istore hC te_364_69 rfl ?_
    exact H
theorem w_364_71 {C : CXW} (hC : Cmono C) {S : Nat × (Nat → Int32)} {K : WK} {mem : MM} {x1 x2 x3 x4 x5 x6 x7 x8 : Int} (H : ∀ v1 : Int, v1 = mem 143 1 → InI v1 → ((v1 ≤ x8 → ∀ b2 : Int, b2 = ((fun (x y : Int32) => x - y) (Int32.ofInt x7) (Int32.ofInt x6)).toInt → InI b2 → (Wx C S M_364 K 163 [some (.inr 143), some (.inl x1), some (.inl x2), some (.inl x3), some (.inl x4), some (.inl b2), some (.inl x6), some (.inl x7), some (.inl 0), none, none] [] mem)) ∧ (¬ (v1 ≤ x8) → (Wx C S M_364 K 83 [some (.inr 143), some (.inl x1), some (.inl x2), some (.inl x3), some (.inl x4), some (.inl x5), some (.inl x6), some (.inl x7), some (.inl x8), some (.inl 0), none] [] mem)))) : Wx C S M_364 K 71 [some (.inr 143), some (.inl x1), some (.inl x2), some (.inl x3), some (.inl x4), some (.inl x5), some (.inl x6), some (.inl x7), some (.inl x8), none, none] [] mem := by
  refine Wx.iload hC te_364_71 rfl ?_
  refine Wx.aload_n hC te_364_73 rfl ?_
  refine Wx.getI hC te_364_74 rfl rfl rfl (fun v1 e1 e2 => ?_)
  replace H := H v1 e1 e2
  refine Wx.icmp hC (t := 153) te_364_77 (by decide) (fun q => ?_) (fun q => ?_)
  · replace H := H.1 q
    refine Wx.iload hC te_364_153 rfl ?_
    refine Wx.iload hC te_364_155 rfl ?_
    refine Wx.bits hC (f := (fun (x y : Int32) => x - y)) te_364_157 (fun _ _ _ _ => Iff.rfl) (fun b2 e1 e2 => ?_)
    replace H := H b2 e1 e2
    refine Wx.istore hC te_364_158 rfl ?_
    refine Wx.iconst hC te_364_160 rfl ?_
    refine Wx.istore hC te_364_161 rfl ?_
    exact H
  · replace H := H.2 q
    refine Wx.iconst hC te_364_80 rfl ?_
    refine Wx.istore hC te_364_81 rfl ?_
    exact H
theorem w_364_83 {C : CXW} (hC : Cmono C) {S : Nat × (Nat → Int32)} {K : WK} {mem : MM} {x1 x2 x3 x4 x5 x6 x7 x8 x9 : Int} (H : (CWI C 241 [.inr 143, .inl x8] mem fun r2 m1 => InI r2 → ((r2 ≤ x9 → (InI (x8 + 1)) ∧ (Wx C S M_364 K 71 [some (.inr 143), some (.inl x1), some (.inl x2), some (.inl x3), some (.inl x4), some (.inl x5), some (.inl x6), some (.inl x7), some (.inl (x8 + 1)), none, none] [] m1)) ∧ (¬ (r2 ≤ x9) → ((0 : Int) ≤ x8 ∧ (x8 : Int) < 8) ∧ ∀ v3 : Int, v3 = m1 161 (Int.toNat x8) → InI v3 → (CWI C 319 [.inl x6, .inl v3, .inl x1, .inl x2] m1 fun r5 m4 => InI r5 → ((r5 = (-1) → (InI (x8 + 1)) ∧ (Wx C S M_364 K 71 [some (.inr 143), some (.inl x1), some (.inl x2), some (.inl x3), some (.inl x4), some (.inl x5), some (.inl x6), some (.inl x7), some (.inl (x8 + 1)), none, none] [] m4)) ∧ (¬ (r5 = (-1)) → ((0 : Int) ≤ x8 ∧ (x8 : Int) < 8) ∧ ∀ v6 : Int, v6 = m4 161 (Int.toNat x8) → InI v6 → (CWI C 319 [.inl x6, .inl v6, .inl x1, .inl x2] m4 fun r8 m7 => InI r8 → (CWI C 365 [.inr 143, .inl x8, .inl x9, .inl r8] m7 fun r10 m9 => InI r10 → (CWI C 257 [.inl x7, .inl r10] m9 fun r12 m11 => InI r12 → (InI (x9 + 1)) ∧ (Wx C S M_364 K 83 [some (.inr 143), some (.inl x1), some (.inl x2), some (.inl x3), some (.inl x4), some (.inl x5), some (.inl x6), some (.inl r12), some (.inl x8), some (.inl (x9 + 1)), none] [] m11))))))))))) : Wx C S M_364 K 83 [some (.inr 143), some (.inl x1), some (.inl x2), some (.inl x3), some (.inl x4), some (.inl x5), some (.inl x6), some (.inl x7), some (.inl x8), some (.inl x9), none] [] mem := by
  refine Wx.iload hC te_364_83 rfl ?_
  refine Wx.aload_n hC te_364_85 rfl ?_
  refine Wx.iload hC te_364_86 rfl ?_
  refine Wx.virtI hC te_364_88 mt_241 (args := [.inr 143, .inl x8]) (rest := [.inl x9]) rfl rfl rfl rfl rfl rfl rfl rfl ?_
  refine CWI.mono hC (fun r2 m1 H hy => ?_) H
  replace H := H hy
  refine Wx.icmp hC (t := 147) te_364_91 (by decide) (fun q => ?_) (fun q => ?_)
  · replace H := H.1 q
    refine Wx.iinc hC te_364_147 rfl rfl H.1 ?_
    replace H := H.2
    refine Wx.goto hC (t := 71) te_364_150 (by decide) ?_
    exact Wx.weak (by repeat' (first | exact trivial | exact rfl | constructor)) H
  · replace H := H.2 q
    refine Wx.iload hC te_364_94 rfl ?_
    refine Wx.aload_n hC te_364_96 rfl ?_
    refine Wx.getR hC te_364_97 rfl rfl rfl ?_
    refine Wx.iload hC te_364_100 rfl ?_
    refine Wx.iald hC te_364_102 rfl H.1 (fun v3 e1 e2 => ?_)
    replace H := H.2 v3 e1 e2
    refine Wx.iload_n hC te_364_103 rfl ?_
    refine Wx.iload_n hC te_364_104 rfl ?_
    refine Wx.statI hC te_364_105 (by decide) mt_319 (args := [.inl x6, .inl v3, .inl x1, .inl x2]) (rest := []) rfl rfl rfl rfl rfl ?_
    refine CWI.mono hC (fun r5 m4 H hy => ?_) H
    replace H := H hy
    refine Wx.iconst hC te_364_108 rfl ?_
    refine Wx.icmp hC (t := 147) te_364_109 (by decide) (fun q => ?_) (fun q => ?_)
    · replace H := H.1 q
      refine Wx.iinc hC te_364_147 rfl rfl H.1 ?_
      replace H := H.2
      refine Wx.goto hC (t := 71) te_364_150 (by decide) ?_
      exact Wx.weak (by repeat' (first | exact trivial | exact rfl | constructor)) H
    · replace H := H.2 q
      refine Wx.iload hC te_364_112 rfl ?_
      refine Wx.aload_n hC te_364_114 rfl ?_
      refine Wx.iload hC te_364_115 rfl ?_
      refine Wx.iload hC te_364_117 rfl ?_
      refine Wx.iload hC te_364_119 rfl ?_
      refine Wx.aload_n hC te_364_121 rfl ?_
      refine Wx.getR hC te_364_122 rfl rfl rfl ?_
      refine Wx.iload hC te_364_125 rfl ?_
      refine Wx.iald hC te_364_127 rfl H.1 (fun v6 e1 e2 => ?_)
      replace H := H.2 v6 e1 e2
      refine Wx.iload_n hC te_364_128 rfl ?_
      refine Wx.iload_n hC te_364_129 rfl ?_
      refine Wx.statI hC te_364_130 (by decide) mt_319 (args := [.inl x6, .inl v6, .inl x1, .inl x2]) (rest := [.inl x9, .inl x8, .inr 143, .inl x7]) rfl rfl rfl rfl rfl ?_
      refine CWI.mono hC (fun r8 m7 H hy => ?_) H
      replace H := H hy
      refine Wx.virtI hC te_364_133 mt_365 (args := [.inr 143, .inl x8, .inl x9, .inl r8]) (rest := [.inl x7]) rfl rfl rfl rfl rfl rfl rfl rfl ?_
      refine CWI.mono hC (fun r10 m9 H hy => ?_) H
      replace H := H hy
      refine Wx.statI hC te_364_136 (by decide) mt_257 (args := [.inl x7, .inl r10]) (rest := []) rfl rfl rfl rfl rfl ?_
      refine CWI.mono hC (fun r12 m11 H hy => ?_) H
      replace H := H hy
      refine Wx.istore hC te_364_139 rfl ?_
      refine Wx.iinc hC te_364_141 rfl rfl H.1 ?_
      replace H := H.2
      refine Wx.goto hC (t := 83) te_364_144 (by decide) ?_
      exact H
theorem w_364_163 {C : CXW} (hC : Cmono C) {S : Nat × (Nat → Int32)} {K : WK} {mem : MM} {x1 x2 x3 x4 x5 x6 x7 x8 : Int} (H : ∀ v1 : Int, v1 = mem 143 1 → InI v1 → ((v1 ≤ x8 → (InI (x6 + 1)) ∧ (Wx C S M_364 K 50 [some (.inr 143), some (.inl x1), some (.inl x2), some (.inl x3), some (.inl x4), some (.inl x5), some (.inl (x6 + 1)), none, none, none, none] [] mem)) ∧ (¬ (v1 ≤ x8) → ((0 : Int) ≤ x8 ∧ (x8 : Int) < 8) ∧ ∀ v2 : Int, v2 = mem 161 (Int.toNat x8) → InI v2 → (CWI C 319 [.inl x6, .inl v2, .inl x1, .inl x2] mem fun r4 m3 => InI r4 → ((¬ r4 = (-1) → ((0 : Int) ≤ x8 ∧ (x8 : Int) < 8) ∧ ∀ v5 : Int, v5 = m3 144 (Int.toNat x8) → InI v5 → ((¬ v5 = 4 → (InI (41 * x8)) ∧ (InI ((41 * x8) + r4)) ∧ (CWI C 246 [.inr 143, .inl x8] m3 fun r7 m6 => InI r7 → ∀ z8 : Int, InI z8 → (InI (x7 + r7) → z8 = x7 + r7) → ∀ z9 : Int, InI z9 → (InI (z8 + 0) → z9 = z8 + 0) → ((0 : Int) ≤ ((41 * x8) + r4) ∧ (((41 * x8) + r4) : Int) < 328) ∧ (InI (x8 + 1)) ∧ (Wx C S M_364 K 163 [some (.inr 143), some (.inl x1), some (.inl x2), some (.inl x3), some (.inl x4), some (.inl x5), some (.inl x6), some (.inl x7), some (.inl (x8 + 1)), none, none] [] (upm m6 167 (Int.toNat ((41 * x8) + r4)) z9)))) ∧ (¬ (¬ v5 = 4) → (CWI C 251 [.inr 143, .inl x8] m3 fun r11 m10 => InI r11 → (InI (r4 + r11)) ∧ (0 < x3) ∧ ((¬ (((r4 + r11) : Int).tmod x3) = 0 → (InI (41 * x8)) ∧ (InI ((41 * x8) + r4)) ∧ (CWI C 246 [.inr 143, .inl x8] m10 fun r13 m12 => InI r13 → ∀ z14 : Int, InI z14 → (InI (x7 + r13) → z14 = x7 + r13) → ∀ z15 : Int, InI z15 → (InI (z14 + 0) → z15 = z14 + 0) → ((0 : Int) ≤ ((41 * x8) + r4) ∧ (((41 * x8) + r4) : Int) < 328) ∧ (InI (x8 + 1)) ∧ (Wx C S M_364 K 163 [some (.inr 143), some (.inl x1), some (.inl x2), some (.inl x3), some (.inl x4), some (.inl x5), some (.inl x6), some (.inl x7), some (.inl (x8 + 1)), none, none] [] (upm m12 167 (Int.toNat ((41 * x8) + r4)) z15)))) ∧ (¬ (¬ (((r4 + r11) : Int).tmod x3) = 0) → (InI (41 * x8)) ∧ (InI ((41 * x8) + r4)) ∧ (CWI C 246 [.inr 143, .inl x8] m10 fun r17 m16 => InI r17 → ∀ z18 : Int, InI z18 → (InI (x7 + r17) → z18 = x7 + r17) → ∀ z19 : Int, InI z19 → (InI (z18 + x4) → z19 = z18 + x4) → ((0 : Int) ≤ ((41 * x8) + r4) ∧ (((41 * x8) + r4) : Int) < 328) ∧ (InI (x8 + 1)) ∧ (Wx C S M_364 K 163 [some (.inr 143), some (.inl x1), some (.inl x2), some (.inl x3), some (.inl x4), some (.inl x5), some (.inl x6), some (.inl x7), some (.inl (x8 + 1)), none, none] [] (upm m16 167 (Int.toNat ((41 * x8) + r4)) z19))))))))) ∧ (¬ (¬ r4 = (-1)) → (InI (x8 + 1)) ∧ (Wx C S M_364 K 163 [some (.inr 143), some (.inl x1), some (.inl x2), some (.inl x3), some (.inl x4), some (.inl x5), some (.inl x6), some (.inl x7), some (.inl (x8 + 1)), none, none] [] m3))))))) : Wx C S M_364 K 163 [some (.inr 143), some (.inl x1), some (.inl x2), some (.inl x3), some (.inl x4), some (.inl x5), some (.inl x6), some (.inl x7), some (.inl x8), none, none] [] mem := by
  refine Wx.iload hC te_364_163 rfl ?_
  refine Wx.aload_n hC te_364_165 rfl ?_
  refine Wx.getI hC te_364_166 rfl rfl rfl (fun v1 e1 e2 => ?_)
  replace H := H v1 e1 e2
  refine Wx.icmp hC (t := 269) te_364_169 (by decide) (fun q => ?_) (fun q => ?_)
  · replace H := H.1 q
    refine Wx.iinc hC te_364_269 rfl rfl H.1 ?_
    replace H := H.2
    refine Wx.goto hC (t := 50) te_364_272 (by decide) ?_
    exact Wx.weak (by repeat' (first | exact trivial | exact rfl | constructor)) H
  · replace H := H.2 q
    refine Wx.iload hC te_364_172 rfl ?_
    refine Wx.aload_n hC te_364_174 rfl ?_
    refine Wx.getR hC te_364_175 rfl rfl rfl ?_
    refine Wx.iload hC te_364_178 rfl ?_
    refine Wx.iald hC te_364_180 rfl H.1 (fun v2 e1 e2 => ?_)
    replace H := H.2 v2 e1 e2
    refine Wx.iload_n hC te_364_181 rfl ?_
    refine Wx.iload_n hC te_364_182 rfl ?_
    refine Wx.statI hC te_364_183 (by decide) mt_319 (args := [.inl x6, .inl v2, .inl x1, .inl x2]) (rest := []) rfl rfl rfl rfl rfl ?_
    refine CWI.mono hC (fun r4 m3 H hy => ?_) H
    replace H := H hy
    refine Wx.istore hC te_364_186 rfl ?_
    refine Wx.iload hC te_364_188 rfl ?_
    refine Wx.iconst hC te_364_190 rfl ?_
    refine Wx.icmp hC (t := 197) te_364_191 (by decide) (fun q => ?_) (fun q => ?_)
    · replace H := H.1 q
      refine Wx.aload_n hC te_364_197 rfl ?_
      refine Wx.getR hC te_364_198 rfl rfl rfl ?_
      refine Wx.iload hC te_364_201 rfl ?_
      refine Wx.iald hC te_364_203 rfl H.1 (fun v5 e1 e2 => ?_)
      replace H := H.2 v5 e1 e2
      refine Wx.iconst hC te_364_204 rfl ?_
      refine Wx.icmp hC (t := 226) te_364_205 (by decide) (fun q => ?_) (fun q => ?_)
      · replace H := H.1 q
        refine Wx.iconst hC te_364_226 rfl ?_
        refine Wx.istore hC te_364_227 rfl ?_
        refine Wx.aload_n hC te_364_229 rfl ?_
        refine Wx.getR hC te_364_230 rfl rfl rfl ?_
        refine Wx.bipush hC te_364_233 rfl rfl ?_
        refine Wx.iload hC te_364_235 rfl ?_
        refine Wx.imul hC te_364_237 H.1 ?_
        replace H := H.2
        refine Wx.iload hC te_364_238 rfl ?_
        refine Wx.iadd hC te_364_240 H.1 ?_
        replace H := H.2
        refine Wx.iload hC te_364_241 rfl ?_
        refine Wx.aload_n hC te_364_243 rfl ?_
        refine Wx.iload hC te_364_244 rfl ?_
        refine Wx.virtI hC te_364_246 mt_246 (args := [.inr 143, .inl x8]) (rest := [.inl x7, .inl ((41 * x8) + r4), .inr 167]) rfl rfl rfl rfl rfl rfl rfl rfl ?_
        refine CWI.mono hC (fun r7 m6 H hy => ?_) H
        replace H := H hy
        refine Wx.iaddW hC te_364_249 (fun z8 e1 e2 => ?_)
        replace H := H z8 e1 e2
        refine Wx.iload hC te_364_250 rfl ?_
        refine Wx.ifc hC (t := 260) te_364_252 (by decide) (fun q => ?_) (fun q => absurd (show (0 : Int) = 0 by decide) q)
        refine Wx.iconst hC te_364_260 rfl ?_
        refine Wx.iaddW hC te_364_261 (fun z9 e1 e2 => ?_)
        replace H := H z9 e1 e2
        refine Wx.iast hC te_364_262 rfl H.1 ?_
        replace H := H.2
        refine Wx.iinc hC te_364_263 rfl rfl H.1 ?_
        replace H := H.2
        refine Wx.goto hC (t := 163) te_364_266 (by decide) ?_
        exact Wx.weak (by repeat' (first | exact trivial | exact rfl | constructor)) H
      · replace H := H.2 q
        refine Wx.iload hC te_364_208 rfl ?_
        refine Wx.aload_n hC te_364_210 rfl ?_
        refine Wx.iload hC te_364_211 rfl ?_
        refine Wx.virtI hC te_364_213 mt_251 (args := [.inr 143, .inl x8]) (rest := [.inl r4]) rfl rfl rfl rfl rfl rfl rfl rfl ?_
        refine CWI.mono hC (fun r11 m10 H hy => ?_) H
        replace H := H hy
        refine Wx.iadd hC te_364_216 H.1 ?_
        replace H := H.2
        refine Wx.iload_n hC te_364_217 rfl ?_
        refine Wx.irem hC te_364_218 H.1 ?_
        replace H := H.2
        refine Wx.ifc hC (t := 226) te_364_219 (by decide) (fun q => ?_) (fun q => ?_)
        · replace H := H.1 q
          refine Wx.iconst hC te_364_226 rfl ?_
          refine Wx.istore hC te_364_227 rfl ?_
          refine Wx.aload_n hC te_364_229 rfl ?_
          refine Wx.getR hC te_364_230 rfl rfl rfl ?_
          refine Wx.bipush hC te_364_233 rfl rfl ?_
          refine Wx.iload hC te_364_235 rfl ?_
          refine Wx.imul hC te_364_237 H.1 ?_
          replace H := H.2
          refine Wx.iload hC te_364_238 rfl ?_
          refine Wx.iadd hC te_364_240 H.1 ?_
          replace H := H.2
          refine Wx.iload hC te_364_241 rfl ?_
          refine Wx.aload_n hC te_364_243 rfl ?_
          refine Wx.iload hC te_364_244 rfl ?_
          refine Wx.virtI hC te_364_246 mt_246 (args := [.inr 143, .inl x8]) (rest := [.inl x7, .inl ((41 * x8) + r4), .inr 167]) rfl rfl rfl rfl rfl rfl rfl rfl ?_
          refine CWI.mono hC (fun r13 m12 H hy => ?_) H
          replace H := H hy
          refine Wx.iaddW hC te_364_249 (fun z14 e1 e2 => ?_)
          replace H := H z14 e1 e2
          refine Wx.iload hC te_364_250 rfl ?_
          refine Wx.ifc hC (t := 260) te_364_252 (by decide) (fun q => ?_) (fun q => absurd (show (0 : Int) = 0 by decide) q)
          refine Wx.iconst hC te_364_260 rfl ?_
          refine Wx.iaddW hC te_364_261 (fun z15 e1 e2 => ?_)
          replace H := H z15 e1 e2
          refine Wx.iast hC te_364_262 rfl H.1 ?_
          replace H := H.2
          refine Wx.iinc hC te_364_263 rfl rfl H.1 ?_
          replace H := H.2
          refine Wx.goto hC (t := 163) te_364_266 (by decide) ?_
          exact Wx.weak (by repeat' (first | exact trivial | exact rfl | constructor)) H
        · replace H := H.2 q
          refine Wx.iconst hC te_364_222 rfl ?_
          refine Wx.goto hC (t := 227) te_364_223 (by decide) ?_
          refine Wx.istore hC te_364_227 rfl ?_
          refine Wx.aload_n hC te_364_229 rfl ?_
          refine Wx.getR hC te_364_230 rfl rfl rfl ?_
          refine Wx.bipush hC te_364_233 rfl rfl ?_
          refine Wx.iload hC te_364_235 rfl ?_
          refine Wx.imul hC te_364_237 H.1 ?_
          replace H := H.2
          refine Wx.iload hC te_364_238 rfl ?_
          refine Wx.iadd hC te_364_240 H.1 ?_
          replace H := H.2
          refine Wx.iload hC te_364_241 rfl ?_
          refine Wx.aload_n hC te_364_243 rfl ?_
          refine Wx.iload hC te_364_244 rfl ?_
          refine Wx.virtI hC te_364_246 mt_246 (args := [.inr 143, .inl x8]) (rest := [.inl x7, .inl ((41 * x8) + r4), .inr 167]) rfl rfl rfl rfl rfl rfl rfl rfl ?_
          refine CWI.mono hC (fun r17 m16 H hy => ?_) H
          replace H := H hy
          refine Wx.iaddW hC te_364_249 (fun z18 e1 e2 => ?_)
          replace H := H z18 e1 e2
          refine Wx.iload hC te_364_250 rfl ?_
          refine Wx.ifc hC (t := 260) te_364_252 (by decide) (fun q => absurd q (show ¬ ((1 : Int) = 0) by decide)) (fun q => ?_)
          refine Wx.iload hC te_364_255 rfl ?_
          refine Wx.goto hC (t := 261) te_364_257 (by decide) ?_
          refine Wx.iaddW hC te_364_261 (fun z19 e1 e2 => ?_)
          replace H := H z19 e1 e2
          refine Wx.iast hC te_364_262 rfl H.1 ?_
          replace H := H.2
          refine Wx.iinc hC te_364_263 rfl rfl H.1 ?_
          replace H := H.2
          refine Wx.goto hC (t := 163) te_364_266 (by decide) ?_
          exact Wx.weak (by repeat' (first | exact trivial | exact rfl | constructor)) H
    · replace H := H.2 q
      refine Wx.goto hC (t := 263) te_364_194 (by decide) ?_
      refine Wx.iinc hC te_364_263 rfl rfl H.1 ?_
      replace H := H.2
      refine Wx.goto hC (t := 163) te_364_266 (by decide) ?_
      exact Wx.weak (by repeat' (first | exact trivial | exact rfl | constructor)) H
/-! runs of the reference: cycle by cycle, and plain -/
def FrU (m m' : MM) : Prop := ∀ A i, ¬ (165 ≤ A ∧ A ≤ 168) → m' A i = m A i
theorem FrU.rf {m : MM} : FrU m m := fun _ _ _ => rfl
theorem FrU.tr {a b c : MM} (h1 : FrU a b) (h2 : FrU b c) : FrU a c := fun A i e => (h2 A i e).trans (h1 A i e)
theorem FrU.up {m : MM} {A i : Nat} {x : Int} (h : 165 ≤ A ∧ A ≤ 168) : FrU m (upm m A i x) := fun B j e => upm_ne (by omega)
theorem FrU.ops {m m' : MM} (k : FrU m m') (h : OpsOK m) : OpsOK m' := by
  refine ⟨by rw [k 143 1 (by omega)]; exact h.1, fun o ho => ?_, fun i hi => by rw [k 151 i (by omega)]; exact h.2.2 i hi⟩
  have := h.2.1 o ho
  unfold OpOK at this ⊢
  rw [k 144 o (by omega), k 145 o (by omega), k 146 o (by omega), k 147 o (by omega), k 148 o (by omega)]
  exact this
theorem FrU.snd {m m' : MM} (k : FrU m m') (h : SoundM m) : SoundM m' := by
  have e : ∀ A i, (143 < A ∧ A < 154) ∨ (A = 143 ∧ i = 1) → m' A i = m A i := fun A i q => k A i (by omega)
  intro o ho q h1 h2
  rw [e 143 1 (by omega)] at ho
  have e1 : srcN m' o = srcN m o := by unfold srcN; rw [e 144 o (by omega)]
  have e2 : srcA m' o q = srcA m o q := by unfold srcA; rw [e 145 o (by omega), e 147 o (by omega)]
  have e3 : srcB m' o q = srcB m o q := by unfold srcB; rw [e 146 o (by omega), e 148 o (by omega)]
  have := h o ho q h1 (by omega)
  unfold SrcS at this ⊢
  rw [e2, e3, e 143 1 (by omega), e 144 _ (by omega)]
  exact this
theorem FrU.tm {m m' : MM} {d : Int} (k : FrU m m') (h : TmOK m d) : TmOK m' d := fun o ho => by
  rw [k 143 1 (by omega)] at ho
  rw [k 161 o (by omega)]; exact h o ho
theorem FrU.rest {m m' : MM} (e : FrU m m') (h : RefOK m) (hp : ∀ o, o < 8 → 0 ≤ m' 168 o ∧ m' 168 o ≤ 45) : RefOK m' := by
  refine ⟨e.ops h.ops, fun k hk => ?_, fun k hk => ?_, fun k hk => ?_, fun k hk => ?_, fun k hk => ?_, fun k hk => ?_, ?_, fun k hk => ?_, ?_, ?_, hp⟩
  · rw [e _ _ (by omega)]; exact h.un k hk
  · rw [e _ _ (by omega)]; exact h.bz k hk
  · rw [e _ _ (by omega)]; exact h.cn k hk
  · rw [e _ _ (by omega)]; exact h.fi k hk
  · rw [e _ _ (by omega), e _ _ (by omega)]; exact h.ab k hk
  · rw [e _ _ (by omega)]; exact h.sl k hk
  · rw [e _ _ (by omega)]; exact h.lo
  · rw [e _ _ (by omega), e _ _ (by omega), e _ _ (by omega), e _ _ (by omega)]; exact h.r48 k hk
  · rw [e _ _ (by omega)]; exact h.nd
  · rw [e _ _ (by omega)]; exact h.th
theorem FrU.q {m m' : MM} (e : FrU m m') : FrQ m m' := fun A i q => e A i (by omega)
/-- all that was paired has a name -/
def PrOK (m : MM) (k : Int) : Prop := ∀ o : Nat, (o : Int) < k → ¬ m 144 o = 5 → 1 ≤ m 168 o ∧ m 168 o ≤ 45
def FrV (m m' : MM) : Prop := ∀ A i, ¬ (165 ≤ A ∧ A ≤ 167) → m' A i = m A i
theorem FrV.rf {m : MM} : FrV m m := fun _ _ _ => rfl
theorem FrV.tr {a b c : MM} (h1 : FrV a b) (h2 : FrV b c) : FrV a c := fun A i e => (h2 A i e).trans (h1 A i e)
theorem FrV.up {m : MM} {A i : Nat} {x : Int} (h : 165 ≤ A ∧ A ≤ 167) : FrV m (upm m A i x) := fun B j e => upm_ne (by omega)
theorem FrV.u {m m' : MM} (e : FrV m m') : FrU m m' := fun A i q => e A i (by omega)
theorem FrV.pr {m m' : MM} {k : Int} (e : FrV m m') (h : PrOK m k) : PrOK m' k := fun o ho q => by
  rw [e 144 o (by omega)] at q
  rw [e 168 o (by omega)]; exact h o ho q
theorem OpsOK.row {m : MM} (h : OpsOK m) {o : Nat} (ho : o < 8) (q : m 144 o = 4 ∨ m 144 o = 5) : (0 ≤ rowF m o ∧ rowF m o ≤ 1) ∧ 0 ≤ plcF m o ∧ plcF m o ≤ 7 := by
  obtain ⟨-, -, -, h4, h5⟩ := h.2.1 o ho
  unfold rowF plcF
  by_cases e : m 144 o = 4
  · rw [if_pos e, if_pos e]; have := h4 e; omega
  · rw [if_neg e, if_neg e]; have := h5 (by omega); omega
/-- which turn begins in a cycle -/
def turnF (c b d t : Int) : Int := if c - b < 0 then -1 else if ¬ (c - b).tmod d = 0 then -1 else if t ≤ (c - b).tdiv d then -1 else (c - b).tdiv d
theorem turnF_rng {c b d t : Int} (hd : 0 < d) (h : ¬ turnF c b d t = -1) : 0 ≤ turnF c b d t ∧ turnF c b d t < t := by
  unfold turnF at h ⊢
  split at h
  · omega
  · rename_i h1
    split at h
    · omega
    · rename_i h2
      split at h
      · omega
      · rename_i h3
        rw [if_neg h1, if_neg h2, if_neg h3]
        have := (tdiv_r (show 0 ≤ c - b by omega) hd).1
        omega
section RUNS
variable {S : Nat × (Nat → Int32)} {n : Nat} {mem : MM} {K : Int → MM → Prop} {d : Int}
theorem f_309 {x : Int} (H1 : 0 ≤ x → x ≤ 40 → K 1 mem) (H0 : K 0 mem) : CWI (Ex S (n + 2)) 309 [.inl x] mem K :=
  CW.of (k := 0) mt_309 rfl rfl (w_309_0 (Ex.mono S (n + 1)) (f_227 (fun a b _ => ⟨Or.inr rfl, _, rfl, H1 a b⟩) (fun _ _ => ⟨Or.inl rfl, _, rfl, H0⟩)))
theorem f_316 {a b : Int} (H1 : 0 ≤ a → a ≤ 1 → 0 ≤ b → b ≤ 63 → K 1 mem) (H0 : K 0 mem) : CWI (Ex S (n + 2)) 316 [.inl a, .inl b] mem K := by
  have h0 : ∃ y, some (0 : Int) = some y ∧ K y mem := ⟨_, rfl, H0⟩
  exact CW.of (k := 0) mt_316 rfl rfl (w_316_0 (Ex.mono S (n + 1)) (f_227 (fun a1 a2 _ => ⟨fun z => absurd z (by decide), fun _ => f_227 (fun b1 b2 _ => ⟨fun z => absurd z (by decide), fun _ => ⟨_, rfl, H1 a1 a2 b1 b2⟩⟩) (fun _ _ => ⟨fun _ => h0, fun z => absurd rfl z⟩)⟩) (fun _ _ => ⟨fun _ => h0, fun z => absurd rfl z⟩)))
theorem f_311 {x : Int} (h : RefOK mem) (H0 : ∀ m', 1 ≤ d → d ≤ 12 → 0 ≤ x → x ≤ 40 → RefOK m' → FrQ mem m' → Kp mem m' → SoundM m' → TmOK m' d → K 0 m') (H1 : ∀ r m', 1 ≤ r → r ≤ 2 → RefOK m' → FrQ mem m' → K r m') : CWI (Ex S (n + 6)) 311 [.inr 143, .inl d, .inl x] mem K := by
  refine CW.of (k := 0) mt_311 rfl rfl (w_311_0 (Ex.mono S (n + 5)) (f_253 (fun d1 d2 _ => ⟨fun z => absurd z (by decide), fun _ => f_309 (fun x1 x2 _ => ⟨fun _ => f_268r h ⟨d1, d2⟩ (fun m' h1 h2 hk h3 h4 h5 _ => ⟨fun _ _ => ⟨_, rfl, H0 m' d1 d2 x1 x2 h1 h2 hk h3 h5⟩, fun z => absurd (by decide) z⟩) (fun m' h1 h2 _ => ⟨fun z => absurd rfl z, fun _ _ => ⟨_, rfl, H1 _ _ (by omega) (by omega) h1 h2⟩⟩), fun z => absurd (by decide) z⟩) (fun _ => ⟨fun z => absurd rfl z, fun _ _ => ⟨_, rfl, H1 _ _ (by omega) (by omega) h FrQ.rf⟩⟩)⟩) (fun _ => ⟨fun _ _ => ⟨_, rfl, H1 _ _ (by omega) (by omega) h FrQ.rf⟩, fun z => absurd rfl z⟩)))
theorem f_313 {x : Int} (hO : OpsOK mem) (hd : 1 ≤ d ∧ d ≤ 12) (hx : 0 ≤ x ∧ x ≤ 40) (hT : TmOK mem d) (H : ∀ r, 0 ≤ r → r ≤ 700 → K r mem) : CWI (Ex S (n + 3)) 313 [.inr 143, .inl d, .inl x] mem K := by
  refine CW.of (k := 0) mt_313 rfl rfl (w_313_0 (Ex.mono S (n + 2)) ⟨fun q => ?_, fun q _ => ⟨_, rfl, H 0 (by omega) (by omega)⟩⟩)
  have p : 0 ≤ d * (x - 1) ∧ d * (x - 1) ≤ 468 := by
    have a1 : 0 ≤ d * (x - 1) := Int.mul_nonneg (by omega) (by omega)
    have a2 : d * (x - 1) ≤ 12 * (x - 1) := Int.mul_le_mul_of_nonneg_right hd.2 (by omega)
    omega
  exact ⟨by unfold InI; omega, by unfold InI; omega, f_300 hO hd hT (fun r r1 r2 _ _ => ⟨by unfold InI; omega, fun _ => ⟨_, rfl, H _ (by omega) (by omega)⟩⟩)⟩
theorem f_318 {K : MM → Prop} (H : ∀ m', Fr1 165 mem m' → K m') : CWV (Ex S (n + 1)) 318 [.inr 143] mem K := by
  have key : ∀ (N : Nat) (k : Int) (m : MM), 0 ≤ k → (64 - k).toNat < N → Fr1 165 mem m → Wx (Ex S n) S M_318 (fun r m => r = none ∧ K m) 2 [some (.inr 143), some (.inl k)] [] m := by
    intro N
    induction N with
    | zero => intros; omega
    | succ N ih =>
      intro k m hk hN hF
      refine w_318_2 (Ex.mono S n) ⟨fun _ => ⟨rfl, H m hF⟩, fun q => ⟨by unfold InI; omega, by unfold InI; omega, by omega, by unfold InI; omega, by unfold InI; omega, by unfold InI; omega, by omega, by unfold InI; omega, ih (k + 1) _ (by omega) (by omega) (fun A i e => ?_)⟩⟩
      rw [upm_ne (fun z => e z.1), upm_ne (fun z => e z.1)]; exact hF A i e
  exact CW.of (k := 1) mt_318 rfl rfl (w_318_0 (Ex.mono S n) (key 65 0 mem (by omega) (by omega) Fr1.rf))
theorem f_321 {o t p : Int} (ho : 0 ≤ o ∧ o < 8) (hp : 1 ≤ p ∧ p ≤ 45) (H : ∀ r, 0 ≤ r → r < 640 → K r mem) : CWI (Ex S (n + 2)) 321 [.inr 143, .inl o, .inl t, .inl p] mem K :=
  CW.of (k := 0) mt_321 rfl rfl (w_321_0 (Ex.mono S (n + 1)) ⟨by unfold InI; omega, f_272 ⟨by omega, by omega⟩ (fun r r1 r2 _ => ⟨by unfold InI; omega, fun _ => ⟨_, rfl, H _ (by omega) (by omega)⟩⟩)⟩)
theorem f_324 {k a b : Int} (H : ∀ r, K r mem) : CWI (Ex S (n + 2)) 324 [.inl k, .inl a, .inl b] mem K :=
  CW.of (k := 0) mt_324 rfl rfl (w_324_0 (Ex.mono S (n + 1)) ⟨fun _ => ⟨fun _ => ⟨fun _ => f_258 (fun _ _ _ => ⟨_, rfl, H _⟩), fun _ z _ _ _ => ⟨_, rfl, H _⟩⟩, fun _ z _ _ _ => ⟨_, rfl, H _⟩⟩, fun _ z _ _ _ => ⟨_, rfl, H _⟩⟩)
theorem f_323 (hO : OpsOK mem) (hS : SoundM mem) (hP : PrOK mem (mem 143 1)) {o : Nat} {k t : Int} (ho : (o : Int) < mem 143 1) (hk : 0 ≤ k ∧ k < srcN mem o) (ht : 0 ≤ t ∧ t ≤ 40) (H : ∀ r, K r mem) : CWI (Ex S (n + 3)) 323 [.inr 143, .inl (o : Int), .inl k, .inl t] mem K := by
  have h8 := hO.1
  have ho8 : 0 ≤ (o : Int) ∧ (o : Int) < 8 := by omega
  have hs := hO.src (o := o) (by omega) hk.1 hk.2
  have hss := hS o ho k hk.1 hk.2
  refine CW.of (k := 1) mt_323 rfl rfl (w_323_0 (Ex.mono S (n + 2)) (f_242 ho8 (fun _ => ?_)))
  rw [Int.toNat_natCast]
  refine ⟨fun q1 => ⟨fun q2 => f_243 ho8 (fun _ => ?_), fun q2 => f_243 ho8 (fun _ _ => ⟨_, rfl, H _⟩)⟩, fun q1 _ => ⟨_, rfl, H _⟩⟩
  rw [Int.toNat_natCast]
  unfold srcOK at hs
  unfold SrcS at hss
  have hp := hP (srcA mem o k).toNat (by omega) (by omega)
  exact ⟨by unfold InI; omega, by omega, fun v5 e5 _ => f_321 ⟨by omega, by omega⟩ ⟨by omega, by omega⟩ (fun r r1 r2 _ => ⟨⟨r1, r2⟩, fun v8 _ _ _ => ⟨_, rfl, H _⟩⟩)⟩
theorem f_322 (hO : OpsOK mem) (hS : SoundM mem) (hP : PrOK mem (mem 143 1)) {o : Nat} {t : Int} (ho : (o : Int) < mem 143 1) (ht : 0 ≤ t ∧ t ≤ 39) (H : ∀ r, K r mem) : CWI (Ex S (n + 4)) 322 [.inr 143, .inl (o : Int), .inl t] mem K := by
  have h8 := hO.1
  have ho8 : 0 ≤ (o : Int) ∧ (o : Int) < 8 := by omega
  refine CW.of (k := 0) mt_322 rfl rfl (w_322_0 (Ex.mono S (n + 3)) ⟨ho8, fun v1 e1 _ => ⟨fun q1 => ⟨ho8, fun v2 e2 _ => ⟨fun q2 => ⟨ho8, fun v3 e3 _ => ?_⟩, fun q2 => ?_⟩⟩, fun q1 => ?_⟩⟩)
  · rw [Int.toNat_natCast] at e1 e2
    have hn : srcN mem o = 2 := by unfold srcN; rw [if_neg (by omega), if_neg (by omega)]
    exact f_323 hO hS hP ho ⟨by omega, by omega⟩ ⟨by omega, by omega⟩ (fun r _ => f_323 hO hS hP ho ⟨by omega, by omega⟩ ⟨by omega, by omega⟩ (fun r2 _ => f_324 (fun r3 _ _ => ⟨_, rfl, H _⟩)))
  · rw [Int.toNat_natCast] at e1 e2
    have hn : srcN mem o = 1 := by unfold srcN; rw [if_neg (by omega), if_pos (by omega)]
    exact f_323 hO hS hP ho ⟨by omega, by omega⟩ ⟨by omega, by omega⟩ (fun r _ _ => ⟨_, rfl, H _⟩)
  · rw [Int.toNat_natCast] at e1
    have hr := hO.row (o := o) (by omega) (Or.inl (by omega))
    refine f_250 ho8 (fun _ => ⟨?_, ?_, f_251 ho8 (fun _ => ⟨?_, ?_, fun v _ _ _ => ⟨_, rfl, H _⟩⟩)⟩) <;> (simp only [Int.toNat_natCast]; try unfold InI) <;> omega
theorem f_320 {K : MM → Prop} (hO : OpsOK mem) (hP : PrOK mem (mem 143 1)) {o : Nat} {t : Int} (ho : (o : Int) < mem 143 1) (ht : 0 ≤ t ∧ t ≤ 39) (H : ∀ m', FrV mem m' → K m') : CWV (Ex S (n + 3)) 320 [.inr 143, .inl (o : Int), .inl t] mem K := by
  have h8 := hO.1
  have ho8 : 0 ≤ (o : Int) ∧ (o : Int) < 8 := by omega
  refine CW.of (k := 1) mt_320 rfl rfl (w_320_0 (Ex.mono S (n + 2)) ⟨by unfold InI; omega, by unfold InI; omega, by omega, fun v1 e1 _ => ⟨ho8, fun v2 e2 _ => ⟨fun q => ⟨ho8, fun v3 e3 _ => ?_⟩, fun q => ?_⟩⟩⟩)
  · rw [Int.toNat_natCast] at e2 e3
    have hp := hP o ho (by omega)
    exact f_321 ho8 ⟨by omega, by omega⟩ (fun r r1 r2 _ => ⟨⟨r1, r2⟩, rfl, H _ (FrV.up (by omega))⟩)
  · rw [Int.toNat_natCast] at e2
    have hr := hO.row (o := o) (by omega) (Or.inr (by omega))
    refine f_250 ho8 (fun _ => ⟨?_, ?_, f_251 ho8 (fun _ => ⟨?_, ?_, rfl, H _ (FrV.up (by omega))⟩)⟩) <;> (simp only [Int.toNat_natCast]; try unfold InI) <;> omega
theorem f_319d {c b t : Int} (hd : 0 < d) (h : InI (c - b)) (H : K (turnF c b d t) mem) : CWI (Ex S (n + 1)) 319 [.inl c, .inl b, .inl d, .inl t] mem K := by
  refine CW.of (k := 1) mt_319 rfl rfl (w_319_0 (Ex.mono S n) ⟨h, fun q _ => ⟨_, rfl, ?_⟩, fun q => ⟨hd, fun q2 _ => ⟨_, rfl, ?_⟩, fun q2 => ⟨hd, fun q3 _ => ⟨_, rfl, ?_⟩, fun q3 => ⟨hd, fun _ => ⟨_, rfl, ?_⟩⟩⟩⟩⟩)
  · unfold turnF at H; rw [if_pos q] at H; exact H
  · unfold turnF at H; rw [if_neg q, if_pos q2] at H; exact H
  · unfold turnF at H; rw [if_neg q, if_neg q2, if_pos q3] at H; exact H
  · unfold turnF at H; rw [if_neg q, if_neg q2, if_neg q3] at H; exact H
/-- cycle by cycle -/
theorem rn_75 {m0 : MM} {x e : Int} (hO : OpsOK m0) (hS : SoundM m0) (hT : TmOK m0 d) (hP : PrOK m0 (m0 143 1)) (hd : 1 ≤ d ∧ d ≤ 12) (hx : 0 ≤ x ∧ x ≤ 40) (he : e ≤ 100000) {Kk : WK} (H : ∀ m', FrV m0 m' → Kk none m') : ∀ (N : Nat) (c : Int) (mem : MM), 0 ≤ c → (e + 1 - c).toNat < N → FrV m0 mem → Wx (Ex S (n + 4)) S M_317 Kk 75 [some (.inr 143), some (.inl d), some (.inl x), some (.inl e), some (.inl c), none] [] mem := by
  have h8 := hO.1
  intro N
  induction N with
  | zero => intros; omega
  | succ N ih =>
    intro c mem hc hN hF
    refine w_317_75 (Ex.mono S (n + 4)) ⟨fun _ => H mem hF, fun q => ?_⟩
    have lp2 : ∀ (N' : Nat) (o : Nat) (m : MM), (o : Int) ≤ m0 143 1 → (m0 143 1 - o).toNat < N' → FrV m0 m → Wx (Ex S (n + 4)) S M_317 Kk 138 [some (.inr 143), some (.inl d), some (.inl x), some (.inl e), some (.inl c), some (.inl (o : Int))] [] m := by
      intro N'
      induction N' with
      | zero => intros; omega
      | succ N' ih2 =>
        intro o m ho hN' hF
        have hO' := hF.u.ops hO
        have hT' := hF.u.tm hT
        have hS' := hF.u.snd hS
        have e1' : m 143 1 = m0 143 1 := hF _ _ (by omega)
        have hP' : PrOK m (m 143 1) := by rw [e1']; exact hF.pr hP
        refine w_317_138 (Ex.mono S (n + 4)) (fun v1 e1 _ => ⟨fun z => ⟨by unfold InI; omega, ih (c + 1) m (by omega) (by omega) hF⟩, fun z => ⟨by omega, fun v2 e2 _ => ?_⟩⟩)
        rw [Int.toNat_natCast] at e2
        have ht := hT' o (by omega)
        refine f_319d (by omega) (by unfold InI; omega) (fun _ => ⟨fun _ => ⟨by unfold InI; omega, ih2 (o + 1) m (by omega) (by omega) hF⟩, fun z2 => ⟨by unfold InI; omega, by omega, fun v5 e5 _ => ?_⟩⟩)
        have e5' : v5 = v2 := by rw [e5, Int.toNat_natCast, e2]
        subst e5'
        have hr := turnF_rng (by omega) z2
        refine f_319d (by omega) (by unfold InI; omega) (fun _ => ⟨by unfold InI; omega, by omega, fun v8 e8 _ => ?_⟩)
        have e8' : v8 = v5 := by rw [e8, Int.toNat_natCast, e2]
        subst e8'
        refine f_319d (by omega) (by unfold InI; omega) (fun _ => f_322 hO' hS' hP' (by omega) ⟨hr.1, by omega⟩ (fun r _ => ⟨by omega, by unfold InI; omega, ih2 (o + 1) _ (by omega) (by omega) (hF.tr (FrV.up (by omega)))⟩))
    have lp1 : ∀ (N' : Nat) (o : Nat) (m : MM), (o : Int) ≤ m0 143 1 → (m0 143 1 - o).toNat < N' → FrV m0 m → Wx (Ex S (n + 4)) S M_317 Kk 84 [some (.inr 143), some (.inl d), some (.inl x), some (.inl e), some (.inl c), some (.inl (o : Int))] [] m := by
      intro N'
      induction N' with
      | zero => intros; omega
      | succ N' ih2 =>
        intro o m ho hN' hF
        have hO' := hF.u.ops hO
        have hT' := hF.u.tm hT
        have e1' : m 143 1 = m0 143 1 := hF _ _ (by omega)
        have hP' : PrOK m (m 143 1) := by rw [e1']; exact hF.pr hP
        refine w_317_84 (Ex.mono S (n + 4)) (fun v1 e1 _ => ⟨fun z => lp2 9 0 m (by omega) (by omega) hF, fun z => ?_⟩)
        have ht := hT' o (by omega)
        have hl := hO'.lat (o := o) (by omega)
        have ht2 : -1000000 ≤ m 161 (Int.toNat (o : Int)) ∧ m 161 (Int.toNat (o : Int)) ≤ 1000000 := by rw [Int.toNat_natCast]; omega
        refine f_299 hO' ⟨by omega, by omega⟩ ht2 (fun _ => ?_)
        rw [Int.toNat_natCast]
        refine f_319d (by omega) (by unfold InI; omega) (fun _ => ⟨fun _ => ⟨by unfold InI; omega, ih2 (o + 1) m (by omega) (by omega) hF⟩, fun z2 => ?_⟩)
        have hr := turnF_rng (by omega) z2
        refine f_299 hO' ⟨by omega, by omega⟩ ht2 (fun _ => ?_)
        rw [Int.toNat_natCast]
        refine f_319d (by omega) (by unfold InI; omega) (fun _ => f_320 hO' hP' (by omega) ⟨hr.1, by omega⟩ (fun m' k => ⟨by unfold InI; omega, ih2 (o + 1) _ (by omega) (by omega) (hF.tr k)⟩))
    exact lp1 9 0 mem (by omega) (by omega) hF
theorem f_317 {K : MM → Prop} {x e : Int} (h : RefOK mem) (hS : SoundM mem) (hT : TmOK mem d) (hd : 1 ≤ d ∧ d ≤ 12) (hx : 0 ≤ x ∧ x ≤ 40) (he : e ≤ 100000) (H : ∀ m', RefOK m' → FrQ mem m' → K m') : CWV (Ex S (n + 7)) 317 [.inr 143, .inl d, .inl x, .inl e] mem K := by
  refine CW.of (k := 2) mt_317 rfl rfl (w_317_0 (Ex.mono S (n + 6)) (f_318 (fun m1 k1 => ?_)))
  have hO := h.ops
  have h8 := hO.1
  have k1u : FrU mem m1 := fun A i q => k1 A i (by omega)
  have key : ∀ (N : Nat) (o : Nat) (m : MM), (o : Int) ≤ mem 143 1 → (mem 143 1 - o).toNat < N → FrU mem m → (∀ u, u < 8 → 0 ≤ m 168 u ∧ m 168 u ≤ 45) → PrOK m (o : Int) → Wx (Ex S (n + 6)) S M_317 (fun r m => r = none ∧ K m) 7 [some (.inr 143), some (.inl d), some (.inl x), some (.inl e), some (.inl (o : Int)), none] [] m := by
    intro N
    induction N with
    | zero => intros; omega
    | succ N ih =>
      intro o m ho hN hF hp hP
      have e1' : m 143 1 = mem 143 1 := hF _ _ (by omega)
      refine w_317_7 (Ex.mono S (n + 6)) (fun v1 e1 _ => ⟨fun z => ?_, fun z => f_295 (hF.ops hO) (hF.tm hT) hd (by omega) (fun r r1 r2 r3 _ => ⟨by omega, ?_⟩)⟩)
      · refine rn_75 (n := n + 2) (m0 := m) (hF.ops hO) (hF.snd hS) (hF.tm hT) (fun u hu => hP u (by omega)) hd hx he (fun m' k => ⟨rfl, H m' ((hF.tr k.u).rest h (fun u hu => ?_)) (hF.tr k.u).q⟩) _ 0 m (by omega) (Nat.lt_succ_self _) FrV.rf
        rw [k 168 u (by omega)]; exact hp u hu
      · rw [Int.toNat_natCast]
        have fill : ∀ (N' : Nat) (k : Int) (m' : MM), 0 ≤ k → (80 - k).toNat < N' → FrU mem m' → (∀ u, u < 8 → 0 ≤ m' 168 u ∧ m' 168 u ≤ 45) → PrOK m' ((o : Int) + 1) → Wx (Ex S (n + 6)) S M_317 (fun r m => r = none ∧ K m) 33 [some (.inr 143), some (.inl d), some (.inl x), some (.inl e), some (.inl (o : Int)), some (.inl k)] [] m' := by
          intro N'
          induction N' with
          | zero => intros; omega
          | succ N' ih2 =>
            intro k m' hk hN' hF' hp' hP'
            refine w_317_33 (Ex.mono S (n + 6)) ⟨fun _ => ⟨by unfold InI; omega, ih (o + 1) m' (by omega) (by omega) hF' hp' hP'⟩, fun q => ⟨by unfold InI; omega, by unfold InI; omega, by omega, fun v _ _ => ⟨by omega, by unfold InI; omega, ih2 (k + 1) _ (by omega) (by omega) (hF'.tr (FrU.up (by omega))) (fun u hu => by rw [upm_ne (by omega)]; exact hp' u hu) (fun u hu q2 => ?_)⟩⟩⟩
            rw [upm_ne (by omega)] at q2 ⊢
            exact hP' u hu q2
        have q : ∀ u, upm m 168 o r 168 u = if u = o then r else m 168 u := fun u => by
          by_cases e : u = o
          · subst e; rw [upm_eq, if_pos rfl]
          · rw [upm_ne (fun z => e z.2), if_neg e]
        refine fill 81 0 _ (by omega) (by omega) (hF.tr (FrU.up (by omega))) (fun u hu => ?_) (fun u hu q2 => ?_)
        · rw [q]
          split
          · omega
          · exact hp u hu
        · rw [upm_ne (by omega)] at q2
          rw [q]
          split
          · rename_i e; subst e; have := r3 q2; omega
          · exact hP u (by omega) q2
  exact key 9 0 m1 (by omega) (by omega) k1u (fun u hu => by rw [k1 168 u (by omega)]; exact h.pa u hu) (fun u hu => by omega)
theorem f_315 {a b x : Int} (h : RefOK mem) (H : Fin mem K) : CWI (Ex S (n + 8)) 315 [.inr 143, .inl a, .inl b, .inl d, .inl x] mem K := by
  refine CW.of (k := 0) mt_315 rfl rfl (w_315_0 (Ex.mono S (n + 7)) (f_316 (fun a1 a2 b1 b2 _ => ⟨fun _ => f_311 h (fun m' d1 d2 x1 x2 h1 h2 hk h3 h5 _ => ⟨fun _ => ?_, fun z => absurd (by decide) z⟩) (fun r m' r1 r2 h1 h2 _ => ⟨fun z => by omega, fun _ _ => H.thr h1 h2 0 (by omega)⟩), fun z => absurd (by decide) z⟩) (fun _ => ⟨fun z => absurd rfl z, fun _ _ => H.thr h FrQ.rf 0 (by omega)⟩)))
  have hm := h1.th' (z := 0) (by omega)
  have hq := h2.tr (FrQ.th (z := 0))
  refine f_313 hm.ops ⟨d1, d2⟩ ⟨x1, x2⟩ h5.th (fun r r1 r2 _ => f_317 hm h3.th h5.th ⟨d1, d2⟩ ⟨x1, x2⟩ (by omega) (fun m8 k1 k2 => ⟨by unfold InI; omega, by unfold InI; omega, by omega, fun v _ _ _ => H.at k1 (hq.tr k2) _⟩))
theorem f_325 {a x : Int} (h : RefOK mem) (H : Fin mem K) : CWI (Ex S (n + 8)) 325 [.inr 143, .inl a, .inl d, .inl x] mem K := by
  have h8 := h.ops.1
  have h' := h.th' (z := 0) (by omega)
  refine CW.of (k := 1) mt_325 rfl rfl (w_325_0 (Ex.mono S (n + 7)) (f_235 h8 (fun a1 a2 _ => ⟨fun _ => ⟨by omega, fun v3 e3 _ => ⟨fun _ => f_311 h' (fun m' d1 d2 x1 x2 h1 h2 hk h3 h5 _ => ⟨fun _ => ?_, fun z => absurd (by decide) z⟩) (fun r m' r1 r2 h1 h2 _ => ⟨fun z => by omega, fun _ => ⟨by unfold InI; omega, fun v13 e13 _ => ⟨fun z => ?_, fun _ _ => H.thr h1 (FrQ.th.tr h2) 0 (by omega)⟩⟩⟩), fun _ _ => H.thr h FrQ.rf 0 (by omega)⟩⟩, fun z => absurd (by decide) z⟩) (fun _ => ⟨fun z => absurd rfl z, fun _ _ => H.thr h FrQ.rf 0 (by omega)⟩)))
  · have hm := h1.th' (z := 0) (by omega)
    have hq := (FrQ.th.tr h2).tr (FrQ.th (z := 0))
    refine f_313 hm.ops ⟨d1, d2⟩ ⟨x1, x2⟩ h5.th (fun r r1 r2 _ => f_317 hm h3.th h5.th ⟨d1, d2⟩ ⟨x1, x2⟩ (by omega) (fun m8 k1 k2 => ⟨fun _ => ⟨by unfold InI; omega, by unfold InI; omega, by unfold InI; omega, by omega, fun v _ _ _ => H.at k1 (hq.tr k2) _⟩, fun _ => ⟨by omega, fun v _ _ _ => H.at k1 (hq.tr k2) _⟩⟩))
  · rw [upm_eq] at e13; omega
theorem f_326 {a k c x : Int} (h : RefOK mem) (H : Fin mem K) : CWI (Ex S (n + 8)) 326 [.inr 143, .inl a, .inl k, .inl c, .inl d, .inl x] mem K := by
  have h8 := h.ops.1
  have h' := h.th' (z := 0) (by omega)
  refine CW.of (k := 2) mt_326 rfl rfl (w_326_0 (Ex.mono S (n + 7)) (f_235 h8 (fun a1 a2 _ => ⟨fun _ => ⟨by omega, fun v3 e3 _ => ⟨fun _ => f_311 h' (fun m' d1 d2 x1 x2 h1 h2 hk h3 h5 _ => ⟨fun z => absurd rfl z, fun _ => ?_⟩) (fun r m' r1 r2 h1 h2 _ => ⟨fun _ => ?_, fun z => by omega⟩), fun _ _ => H.thr h FrQ.rf 0 (by omega)⟩⟩, fun z => absurd (by decide) z⟩) (fun _ => ⟨fun z => absurd rfl z, fun _ _ => H.thr h FrQ.rf 0 (by omega)⟩)))
  · have hq := FrQ.th.tr h2
    have e1 : m' 143 1 = mem 143 1 := by rw [hk 143 1 (by omega), upm_ne (by omega)]
    obtain ⟨o, rfl⟩ : ∃ o : Nat, a = (o : Int) := ⟨a.toNat, by omega⟩
    have t : ∀ z : Int, 0 ≤ z ∧ z ≤ 4 → ∃ y, some (0 : Int) = some y ∧ K y (upm m' 143 0 z) := fun z hz => H.thr h1 hq 0 hz
    have no : ¬ (0 : Int) = 2 := by omega
    refine f_295 h1.ops h5 ⟨d1, d2⟩ (by omega) (fun r r1 r2 _ _ => ⟨by unfold InI; omega, f_227 (fun k1 k2 _ => ⟨fun z => absurd z (by decide), fun _ => f_313 h1.ops ⟨d1, d2⟩ ⟨x1, x2⟩ h5 (fun e e1 e2 _ => f_227 (fun c1 c2 _ => ⟨fun z => absurd z (by decide), fun _ => ⟨fun _ => ?_, fun z => absurd no z⟩⟩) (fun _ _ => ⟨fun _ => ⟨fun _ _ => t _ (by omega), fun z => absurd no z⟩, fun z => absurd rfl z⟩))⟩) (fun _ _ => ⟨fun _ => ⟨fun _ _ => t _ (by omega), fun z => absurd no z⟩, fun z => absurd rfl z⟩)⟩)
    have hm := h1.th' (z := 0) (by omega)
    exact f_317 hm h3.th h5.th ⟨d1, d2⟩ ⟨x1, x2⟩ (by omega) (fun m8 g1 g2 => ⟨by unfold InI; omega, by unfold InI; omega, by omega, fun v _ _ _ => H.at g1 ((hq.tr (FrQ.th (z := 0))).tr g2) _⟩)
  · have t : ∀ z : Int, 0 ≤ z ∧ z ≤ 4 → ∃ y, some (0 : Int) = some y ∧ K y (upm m' 143 0 z) := fun z hz => H.thr h1 (FrQ.th.tr h2) 0 hz
    exact ⟨fun _ _ => t _ (by omega), fun _ => ⟨fun _ _ => t _ (by omega), fun _ => ⟨fun _ _ => t _ (by omega), fun _ _ => t _ (by omega)⟩⟩⟩
end RUNS
/-! plain and late of the reference -/
section LATE
variable {S : Nat × (Nat → Int32)} {n : Nat} {mem : MM} {K : Int → MM → Prop} {d : Int}
theorem f_330 (hO : OpsOK mem) {o : Nat} {k t : Int} (ho : (o : Int) < mem 143 1) (hk : 0 ≤ k ∧ k < srcN mem o) (ht : 0 ≤ t ∧ t ≤ 39) (H : ∀ r, K r mem) : CWI (Ex S (n + 2)) 330 [.inr 143, .inl (o : Int), .inl k, .inl t] mem K := by
  have h8 := hO.1
  have ho8 : 0 ≤ (o : Int) ∧ (o : Int) < 8 := by omega
  have hs := hO.src (o := o) (by omega) hk.1 hk.2
  refine CW.of (k := 2) mt_330 rfl rfl (w_330_0 (Ex.mono S (n + 1)) (f_242 ho8 (fun _ => ?_)))
  rw [Int.toNat_natCast]
  refine ⟨fun q1 => ⟨fun q2 => f_243 ho8 (fun _ => ?_), fun q2 => f_243 ho8 (fun _ _ => ⟨_, rfl, H _⟩)⟩, fun q1 _ => ⟨_, rfl, H _⟩⟩
  rw [Int.toNat_natCast]
  unfold srcOK at hs
  exact ⟨by unfold InI; omega, fun _ => ⟨by unfold InI; omega, by unfold InI; omega, by omega, fun v _ _ _ => ⟨_, rfl, H _⟩⟩, fun _ => ⟨by omega, fun v _ _ _ => ⟨_, rfl, H _⟩⟩⟩
theorem f_329 (hO : OpsOK mem) {o : Nat} {t : Int} (ho : (o : Int) < mem 143 1) (ht : 0 ≤ t ∧ t ≤ 39) (H : ∀ r, K r mem) : CWI (Ex S (n + 3)) 329 [.inr 143, .inl (o : Int), .inl t] mem K := by
  have h8 := hO.1
  have ho8 : 0 ≤ (o : Int) ∧ (o : Int) < 8 := by omega
  refine CW.of (k := 0) mt_329 rfl rfl (w_329_0 (Ex.mono S (n + 2)) ⟨ho8, fun v1 e1 _ => ⟨fun q1 => ⟨ho8, fun v2 e2 _ => ⟨fun q2 => ⟨ho8, fun v3 e3 _ => ?_⟩, fun q2 => ?_⟩⟩, fun q1 => ?_⟩⟩)
  · rw [Int.toNat_natCast] at e1 e2
    have hn : srcN mem o = 2 := by unfold srcN; rw [if_neg (by omega), if_neg (by omega)]
    exact f_330 hO ho ⟨by omega, by omega⟩ ht (fun r _ => f_330 hO ho ⟨by omega, by omega⟩ ht (fun r2 _ => f_324 (fun r3 _ _ => ⟨_, rfl, H _⟩)))
  · rw [Int.toNat_natCast] at e1 e2
    have hn : srcN mem o = 1 := by unfold srcN; rw [if_neg (by omega), if_pos (by omega)]
    exact f_330 hO ho ⟨by omega, by omega⟩ ht (fun r _ _ => ⟨_, rfl, H _⟩)
  · rw [Int.toNat_natCast] at e1
    have hr := hO.row (o := o) (by omega) (Or.inl (by omega))
    refine f_250 ho8 (fun _ => ⟨?_, ?_, f_251 ho8 (fun _ => ⟨?_, ?_, fun v _ _ _ => ⟨_, rfl, H _⟩⟩)⟩) <;> (simp only [Int.toNat_natCast]; try unfold InI) <;> omega
theorem f_328 {K : MM → Prop} {x : Int} (h : RefOK mem) (hx : 0 ≤ x ∧ x ≤ 40) (H : ∀ m', RefOK m' → FrQ mem m' → K m') : CWV (Ex S (n + 4)) 328 [.inr 143, .inl x] mem K := by
  have hO := h.ops
  have h8 := hO.1
  refine CW.of (k := 3) mt_328 rfl rfl (w_328_0 (Ex.mono S (n + 3)) (f_318 (fun m1 k1 => ?_)))
  have key : ∀ (N : Nat) (t : Int) (m : MM), 0 ≤ t → (x - t).toNat < N → FrV mem m → Wx (Ex S (n + 3)) S M_328 (fun r m => r = none ∧ K m) 6 [some (.inr 143), some (.inl x), some (.inl t), none, none] [] m := by
    intro N
    induction N with
    | zero => intros; omega
    | succ N ih =>
      intro t m ht hN hF
      refine w_328_6 (Ex.mono S (n + 3)) ⟨fun _ => ⟨rfl, H m (hF.u.rest h (fun u hu => by rw [hF 168 u (by omega)]; exact h.pa u hu)) hF.u.q⟩, fun q => ?_⟩
      have lp : ∀ (N' : Nat) (o : Nat) (m : MM), (o : Int) ≤ mem 143 1 → (mem 143 1 - o).toNat < N' → FrV mem m → Wx (Ex S (n + 3)) S M_328 (fun r m => r = none ∧ K m) 13 [some (.inr 143), some (.inl x), some (.inl t), some (.inl (o : Int)), none] [] m := by
        intro N'
        induction N' with
        | zero => intros; omega
        | succ N' ih2 =>
          intro o m ho hN' hF
          have hO' := hF.u.ops hO
          have e1' : m 143 1 = mem 143 1 := hF _ _ (by omega)
          refine w_328_13 (Ex.mono S (n + 3)) (fun v1 e1 _ => ⟨fun z => ⟨by unfold InI; omega, ih (t + 1) m (by omega) (by omega) hF⟩, fun z => f_329 hO' (by omega) ⟨ht, by omega⟩ (fun r _ => ?_)⟩)
          have ho8 : 0 ≤ (o : Int) ∧ (o : Int) < 8 := by omega
          have hF2 : ∀ i z, FrV mem (upm m 167 i z) := fun i z => hF.tr (FrV.up (by omega))
          refine ⟨by unfold InI; omega, by unfold InI; omega, by omega, ho8, fun v4 e4 _ => ⟨fun _ => ⟨by unfold InI; omega, ih2 (o + 1) _ (by omega) (by omega) (hF2 _ _)⟩, fun q4 => ?_⟩⟩
          rw [Int.toNat_natCast, upm_ne (by omega)] at e4
          have hr := ((hF2 ((41 * (o : Int)) + t).toNat r).u.ops hO).row (o := o) (by omega) (Or.inr (by rw [upm_ne (by omega)]; omega))
          refine f_250 ho8 (fun _ => ⟨?_, ?_, f_251 ho8 (fun _ => ⟨?_, ?_, by unfold InI; omega, ih2 (o + 1) _ (by omega) (by omega) ((hF2 _ _).tr (FrV.up (by omega)))⟩)⟩) <;> (simp only [Int.toNat_natCast]; try unfold InI) <;> omega
      exact lp 9 0 m (by omega) (by omega) hF
  exact key _ 0 m1 (by omega) (Nat.lt_succ_self _) (fun A i q => k1 A i (by omega))
theorem f_327 {a b x : Int} (h : RefOK mem) (H : Fin mem K) : CWI (Ex S (n + 5)) 327 [.inr 143, .inl a, .inl b, .inl x] mem K := by
  have h' := h.th' (z := 0) (by omega)
  refine CW.of (k := 0) mt_327 rfl rfl (w_327_0 (Ex.mono S (n + 4)) (f_316 (fun a1 a2 b1 b2 _ => ⟨fun z => absurd z (by decide), fun _ => f_309 (fun x1 x2 _ => ⟨fun _ => f_240 h.ops (fun hS _ => ⟨fun _ => ?_, fun z => absurd (by decide) z⟩) (fun _ _ => ⟨fun z => absurd rfl z, fun _ _ => H.thr h FrQ.rf 0 (by omega)⟩), fun z => absurd (by decide) z⟩) (fun _ => ⟨fun z => absurd rfl z, fun _ _ => H.thr h FrQ.rf 0 (by omega)⟩)⟩) (fun _ => ⟨fun _ _ => H.thr h FrQ.rf 0 (by omega), fun z => absurd rfl z⟩)))
  exact f_328 h' ⟨x1, x2⟩ (fun m8 k1 k2 => ⟨by unfold InI; omega, by unfold InI; omega, by omega, fun v _ _ _ => H.at k1 (FrQ.th.tr k2) _⟩)
theorem f_365 (hO : OpsOK mem) {o : Nat} {k t : Int} (ho : (o : Int) < mem 143 1) (hk : 0 ≤ k ∧ k < srcN mem o) (ht : 0 ≤ t ∧ t ≤ 39) (H : ∀ r, K r mem) : CWI (Ex S (n + 2)) 365 [.inr 143, .inl (o : Int), .inl k, .inl t] mem K := by
  have h8 := hO.1
  have ho8 : 0 ≤ (o : Int) ∧ (o : Int) < 8 := by omega
  have hs := hO.src (o := o) (by omega) hk.1 hk.2
  refine CW.of (k := 1) mt_365 rfl rfl (w_365_0 (Ex.mono S (n + 1)) (f_242 ho8 (fun _ => ?_)))
  rw [Int.toNat_natCast]
  refine ⟨fun _ _ => ⟨_, rfl, H _⟩, fun q => f_243 ho8 (fun _ => ?_)⟩
  rw [Int.toNat_natCast]
  unfold srcOK at hs
  refine ⟨fun q2 => ⟨by unfold InI; omega, by unfold InI; omega, f_243 ho8 (fun _ => ?_)⟩, fun _ _ => ⟨_, rfl, H _⟩⟩
  rw [Int.toNat_natCast]
  exact ⟨by unfold InI; omega, by omega, fun v _ _ _ => ⟨_, rfl, H _⟩⟩
theorem lt_50 {m0 : MM} {x a e : Int} (hO : OpsOK m0) (hT : TmOK m0 d) (hd : 1 ≤ d ∧ d ≤ 12) (hx : 0 ≤ x ∧ x ≤ 40) (ha : 1 ≤ a) {Kk : WK} (H : ∀ r m', FrV m0 m' → Kk (some r) m') : ∀ (N : Nat) (w c : Int) (mem : MM), 0 ≤ c → (701 - c).toNat < N → FrV m0 mem → Wx (Ex S (n + 3)) S M_364 Kk 50 [some (.inr 143), some (.inl d), some (.inl x), some (.inl a), some (.inl e), some (.inl w), some (.inl c), none, none, none, none] [] mem := by
  have h8 := hO.1
  intro N
  induction N with
  | zero => intros; omega
  | succ N ih =>
    intro w c mem hc hN hF
    refine w_364_50 (Ex.mono S (n + 3)) (f_313 (hF.u.ops hO) hd hx (hF.u.tm hT) (fun r r1 r2 _ => ⟨fun _ _ => H _ mem hF, fun q z _ _ => ?_⟩))
    have lp2 : ∀ (N' : Nat) (o : Nat) (w z : Int) (m : MM), (o : Int) ≤ m0 143 1 → (m0 143 1 - o).toNat < N' → FrV m0 m → Wx (Ex S (n + 3)) S M_364 Kk 163 [some (.inr 143), some (.inl d), some (.inl x), some (.inl a), some (.inl e), some (.inl w), some (.inl c), some (.inl z), some (.inl (o : Int)), none, none] [] m := by
      intro N'
      induction N' with
      | zero => intros; omega
      | succ N' ih2 =>
        intro o w z m ho hN' hF
        have hO' := hF.u.ops hO
        have hT' := hF.u.tm hT
        have e1' : m 143 1 = m0 143 1 := hF _ _ (by omega)
        refine w_364_163 (Ex.mono S (n + 3)) (fun v1 e1 _ => ⟨fun _ => ⟨by unfold InI; omega, ih w (c + 1) m (by omega) (by omega) hF⟩, fun q1 => ⟨by omega, fun v2 e2 _ => ?_⟩⟩)
        rw [Int.toNat_natCast] at e2
        have ht := hT' o (by omega)
        have ho8 : 0 ≤ (o : Int) ∧ (o : Int) < 8 := by omega
        refine f_319d (by omega) (by unfold InI; omega) (fun _ => ⟨fun q2 => ⟨ho8, fun v5 e5 _ => ?_⟩, fun _ => ⟨by unfold InI; omega, ih2 (o + 1) w z m (by omega) (by omega) hF⟩⟩)
        have hr := turnF_rng (by omega) q2
        have fin : ∀ i y, InI ((o : Int) + 1) ∧ Wx (Ex S (n + 3)) S M_364 Kk 163 [some (.inr 143), some (.inl d), some (.inl x), some (.inl a), some (.inl e), some (.inl w), some (.inl c), some (.inl z), some (.inl ((o : Int) + 1)), none, none] [] (upm m 167 i y) := fun i y => ⟨by unfold InI; omega, ih2 (o + 1) w z _ (by omega) (by omega) (hF.tr (FrV.up (by omega)))⟩
        refine ⟨fun _ => ⟨by unfold InI; omega, by unfold InI; omega, f_246 hO' ho8 (fun _ y1 _ _ y2 _ _ => ⟨by omega, fin _ _⟩)⟩, fun q5 => f_251 ho8 (fun _ => ?_)⟩
        rw [Int.toNat_natCast] at e5 ⊢
        have hrow := hO'.row (o := o) (by omega) (Or.inl (by omega))
        exact ⟨by unfold InI; omega, by omega, fun _ => ⟨by unfold InI; omega, by unfold InI; omega, f_246 hO' ho8 (fun _ y1 _ _ y2 _ _ => ⟨by omega, fin _ _⟩)⟩, fun _ => ⟨by unfold InI; omega, by unfold InI; omega, f_246 hO' ho8 (fun _ y1 _ _ y2 _ _ => ⟨by omega, fin _ _⟩)⟩⟩
    have lp1 : ∀ (N' : Nat) (o : Nat) (z : Int) (m : MM), (o : Int) ≤ m0 143 1 → (m0 143 1 - o).toNat < N' → FrV m0 m → Wx (Ex S (n + 3)) S M_364 Kk 71 [some (.inr 143), some (.inl d), some (.inl x), some (.inl a), some (.inl e), some (.inl w), some (.inl c), some (.inl z), some (.inl (o : Int)), none, none] [] m := by
      intro N'
      induction N' with
      | zero => intros; omega
      | succ N' ih2 =>
        intro o z m ho hN' hF
        have hO' := hF.u.ops hO
        have hT' := hF.u.tm hT
        have e1' : m 143 1 = m0 143 1 := hF _ _ (by omega)
        refine w_364_71 (Ex.mono S (n + 3)) (fun v1 e1 _ => ⟨fun _ y _ _ => lp2 9 0 _ _ m (by omega) (by omega) hF, fun q1 => ?_⟩)
        have ho8 : 0 ≤ (o : Int) ∧ (o : Int) < 8 := by omega
        have ht := hT' o (by omega)
        have lp3 : ∀ (N3 : Nat) (k z : Int), 0 ≤ k → (3 - k).toNat < N3 → Wx (Ex S (n + 3)) S M_364 Kk 83 [some (.inr 143), some (.inl d), some (.inl x), some (.inl a), some (.inl e), some (.inl w), some (.inl c), some (.inl z), some (.inl (o : Int)), some (.inl k), none] [] m := by
          intro N3
          induction N3 with
          | zero => intros; omega
          | succ N3 ih3 =>
            intro k z hk hN3
            have hsn := srcN_le m o
            refine w_364_83 (Ex.mono S (n + 3)) (f_241 ho8 (fun _ => ⟨fun _ => ⟨by unfold InI; omega, ih2 (o + 1) z m (by omega) (by omega) hF⟩, fun q3 => ⟨ho8, fun v3 e3 _ => ?_⟩⟩))
            rw [Int.toNat_natCast] at q3 e3
            refine f_319d (by omega) (by unfold InI; omega) (fun _ => ⟨fun _ => ⟨by unfold InI; omega, ih2 (o + 1) z m (by omega) (by omega) hF⟩, fun q4 => ⟨ho8, fun v6 e6 _ => ?_⟩⟩)
            have e6' : v6 = v3 := by rw [e6, Int.toNat_natCast, e3]
            subst e6'
            have hr := turnF_rng (by omega) q4
            exact f_319d (by omega) (by unfold InI; omega) (fun _ => f_365 hO' (by omega) ⟨hk, by omega⟩ ⟨hr.1, by omega⟩ (fun r _ => f_257 (fun _ _ => ⟨by unfold InI; omega, ih3 (k + 1) _ (by omega) (by omega)⟩)))
        exact lp3 4 0 z (by omega) (by omega)
    exact lp1 9 0 z mem (by omega) (by omega) hF
theorem f_364 {x a e : Int} (h : RefOK mem) (H : Fin mem K) : CWI (Ex S (n + 7)) 364 [.inr 143, .inl d, .inl x, .inl a, .inl e] mem K := by
  refine CW.of (k := 6) mt_364 rfl rfl (w_364_0 (Ex.mono S (n + 6)) (f_227 (fun a1 a2 _ => ⟨fun z => absurd z (by decide), fun _ => f_227 (fun e1 e2 _ => ⟨fun _ => f_311 h (fun m' d1 d2 x1 x2 h1 h2 hk h3 h5 _ => ⟨fun _ => ?_, fun z => absurd (by decide) z⟩) (fun r m' r1 r2 h1 h2 _ => ⟨fun z => by omega, fun _ _ => H.thr h1 h2 0 (by omega)⟩), fun z => absurd (by decide) z⟩) (fun _ _ => ⟨fun z => absurd rfl z, fun _ _ => H.thr h FrQ.rf 0 (by omega)⟩)⟩) (fun _ _ => ⟨fun _ _ => H.thr h FrQ.rf 0 (by omega), fun z => absurd rfl z⟩)))
  have hm := h1.th' (z := 0) (by omega)
  have hq := h2.tr (FrQ.th (z := 0))
  exact lt_50 (n := n + 3) hm.ops h5.th ⟨d1, d2⟩ ⟨x1, x2⟩ a1 (fun r m8 k => H.at (k.u.rest hm (fun u hu => by rw [k 168 u (by omega)]; exact hm.pa u hu)) (hq.tr k.u.q) r) _ 0 0 _ (by omega) (Nat.lt_succ_self _) FrV.rf
end LATE
/-! laid by wip/hand/wxg.py: small ones: what the paths of methods ask for -/
set_option maxRecDepth 100000 in
theorem mt_225 : MT[225]? = some M_225 := rfl
set_option maxRecDepth 100000 in
theorem mt_233 : MT[233]? = some M_233 := rfl
set_option maxRecDepth 100000 in
theorem mt_234 : MT[234]? = some M_234 := rfl
set_option maxRecDepth 100000 in
theorem mt_236 : MT[236]? = some M_236 := rfl
set_option maxRecDepth 100000 in
theorem mt_237 : MT[237]? = some M_237 := rfl
set_option maxRecDepth 100000 in
theorem mt_238 : MT[238]? = some M_238 := rfl
set_option maxRecDepth 100000 in
theorem mt_239 : MT[239]? = some M_239 := rfl
set_option maxRecDepth 100000 in
theorem mt_252 : MT[252]? = some M_252 := rfl
set_option maxRecDepth 100000 in
theorem mt_260 : MT[260]? = some M_260 := rfl
set_option maxRecDepth 100000 in
theorem mt_261 : MT[261]? = some M_261 := rfl
set_option maxRecDepth 100000 in
theorem mt_262 : MT[262]? = some M_262 := rfl
set_option maxRecDepth 100000 in
theorem mt_267 : MT[267]? = some M_267 := rfl
set_option maxRecDepth 100000 in
theorem mt_277 : MT[277]? = some M_277 := rfl
set_option maxRecDepth 100000 in
theorem mt_278 : MT[278]? = some M_278 := rfl
set_option maxRecDepth 100000 in
theorem mt_279 : MT[279]? = some M_279 := rfl
set_option maxRecDepth 100000 in
theorem mt_307 : MT[307]? = some M_307 := rfl
set_option maxRecDepth 100000 in
theorem mt_308 : MT[308]? = some M_308 := rfl
set_option maxRecDepth 100000 in
theorem mt_310 : MT[310]? = some M_310 := rfl
set_option maxRecDepth 100000 in
theorem mt_312 : MT[312]? = some M_312 := rfl
set_option maxRecDepth 100000 in
theorem mt_314 : MT[314]? = some M_314 := rfl
set_option maxRecDepth 100000 in
theorem mt_331 : MT[331]? = some M_331 := rfl
set_option maxRecDepth 100000 in
theorem mt_332 : MT[332]? = some M_332 := rfl
set_option maxRecDepth 100000 in
theorem mt_333 : MT[333]? = some M_333 := rfl
set_option maxRecDepth 100000 in
theorem mt_334 : MT[334]? = some M_334 := rfl
set_option maxRecDepth 100000 in
theorem mt_336 : MT[336]? = some M_336 := rfl
set_option maxRecDepth 100000 in
theorem mt_356 : MT[356]? = some M_356 := rfl
set_option maxRecDepth 100000 in
theorem mt_358 : MT[358]? = some M_358 := rfl
set_option maxRecDepth 100000 in
theorem mt_359 : MT[359]? = some M_359 := rfl
set_option maxRecDepth 100000 in
theorem mt_360 : MT[360]? = some M_360 := rfl
set_option maxRecDepth 100000 in
theorem mt_361 : MT[361]? = some M_361 := rfl
set_option maxRecDepth 100000 in
theorem mt_362 : MT[362]? = some M_362 := rfl
set_option maxRecDepth 100000 in
theorem mt_363 : MT[363]? = some M_363 := rfl
theorem te_225_0 : (pT M_225).find? (fun e => e.1 == 0) = some (0, .aload_n 0, 0, 0) := rfl
theorem te_225_1 : (pT M_225).find? (fun e => e.1 == 1) = some (1, .getfield 101, 10, 0) := rfl
theorem te_225_4 : (pT M_225).find? (fun e => e.1 == 4) = some (4, .ireturn, 0, 0) := rfl
theorem te_233_0 : (pT M_233).find? (fun e => e.1 == 0) = some (0, .aload_n 0, 0, 0) := rfl
theorem te_233_1 : (pT M_233).find? (fun e => e.1 == 1) = some (1, .aload_n 0, 0, 0) := rfl
theorem te_233_2 : (pT M_233).find? (fun e => e.1 == 2) = some (2, .getfield 108, 10, 1) := rfl
theorem te_233_5 : (pT M_233).find? (fun e => e.1 == 5) = some (5, .ifCond .ne 7, 0, 0) := rfl
theorem te_233_8 : (pT M_233).find? (fun e => e.1 == 8) = some (8, .iconst 1, 0, 0) := rfl
theorem te_233_9 : (pT M_233).find? (fun e => e.1 == 9) = some (9, .goto 4, 0, 0) := rfl
theorem te_233_12 : (pT M_233).find? (fun e => e.1 == 12) = some (12, .iconst 0, 0, 0) := rfl
theorem te_233_13 : (pT M_233).find? (fun e => e.1 == 13) = some (13, .putfield 101, 10, 0) := rfl
theorem te_233_16 : (pT M_233).find? (fun e => e.1 == 16) = some (16, .aload_n 0, 0, 0) := rfl
theorem te_233_17 : (pT M_233).find? (fun e => e.1 == 17) = some (17, .getfield 101, 10, 0) := rfl
theorem te_233_20 : (pT M_233).find? (fun e => e.1 == 20) = some (20, .ifCond .le 5, 0, 0) := rfl
theorem te_233_23 : (pT M_233).find? (fun e => e.1 == 23) = some (23, .iconst 0, 0, 0) := rfl
theorem te_233_24 : (pT M_233).find? (fun e => e.1 == 24) = some (24, .ireturn, 0, 0) := rfl
theorem te_233_25 : (pT M_233).find? (fun e => e.1 == 25) = some (25, .aload_n 0, 0, 0) := rfl
theorem te_233_26 : (pT M_233).find? (fun e => e.1 == 26) = some (26, .dup, 0, 0) := rfl
theorem te_233_27 : (pT M_233).find? (fun e => e.1 == 27) = some (27, .getfield 108, 10, 1) := rfl
theorem te_233_30 : (pT M_233).find? (fun e => e.1 == 30) = some (30, .iconst 1, 0, 0) := rfl
theorem te_233_31 : (pT M_233).find? (fun e => e.1 == 31) = some (31, .isub, 0, 0) := rfl
theorem te_233_32 : (pT M_233).find? (fun e => e.1 == 32) = some (32, .putfield 108, 10, 1) := rfl
theorem te_233_35 : (pT M_233).find? (fun e => e.1 == 35) = some (35, .aload_n 0, 0, 0) := rfl
theorem te_233_36 : (pT M_233).find? (fun e => e.1 == 36) = some (36, .getfield 108, 10, 1) := rfl
theorem te_233_39 : (pT M_233).find? (fun e => e.1 == 39) = some (39, .ireturn, 0, 0) := rfl
theorem te_234_0 : (pT M_234).find? (fun e => e.1 == 0) = some (0, .aload_n 0, 0, 0) := rfl
theorem te_234_1 : (pT M_234).find? (fun e => e.1 == 1) = some (1, .aload_n 0, 0, 0) := rfl
theorem te_234_2 : (pT M_234).find? (fun e => e.1 == 2) = some (2, .iload_n 1, 0, 0) := rfl
theorem te_234_3 : (pT M_234).find? (fun e => e.1 == 3) = some (3, .invokevirtual 122, 235, 0) := rfl
theorem te_234_6 : (pT M_234).find? (fun e => e.1 == 6) = some (6, .ifCond .ne 7, 0, 0) := rfl
theorem te_234_9 : (pT M_234).find? (fun e => e.1 == 9) = some (9, .iconst 1, 0, 0) := rfl
theorem te_234_10 : (pT M_234).find? (fun e => e.1 == 10) = some (10, .goto 21, 0, 0) := rfl
theorem te_234_13 : (pT M_234).find? (fun e => e.1 == 13) = some (13, .iload_n 2, 0, 0) := rfl
theorem te_234_14 : (pT M_234).find? (fun e => e.1 == 14) = some (14, .sipush (-9999), 0, 0) := rfl
theorem te_234_17 : (pT M_234).find? (fun e => e.1 == 17) = some (17, .sipush 9999, 0, 0) := rfl
theorem te_234_20 : (pT M_234).find? (fun e => e.1 == 20) = some (20, .invokestatic 104, 227, 2) := rfl
theorem te_234_23 : (pT M_234).find? (fun e => e.1 == 23) = some (23, .ifCond .ne 7, 0, 0) := rfl
theorem te_234_26 : (pT M_234).find? (fun e => e.1 == 26) = some (26, .iconst 2, 0, 0) := rfl
theorem te_234_27 : (pT M_234).find? (fun e => e.1 == 27) = some (27, .goto 4, 0, 0) := rfl
theorem te_234_30 : (pT M_234).find? (fun e => e.1 == 30) = some (30, .iconst 0, 0, 0) := rfl
theorem te_234_31 : (pT M_234).find? (fun e => e.1 == 31) = some (31, .putfield 101, 10, 0) := rfl
theorem te_234_34 : (pT M_234).find? (fun e => e.1 == 34) = some (34, .aload_n 0, 0, 0) := rfl
theorem te_234_35 : (pT M_234).find? (fun e => e.1 == 35) = some (35, .getfield 101, 10, 0) := rfl
theorem te_234_38 : (pT M_234).find? (fun e => e.1 == 38) = some (38, .ifCond .le 5, 0, 0) := rfl
theorem te_234_41 : (pT M_234).find? (fun e => e.1 == 41) = some (41, .iconst 0, 0, 0) := rfl
theorem te_234_42 : (pT M_234).find? (fun e => e.1 == 42) = some (42, .ireturn, 0, 0) := rfl
theorem te_234_43 : (pT M_234).find? (fun e => e.1 == 43) = some (43, .aload_n 0, 0, 0) := rfl
theorem te_234_44 : (pT M_234).find? (fun e => e.1 == 44) = some (44, .getfield 25, 10, 7) := rfl
theorem te_234_47 : (pT M_234).find? (fun e => e.1 == 47) = some (47, .iload_n 1, 0, 0) := rfl
theorem te_234_48 : (pT M_234).find? (fun e => e.1 == 48) = some (48, .iaload, 0, 0) := rfl
theorem te_234_49 : (pT M_234).find? (fun e => e.1 == 49) = some (49, .istore_n 3, 0, 0) := rfl
theorem te_234_50 : (pT M_234).find? (fun e => e.1 == 50) = some (50, .aload_n 0, 0, 0) := rfl
theorem te_234_51 : (pT M_234).find? (fun e => e.1 == 51) = some (51, .getfield 25, 10, 7) := rfl
theorem te_234_54 : (pT M_234).find? (fun e => e.1 == 54) = some (54, .iload_n 1, 0, 0) := rfl
theorem te_234_55 : (pT M_234).find? (fun e => e.1 == 55) = some (55, .iload_n 2, 0, 0) := rfl
theorem te_234_56 : (pT M_234).find? (fun e => e.1 == 56) = some (56, .iastore, 0, 0) := rfl
theorem te_234_57 : (pT M_234).find? (fun e => e.1 == 57) = some (57, .iload_n 3, 0, 0) := rfl
theorem te_234_58 : (pT M_234).find? (fun e => e.1 == 58) = some (58, .ireturn, 0, 0) := rfl
theorem te_236_0 : (pT M_236).find? (fun e => e.1 == 0) = some (0, .aload_n 0, 0, 0) := rfl
theorem te_236_1 : (pT M_236).find? (fun e => e.1 == 1) = some (1, .iload_n 1, 0, 0) := rfl
theorem te_236_2 : (pT M_236).find? (fun e => e.1 == 2) = some (2, .iconst 0, 0, 0) := rfl
theorem te_236_3 : (pT M_236).find? (fun e => e.1 == 3) = some (3, .iconst 5, 0, 0) := rfl
theorem te_236_4 : (pT M_236).find? (fun e => e.1 == 4) = some (4, .invokestatic 104, 227, 2) := rfl
theorem te_236_7 : (pT M_236).find? (fun e => e.1 == 7) = some (7, .ifCond .ne 7, 0, 0) := rfl
theorem te_236_10 : (pT M_236).find? (fun e => e.1 == 10) = some (10, .iconst 1, 0, 0) := rfl
theorem te_236_11 : (pT M_236).find? (fun e => e.1 == 11) = some (11, .goto 38, 0, 0) := rfl
theorem te_236_14 : (pT M_236).find? (fun e => e.1 == 14) = some (14, .iload_n 2, 0, 0) := rfl
theorem te_236_15 : (pT M_236).find? (fun e => e.1 == 15) = some (15, .iconst 0, 0, 0) := rfl
theorem te_236_16 : (pT M_236).find? (fun e => e.1 == 16) = some (16, .iconst 2, 0, 0) := rfl
theorem te_236_17 : (pT M_236).find? (fun e => e.1 == 17) = some (17, .invokestatic 104, 227, 2) := rfl
theorem te_236_20 : (pT M_236).find? (fun e => e.1 == 20) = some (20, .ifCond .eq 24, 0, 0) := rfl
theorem te_236_23 : (pT M_236).find? (fun e => e.1 == 23) = some (23, .iload_n 3, 0, 0) := rfl
theorem te_236_24 : (pT M_236).find? (fun e => e.1 == 24) = some (24, .iconst 1, 0, 0) := rfl
theorem te_236_25 : (pT M_236).find? (fun e => e.1 == 25) = some (25, .bipush 6, 0, 0) := rfl
theorem te_236_27 : (pT M_236).find? (fun e => e.1 == 27) = some (27, .invokestatic 104, 227, 2) := rfl
theorem te_236_30 : (pT M_236).find? (fun e => e.1 == 30) = some (30, .ifCond .eq 14, 0, 0) := rfl
theorem te_236_33 : (pT M_236).find? (fun e => e.1 == 33) = some (33, .iload 4, 0, 0) := rfl
theorem te_236_35 : (pT M_236).find? (fun e => e.1 == 35) = some (35, .iconst 1, 0, 0) := rfl
theorem te_236_36 : (pT M_236).find? (fun e => e.1 == 36) = some (36, .bipush 15, 0, 0) := rfl
theorem te_236_38 : (pT M_236).find? (fun e => e.1 == 38) = some (38, .invokestatic 104, 227, 2) := rfl
theorem te_236_41 : (pT M_236).find? (fun e => e.1 == 41) = some (41, .ifCond .ne 7, 0, 0) := rfl
theorem te_236_44 : (pT M_236).find? (fun e => e.1 == 44) = some (44, .iconst 2, 0, 0) := rfl
theorem te_236_45 : (pT M_236).find? (fun e => e.1 == 45) = some (45, .goto 4, 0, 0) := rfl
theorem te_236_48 : (pT M_236).find? (fun e => e.1 == 48) = some (48, .iconst 0, 0, 0) := rfl
theorem te_236_49 : (pT M_236).find? (fun e => e.1 == 49) = some (49, .putfield 101, 10, 0) := rfl
theorem te_236_52 : (pT M_236).find? (fun e => e.1 == 52) = some (52, .aload_n 0, 0, 0) := rfl
theorem te_236_53 : (pT M_236).find? (fun e => e.1 == 53) = some (53, .getfield 101, 10, 0) := rfl
theorem te_236_56 : (pT M_236).find? (fun e => e.1 == 56) = some (56, .ifCond .le 5, 0, 0) := rfl
theorem te_236_59 : (pT M_236).find? (fun e => e.1 == 59) = some (59, .iconst 0, 0, 0) := rfl
theorem te_236_60 : (pT M_236).find? (fun e => e.1 == 60) = some (60, .ireturn, 0, 0) := rfl
theorem te_236_61 : (pT M_236).find? (fun e => e.1 == 61) = some (61, .aload_n 0, 0, 0) := rfl
theorem te_236_62 : (pT M_236).find? (fun e => e.1 == 62) = some (62, .getfield 28, 10, 8) := rfl
theorem te_236_65 : (pT M_236).find? (fun e => e.1 == 65) = some (65, .iload_n 1, 0, 0) := rfl
theorem te_236_66 : (pT M_236).find? (fun e => e.1 == 66) = some (66, .iload_n 2, 0, 0) := rfl
theorem te_236_67 : (pT M_236).find? (fun e => e.1 == 67) = some (67, .iastore, 0, 0) := rfl
theorem te_236_68 : (pT M_236).find? (fun e => e.1 == 68) = some (68, .aload_n 0, 0, 0) := rfl
theorem te_236_69 : (pT M_236).find? (fun e => e.1 == 69) = some (69, .getfield 31, 10, 9) := rfl
theorem te_236_72 : (pT M_236).find? (fun e => e.1 == 72) = some (72, .iload_n 1, 0, 0) := rfl
theorem te_236_73 : (pT M_236).find? (fun e => e.1 == 73) = some (73, .iload_n 3, 0, 0) := rfl
theorem te_236_74 : (pT M_236).find? (fun e => e.1 == 74) = some (74, .iastore, 0, 0) := rfl
theorem te_236_75 : (pT M_236).find? (fun e => e.1 == 75) = some (75, .aload_n 0, 0, 0) := rfl
theorem te_236_76 : (pT M_236).find? (fun e => e.1 == 76) = some (76, .getfield 34, 10, 10) := rfl
theorem te_236_79 : (pT M_236).find? (fun e => e.1 == 79) = some (79, .iload_n 1, 0, 0) := rfl
theorem te_236_80 : (pT M_236).find? (fun e => e.1 == 80) = some (80, .iload 4, 0, 0) := rfl
theorem te_236_82 : (pT M_236).find? (fun e => e.1 == 82) = some (82, .iastore, 0, 0) := rfl
theorem te_236_83 : (pT M_236).find? (fun e => e.1 == 83) = some (83, .iconst 0, 0, 0) := rfl
theorem te_236_84 : (pT M_236).find? (fun e => e.1 == 84) = some (84, .ireturn, 0, 0) := rfl
theorem te_237_0 : (pT M_237).find? (fun e => e.1 == 0) = some (0, .aload_n 0, 0, 0) := rfl
theorem te_237_1 : (pT M_237).find? (fun e => e.1 == 1) = some (1, .iload_n 1, 0, 0) := rfl
theorem te_237_2 : (pT M_237).find? (fun e => e.1 == 2) = some (2, .iconst 0, 0, 0) := rfl
theorem te_237_3 : (pT M_237).find? (fun e => e.1 == 3) = some (3, .iconst 2, 0, 0) := rfl
theorem te_237_4 : (pT M_237).find? (fun e => e.1 == 4) = some (4, .invokestatic 104, 227, 2) := rfl
theorem te_237_7 : (pT M_237).find? (fun e => e.1 == 7) = some (7, .ifCond .ne 7, 0, 0) := rfl
theorem te_237_10 : (pT M_237).find? (fun e => e.1 == 10) = some (10, .iconst 1, 0, 0) := rfl
theorem te_237_11 : (pT M_237).find? (fun e => e.1 == 11) = some (11, .goto 17, 0, 0) := rfl
theorem te_237_14 : (pT M_237).find? (fun e => e.1 == 14) = some (14, .iload_n 2, 0, 0) := rfl
theorem te_237_15 : (pT M_237).find? (fun e => e.1 == 15) = some (15, .iconst 1, 0, 0) := rfl
theorem te_237_16 : (pT M_237).find? (fun e => e.1 == 16) = some (16, .iconst 3, 0, 0) := rfl
theorem te_237_17 : (pT M_237).find? (fun e => e.1 == 17) = some (17, .invokestatic 104, 227, 2) := rfl
theorem te_237_20 : (pT M_237).find? (fun e => e.1 == 20) = some (20, .ifCond .ne 7, 0, 0) := rfl
theorem te_237_23 : (pT M_237).find? (fun e => e.1 == 23) = some (23, .iconst 2, 0, 0) := rfl
theorem te_237_24 : (pT M_237).find? (fun e => e.1 == 24) = some (24, .goto 4, 0, 0) := rfl
theorem te_237_27 : (pT M_237).find? (fun e => e.1 == 27) = some (27, .iconst 0, 0, 0) := rfl
theorem te_237_28 : (pT M_237).find? (fun e => e.1 == 28) = some (28, .putfield 101, 10, 0) := rfl
theorem te_237_31 : (pT M_237).find? (fun e => e.1 == 31) = some (31, .aload_n 0, 0, 0) := rfl
theorem te_237_32 : (pT M_237).find? (fun e => e.1 == 32) = some (32, .getfield 101, 10, 0) := rfl
theorem te_237_35 : (pT M_237).find? (fun e => e.1 == 35) = some (35, .ifCond .le 5, 0, 0) := rfl
theorem te_237_38 : (pT M_237).find? (fun e => e.1 == 38) = some (38, .iconst 0, 0, 0) := rfl
theorem te_237_39 : (pT M_237).find? (fun e => e.1 == 39) = some (39, .ireturn, 0, 0) := rfl
theorem te_237_40 : (pT M_237).find? (fun e => e.1 == 40) = some (40, .aload_n 0, 0, 0) := rfl
theorem te_237_41 : (pT M_237).find? (fun e => e.1 == 41) = some (41, .getfield 37, 10, 11) := rfl
theorem te_237_44 : (pT M_237).find? (fun e => e.1 == 44) = some (44, .iload_n 1, 0, 0) := rfl
theorem te_237_45 : (pT M_237).find? (fun e => e.1 == 45) = some (45, .iaload, 0, 0) := rfl
theorem te_237_46 : (pT M_237).find? (fun e => e.1 == 46) = some (46, .istore_n 3, 0, 0) := rfl
theorem te_237_47 : (pT M_237).find? (fun e => e.1 == 47) = some (47, .aload_n 0, 0, 0) := rfl
theorem te_237_48 : (pT M_237).find? (fun e => e.1 == 48) = some (48, .getfield 37, 10, 11) := rfl
theorem te_237_51 : (pT M_237).find? (fun e => e.1 == 51) = some (51, .iload_n 1, 0, 0) := rfl
theorem te_237_52 : (pT M_237).find? (fun e => e.1 == 52) = some (52, .iload_n 2, 0, 0) := rfl
theorem te_237_53 : (pT M_237).find? (fun e => e.1 == 53) = some (53, .iastore, 0, 0) := rfl
theorem te_237_54 : (pT M_237).find? (fun e => e.1 == 54) = some (54, .iload_n 3, 0, 0) := rfl
theorem te_237_55 : (pT M_237).find? (fun e => e.1 == 55) = some (55, .ireturn, 0, 0) := rfl
theorem te_238_0 : (pT M_238).find? (fun e => e.1 == 0) = some (0, .aload_n 0, 0, 0) := rfl
theorem te_238_1 : (pT M_238).find? (fun e => e.1 == 1) = some (1, .aload_n 0, 0, 0) := rfl
theorem te_238_2 : (pT M_238).find? (fun e => e.1 == 2) = some (2, .iload_n 1, 0, 0) := rfl
theorem te_238_3 : (pT M_238).find? (fun e => e.1 == 3) = some (3, .invokevirtual 122, 235, 0) := rfl
theorem te_238_6 : (pT M_238).find? (fun e => e.1 == 6) = some (6, .ifCond .ne 7, 0, 0) := rfl
theorem te_238_9 : (pT M_238).find? (fun e => e.1 == 9) = some (9, .iconst 1, 0, 0) := rfl
theorem te_238_10 : (pT M_238).find? (fun e => e.1 == 10) = some (10, .goto 17, 0, 0) := rfl
theorem te_238_13 : (pT M_238).find? (fun e => e.1 == 13) = some (13, .iload_n 2, 0, 0) := rfl
theorem te_238_14 : (pT M_238).find? (fun e => e.1 == 14) = some (14, .iconst 0, 0, 0) := rfl
theorem te_238_15 : (pT M_238).find? (fun e => e.1 == 15) = some (15, .iconst 5, 0, 0) := rfl
theorem te_238_16 : (pT M_238).find? (fun e => e.1 == 16) = some (16, .invokestatic 104, 227, 2) := rfl
theorem te_238_19 : (pT M_238).find? (fun e => e.1 == 19) = some (19, .ifCond .ne 7, 0, 0) := rfl
theorem te_238_22 : (pT M_238).find? (fun e => e.1 == 22) = some (22, .iconst 2, 0, 0) := rfl
theorem te_238_23 : (pT M_238).find? (fun e => e.1 == 23) = some (23, .goto 4, 0, 0) := rfl
theorem te_238_26 : (pT M_238).find? (fun e => e.1 == 26) = some (26, .iconst 0, 0, 0) := rfl
theorem te_238_27 : (pT M_238).find? (fun e => e.1 == 27) = some (27, .putfield 101, 10, 0) := rfl
theorem te_238_30 : (pT M_238).find? (fun e => e.1 == 30) = some (30, .aload_n 0, 0, 0) := rfl
theorem te_238_31 : (pT M_238).find? (fun e => e.1 == 31) = some (31, .getfield 101, 10, 0) := rfl
theorem te_238_34 : (pT M_238).find? (fun e => e.1 == 34) = some (34, .ifCond .le 5, 0, 0) := rfl
theorem te_238_37 : (pT M_238).find? (fun e => e.1 == 37) = some (37, .iconst 0, 0, 0) := rfl
theorem te_238_38 : (pT M_238).find? (fun e => e.1 == 38) = some (38, .ireturn, 0, 0) := rfl
theorem te_238_39 : (pT M_238).find? (fun e => e.1 == 39) = some (39, .iload_n 2, 0, 0) := rfl
theorem te_238_40 : (pT M_238).find? (fun e => e.1 == 40) = some (40, .tableswitch 71 0 4 #[36, 43, 50, 57, 64], 36, 0) := rfl
theorem te_238_76 : (pT M_238).find? (fun e => e.1 == 76) = some (76, .aload_n 0, 0, 0) := rfl
theorem te_238_77 : (pT M_238).find? (fun e => e.1 == 77) = some (77, .getfield 7, 10, 2) := rfl
theorem te_238_80 : (pT M_238).find? (fun e => e.1 == 80) = some (80, .iload_n 1, 0, 0) := rfl
theorem te_238_81 : (pT M_238).find? (fun e => e.1 == 81) = some (81, .iaload, 0, 0) := rfl
theorem te_238_82 : (pT M_238).find? (fun e => e.1 == 82) = some (82, .ireturn, 0, 0) := rfl
theorem te_238_83 : (pT M_238).find? (fun e => e.1 == 83) = some (83, .aload_n 0, 0, 0) := rfl
theorem te_238_84 : (pT M_238).find? (fun e => e.1 == 84) = some (84, .getfield 13, 10, 3) := rfl
theorem te_238_87 : (pT M_238).find? (fun e => e.1 == 87) = some (87, .iload_n 1, 0, 0) := rfl
theorem te_238_88 : (pT M_238).find? (fun e => e.1 == 88) = some (88, .iaload, 0, 0) := rfl
theorem te_238_89 : (pT M_238).find? (fun e => e.1 == 89) = some (89, .ireturn, 0, 0) := rfl
theorem te_238_90 : (pT M_238).find? (fun e => e.1 == 90) = some (90, .aload_n 0, 0, 0) := rfl
theorem te_238_91 : (pT M_238).find? (fun e => e.1 == 91) = some (91, .getfield 16, 10, 4) := rfl
theorem te_238_94 : (pT M_238).find? (fun e => e.1 == 94) = some (94, .iload_n 1, 0, 0) := rfl
theorem te_238_95 : (pT M_238).find? (fun e => e.1 == 95) = some (95, .iaload, 0, 0) := rfl
theorem te_238_96 : (pT M_238).find? (fun e => e.1 == 96) = some (96, .ireturn, 0, 0) := rfl
theorem te_238_97 : (pT M_238).find? (fun e => e.1 == 97) = some (97, .aload_n 0, 0, 0) := rfl
theorem te_238_98 : (pT M_238).find? (fun e => e.1 == 98) = some (98, .getfield 19, 10, 5) := rfl
theorem te_238_101 : (pT M_238).find? (fun e => e.1 == 101) = some (101, .iload_n 1, 0, 0) := rfl
theorem te_238_102 : (pT M_238).find? (fun e => e.1 == 102) = some (102, .iaload, 0, 0) := rfl
theorem te_238_103 : (pT M_238).find? (fun e => e.1 == 103) = some (103, .ireturn, 0, 0) := rfl
theorem te_238_104 : (pT M_238).find? (fun e => e.1 == 104) = some (104, .aload_n 0, 0, 0) := rfl
theorem te_238_105 : (pT M_238).find? (fun e => e.1 == 105) = some (105, .getfield 22, 10, 6) := rfl
theorem te_238_108 : (pT M_238).find? (fun e => e.1 == 108) = some (108, .iload_n 1, 0, 0) := rfl
theorem te_238_109 : (pT M_238).find? (fun e => e.1 == 109) = some (109, .iaload, 0, 0) := rfl
theorem te_238_110 : (pT M_238).find? (fun e => e.1 == 110) = some (110, .ireturn, 0, 0) := rfl
theorem te_238_111 : (pT M_238).find? (fun e => e.1 == 111) = some (111, .aload_n 0, 0, 0) := rfl
theorem te_238_112 : (pT M_238).find? (fun e => e.1 == 112) = some (112, .getfield 25, 10, 7) := rfl
theorem te_238_115 : (pT M_238).find? (fun e => e.1 == 115) = some (115, .iload_n 1, 0, 0) := rfl
theorem te_238_116 : (pT M_238).find? (fun e => e.1 == 116) = some (116, .iaload, 0, 0) := rfl
theorem te_238_117 : (pT M_238).find? (fun e => e.1 == 117) = some (117, .ireturn, 0, 0) := rfl
theorem te_239_0 : (pT M_239).find? (fun e => e.1 == 0) = some (0, .aload_n 0, 0, 0) := rfl
theorem te_239_1 : (pT M_239).find? (fun e => e.1 == 1) = some (1, .iconst 0, 0, 0) := rfl
theorem te_239_2 : (pT M_239).find? (fun e => e.1 == 2) = some (2, .putfield 101, 10, 0) := rfl
theorem te_239_5 : (pT M_239).find? (fun e => e.1 == 5) = some (5, .aload_n 0, 0, 0) := rfl
theorem te_239_6 : (pT M_239).find? (fun e => e.1 == 6) = some (6, .invokevirtual 137, 240, 0) := rfl
theorem te_239_9 : (pT M_239).find? (fun e => e.1 == 9) = some (9, .ireturn, 0, 0) := rfl
theorem te_252_0 : (pT M_252).find? (fun e => e.1 == 0) = some (0, .aload_n 0, 0, 0) := rfl
theorem te_252_1 : (pT M_252).find? (fun e => e.1 == 1) = some (1, .aload_n 0, 0, 0) := rfl
theorem te_252_2 : (pT M_252).find? (fun e => e.1 == 2) = some (2, .iload_n 1, 0, 0) := rfl
theorem te_252_3 : (pT M_252).find? (fun e => e.1 == 3) = some (3, .invokevirtual 122, 235, 0) := rfl
theorem te_252_6 : (pT M_252).find? (fun e => e.1 == 6) = some (6, .ifCond .eq 11, 0, 0) := rfl
theorem te_252_9 : (pT M_252).find? (fun e => e.1 == 9) = some (9, .aload_n 0, 0, 0) := rfl
theorem te_252_10 : (pT M_252).find? (fun e => e.1 == 10) = some (10, .iload_n 2, 0, 0) := rfl
theorem te_252_11 : (pT M_252).find? (fun e => e.1 == 11) = some (11, .invokevirtual 122, 235, 0) := rfl
theorem te_252_14 : (pT M_252).find? (fun e => e.1 == 14) = some (14, .ifCond .ne 7, 0, 0) := rfl
theorem te_252_17 : (pT M_252).find? (fun e => e.1 == 17) = some (17, .iconst 1, 0, 0) := rfl
theorem te_252_18 : (pT M_252).find? (fun e => e.1 == 18) = some (18, .goto 27, 0, 0) := rfl
theorem te_252_21 : (pT M_252).find? (fun e => e.1 == 21) = some (21, .iload_n 3, 0, 0) := rfl
theorem te_252_22 : (pT M_252).find? (fun e => e.1 == 22) = some (22, .invokestatic 202, 253, 2) := rfl
theorem te_252_25 : (pT M_252).find? (fun e => e.1 == 25) = some (25, .ifCond .ne 7, 0, 0) := rfl
theorem te_252_28 : (pT M_252).find? (fun e => e.1 == 28) = some (28, .iconst 2, 0, 0) := rfl
theorem te_252_29 : (pT M_252).find? (fun e => e.1 == 29) = some (29, .goto 16, 0, 0) := rfl
theorem te_252_32 : (pT M_252).find? (fun e => e.1 == 32) = some (32, .aload_n 0, 0, 0) := rfl
theorem te_252_33 : (pT M_252).find? (fun e => e.1 == 33) = some (33, .iload_n 3, 0, 0) := rfl
theorem te_252_34 : (pT M_252).find? (fun e => e.1 == 34) = some (34, .invokevirtual 205, 254, 0) := rfl
theorem te_252_37 : (pT M_252).find? (fun e => e.1 == 37) = some (37, .ifCond .eq 7, 0, 0) := rfl
theorem te_252_40 : (pT M_252).find? (fun e => e.1 == 40) = some (40, .iconst 3, 0, 0) := rfl
theorem te_252_41 : (pT M_252).find? (fun e => e.1 == 41) = some (41, .goto 4, 0, 0) := rfl
theorem te_252_44 : (pT M_252).find? (fun e => e.1 == 44) = some (44, .iconst 0, 0, 0) := rfl
theorem te_252_45 : (pT M_252).find? (fun e => e.1 == 45) = some (45, .putfield 101, 10, 0) := rfl
theorem te_252_48 : (pT M_252).find? (fun e => e.1 == 48) = some (48, .aload_n 0, 0, 0) := rfl
theorem te_252_49 : (pT M_252).find? (fun e => e.1 == 49) = some (49, .getfield 101, 10, 0) := rfl
theorem te_252_52 : (pT M_252).find? (fun e => e.1 == 52) = some (52, .ifCond .le 5, 0, 0) := rfl
theorem te_252_55 : (pT M_252).find? (fun e => e.1 == 55) = some (55, .iconst 0, 0, 0) := rfl
theorem te_252_56 : (pT M_252).find? (fun e => e.1 == 56) = some (56, .ireturn, 0, 0) := rfl
theorem te_252_57 : (pT M_252).find? (fun e => e.1 == 57) = some (57, .aload_n 0, 0, 0) := rfl
theorem te_252_58 : (pT M_252).find? (fun e => e.1 == 58) = some (58, .iload_n 3, 0, 0) := rfl
theorem te_252_59 : (pT M_252).find? (fun e => e.1 == 59) = some (59, .invokevirtual 173, 256, 0) := rfl
theorem te_252_62 : (pT M_252).find? (fun e => e.1 == 62) = some (62, .aload_n 0, 0, 0) := rfl
theorem te_252_63 : (pT M_252).find? (fun e => e.1 == 63) = some (63, .getfield 52, 10, 17) := rfl
theorem te_252_66 : (pT M_252).find? (fun e => e.1 == 66) = some (66, .bipush 8, 0, 0) := rfl
theorem te_252_68 : (pT M_252).find? (fun e => e.1 == 68) = some (68, .iload_n 1, 0, 0) := rfl
theorem te_252_69 : (pT M_252).find? (fun e => e.1 == 69) = some (69, .imul, 0, 0) := rfl
theorem te_252_70 : (pT M_252).find? (fun e => e.1 == 70) = some (70, .iload_n 2, 0, 0) := rfl
theorem te_252_71 : (pT M_252).find? (fun e => e.1 == 71) = some (71, .iadd, 0, 0) := rfl
theorem te_252_72 : (pT M_252).find? (fun e => e.1 == 72) = some (72, .iaload, 0, 0) := rfl
theorem te_252_73 : (pT M_252).find? (fun e => e.1 == 73) = some (73, .ireturn, 0, 0) := rfl
theorem te_260_0 : (pT M_260).find? (fun e => e.1 == 0) = some (0, .aload_n 0, 0, 0) := rfl
theorem te_260_1 : (pT M_260).find? (fun e => e.1 == 1) = some (1, .aload_n 0, 0, 0) := rfl
theorem te_260_2 : (pT M_260).find? (fun e => e.1 == 2) = some (2, .iload_n 1, 0, 0) := rfl
theorem te_260_3 : (pT M_260).find? (fun e => e.1 == 3) = some (3, .invokevirtual 122, 235, 0) := rfl
theorem te_260_6 : (pT M_260).find? (fun e => e.1 == 6) = some (6, .ifCond .ne 7, 0, 0) := rfl
theorem te_260_9 : (pT M_260).find? (fun e => e.1 == 9) = some (9, .iconst 1, 0, 0) := rfl
theorem te_260_10 : (pT M_260).find? (fun e => e.1 == 10) = some (10, .goto 27, 0, 0) := rfl
theorem te_260_13 : (pT M_260).find? (fun e => e.1 == 13) = some (13, .iload_n 2, 0, 0) := rfl
theorem te_260_14 : (pT M_260).find? (fun e => e.1 == 14) = some (14, .invokestatic 202, 253, 2) := rfl
theorem te_260_17 : (pT M_260).find? (fun e => e.1 == 17) = some (17, .ifCond .ne 7, 0, 0) := rfl
theorem te_260_20 : (pT M_260).find? (fun e => e.1 == 20) = some (20, .iconst 2, 0, 0) := rfl
theorem te_260_21 : (pT M_260).find? (fun e => e.1 == 21) = some (21, .goto 16, 0, 0) := rfl
theorem te_260_24 : (pT M_260).find? (fun e => e.1 == 24) = some (24, .aload_n 0, 0, 0) := rfl
theorem te_260_25 : (pT M_260).find? (fun e => e.1 == 25) = some (25, .iload_n 2, 0, 0) := rfl
theorem te_260_26 : (pT M_260).find? (fun e => e.1 == 26) = some (26, .invokevirtual 205, 254, 0) := rfl
theorem te_260_29 : (pT M_260).find? (fun e => e.1 == 29) = some (29, .ifCond .eq 7, 0, 0) := rfl
theorem te_260_32 : (pT M_260).find? (fun e => e.1 == 32) = some (32, .iconst 3, 0, 0) := rfl
theorem te_260_33 : (pT M_260).find? (fun e => e.1 == 33) = some (33, .goto 4, 0, 0) := rfl
theorem te_260_36 : (pT M_260).find? (fun e => e.1 == 36) = some (36, .iconst 0, 0, 0) := rfl
theorem te_260_37 : (pT M_260).find? (fun e => e.1 == 37) = some (37, .putfield 101, 10, 0) := rfl
theorem te_260_40 : (pT M_260).find? (fun e => e.1 == 40) = some (40, .aload_n 0, 0, 0) := rfl
theorem te_260_41 : (pT M_260).find? (fun e => e.1 == 41) = some (41, .getfield 101, 10, 0) := rfl
theorem te_260_44 : (pT M_260).find? (fun e => e.1 == 44) = some (44, .ifCond .le 5, 0, 0) := rfl
theorem te_260_47 : (pT M_260).find? (fun e => e.1 == 47) = some (47, .iconst 0, 0, 0) := rfl
theorem te_260_48 : (pT M_260).find? (fun e => e.1 == 48) = some (48, .ireturn, 0, 0) := rfl
theorem te_260_49 : (pT M_260).find? (fun e => e.1 == 49) = some (49, .aload_n 0, 0, 0) := rfl
theorem te_260_50 : (pT M_260).find? (fun e => e.1 == 50) = some (50, .iload_n 2, 0, 0) := rfl
theorem te_260_51 : (pT M_260).find? (fun e => e.1 == 51) = some (51, .invokevirtual 173, 256, 0) := rfl
theorem te_260_54 : (pT M_260).find? (fun e => e.1 == 54) = some (54, .aload_n 0, 0, 0) := rfl
theorem te_260_55 : (pT M_260).find? (fun e => e.1 == 55) = some (55, .iload_n 1, 0, 0) := rfl
theorem te_260_56 : (pT M_260).find? (fun e => e.1 == 56) = some (56, .invokevirtual 208, 261, 0) := rfl
theorem te_260_59 : (pT M_260).find? (fun e => e.1 == 59) = some (59, .ireturn, 0, 0) := rfl
theorem te_261_0 : (pT M_261).find? (fun e => e.1 == 0) = some (0, .iconst 0, 0, 0) := rfl
theorem te_261_1 : (pT M_261).find? (fun e => e.1 == 1) = some (1, .istore_n 2, 0, 0) := rfl
theorem te_261_2 : (pT M_261).find? (fun e => e.1 == 2) = some (2, .iconst 0, 0, 0) := rfl
theorem te_261_3 : (pT M_261).find? (fun e => e.1 == 3) = some (3, .istore_n 3, 0, 0) := rfl
theorem te_261_4 : (pT M_261).find? (fun e => e.1 == 4) = some (4, .iload_n 3, 0, 0) := rfl
theorem te_261_5 : (pT M_261).find? (fun e => e.1 == 5) = some (5, .aload_n 0, 0, 0) := rfl
theorem te_261_6 : (pT M_261).find? (fun e => e.1 == 6) = some (6, .getfield 108, 10, 1) := rfl
theorem te_261_9 : (pT M_261).find? (fun e => e.1 == 9) = some (9, .if_icmp .ge 25, 0, 0) := rfl
theorem te_261_12 : (pT M_261).find? (fun e => e.1 == 12) = some (12, .iload_n 2, 0, 0) := rfl
theorem te_261_13 : (pT M_261).find? (fun e => e.1 == 13) = some (13, .aload_n 0, 0, 0) := rfl
theorem te_261_14 : (pT M_261).find? (fun e => e.1 == 14) = some (14, .getfield 52, 10, 17) := rfl
theorem te_261_17 : (pT M_261).find? (fun e => e.1 == 17) = some (17, .bipush 8, 0, 0) := rfl
theorem te_261_19 : (pT M_261).find? (fun e => e.1 == 19) = some (19, .iload_n 1, 0, 0) := rfl
theorem te_261_20 : (pT M_261).find? (fun e => e.1 == 20) = some (20, .imul, 0, 0) := rfl
theorem te_261_21 : (pT M_261).find? (fun e => e.1 == 21) = some (21, .iload_n 3, 0, 0) := rfl
theorem te_261_22 : (pT M_261).find? (fun e => e.1 == 22) = some (22, .iadd, 0, 0) := rfl
theorem te_261_23 : (pT M_261).find? (fun e => e.1 == 23) = some (23, .iaload, 0, 0) := rfl
theorem te_261_24 : (pT M_261).find? (fun e => e.1 == 24) = some (24, .invokestatic 167, 257, 2) := rfl
theorem te_261_27 : (pT M_261).find? (fun e => e.1 == 27) = some (27, .istore_n 2, 0, 0) := rfl
theorem te_261_28 : (pT M_261).find? (fun e => e.1 == 28) = some (28, .iinc 3 1, 0, 0) := rfl
theorem te_261_31 : (pT M_261).find? (fun e => e.1 == 31) = some (31, .goto (-27), 0, 0) := rfl
theorem te_261_34 : (pT M_261).find? (fun e => e.1 == 34) = some (34, .iload_n 2, 0, 0) := rfl
theorem te_261_35 : (pT M_261).find? (fun e => e.1 == 35) = some (35, .ireturn, 0, 0) := rfl
theorem te_262_0 : (pT M_262).find? (fun e => e.1 == 0) = some (0, .aload_n 0, 0, 0) := rfl
theorem te_262_1 : (pT M_262).find? (fun e => e.1 == 1) = some (1, .iload_n 1, 0, 0) := rfl
theorem te_262_2 : (pT M_262).find? (fun e => e.1 == 2) = some (2, .iconst 0, 0, 0) := rfl
theorem te_262_3 : (pT M_262).find? (fun e => e.1 == 3) = some (3, .iconst 2, 0, 0) := rfl
theorem te_262_4 : (pT M_262).find? (fun e => e.1 == 4) = some (4, .invokestatic 104, 227, 2) := rfl
theorem te_262_7 : (pT M_262).find? (fun e => e.1 == 7) = some (7, .ifCond .eq 7, 0, 0) := rfl
theorem te_262_10 : (pT M_262).find? (fun e => e.1 == 10) = some (10, .iconst 0, 0, 0) := rfl
theorem te_262_11 : (pT M_262).find? (fun e => e.1 == 11) = some (11, .goto 4, 0, 0) := rfl
theorem te_262_14 : (pT M_262).find? (fun e => e.1 == 14) = some (14, .iconst 1, 0, 0) := rfl
theorem te_262_15 : (pT M_262).find? (fun e => e.1 == 15) = some (15, .putfield 101, 10, 0) := rfl
theorem te_262_18 : (pT M_262).find? (fun e => e.1 == 18) = some (18, .aload_n 0, 0, 0) := rfl
theorem te_262_19 : (pT M_262).find? (fun e => e.1 == 19) = some (19, .getfield 101, 10, 0) := rfl
theorem te_262_22 : (pT M_262).find? (fun e => e.1 == 22) = some (22, .ifCond .le 7, 0, 0) := rfl
theorem te_262_25 : (pT M_262).find? (fun e => e.1 == 25) = some (25, .iconst 0, 0, 0) := rfl
theorem te_262_26 : (pT M_262).find? (fun e => e.1 == 26) = some (26, .goto 8, 0, 0) := rfl
theorem te_262_29 : (pT M_262).find? (fun e => e.1 == 29) = some (29, .aload_n 0, 0, 0) := rfl
theorem te_262_30 : (pT M_262).find? (fun e => e.1 == 30) = some (30, .iload_n 1, 0, 0) := rfl
theorem te_262_31 : (pT M_262).find? (fun e => e.1 == 31) = some (31, .invokevirtual 189, 263, 0) := rfl
theorem te_262_34 : (pT M_262).find? (fun e => e.1 == 34) = some (34, .ireturn, 0, 0) := rfl
theorem te_267_0 : (pT M_267).find? (fun e => e.1 == 0) = some (0, .aload_n 0, 0, 0) := rfl
theorem te_267_1 : (pT M_267).find? (fun e => e.1 == 1) = some (1, .iload_n 1, 0, 0) := rfl
theorem te_267_2 : (pT M_267).find? (fun e => e.1 == 2) = some (2, .invokestatic 202, 253, 2) := rfl
theorem te_267_5 : (pT M_267).find? (fun e => e.1 == 5) = some (5, .ifCond .ne 7, 0, 0) := rfl
theorem te_267_8 : (pT M_267).find? (fun e => e.1 == 8) = some (8, .iconst 1, 0, 0) := rfl
theorem te_267_9 : (pT M_267).find? (fun e => e.1 == 9) = some (9, .goto 15, 0, 0) := rfl
theorem te_267_12 : (pT M_267).find? (fun e => e.1 == 12) = some (12, .aload_n 0, 0, 0) := rfl
theorem te_267_13 : (pT M_267).find? (fun e => e.1 == 13) = some (13, .invokevirtual 137, 240, 0) := rfl
theorem te_267_16 : (pT M_267).find? (fun e => e.1 == 16) = some (16, .ifCond .ne 7, 0, 0) := rfl
theorem te_267_19 : (pT M_267).find? (fun e => e.1 == 19) = some (19, .iconst 2, 0, 0) := rfl
theorem te_267_20 : (pT M_267).find? (fun e => e.1 == 20) = some (20, .goto 4, 0, 0) := rfl
theorem te_267_23 : (pT M_267).find? (fun e => e.1 == 23) = some (23, .iconst 0, 0, 0) := rfl
theorem te_267_24 : (pT M_267).find? (fun e => e.1 == 24) = some (24, .putfield 101, 10, 0) := rfl
theorem te_267_27 : (pT M_267).find? (fun e => e.1 == 27) = some (27, .aload_n 0, 0, 0) := rfl
theorem te_267_28 : (pT M_267).find? (fun e => e.1 == 28) = some (28, .getfield 101, 10, 0) := rfl
theorem te_267_31 : (pT M_267).find? (fun e => e.1 == 31) = some (31, .ifCond .ne 15, 0, 0) := rfl
theorem te_267_34 : (pT M_267).find? (fun e => e.1 == 34) = some (34, .aload_n 0, 0, 0) := rfl
theorem te_267_35 : (pT M_267).find? (fun e => e.1 == 35) = some (35, .iload_n 1, 0, 0) := rfl
theorem te_267_36 : (pT M_267).find? (fun e => e.1 == 36) = some (36, .invokevirtual 232, 268, 0) := rfl
theorem te_267_39 : (pT M_267).find? (fun e => e.1 == 39) = some (39, .ifCond .eq 7, 0, 0) := rfl
theorem te_267_42 : (pT M_267).find? (fun e => e.1 == 42) = some (42, .iconst 1, 0, 0) := rfl
theorem te_267_43 : (pT M_267).find? (fun e => e.1 == 43) = some (43, .goto 4, 0, 0) := rfl
theorem te_267_46 : (pT M_267).find? (fun e => e.1 == 46) = some (46, .iconst 0, 0, 0) := rfl
theorem te_267_47 : (pT M_267).find? (fun e => e.1 == 47) = some (47, .ireturn, 0, 0) := rfl
theorem te_277_0 : (pT M_277).find? (fun e => e.1 == 0) = some (0, .aload_n 0, 0, 0) := rfl
theorem te_277_1 : (pT M_277).find? (fun e => e.1 == 1) = some (1, .aload_n 0, 0, 0) := rfl
theorem te_277_2 : (pT M_277).find? (fun e => e.1 == 2) = some (2, .invokevirtual 137, 240, 0) := rfl
theorem te_277_5 : (pT M_277).find? (fun e => e.1 == 5) = some (5, .ifCond .eq 7, 0, 0) := rfl
theorem te_277_8 : (pT M_277).find? (fun e => e.1 == 8) = some (8, .iconst 0, 0, 0) := rfl
theorem te_277_9 : (pT M_277).find? (fun e => e.1 == 9) = some (9, .goto 4, 0, 0) := rfl
theorem te_277_12 : (pT M_277).find? (fun e => e.1 == 12) = some (12, .iconst 1, 0, 0) := rfl
theorem te_277_13 : (pT M_277).find? (fun e => e.1 == 13) = some (13, .putfield 101, 10, 0) := rfl
theorem te_277_16 : (pT M_277).find? (fun e => e.1 == 16) = some (16, .aload_n 0, 0, 0) := rfl
theorem te_277_17 : (pT M_277).find? (fun e => e.1 == 17) = some (17, .getfield 101, 10, 0) := rfl
theorem te_277_20 : (pT M_277).find? (fun e => e.1 == 20) = some (20, .ifCond .le 5, 0, 0) := rfl
theorem te_277_23 : (pT M_277).find? (fun e => e.1 == 23) = some (23, .iconst 0, 0, 0) := rfl
theorem te_277_24 : (pT M_277).find? (fun e => e.1 == 24) = some (24, .ireturn, 0, 0) := rfl
theorem te_277_25 : (pT M_277).find? (fun e => e.1 == 25) = some (25, .iconst 1, 0, 0) := rfl
theorem te_277_26 : (pT M_277).find? (fun e => e.1 == 26) = some (26, .istore_n 1, 0, 0) := rfl
theorem te_277_27 : (pT M_277).find? (fun e => e.1 == 27) = some (27, .iload_n 1, 0, 0) := rfl
theorem te_277_28 : (pT M_277).find? (fun e => e.1 == 28) = some (28, .bipush 12, 0, 0) := rfl
theorem te_277_30 : (pT M_277).find? (fun e => e.1 == 30) = some (30, .if_icmp .gt 19, 0, 0) := rfl
theorem te_277_33 : (pT M_277).find? (fun e => e.1 == 33) = some (33, .aload_n 0, 0, 0) := rfl
theorem te_277_34 : (pT M_277).find? (fun e => e.1 == 34) = some (34, .iload_n 1, 0, 0) := rfl
theorem te_277_35 : (pT M_277).find? (fun e => e.1 == 35) = some (35, .invokevirtual 232, 268, 0) := rfl
theorem te_277_38 : (pT M_277).find? (fun e => e.1 == 38) = some (38, .ifCond .eq 5, 0, 0) := rfl
theorem te_277_41 : (pT M_277).find? (fun e => e.1 == 41) = some (41, .iload_n 1, 0, 0) := rfl
theorem te_277_42 : (pT M_277).find? (fun e => e.1 == 42) = some (42, .ireturn, 0, 0) := rfl
theorem te_277_43 : (pT M_277).find? (fun e => e.1 == 43) = some (43, .iinc 1 1, 0, 0) := rfl
theorem te_277_46 : (pT M_277).find? (fun e => e.1 == 46) = some (46, .goto (-19), 0, 0) := rfl
theorem te_277_49 : (pT M_277).find? (fun e => e.1 == 49) = some (49, .iconst (-1), 0, 0) := rfl
theorem te_277_50 : (pT M_277).find? (fun e => e.1 == 50) = some (50, .ireturn, 0, 0) := rfl
theorem te_278_0 : (pT M_278).find? (fun e => e.1 == 0) = some (0, .aload_n 0, 0, 0) := rfl
theorem te_278_1 : (pT M_278).find? (fun e => e.1 == 1) = some (1, .aload_n 0, 0, 0) := rfl
theorem te_278_2 : (pT M_278).find? (fun e => e.1 == 2) = some (2, .iload_n 1, 0, 0) := rfl
theorem te_278_3 : (pT M_278).find? (fun e => e.1 == 3) = some (3, .invokevirtual 122, 235, 0) := rfl
theorem te_278_6 : (pT M_278).find? (fun e => e.1 == 6) = some (6, .ifCond .ne 7, 0, 0) := rfl
theorem te_278_9 : (pT M_278).find? (fun e => e.1 == 9) = some (9, .iconst 1, 0, 0) := rfl
theorem te_278_10 : (pT M_278).find? (fun e => e.1 == 10) = some (10, .goto 27, 0, 0) := rfl
theorem te_278_13 : (pT M_278).find? (fun e => e.1 == 13) = some (13, .iload_n 2, 0, 0) := rfl
theorem te_278_14 : (pT M_278).find? (fun e => e.1 == 14) = some (14, .invokestatic 202, 253, 2) := rfl
theorem te_278_17 : (pT M_278).find? (fun e => e.1 == 17) = some (17, .ifCond .ne 7, 0, 0) := rfl
theorem te_278_20 : (pT M_278).find? (fun e => e.1 == 20) = some (20, .iconst 2, 0, 0) := rfl
theorem te_278_21 : (pT M_278).find? (fun e => e.1 == 21) = some (21, .goto 16, 0, 0) := rfl
theorem te_278_24 : (pT M_278).find? (fun e => e.1 == 24) = some (24, .aload_n 0, 0, 0) := rfl
theorem te_278_25 : (pT M_278).find? (fun e => e.1 == 25) = some (25, .iload_n 2, 0, 0) := rfl
theorem te_278_26 : (pT M_278).find? (fun e => e.1 == 26) = some (26, .invokevirtual 232, 268, 0) := rfl
theorem te_278_29 : (pT M_278).find? (fun e => e.1 == 29) = some (29, .ifCond .ne 7, 0, 0) := rfl
theorem te_278_32 : (pT M_278).find? (fun e => e.1 == 32) = some (32, .iconst 3, 0, 0) := rfl
theorem te_278_33 : (pT M_278).find? (fun e => e.1 == 33) = some (33, .goto 4, 0, 0) := rfl
theorem te_278_36 : (pT M_278).find? (fun e => e.1 == 36) = some (36, .iconst 0, 0, 0) := rfl
theorem te_278_37 : (pT M_278).find? (fun e => e.1 == 37) = some (37, .putfield 101, 10, 0) := rfl
theorem te_278_40 : (pT M_278).find? (fun e => e.1 == 40) = some (40, .aload_n 0, 0, 0) := rfl
theorem te_278_41 : (pT M_278).find? (fun e => e.1 == 41) = some (41, .getfield 101, 10, 0) := rfl
theorem te_278_44 : (pT M_278).find? (fun e => e.1 == 44) = some (44, .ifCond .le 7, 0, 0) := rfl
theorem te_278_47 : (pT M_278).find? (fun e => e.1 == 47) = some (47, .iconst 0, 0, 0) := rfl
theorem te_278_48 : (pT M_278).find? (fun e => e.1 == 48) = some (48, .goto 9, 0, 0) := rfl
theorem te_278_51 : (pT M_278).find? (fun e => e.1 == 51) = some (51, .aload_n 0, 0, 0) := rfl
theorem te_278_52 : (pT M_278).find? (fun e => e.1 == 52) = some (52, .getfield 65, 10, 21) := rfl
theorem te_278_55 : (pT M_278).find? (fun e => e.1 == 55) = some (55, .iload_n 1, 0, 0) := rfl
theorem te_278_56 : (pT M_278).find? (fun e => e.1 == 56) = some (56, .iaload, 0, 0) := rfl
theorem te_278_57 : (pT M_278).find? (fun e => e.1 == 57) = some (57, .ireturn, 0, 0) := rfl
theorem te_279_0 : (pT M_279).find? (fun e => e.1 == 0) = some (0, .aload_n 0, 0, 0) := rfl
theorem te_279_1 : (pT M_279).find? (fun e => e.1 == 1) = some (1, .iload_n 1, 0, 0) := rfl
theorem te_279_2 : (pT M_279).find? (fun e => e.1 == 2) = some (2, .iconst 0, 0, 0) := rfl
theorem te_279_3 : (pT M_279).find? (fun e => e.1 == 3) = some (3, .iconst 2, 0, 0) := rfl
theorem te_279_4 : (pT M_279).find? (fun e => e.1 == 4) = some (4, .invokestatic 104, 227, 2) := rfl
theorem te_279_7 : (pT M_279).find? (fun e => e.1 == 7) = some (7, .ifCond .ne 7, 0, 0) := rfl
theorem te_279_10 : (pT M_279).find? (fun e => e.1 == 10) = some (10, .iconst 1, 0, 0) := rfl
theorem te_279_11 : (pT M_279).find? (fun e => e.1 == 11) = some (11, .goto 38, 0, 0) := rfl
theorem te_279_14 : (pT M_279).find? (fun e => e.1 == 14) = some (14, .iload_n 3, 0, 0) := rfl
theorem te_279_15 : (pT M_279).find? (fun e => e.1 == 15) = some (15, .invokestatic 202, 253, 2) := rfl
theorem te_279_18 : (pT M_279).find? (fun e => e.1 == 18) = some (18, .ifCond .eq 14, 0, 0) := rfl
theorem te_279_21 : (pT M_279).find? (fun e => e.1 == 21) = some (21, .iload_n 2, 0, 0) := rfl
theorem te_279_22 : (pT M_279).find? (fun e => e.1 == 22) = some (22, .iconst 0, 0, 0) := rfl
theorem te_279_23 : (pT M_279).find? (fun e => e.1 == 23) = some (23, .iload_n 3, 0, 0) := rfl
theorem te_279_24 : (pT M_279).find? (fun e => e.1 == 24) = some (24, .iconst 1, 0, 0) := rfl
theorem te_279_25 : (pT M_279).find? (fun e => e.1 == 25) = some (25, .isub, 0, 0) := rfl
theorem te_279_26 : (pT M_279).find? (fun e => e.1 == 26) = some (26, .invokestatic 104, 227, 2) := rfl
theorem te_279_29 : (pT M_279).find? (fun e => e.1 == 29) = some (29, .ifCond .ne 7, 0, 0) := rfl
theorem te_279_32 : (pT M_279).find? (fun e => e.1 == 32) = some (32, .iconst 2, 0, 0) := rfl
theorem te_279_33 : (pT M_279).find? (fun e => e.1 == 33) = some (33, .goto 16, 0, 0) := rfl
theorem te_279_36 : (pT M_279).find? (fun e => e.1 == 36) = some (36, .aload_n 0, 0, 0) := rfl
theorem te_279_37 : (pT M_279).find? (fun e => e.1 == 37) = some (37, .iload_n 3, 0, 0) := rfl
theorem te_279_38 : (pT M_279).find? (fun e => e.1 == 38) = some (38, .invokevirtual 232, 268, 0) := rfl
theorem te_279_41 : (pT M_279).find? (fun e => e.1 == 41) = some (41, .ifCond .ne 7, 0, 0) := rfl
theorem te_279_44 : (pT M_279).find? (fun e => e.1 == 44) = some (44, .iconst 3, 0, 0) := rfl
theorem te_279_45 : (pT M_279).find? (fun e => e.1 == 45) = some (45, .goto 4, 0, 0) := rfl
theorem te_279_48 : (pT M_279).find? (fun e => e.1 == 48) = some (48, .iconst 0, 0, 0) := rfl
theorem te_279_49 : (pT M_279).find? (fun e => e.1 == 49) = some (49, .putfield 101, 10, 0) := rfl
theorem te_279_52 : (pT M_279).find? (fun e => e.1 == 52) = some (52, .aload_n 0, 0, 0) := rfl
theorem te_279_53 : (pT M_279).find? (fun e => e.1 == 53) = some (53, .getfield 101, 10, 0) := rfl
theorem te_279_56 : (pT M_279).find? (fun e => e.1 == 56) = some (56, .ifCond .le 7, 0, 0) := rfl
theorem te_279_59 : (pT M_279).find? (fun e => e.1 == 59) = some (59, .iconst 0, 0, 0) := rfl
theorem te_279_60 : (pT M_279).find? (fun e => e.1 == 60) = some (60, .goto 14, 0, 0) := rfl
theorem te_279_63 : (pT M_279).find? (fun e => e.1 == 63) = some (63, .aload_n 0, 0, 0) := rfl
theorem te_279_64 : (pT M_279).find? (fun e => e.1 == 64) = some (64, .getfield 59, 10, 19) := rfl
theorem te_279_67 : (pT M_279).find? (fun e => e.1 == 67) = some (67, .bipush 12, 0, 0) := rfl
theorem te_279_69 : (pT M_279).find? (fun e => e.1 == 69) = some (69, .iload_n 1, 0, 0) := rfl
theorem te_279_70 : (pT M_279).find? (fun e => e.1 == 70) = some (70, .imul, 0, 0) := rfl
theorem te_279_71 : (pT M_279).find? (fun e => e.1 == 71) = some (71, .iload_n 2, 0, 0) := rfl
theorem te_279_72 : (pT M_279).find? (fun e => e.1 == 72) = some (72, .iadd, 0, 0) := rfl
theorem te_279_73 : (pT M_279).find? (fun e => e.1 == 73) = some (73, .iaload, 0, 0) := rfl
theorem te_279_74 : (pT M_279).find? (fun e => e.1 == 74) = some (74, .ireturn, 0, 0) := rfl
theorem te_307_0 : (pT M_307).find? (fun e => e.1 == 0) = some (0, .aload_n 0, 0, 0) := rfl
theorem te_307_1 : (pT M_307).find? (fun e => e.1 == 1) = some (1, .iload_n 2, 0, 0) := rfl
theorem te_307_2 : (pT M_307).find? (fun e => e.1 == 2) = some (2, .invokestatic 202, 253, 2) := rfl
theorem te_307_5 : (pT M_307).find? (fun e => e.1 == 5) = some (5, .ifCond .eq 14, 0, 0) := rfl
theorem te_307_8 : (pT M_307).find? (fun e => e.1 == 8) = some (8, .iload_n 1, 0, 0) := rfl
theorem te_307_9 : (pT M_307).find? (fun e => e.1 == 9) = some (9, .iconst 0, 0, 0) := rfl
theorem te_307_10 : (pT M_307).find? (fun e => e.1 == 10) = some (10, .iload_n 2, 0, 0) := rfl
theorem te_307_11 : (pT M_307).find? (fun e => e.1 == 11) = some (11, .iconst 1, 0, 0) := rfl
theorem te_307_12 : (pT M_307).find? (fun e => e.1 == 12) = some (12, .isub, 0, 0) := rfl
theorem te_307_13 : (pT M_307).find? (fun e => e.1 == 13) = some (13, .invokestatic 104, 227, 2) := rfl
theorem te_307_16 : (pT M_307).find? (fun e => e.1 == 16) = some (16, .ifCond .ne 7, 0, 0) := rfl
theorem te_307_19 : (pT M_307).find? (fun e => e.1 == 19) = some (19, .iconst 1, 0, 0) := rfl
theorem te_307_20 : (pT M_307).find? (fun e => e.1 == 20) = some (20, .goto 16, 0, 0) := rfl
theorem te_307_23 : (pT M_307).find? (fun e => e.1 == 23) = some (23, .aload_n 0, 0, 0) := rfl
theorem te_307_24 : (pT M_307).find? (fun e => e.1 == 24) = some (24, .iload_n 2, 0, 0) := rfl
theorem te_307_25 : (pT M_307).find? (fun e => e.1 == 25) = some (25, .invokevirtual 232, 268, 0) := rfl
theorem te_307_28 : (pT M_307).find? (fun e => e.1 == 28) = some (28, .ifCond .ne 7, 0, 0) := rfl
theorem te_307_31 : (pT M_307).find? (fun e => e.1 == 31) = some (31, .iconst 2, 0, 0) := rfl
theorem te_307_32 : (pT M_307).find? (fun e => e.1 == 32) = some (32, .goto 4, 0, 0) := rfl
theorem te_307_35 : (pT M_307).find? (fun e => e.1 == 35) = some (35, .iconst 0, 0, 0) := rfl
theorem te_307_36 : (pT M_307).find? (fun e => e.1 == 36) = some (36, .putfield 101, 10, 0) := rfl
theorem te_307_39 : (pT M_307).find? (fun e => e.1 == 39) = some (39, .aload_n 0, 0, 0) := rfl
theorem te_307_40 : (pT M_307).find? (fun e => e.1 == 40) = some (40, .getfield 101, 10, 0) := rfl
theorem te_307_43 : (pT M_307).find? (fun e => e.1 == 43) = some (43, .ifCond .le 7, 0, 0) := rfl
theorem te_307_46 : (pT M_307).find? (fun e => e.1 == 46) = some (46, .iconst 0, 0, 0) := rfl
theorem te_307_47 : (pT M_307).find? (fun e => e.1 == 47) = some (47, .goto 9, 0, 0) := rfl
theorem te_307_50 : (pT M_307).find? (fun e => e.1 == 50) = some (50, .aload_n 0, 0, 0) := rfl
theorem te_307_51 : (pT M_307).find? (fun e => e.1 == 51) = some (51, .iload_n 1, 0, 0) := rfl
theorem te_307_52 : (pT M_307).find? (fun e => e.1 == 52) = some (52, .iload_n 2, 0, 0) := rfl
theorem te_307_53 : (pT M_307).find? (fun e => e.1 == 53) = some (53, .invokevirtual 284, 304, 0) := rfl
theorem te_307_56 : (pT M_307).find? (fun e => e.1 == 56) = some (56, .ireturn, 0, 0) := rfl
theorem te_308_0 : (pT M_308).find? (fun e => e.1 == 0) = some (0, .aload_n 0, 0, 0) := rfl
theorem te_308_1 : (pT M_308).find? (fun e => e.1 == 1) = some (1, .aload_n 0, 0, 0) := rfl
theorem te_308_2 : (pT M_308).find? (fun e => e.1 == 2) = some (2, .iload_n 1, 0, 0) := rfl
theorem te_308_3 : (pT M_308).find? (fun e => e.1 == 3) = some (3, .invokevirtual 122, 235, 0) := rfl
theorem te_308_6 : (pT M_308).find? (fun e => e.1 == 6) = some (6, .ifCond .ne 7, 0, 0) := rfl
theorem te_308_9 : (pT M_308).find? (fun e => e.1 == 9) = some (9, .iconst 1, 0, 0) := rfl
theorem te_308_10 : (pT M_308).find? (fun e => e.1 == 10) = some (10, .goto 39, 0, 0) := rfl
theorem te_308_13 : (pT M_308).find? (fun e => e.1 == 13) = some (13, .iload_n 3, 0, 0) := rfl
theorem te_308_14 : (pT M_308).find? (fun e => e.1 == 14) = some (14, .invokestatic 202, 253, 2) := rfl
theorem te_308_17 : (pT M_308).find? (fun e => e.1 == 17) = some (17, .ifCond .eq 15, 0, 0) := rfl
theorem te_308_20 : (pT M_308).find? (fun e => e.1 == 20) = some (20, .iload 4, 0, 0) := rfl
theorem te_308_22 : (pT M_308).find? (fun e => e.1 == 22) = some (22, .invokestatic 305, 309, 2) := rfl
theorem te_308_25 : (pT M_308).find? (fun e => e.1 == 25) = some (25, .ifCond .eq 7, 0, 0) := rfl
theorem te_308_28 : (pT M_308).find? (fun e => e.1 == 28) = some (28, .iload_n 2, 0, 0) := rfl
theorem te_308_29 : (pT M_308).find? (fun e => e.1 == 29) = some (29, .ifCond .ge 7, 0, 0) := rfl
theorem te_308_32 : (pT M_308).find? (fun e => e.1 == 32) = some (32, .iconst 2, 0, 0) := rfl
theorem te_308_33 : (pT M_308).find? (fun e => e.1 == 33) = some (33, .goto 16, 0, 0) := rfl
theorem te_308_36 : (pT M_308).find? (fun e => e.1 == 36) = some (36, .aload_n 0, 0, 0) := rfl
theorem te_308_37 : (pT M_308).find? (fun e => e.1 == 37) = some (37, .iload_n 3, 0, 0) := rfl
theorem te_308_38 : (pT M_308).find? (fun e => e.1 == 38) = some (38, .invokevirtual 232, 268, 0) := rfl
theorem te_308_41 : (pT M_308).find? (fun e => e.1 == 41) = some (41, .ifCond .ne 7, 0, 0) := rfl
theorem te_308_44 : (pT M_308).find? (fun e => e.1 == 44) = some (44, .iconst 3, 0, 0) := rfl
theorem te_308_45 : (pT M_308).find? (fun e => e.1 == 45) = some (45, .goto 4, 0, 0) := rfl
theorem te_308_48 : (pT M_308).find? (fun e => e.1 == 48) = some (48, .iconst 0, 0, 0) := rfl
theorem te_308_49 : (pT M_308).find? (fun e => e.1 == 49) = some (49, .putfield 101, 10, 0) := rfl
theorem te_308_52 : (pT M_308).find? (fun e => e.1 == 52) = some (52, .aload_n 0, 0, 0) := rfl
theorem te_308_53 : (pT M_308).find? (fun e => e.1 == 53) = some (53, .getfield 101, 10, 0) := rfl
theorem te_308_56 : (pT M_308).find? (fun e => e.1 == 56) = some (56, .ifCond .le 5, 0, 0) := rfl
theorem te_308_59 : (pT M_308).find? (fun e => e.1 == 59) = some (59, .iconst 0, 0, 0) := rfl
theorem te_308_60 : (pT M_308).find? (fun e => e.1 == 60) = some (60, .ireturn, 0, 0) := rfl
theorem te_308_61 : (pT M_308).find? (fun e => e.1 == 61) = some (61, .iload_n 2, 0, 0) := rfl
theorem te_308_62 : (pT M_308).find? (fun e => e.1 == 62) = some (62, .aload_n 0, 0, 0) := rfl
theorem te_308_63 : (pT M_308).find? (fun e => e.1 == 63) = some (63, .getfield 65, 10, 21) := rfl
theorem te_308_66 : (pT M_308).find? (fun e => e.1 == 66) = some (66, .iload_n 1, 0, 0) := rfl
theorem te_308_67 : (pT M_308).find? (fun e => e.1 == 67) = some (67, .iaload, 0, 0) := rfl
theorem te_308_68 : (pT M_308).find? (fun e => e.1 == 68) = some (68, .isub, 0, 0) := rfl
theorem te_308_69 : (pT M_308).find? (fun e => e.1 == 69) = some (69, .istore 5, 0, 0) := rfl
theorem te_308_71 : (pT M_308).find? (fun e => e.1 == 71) = some (71, .iload 5, 0, 0) := rfl
theorem te_308_73 : (pT M_308).find? (fun e => e.1 == 73) = some (73, .ifCond .lt 26, 0, 0) := rfl
theorem te_308_76 : (pT M_308).find? (fun e => e.1 == 76) = some (76, .iload 5, 0, 0) := rfl
theorem te_308_78 : (pT M_308).find? (fun e => e.1 == 78) = some (78, .iload_n 3, 0, 0) := rfl
theorem te_308_79 : (pT M_308).find? (fun e => e.1 == 79) = some (79, .irem, 0, 0) := rfl
theorem te_308_80 : (pT M_308).find? (fun e => e.1 == 80) = some (80, .ifCond .ne 19, 0, 0) := rfl
theorem te_308_83 : (pT M_308).find? (fun e => e.1 == 83) = some (83, .iload 5, 0, 0) := rfl
theorem te_308_85 : (pT M_308).find? (fun e => e.1 == 85) = some (85, .iload_n 3, 0, 0) := rfl
theorem te_308_86 : (pT M_308).find? (fun e => e.1 == 86) = some (86, .idiv, 0, 0) := rfl
theorem te_308_87 : (pT M_308).find? (fun e => e.1 == 87) = some (87, .iload 4, 0, 0) := rfl
theorem te_308_89 : (pT M_308).find? (fun e => e.1 == 89) = some (89, .if_icmp .ge 10, 0, 0) := rfl
theorem te_308_92 : (pT M_308).find? (fun e => e.1 == 92) = some (92, .iload 5, 0, 0) := rfl
theorem te_308_94 : (pT M_308).find? (fun e => e.1 == 94) = some (94, .iload_n 3, 0, 0) := rfl
theorem te_308_95 : (pT M_308).find? (fun e => e.1 == 95) = some (95, .idiv, 0, 0) := rfl
theorem te_308_96 : (pT M_308).find? (fun e => e.1 == 96) = some (96, .goto 4, 0, 0) := rfl
theorem te_308_99 : (pT M_308).find? (fun e => e.1 == 99) = some (99, .iconst (-1), 0, 0) := rfl
theorem te_308_100 : (pT M_308).find? (fun e => e.1 == 100) = some (100, .ireturn, 0, 0) := rfl
theorem te_310_0 : (pT M_310).find? (fun e => e.1 == 0) = some (0, .aload_n 0, 0, 0) := rfl
theorem te_310_1 : (pT M_310).find? (fun e => e.1 == 1) = some (1, .iload_n 3, 0, 0) := rfl
theorem te_310_2 : (pT M_310).find? (fun e => e.1 == 2) = some (2, .iconst 0, 0, 0) := rfl
theorem te_310_3 : (pT M_310).find? (fun e => e.1 == 3) = some (3, .iconst 3, 0, 0) := rfl
theorem te_310_4 : (pT M_310).find? (fun e => e.1 == 4) = some (4, .invokestatic 104, 227, 2) := rfl
theorem te_310_7 : (pT M_310).find? (fun e => e.1 == 7) = some (7, .ifCond .eq 7, 0, 0) := rfl
theorem te_310_10 : (pT M_310).find? (fun e => e.1 == 10) = some (10, .iconst 0, 0, 0) := rfl
theorem te_310_11 : (pT M_310).find? (fun e => e.1 == 11) = some (11, .goto 4, 0, 0) := rfl
theorem te_310_14 : (pT M_310).find? (fun e => e.1 == 14) = some (14, .iconst 1, 0, 0) := rfl
theorem te_310_15 : (pT M_310).find? (fun e => e.1 == 15) = some (15, .putfield 101, 10, 0) := rfl
theorem te_310_18 : (pT M_310).find? (fun e => e.1 == 18) = some (18, .aload_n 0, 0, 0) := rfl
theorem te_310_19 : (pT M_310).find? (fun e => e.1 == 19) = some (19, .getfield 101, 10, 0) := rfl
theorem te_310_22 : (pT M_310).find? (fun e => e.1 == 22) = some (22, .ifCond .le 5, 0, 0) := rfl
theorem te_310_25 : (pT M_310).find? (fun e => e.1 == 25) = some (25, .iconst 0, 0, 0) := rfl
theorem te_310_26 : (pT M_310).find? (fun e => e.1 == 26) = some (26, .ireturn, 0, 0) := rfl
theorem te_310_27 : (pT M_310).find? (fun e => e.1 == 27) = some (27, .aload_n 0, 0, 0) := rfl
theorem te_310_28 : (pT M_310).find? (fun e => e.1 == 28) = some (28, .iload_n 1, 0, 0) := rfl
theorem te_310_29 : (pT M_310).find? (fun e => e.1 == 29) = some (29, .iload_n 2, 0, 0) := rfl
theorem te_310_30 : (pT M_310).find? (fun e => e.1 == 30) = some (30, .invokevirtual 314, 311, 0) := rfl
theorem te_310_33 : (pT M_310).find? (fun e => e.1 == 33) = some (33, .istore 4, 0, 0) := rfl
theorem te_310_35 : (pT M_310).find? (fun e => e.1 == 35) = some (35, .aload_n 0, 0, 0) := rfl
theorem te_310_36 : (pT M_310).find? (fun e => e.1 == 36) = some (36, .iload 4, 0, 0) := rfl
theorem te_310_38 : (pT M_310).find? (fun e => e.1 == 38) = some (38, .ifCond .le 10, 0, 0) := rfl
theorem te_310_41 : (pT M_310).find? (fun e => e.1 == 41) = some (41, .iload 4, 0, 0) := rfl
theorem te_310_43 : (pT M_310).find? (fun e => e.1 == 43) = some (43, .iconst 1, 0, 0) := rfl
theorem te_310_44 : (pT M_310).find? (fun e => e.1 == 44) = some (44, .iadd, 0, 0) := rfl
theorem te_310_45 : (pT M_310).find? (fun e => e.1 == 45) = some (45, .goto 4, 0, 0) := rfl
theorem te_310_48 : (pT M_310).find? (fun e => e.1 == 48) = some (48, .iconst 0, 0, 0) := rfl
theorem te_310_49 : (pT M_310).find? (fun e => e.1 == 49) = some (49, .putfield 101, 10, 0) := rfl
theorem te_310_52 : (pT M_310).find? (fun e => e.1 == 52) = some (52, .aload_n 0, 0, 0) := rfl
theorem te_310_53 : (pT M_310).find? (fun e => e.1 == 53) = some (53, .getfield 101, 10, 0) := rfl
theorem te_310_56 : (pT M_310).find? (fun e => e.1 == 56) = some (56, .ifCond .le 5, 0, 0) := rfl
theorem te_310_59 : (pT M_310).find? (fun e => e.1 == 59) = some (59, .iconst 0, 0, 0) := rfl
theorem te_310_60 : (pT M_310).find? (fun e => e.1 == 60) = some (60, .ireturn, 0, 0) := rfl
theorem te_310_61 : (pT M_310).find? (fun e => e.1 == 61) = some (61, .aload_n 0, 0, 0) := rfl
theorem te_310_62 : (pT M_310).find? (fun e => e.1 == 62) = some (62, .iload_n 1, 0, 0) := rfl
theorem te_310_63 : (pT M_310).find? (fun e => e.1 == 63) = some (63, .iload_n 2, 0, 0) := rfl
theorem te_310_64 : (pT M_310).find? (fun e => e.1 == 64) = some (64, .invokevirtual 311, 312, 0) := rfl
theorem te_310_67 : (pT M_310).find? (fun e => e.1 == 67) = some (67, .istore 5, 0, 0) := rfl
theorem te_310_69 : (pT M_310).find? (fun e => e.1 == 69) = some (69, .aload_n 0, 0, 0) := rfl
theorem te_310_70 : (pT M_310).find? (fun e => e.1 == 70) = some (70, .iload_n 1, 0, 0) := rfl
theorem te_310_71 : (pT M_310).find? (fun e => e.1 == 71) = some (71, .iload_n 2, 0, 0) := rfl
theorem te_310_72 : (pT M_310).find? (fun e => e.1 == 72) = some (72, .invokevirtual 317, 314, 0) := rfl
theorem te_310_75 : (pT M_310).find? (fun e => e.1 == 75) = some (75, .istore 6, 0, 0) := rfl
theorem te_310_77 : (pT M_310).find? (fun e => e.1 == 77) = some (77, .iload_n 3, 0, 0) := rfl
theorem te_310_78 : (pT M_310).find? (fun e => e.1 == 78) = some (78, .ifCond .ne 12, 0, 0) := rfl
theorem te_310_81 : (pT M_310).find? (fun e => e.1 == 81) = some (81, .aload_n 0, 0, 0) := rfl
theorem te_310_82 : (pT M_310).find? (fun e => e.1 == 82) = some (82, .iload_n 1, 0, 0) := rfl
theorem te_310_83 : (pT M_310).find? (fun e => e.1 == 83) = some (83, .iload_n 2, 0, 0) := rfl
theorem te_310_84 : (pT M_310).find? (fun e => e.1 == 84) = some (84, .invokevirtual 308, 313, 0) := rfl
theorem te_310_87 : (pT M_310).find? (fun e => e.1 == 87) = some (87, .goto 35, 0, 0) := rfl
theorem te_310_90 : (pT M_310).find? (fun e => e.1 == 90) = some (90, .iload_n 3, 0, 0) := rfl
theorem te_310_91 : (pT M_310).find? (fun e => e.1 == 91) = some (91, .iconst 1, 0, 0) := rfl
theorem te_310_92 : (pT M_310).find? (fun e => e.1 == 92) = some (92, .if_icmp .ne 8, 0, 0) := rfl
theorem te_310_95 : (pT M_310).find? (fun e => e.1 == 95) = some (95, .iload 5, 0, 0) := rfl
theorem te_310_97 : (pT M_310).find? (fun e => e.1 == 97) = some (97, .goto 25, 0, 0) := rfl
theorem te_310_100 : (pT M_310).find? (fun e => e.1 == 100) = some (100, .iload_n 3, 0, 0) := rfl
theorem te_310_101 : (pT M_310).find? (fun e => e.1 == 101) = some (101, .iconst 2, 0, 0) := rfl
theorem te_310_102 : (pT M_310).find? (fun e => e.1 == 102) = some (102, .if_icmp .ne 8, 0, 0) := rfl
theorem te_310_105 : (pT M_310).find? (fun e => e.1 == 105) = some (105, .iload 6, 0, 0) := rfl
theorem te_310_107 : (pT M_310).find? (fun e => e.1 == 107) = some (107, .goto 15, 0, 0) := rfl
theorem te_310_110 : (pT M_310).find? (fun e => e.1 == 110) = some (110, .aload_n 0, 0, 0) := rfl
theorem te_310_111 : (pT M_310).find? (fun e => e.1 == 111) = some (111, .iload_n 1, 0, 0) := rfl
theorem te_310_112 : (pT M_310).find? (fun e => e.1 == 112) = some (112, .iload_n 2, 0, 0) := rfl
theorem te_310_113 : (pT M_310).find? (fun e => e.1 == 113) = some (113, .invokevirtual 308, 313, 0) := rfl
theorem te_310_116 : (pT M_310).find? (fun e => e.1 == 116) = some (116, .iload 5, 0, 0) := rfl
theorem te_310_118 : (pT M_310).find? (fun e => e.1 == 118) = some (118, .isub, 0, 0) := rfl
theorem te_310_119 : (pT M_310).find? (fun e => e.1 == 119) = some (119, .iload 6, 0, 0) := rfl
theorem te_310_121 : (pT M_310).find? (fun e => e.1 == 121) = some (121, .isub, 0, 0) := rfl
theorem te_310_122 : (pT M_310).find? (fun e => e.1 == 122) = some (122, .ireturn, 0, 0) := rfl
theorem te_312_0 : (pT M_312).find? (fun e => e.1 == 0) = some (0, .iload_n 2, 0, 0) := rfl
theorem te_312_1 : (pT M_312).find? (fun e => e.1 == 1) = some (1, .aload_n 0, 0, 0) := rfl
theorem te_312_2 : (pT M_312).find? (fun e => e.1 == 2) = some (2, .iload_n 1, 0, 0) := rfl
theorem te_312_3 : (pT M_312).find? (fun e => e.1 == 3) = some (3, .invokevirtual 293, 301, 0) := rfl
theorem te_312_6 : (pT M_312).find? (fun e => e.1 == 6) = some (6, .if_icmp .ge 12, 0, 0) := rfl
theorem te_312_9 : (pT M_312).find? (fun e => e.1 == 9) = some (9, .aload_n 0, 0, 0) := rfl
theorem te_312_10 : (pT M_312).find? (fun e => e.1 == 10) = some (10, .iload_n 1, 0, 0) := rfl
theorem te_312_11 : (pT M_312).find? (fun e => e.1 == 11) = some (11, .iload_n 2, 0, 0) := rfl
theorem te_312_12 : (pT M_312).find? (fun e => e.1 == 12) = some (12, .invokevirtual 308, 313, 0) := rfl
theorem te_312_15 : (pT M_312).find? (fun e => e.1 == 15) = some (15, .goto 12, 0, 0) := rfl
theorem te_312_18 : (pT M_312).find? (fun e => e.1 == 18) = some (18, .iload_n 1, 0, 0) := rfl
theorem te_312_19 : (pT M_312).find? (fun e => e.1 == 19) = some (19, .aload_n 0, 0, 0) := rfl
theorem te_312_20 : (pT M_312).find? (fun e => e.1 == 20) = some (20, .iload_n 1, 0, 0) := rfl
theorem te_312_21 : (pT M_312).find? (fun e => e.1 == 21) = some (21, .invokevirtual 293, 301, 0) := rfl
theorem te_312_24 : (pT M_312).find? (fun e => e.1 == 24) = some (24, .iconst 1, 0, 0) := rfl
theorem te_312_25 : (pT M_312).find? (fun e => e.1 == 25) = some (25, .isub, 0, 0) := rfl
theorem te_312_26 : (pT M_312).find? (fun e => e.1 == 26) = some (26, .imul, 0, 0) := rfl
theorem te_312_27 : (pT M_312).find? (fun e => e.1 == 27) = some (27, .ireturn, 0, 0) := rfl
theorem te_314_0 : (pT M_314).find? (fun e => e.1 == 0) = some (0, .iload_n 2, 0, 0) := rfl
theorem te_314_1 : (pT M_314).find? (fun e => e.1 == 1) = some (1, .aload_n 0, 0, 0) := rfl
theorem te_314_2 : (pT M_314).find? (fun e => e.1 == 2) = some (2, .iload_n 1, 0, 0) := rfl
theorem te_314_3 : (pT M_314).find? (fun e => e.1 == 3) = some (3, .invokevirtual 293, 301, 0) := rfl
theorem te_314_6 : (pT M_314).find? (fun e => e.1 == 6) = some (6, .if_icmp .ge 7, 0, 0) := rfl
theorem te_314_9 : (pT M_314).find? (fun e => e.1 == 9) = some (9, .iconst 0, 0, 0) := rfl
theorem te_314_10 : (pT M_314).find? (fun e => e.1 == 10) = some (10, .goto 30, 0, 0) := rfl
theorem te_314_13 : (pT M_314).find? (fun e => e.1 == 13) = some (13, .iload_n 1, 0, 0) := rfl
theorem te_314_14 : (pT M_314).find? (fun e => e.1 == 14) = some (14, .iload_n 2, 0, 0) := rfl
theorem te_314_15 : (pT M_314).find? (fun e => e.1 == 15) = some (15, .aload_n 0, 0, 0) := rfl
theorem te_314_16 : (pT M_314).find? (fun e => e.1 == 16) = some (16, .iload_n 1, 0, 0) := rfl
theorem te_314_17 : (pT M_314).find? (fun e => e.1 == 17) = some (17, .invokevirtual 293, 301, 0) := rfl
theorem te_314_20 : (pT M_314).find? (fun e => e.1 == 20) = some (20, .isub, 0, 0) := rfl
theorem te_314_21 : (pT M_314).find? (fun e => e.1 == 21) = some (21, .iconst 1, 0, 0) := rfl
theorem te_314_22 : (pT M_314).find? (fun e => e.1 == 22) = some (22, .iadd, 0, 0) := rfl
theorem te_314_23 : (pT M_314).find? (fun e => e.1 == 23) = some (23, .imul, 0, 0) := rfl
theorem te_314_24 : (pT M_314).find? (fun e => e.1 == 24) = some (24, .aload_n 0, 0, 0) := rfl
theorem te_314_25 : (pT M_314).find? (fun e => e.1 == 25) = some (25, .iload_n 1, 0, 0) := rfl
theorem te_314_26 : (pT M_314).find? (fun e => e.1 == 26) = some (26, .iload_n 2, 0, 0) := rfl
theorem te_314_27 : (pT M_314).find? (fun e => e.1 == 27) = some (27, .invokevirtual 308, 313, 0) := rfl
theorem te_314_30 : (pT M_314).find? (fun e => e.1 == 30) = some (30, .aload_n 0, 0, 0) := rfl
theorem te_314_31 : (pT M_314).find? (fun e => e.1 == 31) = some (31, .iload_n 1, 0, 0) := rfl
theorem te_314_32 : (pT M_314).find? (fun e => e.1 == 32) = some (32, .iload_n 2, 0, 0) := rfl
theorem te_314_33 : (pT M_314).find? (fun e => e.1 == 33) = some (33, .invokevirtual 311, 312, 0) := rfl
theorem te_314_36 : (pT M_314).find? (fun e => e.1 == 36) = some (36, .isub, 0, 0) := rfl
theorem te_314_37 : (pT M_314).find? (fun e => e.1 == 37) = some (37, .invokestatic 170, 258, 2) := rfl
theorem te_314_40 : (pT M_314).find? (fun e => e.1 == 40) = some (40, .ireturn, 0, 0) := rfl
theorem te_331_0 : (pT M_331).find? (fun e => e.1 == 0) = some (0, .aload_n 0, 0, 0) := rfl
theorem te_331_1 : (pT M_331).find? (fun e => e.1 == 1) = some (1, .aload_n 0, 0, 0) := rfl
theorem te_331_2 : (pT M_331).find? (fun e => e.1 == 2) = some (2, .iload_n 1, 0, 0) := rfl
theorem te_331_3 : (pT M_331).find? (fun e => e.1 == 3) = some (3, .invokevirtual 122, 235, 0) := rfl
theorem te_331_6 : (pT M_331).find? (fun e => e.1 == 6) = some (6, .ifCond .ne 7, 0, 0) := rfl
theorem te_331_9 : (pT M_331).find? (fun e => e.1 == 9) = some (9, .iconst 1, 0, 0) := rfl
theorem te_331_10 : (pT M_331).find? (fun e => e.1 == 10) = some (10, .goto 4, 0, 0) := rfl
theorem te_331_13 : (pT M_331).find? (fun e => e.1 == 13) = some (13, .iconst 0, 0, 0) := rfl
theorem te_331_14 : (pT M_331).find? (fun e => e.1 == 14) = some (14, .putfield 101, 10, 0) := rfl
theorem te_331_17 : (pT M_331).find? (fun e => e.1 == 17) = some (17, .aload_n 0, 0, 0) := rfl
theorem te_331_18 : (pT M_331).find? (fun e => e.1 == 18) = some (18, .getfield 101, 10, 0) := rfl
theorem te_331_21 : (pT M_331).find? (fun e => e.1 == 21) = some (21, .ifCond .le 5, 0, 0) := rfl
theorem te_331_24 : (pT M_331).find? (fun e => e.1 == 24) = some (24, .iconst 0, 0, 0) := rfl
theorem te_331_25 : (pT M_331).find? (fun e => e.1 == 25) = some (25, .ireturn, 0, 0) := rfl
theorem te_331_26 : (pT M_331).find? (fun e => e.1 == 26) = some (26, .iload_n 2, 0, 0) := rfl
theorem te_331_27 : (pT M_331).find? (fun e => e.1 == 27) = some (27, .ifCond .lt 8, 0, 0) := rfl
theorem te_331_30 : (pT M_331).find? (fun e => e.1 == 30) = some (30, .iload 4, 0, 0) := rfl
theorem te_331_32 : (pT M_331).find? (fun e => e.1 == 32) = some (32, .ifCond .ne 7, 0, 0) := rfl
theorem te_331_35 : (pT M_331).find? (fun e => e.1 == 35) = some (35, .iconst 1, 0, 0) := rfl
theorem te_331_36 : (pT M_331).find? (fun e => e.1 == 36) = some (36, .goto 10, 0, 0) := rfl
theorem te_331_39 : (pT M_331).find? (fun e => e.1 == 39) = some (39, .aload_n 0, 0, 0) := rfl
theorem te_331_40 : (pT M_331).find? (fun e => e.1 == 40) = some (40, .iload_n 3, 0, 0) := rfl
theorem te_331_41 : (pT M_331).find? (fun e => e.1 == 41) = some (41, .iload 4, 0, 0) := rfl
theorem te_331_43 : (pT M_331).find? (fun e => e.1 == 43) = some (43, .invokevirtual 314, 311, 0) := rfl
theorem te_331_46 : (pT M_331).find? (fun e => e.1 == 46) = some (46, .istore 5, 0, 0) := rfl
theorem te_331_48 : (pT M_331).find? (fun e => e.1 == 48) = some (48, .iload 5, 0, 0) := rfl
theorem te_331_50 : (pT M_331).find? (fun e => e.1 == 50) = some (50, .ifCond .ne 20, 0, 0) := rfl
theorem te_331_53 : (pT M_331).find? (fun e => e.1 == 53) = some (53, .iload_n 2, 0, 0) := rfl
theorem te_331_54 : (pT M_331).find? (fun e => e.1 == 54) = some (54, .iload 4, 0, 0) := rfl
theorem te_331_56 : (pT M_331).find? (fun e => e.1 == 56) = some (56, .aload_n 0, 0, 0) := rfl
theorem te_331_57 : (pT M_331).find? (fun e => e.1 == 57) = some (57, .iload_n 3, 0, 0) := rfl
theorem te_331_58 : (pT M_331).find? (fun e => e.1 == 58) = some (58, .invokevirtual 293, 301, 0) := rfl
theorem te_331_61 : (pT M_331).find? (fun e => e.1 == 61) = some (61, .iadd, 0, 0) := rfl
theorem te_331_62 : (pT M_331).find? (fun e => e.1 == 62) = some (62, .iconst 2, 0, 0) := rfl
theorem te_331_63 : (pT M_331).find? (fun e => e.1 == 63) = some (63, .isub, 0, 0) := rfl
theorem te_331_64 : (pT M_331).find? (fun e => e.1 == 64) = some (64, .if_icmp .le 6, 0, 0) := rfl
theorem te_331_67 : (pT M_331).find? (fun e => e.1 == 67) = some (67, .iconst 1, 0, 0) := rfl
theorem te_331_68 : (pT M_331).find? (fun e => e.1 == 68) = some (68, .istore 5, 0, 0) := rfl
theorem te_331_70 : (pT M_331).find? (fun e => e.1 == 70) = some (70, .aload_n 0, 0, 0) := rfl
theorem te_331_71 : (pT M_331).find? (fun e => e.1 == 71) = some (71, .iload 5, 0, 0) := rfl
theorem te_331_73 : (pT M_331).find? (fun e => e.1 == 73) = some (73, .ifCond .le 10, 0, 0) := rfl
theorem te_331_76 : (pT M_331).find? (fun e => e.1 == 76) = some (76, .iload 5, 0, 0) := rfl
theorem te_331_78 : (pT M_331).find? (fun e => e.1 == 78) = some (78, .iconst 1, 0, 0) := rfl
theorem te_331_79 : (pT M_331).find? (fun e => e.1 == 79) = some (79, .iadd, 0, 0) := rfl
theorem te_331_80 : (pT M_331).find? (fun e => e.1 == 80) = some (80, .goto 4, 0, 0) := rfl
theorem te_331_83 : (pT M_331).find? (fun e => e.1 == 83) = some (83, .iconst 0, 0, 0) := rfl
theorem te_331_84 : (pT M_331).find? (fun e => e.1 == 84) = some (84, .putfield 101, 10, 0) := rfl
theorem te_331_87 : (pT M_331).find? (fun e => e.1 == 87) = some (87, .aload_n 0, 0, 0) := rfl
theorem te_331_88 : (pT M_331).find? (fun e => e.1 == 88) = some (88, .getfield 101, 10, 0) := rfl
theorem te_331_91 : (pT M_331).find? (fun e => e.1 == 91) = some (91, .ifCond .le 5, 0, 0) := rfl
theorem te_331_94 : (pT M_331).find? (fun e => e.1 == 94) = some (94, .iconst 0, 0, 0) := rfl
theorem te_331_95 : (pT M_331).find? (fun e => e.1 == 95) = some (95, .ireturn, 0, 0) := rfl
theorem te_331_96 : (pT M_331).find? (fun e => e.1 == 96) = some (96, .iload_n 2, 0, 0) := rfl
theorem te_331_97 : (pT M_331).find? (fun e => e.1 == 97) = some (97, .aload_n 0, 0, 0) := rfl
theorem te_331_98 : (pT M_331).find? (fun e => e.1 == 98) = some (98, .getfield 65, 10, 21) := rfl
theorem te_331_101 : (pT M_331).find? (fun e => e.1 == 101) = some (101, .iload_n 1, 0, 0) := rfl
theorem te_331_102 : (pT M_331).find? (fun e => e.1 == 102) = some (102, .iaload, 0, 0) := rfl
theorem te_331_103 : (pT M_331).find? (fun e => e.1 == 103) = some (103, .iload_n 3, 0, 0) := rfl
theorem te_331_104 : (pT M_331).find? (fun e => e.1 == 104) = some (104, .idiv, 0, 0) := rfl
theorem te_331_105 : (pT M_331).find? (fun e => e.1 == 105) = some (105, .isub, 0, 0) := rfl
theorem te_331_106 : (pT M_331).find? (fun e => e.1 == 106) = some (106, .iconst 0, 0, 0) := rfl
theorem te_331_107 : (pT M_331).find? (fun e => e.1 == 107) = some (107, .iload 4, 0, 0) := rfl
theorem te_331_109 : (pT M_331).find? (fun e => e.1 == 109) = some (109, .iconst 1, 0, 0) := rfl
theorem te_331_110 : (pT M_331).find? (fun e => e.1 == 110) = some (110, .isub, 0, 0) := rfl
theorem te_331_111 : (pT M_331).find? (fun e => e.1 == 111) = some (111, .invokestatic 104, 227, 2) := rfl
theorem te_331_114 : (pT M_331).find? (fun e => e.1 == 114) = some (114, .ireturn, 0, 0) := rfl
theorem te_332_0 : (pT M_332).find? (fun e => e.1 == 0) = some (0, .aload_n 0, 0, 0) := rfl
theorem te_332_1 : (pT M_332).find? (fun e => e.1 == 1) = some (1, .iload_n 1, 0, 0) := rfl
theorem te_332_2 : (pT M_332).find? (fun e => e.1 == 2) = some (2, .invokestatic 202, 253, 2) := rfl
theorem te_332_5 : (pT M_332).find? (fun e => e.1 == 5) = some (5, .ifCond .ne 7, 0, 0) := rfl
theorem te_332_8 : (pT M_332).find? (fun e => e.1 == 8) = some (8, .iconst 1, 0, 0) := rfl
theorem te_332_9 : (pT M_332).find? (fun e => e.1 == 9) = some (9, .goto 16, 0, 0) := rfl
theorem te_332_12 : (pT M_332).find? (fun e => e.1 == 12) = some (12, .aload_n 0, 0, 0) := rfl
theorem te_332_13 : (pT M_332).find? (fun e => e.1 == 13) = some (13, .iload_n 1, 0, 0) := rfl
theorem te_332_14 : (pT M_332).find? (fun e => e.1 == 14) = some (14, .invokevirtual 232, 268, 0) := rfl
theorem te_332_17 : (pT M_332).find? (fun e => e.1 == 17) = some (17, .ifCond .ne 7, 0, 0) := rfl
theorem te_332_20 : (pT M_332).find? (fun e => e.1 == 20) = some (20, .iconst 2, 0, 0) := rfl
theorem te_332_21 : (pT M_332).find? (fun e => e.1 == 21) = some (21, .goto 4, 0, 0) := rfl
theorem te_332_24 : (pT M_332).find? (fun e => e.1 == 24) = some (24, .iconst 0, 0, 0) := rfl
theorem te_332_25 : (pT M_332).find? (fun e => e.1 == 25) = some (25, .putfield 101, 10, 0) := rfl
theorem te_332_28 : (pT M_332).find? (fun e => e.1 == 28) = some (28, .aload_n 0, 0, 0) := rfl
theorem te_332_29 : (pT M_332).find? (fun e => e.1 == 29) = some (29, .getfield 101, 10, 0) := rfl
theorem te_332_32 : (pT M_332).find? (fun e => e.1 == 32) = some (32, .ifCond .le 5, 0, 0) := rfl
theorem te_332_35 : (pT M_332).find? (fun e => e.1 == 35) = some (35, .iconst 0, 0, 0) := rfl
theorem te_332_36 : (pT M_332).find? (fun e => e.1 == 36) = some (36, .ireturn, 0, 0) := rfl
theorem te_332_37 : (pT M_332).find? (fun e => e.1 == 37) = some (37, .iload_n 2, 0, 0) := rfl
theorem te_332_38 : (pT M_332).find? (fun e => e.1 == 38) = some (38, .ifCond .eq 10, 0, 0) := rfl
theorem te_332_41 : (pT M_332).find? (fun e => e.1 == 41) = some (41, .aload_n 0, 0, 0) := rfl
theorem te_332_42 : (pT M_332).find? (fun e => e.1 == 42) = some (42, .getfield 108, 10, 1) := rfl
theorem te_332_45 : (pT M_332).find? (fun e => e.1 == 45) = some (45, .goto 26, 0, 0) := rfl
theorem te_332_48 : (pT M_332).find? (fun e => e.1 == 48) = some (48, .aload_n 0, 0, 0) := rfl
theorem te_332_49 : (pT M_332).find? (fun e => e.1 == 49) = some (49, .getfield 108, 10, 1) := rfl
theorem te_332_52 : (pT M_332).find? (fun e => e.1 == 52) = some (52, .aload_n 0, 0, 0) := rfl
theorem te_332_53 : (pT M_332).find? (fun e => e.1 == 53) = some (53, .iload_n 1, 0, 0) := rfl
theorem te_332_54 : (pT M_332).find? (fun e => e.1 == 54) = some (54, .invokevirtual 293, 301, 0) := rfl
theorem te_332_57 : (pT M_332).find? (fun e => e.1 == 57) = some (57, .iconst 1, 0, 0) := rfl
theorem te_332_58 : (pT M_332).find? (fun e => e.1 == 58) = some (58, .isub, 0, 0) := rfl
theorem te_332_59 : (pT M_332).find? (fun e => e.1 == 59) = some (59, .imul, 0, 0) := rfl
theorem te_332_60 : (pT M_332).find? (fun e => e.1 == 60) = some (60, .aload_n 0, 0, 0) := rfl
theorem te_332_61 : (pT M_332).find? (fun e => e.1 == 61) = some (61, .iload_n 1, 0, 0) := rfl
theorem te_332_62 : (pT M_332).find? (fun e => e.1 == 62) = some (62, .invokevirtual 281, 296, 0) := rfl
theorem te_332_65 : (pT M_332).find? (fun e => e.1 == 65) = some (65, .aload_n 0, 0, 0) := rfl
theorem te_332_66 : (pT M_332).find? (fun e => e.1 == 66) = some (66, .getfield 108, 10, 1) := rfl
theorem te_332_69 : (pT M_332).find? (fun e => e.1 == 69) = some (69, .imul, 0, 0) := rfl
theorem te_332_70 : (pT M_332).find? (fun e => e.1 == 70) = some (70, .iadd, 0, 0) := rfl
theorem te_332_71 : (pT M_332).find? (fun e => e.1 == 71) = some (71, .ireturn, 0, 0) := rfl
theorem te_333_0 : (pT M_333).find? (fun e => e.1 == 0) = some (0, .aload_n 0, 0, 0) := rfl
theorem te_333_1 : (pT M_333).find? (fun e => e.1 == 1) = some (1, .aload_n 0, 0, 0) := rfl
theorem te_333_2 : (pT M_333).find? (fun e => e.1 == 2) = some (2, .iload_n 1, 0, 0) := rfl
theorem te_333_3 : (pT M_333).find? (fun e => e.1 == 3) = some (3, .iload_n 2, 0, 0) := rfl
theorem te_333_4 : (pT M_333).find? (fun e => e.1 == 4) = some (4, .invokevirtual 314, 311, 0) := rfl
theorem te_333_7 : (pT M_333).find? (fun e => e.1 == 7) = some (7, .putfield 101, 10, 0) := rfl
theorem te_333_10 : (pT M_333).find? (fun e => e.1 == 10) = some (10, .aload_n 0, 0, 0) := rfl
theorem te_333_11 : (pT M_333).find? (fun e => e.1 == 11) = some (11, .getfield 101, 10, 0) := rfl
theorem te_333_14 : (pT M_333).find? (fun e => e.1 == 14) = some (14, .ifCond .le 5, 0, 0) := rfl
theorem te_333_17 : (pT M_333).find? (fun e => e.1 == 17) = some (17, .iconst 0, 0, 0) := rfl
theorem te_333_18 : (pT M_333).find? (fun e => e.1 == 18) = some (18, .ireturn, 0, 0) := rfl
theorem te_333_19 : (pT M_333).find? (fun e => e.1 == 19) = some (19, .aload_n 0, 0, 0) := rfl
theorem te_333_20 : (pT M_333).find? (fun e => e.1 == 20) = some (20, .iload_n 1, 0, 0) := rfl
theorem te_333_21 : (pT M_333).find? (fun e => e.1 == 21) = some (21, .iload_n 2, 0, 0) := rfl
theorem te_333_22 : (pT M_333).find? (fun e => e.1 == 22) = some (22, .invokevirtual 359, 334, 0) := rfl
theorem te_333_25 : (pT M_333).find? (fun e => e.1 == 25) = some (25, .istore 4, 0, 0) := rfl
theorem te_333_27 : (pT M_333).find? (fun e => e.1 == 27) = some (27, .iload_n 3, 0, 0) := rfl
theorem te_333_28 : (pT M_333).find? (fun e => e.1 == 28) = some (28, .ifCond .eq 23, 0, 0) := rfl
theorem te_333_31 : (pT M_333).find? (fun e => e.1 == 31) = some (31, .iload 4, 0, 0) := rfl
theorem te_333_33 : (pT M_333).find? (fun e => e.1 == 33) = some (33, .aload_n 0, 0, 0) := rfl
theorem te_333_34 : (pT M_333).find? (fun e => e.1 == 34) = some (34, .invokevirtual 362, 335, 0) := rfl
theorem te_333_37 : (pT M_333).find? (fun e => e.1 == 37) = some (37, .imul, 0, 0) := rfl
theorem te_333_38 : (pT M_333).find? (fun e => e.1 == 38) = some (38, .aload_n 0, 0, 0) := rfl
theorem te_333_39 : (pT M_333).find? (fun e => e.1 == 39) = some (39, .iload_n 1, 0, 0) := rfl
theorem te_333_40 : (pT M_333).find? (fun e => e.1 == 40) = some (40, .iload_n 2, 0, 0) := rfl
theorem te_333_41 : (pT M_333).find? (fun e => e.1 == 41) = some (41, .iload 4, 0, 0) := rfl
theorem te_333_43 : (pT M_333).find? (fun e => e.1 == 43) = some (43, .isub, 0, 0) := rfl
theorem te_333_44 : (pT M_333).find? (fun e => e.1 == 44) = some (44, .invokevirtual 308, 313, 0) := rfl
theorem te_333_47 : (pT M_333).find? (fun e => e.1 == 47) = some (47, .iadd, 0, 0) := rfl
theorem te_333_48 : (pT M_333).find? (fun e => e.1 == 48) = some (48, .goto 5, 0, 0) := rfl
theorem te_333_51 : (pT M_333).find? (fun e => e.1 == 51) = some (51, .iload 4, 0, 0) := rfl
theorem te_333_53 : (pT M_333).find? (fun e => e.1 == 53) = some (53, .ireturn, 0, 0) := rfl
theorem te_334_0 : (pT M_334).find? (fun e => e.1 == 0) = some (0, .iload_n 2, 0, 0) := rfl
theorem te_334_1 : (pT M_334).find? (fun e => e.1 == 1) = some (1, .aload_n 0, 0, 0) := rfl
theorem te_334_2 : (pT M_334).find? (fun e => e.1 == 2) = some (2, .iload_n 1, 0, 0) := rfl
theorem te_334_3 : (pT M_334).find? (fun e => e.1 == 3) = some (3, .invokevirtual 293, 301, 0) := rfl
theorem te_334_6 : (pT M_334).find? (fun e => e.1 == 6) = some (6, .if_icmp .ge 7, 0, 0) := rfl
theorem te_334_9 : (pT M_334).find? (fun e => e.1 == 9) = some (9, .iload_n 2, 0, 0) := rfl
theorem te_334_10 : (pT M_334).find? (fun e => e.1 == 10) = some (10, .goto 18, 0, 0) := rfl
theorem te_334_13 : (pT M_334).find? (fun e => e.1 == 13) = some (13, .iload_n 2, 0, 0) := rfl
theorem te_334_14 : (pT M_334).find? (fun e => e.1 == 14) = some (14, .aload_n 0, 0, 0) := rfl
theorem te_334_15 : (pT M_334).find? (fun e => e.1 == 15) = some (15, .iload_n 1, 0, 0) := rfl
theorem te_334_16 : (pT M_334).find? (fun e => e.1 == 16) = some (16, .invokevirtual 293, 301, 0) := rfl
theorem te_334_19 : (pT M_334).find? (fun e => e.1 == 19) = some (19, .isub, 0, 0) := rfl
theorem te_334_20 : (pT M_334).find? (fun e => e.1 == 20) = some (20, .iconst 1, 0, 0) := rfl
theorem te_334_21 : (pT M_334).find? (fun e => e.1 == 21) = some (21, .iadd, 0, 0) := rfl
theorem te_334_22 : (pT M_334).find? (fun e => e.1 == 22) = some (22, .aload_n 0, 0, 0) := rfl
theorem te_334_23 : (pT M_334).find? (fun e => e.1 == 23) = some (23, .iload_n 1, 0, 0) := rfl
theorem te_334_24 : (pT M_334).find? (fun e => e.1 == 24) = some (24, .invokevirtual 281, 296, 0) := rfl
theorem te_334_27 : (pT M_334).find? (fun e => e.1 == 27) = some (27, .irem, 0, 0) := rfl
theorem te_334_28 : (pT M_334).find? (fun e => e.1 == 28) = some (28, .ireturn, 0, 0) := rfl
theorem te_336_0 : (pT M_336).find? (fun e => e.1 == 0) = some (0, .aload_n 0, 0, 0) := rfl
theorem te_336_1 : (pT M_336).find? (fun e => e.1 == 1) = some (1, .iload_n 1, 0, 0) := rfl
theorem te_336_2 : (pT M_336).find? (fun e => e.1 == 2) = some (2, .invokestatic 202, 253, 2) := rfl
theorem te_336_5 : (pT M_336).find? (fun e => e.1 == 5) = some (5, .ifCond .ne 7, 0, 0) := rfl
theorem te_336_8 : (pT M_336).find? (fun e => e.1 == 8) = some (8, .iconst 1, 0, 0) := rfl
theorem te_336_9 : (pT M_336).find? (fun e => e.1 == 9) = some (9, .goto 16, 0, 0) := rfl
theorem te_336_12 : (pT M_336).find? (fun e => e.1 == 12) = some (12, .aload_n 0, 0, 0) := rfl
theorem te_336_13 : (pT M_336).find? (fun e => e.1 == 13) = some (13, .iload_n 1, 0, 0) := rfl
theorem te_336_14 : (pT M_336).find? (fun e => e.1 == 14) = some (14, .invokevirtual 232, 268, 0) := rfl
theorem te_336_17 : (pT M_336).find? (fun e => e.1 == 17) = some (17, .ifCond .ne 7, 0, 0) := rfl
theorem te_336_20 : (pT M_336).find? (fun e => e.1 == 20) = some (20, .iconst 2, 0, 0) := rfl
theorem te_336_21 : (pT M_336).find? (fun e => e.1 == 21) = some (21, .goto 4, 0, 0) := rfl
theorem te_336_24 : (pT M_336).find? (fun e => e.1 == 24) = some (24, .iconst 0, 0, 0) := rfl
theorem te_336_25 : (pT M_336).find? (fun e => e.1 == 25) = some (25, .putfield 101, 10, 0) := rfl
theorem te_336_28 : (pT M_336).find? (fun e => e.1 == 28) = some (28, .aload_n 0, 0, 0) := rfl
theorem te_336_29 : (pT M_336).find? (fun e => e.1 == 29) = some (29, .getfield 101, 10, 0) := rfl
theorem te_336_32 : (pT M_336).find? (fun e => e.1 == 32) = some (32, .ifCond .le 5, 0, 0) := rfl
theorem te_336_35 : (pT M_336).find? (fun e => e.1 == 35) = some (35, .iconst 0, 0, 0) := rfl
theorem te_336_36 : (pT M_336).find? (fun e => e.1 == 36) = some (36, .ireturn, 0, 0) := rfl
theorem te_336_37 : (pT M_336).find? (fun e => e.1 == 37) = some (37, .iconst 1, 0, 0) := rfl
theorem te_336_38 : (pT M_336).find? (fun e => e.1 == 38) = some (38, .istore_n 2, 0, 0) := rfl
theorem te_336_39 : (pT M_336).find? (fun e => e.1 == 39) = some (39, .iload_n 2, 0, 0) := rfl
theorem te_336_40 : (pT M_336).find? (fun e => e.1 == 40) = some (40, .bipush 40, 0, 0) := rfl
theorem te_336_42 : (pT M_336).find? (fun e => e.1 == 42) = some (42, .if_icmp .gt 26, 0, 0) := rfl
theorem te_336_45 : (pT M_336).find? (fun e => e.1 == 45) = some (45, .aload_n 0, 0, 0) := rfl
theorem te_336_46 : (pT M_336).find? (fun e => e.1 == 46) = some (46, .iload_n 1, 0, 0) := rfl
theorem te_336_47 : (pT M_336).find? (fun e => e.1 == 47) = some (47, .iload_n 2, 0, 0) := rfl
theorem te_336_48 : (pT M_336).find? (fun e => e.1 == 48) = some (48, .invokevirtual 308, 313, 0) := rfl
theorem te_336_51 : (pT M_336).find? (fun e => e.1 == 51) = some (51, .iload_n 2, 0, 0) := rfl
theorem te_336_52 : (pT M_336).find? (fun e => e.1 == 52) = some (52, .aload_n 0, 0, 0) := rfl
theorem te_336_53 : (pT M_336).find? (fun e => e.1 == 53) = some (53, .invokevirtual 362, 335, 0) := rfl
theorem te_336_56 : (pT M_336).find? (fun e => e.1 == 56) = some (56, .imul, 0, 0) := rfl
theorem te_336_57 : (pT M_336).find? (fun e => e.1 == 57) = some (57, .if_icmp .ge 5, 0, 0) := rfl
theorem te_336_60 : (pT M_336).find? (fun e => e.1 == 60) = some (60, .iload_n 2, 0, 0) := rfl
theorem te_336_61 : (pT M_336).find? (fun e => e.1 == 61) = some (61, .ireturn, 0, 0) := rfl
theorem te_336_62 : (pT M_336).find? (fun e => e.1 == 62) = some (62, .iinc 2 1, 0, 0) := rfl
theorem te_336_65 : (pT M_336).find? (fun e => e.1 == 65) = some (65, .goto (-26), 0, 0) := rfl
theorem te_336_68 : (pT M_336).find? (fun e => e.1 == 68) = some (68, .iconst (-1), 0, 0) := rfl
theorem te_336_69 : (pT M_336).find? (fun e => e.1 == 69) = some (69, .ireturn, 0, 0) := rfl
theorem te_356_0 : (pT M_356).find? (fun e => e.1 == 0) = some (0, .aload_n 0, 0, 0) := rfl
theorem te_356_1 : (pT M_356).find? (fun e => e.1 == 1) = some (1, .iload_n 1, 0, 0) := rfl
theorem te_356_2 : (pT M_356).find? (fun e => e.1 == 2) = some (2, .iconst 0, 0, 0) := rfl
theorem te_356_3 : (pT M_356).find? (fun e => e.1 == 3) = some (3, .iconst 2, 0, 0) := rfl
theorem te_356_4 : (pT M_356).find? (fun e => e.1 == 4) = some (4, .invokestatic 104, 227, 2) := rfl
theorem te_356_7 : (pT M_356).find? (fun e => e.1 == 7) = some (7, .ifCond .ne 7, 0, 0) := rfl
theorem te_356_10 : (pT M_356).find? (fun e => e.1 == 10) = some (10, .iconst 1, 0, 0) := rfl
theorem te_356_11 : (pT M_356).find? (fun e => e.1 == 11) = some (11, .goto 27, 0, 0) := rfl
theorem te_356_14 : (pT M_356).find? (fun e => e.1 == 14) = some (14, .iload_n 2, 0, 0) := rfl
theorem te_356_15 : (pT M_356).find? (fun e => e.1 == 15) = some (15, .invokestatic 202, 253, 2) := rfl
theorem te_356_18 : (pT M_356).find? (fun e => e.1 == 18) = some (18, .ifCond .ne 7, 0, 0) := rfl
theorem te_356_21 : (pT M_356).find? (fun e => e.1 == 21) = some (21, .iconst 2, 0, 0) := rfl
theorem te_356_22 : (pT M_356).find? (fun e => e.1 == 22) = some (22, .goto 16, 0, 0) := rfl
theorem te_356_25 : (pT M_356).find? (fun e => e.1 == 25) = some (25, .aload_n 0, 0, 0) := rfl
theorem te_356_26 : (pT M_356).find? (fun e => e.1 == 26) = some (26, .iload_n 2, 0, 0) := rfl
theorem te_356_27 : (pT M_356).find? (fun e => e.1 == 27) = some (27, .invokevirtual 232, 268, 0) := rfl
theorem te_356_30 : (pT M_356).find? (fun e => e.1 == 30) = some (30, .ifCond .ne 7, 0, 0) := rfl
theorem te_356_33 : (pT M_356).find? (fun e => e.1 == 33) = some (33, .iconst 3, 0, 0) := rfl
theorem te_356_34 : (pT M_356).find? (fun e => e.1 == 34) = some (34, .goto 4, 0, 0) := rfl
theorem te_356_37 : (pT M_356).find? (fun e => e.1 == 37) = some (37, .iconst 0, 0, 0) := rfl
theorem te_356_38 : (pT M_356).find? (fun e => e.1 == 38) = some (38, .putfield 101, 10, 0) := rfl
theorem te_356_41 : (pT M_356).find? (fun e => e.1 == 41) = some (41, .aload_n 0, 0, 0) := rfl
theorem te_356_42 : (pT M_356).find? (fun e => e.1 == 42) = some (42, .getfield 101, 10, 0) := rfl
theorem te_356_45 : (pT M_356).find? (fun e => e.1 == 45) = some (45, .ifCond .le 7, 0, 0) := rfl
theorem te_356_48 : (pT M_356).find? (fun e => e.1 == 48) = some (48, .iconst 0, 0, 0) := rfl
theorem te_356_49 : (pT M_356).find? (fun e => e.1 == 49) = some (49, .goto 17, 0, 0) := rfl
theorem te_356_52 : (pT M_356).find? (fun e => e.1 == 52) = some (52, .iload_n 2, 0, 0) := rfl
theorem te_356_53 : (pT M_356).find? (fun e => e.1 == 53) = some (53, .aload_n 0, 0, 0) := rfl
theorem te_356_54 : (pT M_356).find? (fun e => e.1 == 54) = some (54, .getfield 37, 10, 11) := rfl
theorem te_356_57 : (pT M_356).find? (fun e => e.1 == 57) = some (57, .iload_n 1, 0, 0) := rfl
theorem te_356_58 : (pT M_356).find? (fun e => e.1 == 58) = some (58, .iaload, 0, 0) := rfl
theorem te_356_59 : (pT M_356).find? (fun e => e.1 == 59) = some (59, .imul, 0, 0) := rfl
theorem te_356_60 : (pT M_356).find? (fun e => e.1 == 60) = some (60, .aload_n 0, 0, 0) := rfl
theorem te_356_61 : (pT M_356).find? (fun e => e.1 == 61) = some (61, .iload_n 1, 0, 0) := rfl
theorem te_356_62 : (pT M_356).find? (fun e => e.1 == 62) = some (62, .invokevirtual 189, 263, 0) := rfl
theorem te_356_65 : (pT M_356).find? (fun e => e.1 == 65) = some (65, .isub, 0, 0) := rfl
theorem te_356_66 : (pT M_356).find? (fun e => e.1 == 66) = some (66, .ireturn, 0, 0) := rfl
theorem te_358_0 : (pT M_358).find? (fun e => e.1 == 0) = some (0, .aload_n 0, 0, 0) := rfl
theorem te_358_1 : (pT M_358).find? (fun e => e.1 == 1) = some (1, .iload_n 1, 0, 0) := rfl
theorem te_358_2 : (pT M_358).find? (fun e => e.1 == 2) = some (2, .iconst 0, 0, 0) := rfl
theorem te_358_3 : (pT M_358).find? (fun e => e.1 == 3) = some (3, .bipush 99, 0, 0) := rfl
theorem te_358_5 : (pT M_358).find? (fun e => e.1 == 5) = some (5, .invokestatic 104, 227, 2) := rfl
theorem te_358_8 : (pT M_358).find? (fun e => e.1 == 8) = some (8, .ifCond .ne 7, 0, 0) := rfl
theorem te_358_11 : (pT M_358).find? (fun e => e.1 == 11) = some (11, .iconst 1, 0, 0) := rfl
theorem te_358_12 : (pT M_358).find? (fun e => e.1 == 12) = some (12, .goto 15, 0, 0) := rfl
theorem te_358_15 : (pT M_358).find? (fun e => e.1 == 15) = some (15, .aload_n 0, 0, 0) := rfl
theorem te_358_16 : (pT M_358).find? (fun e => e.1 == 16) = some (16, .invokevirtual 137, 240, 0) := rfl
theorem te_358_19 : (pT M_358).find? (fun e => e.1 == 19) = some (19, .ifCond .ne 7, 0, 0) := rfl
theorem te_358_22 : (pT M_358).find? (fun e => e.1 == 22) = some (22, .iconst 2, 0, 0) := rfl
theorem te_358_23 : (pT M_358).find? (fun e => e.1 == 23) = some (23, .goto 4, 0, 0) := rfl
theorem te_358_26 : (pT M_358).find? (fun e => e.1 == 26) = some (26, .iconst 0, 0, 0) := rfl
theorem te_358_27 : (pT M_358).find? (fun e => e.1 == 27) = some (27, .putfield 101, 10, 0) := rfl
theorem te_358_30 : (pT M_358).find? (fun e => e.1 == 30) = some (30, .aload_n 0, 0, 0) := rfl
theorem te_358_31 : (pT M_358).find? (fun e => e.1 == 31) = some (31, .getfield 101, 10, 0) := rfl
theorem te_358_34 : (pT M_358).find? (fun e => e.1 == 34) = some (34, .ifCond .le 5, 0, 0) := rfl
theorem te_358_37 : (pT M_358).find? (fun e => e.1 == 37) = some (37, .iconst 0, 0, 0) := rfl
theorem te_358_38 : (pT M_358).find? (fun e => e.1 == 38) = some (38, .ireturn, 0, 0) := rfl
theorem te_358_39 : (pT M_358).find? (fun e => e.1 == 39) = some (39, .iconst 1, 0, 0) := rfl
theorem te_358_40 : (pT M_358).find? (fun e => e.1 == 40) = some (40, .istore_n 2, 0, 0) := rfl
theorem te_358_41 : (pT M_358).find? (fun e => e.1 == 41) = some (41, .iload_n 2, 0, 0) := rfl
theorem te_358_42 : (pT M_358).find? (fun e => e.1 == 42) = some (42, .bipush 12, 0, 0) := rfl
theorem te_358_44 : (pT M_358).find? (fun e => e.1 == 44) = some (44, .if_icmp .gt 28, 0, 0) := rfl
theorem te_358_47 : (pT M_358).find? (fun e => e.1 == 47) = some (47, .aload_n 0, 0, 0) := rfl
theorem te_358_48 : (pT M_358).find? (fun e => e.1 == 48) = some (48, .iload_n 2, 0, 0) := rfl
theorem te_358_49 : (pT M_358).find? (fun e => e.1 == 49) = some (49, .invokevirtual 232, 268, 0) := rfl
theorem te_358_52 : (pT M_358).find? (fun e => e.1 == 52) = some (52, .ifCond .eq 14, 0, 0) := rfl
theorem te_358_55 : (pT M_358).find? (fun e => e.1 == 55) = some (55, .aload_n 0, 0, 0) := rfl
theorem te_358_56 : (pT M_358).find? (fun e => e.1 == 56) = some (56, .iload_n 2, 0, 0) := rfl
theorem te_358_57 : (pT M_358).find? (fun e => e.1 == 57) = some (57, .invokevirtual 296, 302, 0) := rfl
theorem te_358_60 : (pT M_358).find? (fun e => e.1 == 60) = some (60, .iload_n 1, 0, 0) := rfl
theorem te_358_61 : (pT M_358).find? (fun e => e.1 == 61) = some (61, .if_icmp .gt 5, 0, 0) := rfl
theorem te_358_64 : (pT M_358).find? (fun e => e.1 == 64) = some (64, .iload_n 2, 0, 0) := rfl
theorem te_358_65 : (pT M_358).find? (fun e => e.1 == 65) = some (65, .ireturn, 0, 0) := rfl
theorem te_358_66 : (pT M_358).find? (fun e => e.1 == 66) = some (66, .iinc 2 1, 0, 0) := rfl
theorem te_358_69 : (pT M_358).find? (fun e => e.1 == 69) = some (69, .goto (-28), 0, 0) := rfl
theorem te_358_72 : (pT M_358).find? (fun e => e.1 == 72) = some (72, .iconst (-1), 0, 0) := rfl
theorem te_358_73 : (pT M_358).find? (fun e => e.1 == 73) = some (73, .ireturn, 0, 0) := rfl
theorem te_359_0 : (pT M_359).find? (fun e => e.1 == 0) = some (0, .aload_n 0, 0, 0) := rfl
theorem te_359_1 : (pT M_359).find? (fun e => e.1 == 1) = some (1, .aload_n 0, 0, 0) := rfl
theorem te_359_2 : (pT M_359).find? (fun e => e.1 == 2) = some (2, .iload_n 1, 0, 0) := rfl
theorem te_359_3 : (pT M_359).find? (fun e => e.1 == 3) = some (3, .invokevirtual 122, 235, 0) := rfl
theorem te_359_6 : (pT M_359).find? (fun e => e.1 == 6) = some (6, .ifCond .ne 7, 0, 0) := rfl
theorem te_359_9 : (pT M_359).find? (fun e => e.1 == 9) = some (9, .iconst 1, 0, 0) := rfl
theorem te_359_10 : (pT M_359).find? (fun e => e.1 == 10) = some (10, .goto 27, 0, 0) := rfl
theorem te_359_13 : (pT M_359).find? (fun e => e.1 == 13) = some (13, .iload_n 2, 0, 0) := rfl
theorem te_359_14 : (pT M_359).find? (fun e => e.1 == 14) = some (14, .invokestatic 202, 253, 2) := rfl
theorem te_359_17 : (pT M_359).find? (fun e => e.1 == 17) = some (17, .ifCond .ne 7, 0, 0) := rfl
theorem te_359_20 : (pT M_359).find? (fun e => e.1 == 20) = some (20, .iconst 2, 0, 0) := rfl
theorem te_359_21 : (pT M_359).find? (fun e => e.1 == 21) = some (21, .goto 16, 0, 0) := rfl
theorem te_359_24 : (pT M_359).find? (fun e => e.1 == 24) = some (24, .aload_n 0, 0, 0) := rfl
theorem te_359_25 : (pT M_359).find? (fun e => e.1 == 25) = some (25, .iload_n 2, 0, 0) := rfl
theorem te_359_26 : (pT M_359).find? (fun e => e.1 == 26) = some (26, .invokevirtual 205, 254, 0) := rfl
theorem te_359_29 : (pT M_359).find? (fun e => e.1 == 29) = some (29, .ifCond .eq 7, 0, 0) := rfl
theorem te_359_32 : (pT M_359).find? (fun e => e.1 == 32) = some (32, .iconst 3, 0, 0) := rfl
theorem te_359_33 : (pT M_359).find? (fun e => e.1 == 33) = some (33, .goto 4, 0, 0) := rfl
theorem te_359_36 : (pT M_359).find? (fun e => e.1 == 36) = some (36, .iconst 0, 0, 0) := rfl
theorem te_359_37 : (pT M_359).find? (fun e => e.1 == 37) = some (37, .putfield 101, 10, 0) := rfl
theorem te_359_40 : (pT M_359).find? (fun e => e.1 == 40) = some (40, .aload_n 0, 0, 0) := rfl
theorem te_359_41 : (pT M_359).find? (fun e => e.1 == 41) = some (41, .getfield 101, 10, 0) := rfl
theorem te_359_44 : (pT M_359).find? (fun e => e.1 == 44) = some (44, .ifCond .le 5, 0, 0) := rfl
theorem te_359_47 : (pT M_359).find? (fun e => e.1 == 47) = some (47, .iconst 0, 0, 0) := rfl
theorem te_359_48 : (pT M_359).find? (fun e => e.1 == 48) = some (48, .ireturn, 0, 0) := rfl
theorem te_359_49 : (pT M_359).find? (fun e => e.1 == 49) = some (49, .aload_n 0, 0, 0) := rfl
theorem te_359_50 : (pT M_359).find? (fun e => e.1 == 50) = some (50, .iload_n 2, 0, 0) := rfl
theorem te_359_51 : (pT M_359).find? (fun e => e.1 == 51) = some (51, .invokevirtual 173, 256, 0) := rfl
theorem te_359_54 : (pT M_359).find? (fun e => e.1 == 54) = some (54, .aload_n 0, 0, 0) := rfl
theorem te_359_55 : (pT M_359).find? (fun e => e.1 == 55) = some (55, .iload_n 2, 0, 0) := rfl
theorem te_359_56 : (pT M_359).find? (fun e => e.1 == 56) = some (56, .invokevirtual 405, 360, 0) := rfl
theorem te_359_59 : (pT M_359).find? (fun e => e.1 == 59) = some (59, .iload_n 3, 0, 0) := rfl
theorem te_359_60 : (pT M_359).find? (fun e => e.1 == 60) = some (60, .ifCond .eq 12, 0, 0) := rfl
theorem te_359_63 : (pT M_359).find? (fun e => e.1 == 63) = some (63, .aload_n 0, 0, 0) := rfl
theorem te_359_64 : (pT M_359).find? (fun e => e.1 == 64) = some (64, .getfield 98, 10, 36) := rfl
theorem te_359_67 : (pT M_359).find? (fun e => e.1 == 67) = some (67, .iload_n 1, 0, 0) := rfl
theorem te_359_68 : (pT M_359).find? (fun e => e.1 == 68) = some (68, .iaload, 0, 0) := rfl
theorem te_359_69 : (pT M_359).find? (fun e => e.1 == 69) = some (69, .goto 9, 0, 0) := rfl
theorem te_359_72 : (pT M_359).find? (fun e => e.1 == 72) = some (72, .aload_n 0, 0, 0) := rfl
theorem te_359_73 : (pT M_359).find? (fun e => e.1 == 73) = some (73, .getfield 95, 10, 35) := rfl
theorem te_359_76 : (pT M_359).find? (fun e => e.1 == 76) = some (76, .iload_n 1, 0, 0) := rfl
theorem te_359_77 : (pT M_359).find? (fun e => e.1 == 77) = some (77, .iaload, 0, 0) := rfl
theorem te_359_78 : (pT M_359).find? (fun e => e.1 == 78) = some (78, .ireturn, 0, 0) := rfl
theorem te_360_0 : (pT M_360).find? (fun e => e.1 == 0) = some (0, .iconst 0, 0, 0) := rfl
theorem te_360_1 : (pT M_360).find? (fun e => e.1 == 1) = some (1, .istore_n 2, 0, 0) := rfl
theorem te_360_2 : (pT M_360).find? (fun e => e.1 == 2) = some (2, .iconst 0, 0, 0) := rfl
theorem te_360_3 : (pT M_360).find? (fun e => e.1 == 3) = some (3, .istore_n 3, 0, 0) := rfl
theorem te_360_4 : (pT M_360).find? (fun e => e.1 == 4) = some (4, .iload_n 3, 0, 0) := rfl
theorem te_360_5 : (pT M_360).find? (fun e => e.1 == 5) = some (5, .aload_n 0, 0, 0) := rfl
theorem te_360_6 : (pT M_360).find? (fun e => e.1 == 6) = some (6, .getfield 108, 10, 1) := rfl
theorem te_360_9 : (pT M_360).find? (fun e => e.1 == 9) = some (9, .if_icmp .ge 78, 0, 0) := rfl
theorem te_360_12 : (pT M_360).find? (fun e => e.1 == 12) = some (12, .aload_n 0, 0, 0) := rfl
theorem te_360_13 : (pT M_360).find? (fun e => e.1 == 13) = some (13, .getfield 95, 10, 35) := rfl
theorem te_360_16 : (pT M_360).find? (fun e => e.1 == 16) = some (16, .iload_n 3, 0, 0) := rfl
theorem te_360_17 : (pT M_360).find? (fun e => e.1 == 17) = some (17, .iconst 0, 0, 0) := rfl
theorem te_360_18 : (pT M_360).find? (fun e => e.1 == 18) = some (18, .iastore, 0, 0) := rfl
theorem te_360_19 : (pT M_360).find? (fun e => e.1 == 19) = some (19, .iconst 0, 0, 0) := rfl
theorem te_360_20 : (pT M_360).find? (fun e => e.1 == 20) = some (20, .istore 4, 0, 0) := rfl
theorem te_360_22 : (pT M_360).find? (fun e => e.1 == 22) = some (22, .iload 4, 0, 0) := rfl
theorem te_360_24 : (pT M_360).find? (fun e => e.1 == 24) = some (24, .aload_n 0, 0, 0) := rfl
theorem te_360_25 : (pT M_360).find? (fun e => e.1 == 25) = some (25, .getfield 108, 10, 1) := rfl
theorem te_360_28 : (pT M_360).find? (fun e => e.1 == 28) = some (28, .if_icmp .ge 36, 0, 0) := rfl
theorem te_360_31 : (pT M_360).find? (fun e => e.1 == 31) = some (31, .aload_n 0, 0, 0) := rfl
theorem te_360_32 : (pT M_360).find? (fun e => e.1 == 32) = some (32, .getfield 95, 10, 35) := rfl
theorem te_360_35 : (pT M_360).find? (fun e => e.1 == 35) = some (35, .iload_n 3, 0, 0) := rfl
theorem te_360_36 : (pT M_360).find? (fun e => e.1 == 36) = some (36, .aload_n 0, 0, 0) := rfl
theorem te_360_37 : (pT M_360).find? (fun e => e.1 == 37) = some (37, .getfield 95, 10, 35) := rfl
theorem te_360_40 : (pT M_360).find? (fun e => e.1 == 40) = some (40, .iload_n 3, 0, 0) := rfl
theorem te_360_41 : (pT M_360).find? (fun e => e.1 == 41) = some (41, .iaload, 0, 0) := rfl
theorem te_360_42 : (pT M_360).find? (fun e => e.1 == 42) = some (42, .aload_n 0, 0, 0) := rfl
theorem te_360_43 : (pT M_360).find? (fun e => e.1 == 43) = some (43, .getfield 52, 10, 17) := rfl
theorem te_360_46 : (pT M_360).find? (fun e => e.1 == 46) = some (46, .bipush 8, 0, 0) := rfl
theorem te_360_48 : (pT M_360).find? (fun e => e.1 == 48) = some (48, .iload 4, 0, 0) := rfl
theorem te_360_50 : (pT M_360).find? (fun e => e.1 == 50) = some (50, .imul, 0, 0) := rfl
theorem te_360_51 : (pT M_360).find? (fun e => e.1 == 51) = some (51, .iload_n 3, 0, 0) := rfl
theorem te_360_52 : (pT M_360).find? (fun e => e.1 == 52) = some (52, .iadd, 0, 0) := rfl
theorem te_360_53 : (pT M_360).find? (fun e => e.1 == 53) = some (53, .iaload, 0, 0) := rfl
theorem te_360_54 : (pT M_360).find? (fun e => e.1 == 54) = some (54, .invokestatic 167, 257, 2) := rfl
theorem te_360_57 : (pT M_360).find? (fun e => e.1 == 57) = some (57, .iastore, 0, 0) := rfl
theorem te_360_58 : (pT M_360).find? (fun e => e.1 == 58) = some (58, .iinc 4 1, 0, 0) := rfl
theorem te_360_61 : (pT M_360).find? (fun e => e.1 == 61) = some (61, .goto (-39), 0, 0) := rfl
theorem te_360_64 : (pT M_360).find? (fun e => e.1 == 64) = some (64, .iload_n 2, 0, 0) := rfl
theorem te_360_65 : (pT M_360).find? (fun e => e.1 == 65) = some (65, .aload_n 0, 0, 0) := rfl
theorem te_360_66 : (pT M_360).find? (fun e => e.1 == 66) = some (66, .getfield 95, 10, 35) := rfl
theorem te_360_69 : (pT M_360).find? (fun e => e.1 == 69) = some (69, .iload_n 3, 0, 0) := rfl
theorem te_360_70 : (pT M_360).find? (fun e => e.1 == 70) = some (70, .iaload, 0, 0) := rfl
theorem te_360_71 : (pT M_360).find? (fun e => e.1 == 71) = some (71, .aload_n 0, 0, 0) := rfl
theorem te_360_72 : (pT M_360).find? (fun e => e.1 == 72) = some (72, .iload_n 3, 0, 0) := rfl
theorem te_360_73 : (pT M_360).find? (fun e => e.1 == 73) = some (73, .invokevirtual 148, 246, 0) := rfl
theorem te_360_76 : (pT M_360).find? (fun e => e.1 == 76) = some (76, .iadd, 0, 0) := rfl
theorem te_360_77 : (pT M_360).find? (fun e => e.1 == 77) = some (77, .invokestatic 167, 257, 2) := rfl
theorem te_360_80 : (pT M_360).find? (fun e => e.1 == 80) = some (80, .istore_n 2, 0, 0) := rfl
theorem te_360_81 : (pT M_360).find? (fun e => e.1 == 81) = some (81, .iinc 3 1, 0, 0) := rfl
theorem te_360_84 : (pT M_360).find? (fun e => e.1 == 84) = some (84, .goto (-80), 0, 0) := rfl
theorem te_360_87 : (pT M_360).find? (fun e => e.1 == 87) = some (87, .iconst 0, 0, 0) := rfl
theorem te_360_88 : (pT M_360).find? (fun e => e.1 == 88) = some (88, .istore_n 3, 0, 0) := rfl
theorem te_360_89 : (pT M_360).find? (fun e => e.1 == 89) = some (89, .iload_n 3, 0, 0) := rfl
theorem te_360_90 : (pT M_360).find? (fun e => e.1 == 90) = some (90, .aload_n 0, 0, 0) := rfl
theorem te_360_91 : (pT M_360).find? (fun e => e.1 == 91) = some (91, .getfield 108, 10, 1) := rfl
theorem te_360_94 : (pT M_360).find? (fun e => e.1 == 94) = some (94, .if_icmp .ge 94, 0, 0) := rfl
theorem te_360_97 : (pT M_360).find? (fun e => e.1 == 97) = some (97, .aload_n 0, 0, 0) := rfl
theorem te_360_98 : (pT M_360).find? (fun e => e.1 == 98) = some (98, .getfield 98, 10, 36) := rfl
theorem te_360_101 : (pT M_360).find? (fun e => e.1 == 101) = some (101, .iload_n 3, 0, 0) := rfl
theorem te_360_102 : (pT M_360).find? (fun e => e.1 == 102) = some (102, .iload_n 2, 0, 0) := rfl
theorem te_360_103 : (pT M_360).find? (fun e => e.1 == 103) = some (103, .aload_n 0, 0, 0) := rfl
theorem te_360_104 : (pT M_360).find? (fun e => e.1 == 104) = some (104, .iload_n 3, 0, 0) := rfl
theorem te_360_105 : (pT M_360).find? (fun e => e.1 == 105) = some (105, .invokevirtual 148, 246, 0) := rfl
theorem te_360_108 : (pT M_360).find? (fun e => e.1 == 108) = some (108, .isub, 0, 0) := rfl
theorem te_360_109 : (pT M_360).find? (fun e => e.1 == 109) = some (109, .iastore, 0, 0) := rfl
theorem te_360_110 : (pT M_360).find? (fun e => e.1 == 110) = some (110, .iconst 0, 0, 0) := rfl
theorem te_360_111 : (pT M_360).find? (fun e => e.1 == 111) = some (111, .istore 4, 0, 0) := rfl
theorem te_360_113 : (pT M_360).find? (fun e => e.1 == 113) = some (113, .iload 4, 0, 0) := rfl
theorem te_360_115 : (pT M_360).find? (fun e => e.1 == 115) = some (115, .aload_n 0, 0, 0) := rfl
theorem te_360_116 : (pT M_360).find? (fun e => e.1 == 116) = some (116, .getfield 108, 10, 1) := rfl
theorem te_360_119 : (pT M_360).find? (fun e => e.1 == 119) = some (119, .if_icmp .ge 63, 0, 0) := rfl
theorem te_360_122 : (pT M_360).find? (fun e => e.1 == 122) = some (122, .aload_n 0, 0, 0) := rfl
theorem te_360_123 : (pT M_360).find? (fun e => e.1 == 123) = some (123, .getfield 52, 10, 17) := rfl
theorem te_360_126 : (pT M_360).find? (fun e => e.1 == 126) = some (126, .bipush 8, 0, 0) := rfl
theorem te_360_128 : (pT M_360).find? (fun e => e.1 == 128) = some (128, .iload_n 3, 0, 0) := rfl
theorem te_360_129 : (pT M_360).find? (fun e => e.1 == 129) = some (129, .imul, 0, 0) := rfl
theorem te_360_130 : (pT M_360).find? (fun e => e.1 == 130) = some (130, .iload 4, 0, 0) := rfl
theorem te_360_132 : (pT M_360).find? (fun e => e.1 == 132) = some (132, .iadd, 0, 0) := rfl
theorem te_360_133 : (pT M_360).find? (fun e => e.1 == 133) = some (133, .iaload, 0, 0) := rfl
theorem te_360_134 : (pT M_360).find? (fun e => e.1 == 134) = some (134, .sipush (-1000), 0, 0) := rfl
theorem te_360_137 : (pT M_360).find? (fun e => e.1 == 137) = some (137, .if_icmp .le 39, 0, 0) := rfl
theorem te_360_140 : (pT M_360).find? (fun e => e.1 == 140) = some (140, .aload_n 0, 0, 0) := rfl
theorem te_360_141 : (pT M_360).find? (fun e => e.1 == 141) = some (141, .getfield 98, 10, 36) := rfl
theorem te_360_144 : (pT M_360).find? (fun e => e.1 == 144) = some (144, .iload_n 3, 0, 0) := rfl
theorem te_360_145 : (pT M_360).find? (fun e => e.1 == 145) = some (145, .aload_n 0, 0, 0) := rfl
theorem te_360_146 : (pT M_360).find? (fun e => e.1 == 146) = some (146, .getfield 98, 10, 36) := rfl
theorem te_360_149 : (pT M_360).find? (fun e => e.1 == 149) = some (149, .iload_n 3, 0, 0) := rfl
theorem te_360_150 : (pT M_360).find? (fun e => e.1 == 150) = some (150, .iaload, 0, 0) := rfl
theorem te_360_151 : (pT M_360).find? (fun e => e.1 == 151) = some (151, .iload_n 2, 0, 0) := rfl
theorem te_360_152 : (pT M_360).find? (fun e => e.1 == 152) = some (152, .aload_n 0, 0, 0) := rfl
theorem te_360_153 : (pT M_360).find? (fun e => e.1 == 153) = some (153, .iload 4, 0, 0) := rfl
theorem te_360_155 : (pT M_360).find? (fun e => e.1 == 155) = some (155, .invokevirtual 148, 246, 0) := rfl
theorem te_360_158 : (pT M_360).find? (fun e => e.1 == 158) = some (158, .isub, 0, 0) := rfl
theorem te_360_159 : (pT M_360).find? (fun e => e.1 == 159) = some (159, .aload_n 0, 0, 0) := rfl
theorem te_360_160 : (pT M_360).find? (fun e => e.1 == 160) = some (160, .getfield 52, 10, 17) := rfl
theorem te_360_163 : (pT M_360).find? (fun e => e.1 == 163) = some (163, .bipush 8, 0, 0) := rfl
theorem te_360_165 : (pT M_360).find? (fun e => e.1 == 165) = some (165, .iload_n 3, 0, 0) := rfl
theorem te_360_166 : (pT M_360).find? (fun e => e.1 == 166) = some (166, .imul, 0, 0) := rfl
theorem te_360_167 : (pT M_360).find? (fun e => e.1 == 167) = some (167, .iload 4, 0, 0) := rfl
theorem te_360_169 : (pT M_360).find? (fun e => e.1 == 169) = some (169, .iadd, 0, 0) := rfl
theorem te_360_170 : (pT M_360).find? (fun e => e.1 == 170) = some (170, .iaload, 0, 0) := rfl
theorem te_360_171 : (pT M_360).find? (fun e => e.1 == 171) = some (171, .isub, 0, 0) := rfl
theorem te_360_172 : (pT M_360).find? (fun e => e.1 == 172) = some (172, .invokestatic 170, 258, 2) := rfl
theorem te_360_175 : (pT M_360).find? (fun e => e.1 == 175) = some (175, .iastore, 0, 0) := rfl
theorem te_360_176 : (pT M_360).find? (fun e => e.1 == 176) = some (176, .iinc 4 1, 0, 0) := rfl
theorem te_360_179 : (pT M_360).find? (fun e => e.1 == 179) = some (179, .goto (-66), 0, 0) := rfl
theorem te_360_182 : (pT M_360).find? (fun e => e.1 == 182) = some (182, .iinc 3 1, 0, 0) := rfl
theorem te_360_185 : (pT M_360).find? (fun e => e.1 == 185) = some (185, .goto (-96), 0, 0) := rfl
theorem te_360_188 : (pT M_360).find? (fun e => e.1 == 188) = some (188, .return_, 0, 0) := rfl
theorem te_361_0 : (pT M_361).find? (fun e => e.1 == 0) = some (0, .aload_n 0, 0, 0) := rfl
theorem te_361_1 : (pT M_361).find? (fun e => e.1 == 1) = some (1, .iload_n 1, 0, 0) := rfl
theorem te_361_2 : (pT M_361).find? (fun e => e.1 == 2) = some (2, .iconst 0, 0, 0) := rfl
theorem te_361_3 : (pT M_361).find? (fun e => e.1 == 3) = some (3, .iconst 2, 0, 0) := rfl
theorem te_361_4 : (pT M_361).find? (fun e => e.1 == 4) = some (4, .invokestatic 104, 227, 2) := rfl
theorem te_361_7 : (pT M_361).find? (fun e => e.1 == 7) = some (7, .ifCond .ne 7, 0, 0) := rfl
theorem te_361_10 : (pT M_361).find? (fun e => e.1 == 10) = some (10, .iconst 1, 0, 0) := rfl
theorem te_361_11 : (pT M_361).find? (fun e => e.1 == 11) = some (11, .goto 38, 0, 0) := rfl
theorem te_361_14 : (pT M_361).find? (fun e => e.1 == 14) = some (14, .iload_n 3, 0, 0) := rfl
theorem te_361_15 : (pT M_361).find? (fun e => e.1 == 15) = some (15, .invokestatic 202, 253, 2) := rfl
theorem te_361_18 : (pT M_361).find? (fun e => e.1 == 18) = some (18, .ifCond .eq 14, 0, 0) := rfl
theorem te_361_21 : (pT M_361).find? (fun e => e.1 == 21) = some (21, .iload_n 2, 0, 0) := rfl
theorem te_361_22 : (pT M_361).find? (fun e => e.1 == 22) = some (22, .iconst 0, 0, 0) := rfl
theorem te_361_23 : (pT M_361).find? (fun e => e.1 == 23) = some (23, .iload_n 3, 0, 0) := rfl
theorem te_361_24 : (pT M_361).find? (fun e => e.1 == 24) = some (24, .iconst 1, 0, 0) := rfl
theorem te_361_25 : (pT M_361).find? (fun e => e.1 == 25) = some (25, .isub, 0, 0) := rfl
theorem te_361_26 : (pT M_361).find? (fun e => e.1 == 26) = some (26, .invokestatic 104, 227, 2) := rfl
theorem te_361_29 : (pT M_361).find? (fun e => e.1 == 29) = some (29, .ifCond .ne 7, 0, 0) := rfl
theorem te_361_32 : (pT M_361).find? (fun e => e.1 == 32) = some (32, .iconst 2, 0, 0) := rfl
theorem te_361_33 : (pT M_361).find? (fun e => e.1 == 33) = some (33, .goto 16, 0, 0) := rfl
theorem te_361_36 : (pT M_361).find? (fun e => e.1 == 36) = some (36, .aload_n 0, 0, 0) := rfl
theorem te_361_37 : (pT M_361).find? (fun e => e.1 == 37) = some (37, .iload_n 3, 0, 0) := rfl
theorem te_361_38 : (pT M_361).find? (fun e => e.1 == 38) = some (38, .invokevirtual 232, 268, 0) := rfl
theorem te_361_41 : (pT M_361).find? (fun e => e.1 == 41) = some (41, .ifCond .ne 7, 0, 0) := rfl
theorem te_361_44 : (pT M_361).find? (fun e => e.1 == 44) = some (44, .iconst 3, 0, 0) := rfl
theorem te_361_45 : (pT M_361).find? (fun e => e.1 == 45) = some (45, .goto 4, 0, 0) := rfl
theorem te_361_48 : (pT M_361).find? (fun e => e.1 == 48) = some (48, .iconst 0, 0, 0) := rfl
theorem te_361_49 : (pT M_361).find? (fun e => e.1 == 49) = some (49, .putfield 101, 10, 0) := rfl
theorem te_361_52 : (pT M_361).find? (fun e => e.1 == 52) = some (52, .aload_n 0, 0, 0) := rfl
theorem te_361_53 : (pT M_361).find? (fun e => e.1 == 53) = some (53, .getfield 101, 10, 0) := rfl
theorem te_361_56 : (pT M_361).find? (fun e => e.1 == 56) = some (56, .ifCond .le 5, 0, 0) := rfl
theorem te_361_59 : (pT M_361).find? (fun e => e.1 == 59) = some (59, .iconst 0, 0, 0) := rfl
theorem te_361_60 : (pT M_361).find? (fun e => e.1 == 60) = some (60, .ireturn, 0, 0) := rfl
theorem te_361_61 : (pT M_361).find? (fun e => e.1 == 61) = some (61, .iconst 0, 0, 0) := rfl
theorem te_361_62 : (pT M_361).find? (fun e => e.1 == 62) = some (62, .istore 4, 0, 0) := rfl
theorem te_361_64 : (pT M_361).find? (fun e => e.1 == 64) = some (64, .iconst 0, 0, 0) := rfl
theorem te_361_65 : (pT M_361).find? (fun e => e.1 == 65) = some (65, .istore 5, 0, 0) := rfl
theorem te_361_67 : (pT M_361).find? (fun e => e.1 == 67) = some (67, .iload 5, 0, 0) := rfl
theorem te_361_69 : (pT M_361).find? (fun e => e.1 == 69) = some (69, .aload_n 0, 0, 0) := rfl
theorem te_361_70 : (pT M_361).find? (fun e => e.1 == 70) = some (70, .getfield 108, 10, 1) := rfl
theorem te_361_73 : (pT M_361).find? (fun e => e.1 == 73) = some (73, .if_icmp .ge 74, 0, 0) := rfl
theorem te_361_76 : (pT M_361).find? (fun e => e.1 == 76) = some (76, .iconst 0, 0, 0) := rfl
theorem te_361_77 : (pT M_361).find? (fun e => e.1 == 77) = some (77, .istore 6, 0, 0) := rfl
theorem te_361_79 : (pT M_361).find? (fun e => e.1 == 79) = some (79, .iload 6, 0, 0) := rfl
theorem te_361_81 : (pT M_361).find? (fun e => e.1 == 81) = some (81, .iconst 4, 0, 0) := rfl
theorem te_361_82 : (pT M_361).find? (fun e => e.1 == 82) = some (82, .if_icmp .ge 59, 0, 0) := rfl
theorem te_361_85 : (pT M_361).find? (fun e => e.1 == 85) = some (85, .aload_n 0, 0, 0) := rfl
theorem te_361_86 : (pT M_361).find? (fun e => e.1 == 86) = some (86, .iload 5, 0, 0) := rfl
theorem te_361_88 : (pT M_361).find? (fun e => e.1 == 88) = some (88, .invokevirtual 180, 264, 0) := rfl
theorem te_361_91 : (pT M_361).find? (fun e => e.1 == 91) = some (91, .iload_n 1, 0, 0) := rfl
theorem te_361_92 : (pT M_361).find? (fun e => e.1 == 92) = some (92, .if_icmp .ne 43, 0, 0) := rfl
theorem te_361_95 : (pT M_361).find? (fun e => e.1 == 95) = some (95, .aload_n 0, 0, 0) := rfl
theorem te_361_96 : (pT M_361).find? (fun e => e.1 == 96) = some (96, .iload 5, 0, 0) := rfl
theorem te_361_98 : (pT M_361).find? (fun e => e.1 == 98) = some (98, .invokevirtual 183, 265, 0) := rfl
theorem te_361_101 : (pT M_361).find? (fun e => e.1 == 101) = some (101, .iload 6, 0, 0) := rfl
theorem te_361_103 : (pT M_361).find? (fun e => e.1 == 103) = some (103, .ishr, 0, 0) := rfl
theorem te_361_104 : (pT M_361).find? (fun e => e.1 == 104) = some (104, .iconst 1, 0, 0) := rfl
theorem te_361_105 : (pT M_361).find? (fun e => e.1 == 105) = some (105, .iand, 0, 0) := rfl
theorem te_361_106 : (pT M_361).find? (fun e => e.1 == 106) = some (106, .iconst 1, 0, 0) := rfl
theorem te_361_107 : (pT M_361).find? (fun e => e.1 == 107) = some (107, .if_icmp .ne 28, 0, 0) := rfl
theorem te_361_110 : (pT M_361).find? (fun e => e.1 == 110) = some (110, .aload_n 0, 0, 0) := rfl
theorem te_361_111 : (pT M_361).find? (fun e => e.1 == 111) = some (111, .getfield 65, 10, 21) := rfl
theorem te_361_114 : (pT M_361).find? (fun e => e.1 == 114) = some (114, .iload 5, 0, 0) := rfl
theorem te_361_116 : (pT M_361).find? (fun e => e.1 == 116) = some (116, .iaload, 0, 0) := rfl
theorem te_361_117 : (pT M_361).find? (fun e => e.1 == 117) = some (117, .iload 6, 0, 0) := rfl
theorem te_361_119 : (pT M_361).find? (fun e => e.1 == 119) = some (119, .iadd, 0, 0) := rfl
theorem te_361_120 : (pT M_361).find? (fun e => e.1 == 120) = some (120, .iload_n 3, 0, 0) := rfl
theorem te_361_121 : (pT M_361).find? (fun e => e.1 == 121) = some (121, .irem, 0, 0) := rfl
theorem te_361_122 : (pT M_361).find? (fun e => e.1 == 122) = some (122, .iload_n 2, 0, 0) := rfl
theorem te_361_123 : (pT M_361).find? (fun e => e.1 == 123) = some (123, .if_icmp .ne 12, 0, 0) := rfl
theorem te_361_126 : (pT M_361).find? (fun e => e.1 == 126) = some (126, .iload 4, 0, 0) := rfl
theorem te_361_128 : (pT M_361).find? (fun e => e.1 == 128) = some (128, .iconst 1, 0, 0) := rfl
theorem te_361_129 : (pT M_361).find? (fun e => e.1 == 129) = some (129, .iload 5, 0, 0) := rfl
theorem te_361_131 : (pT M_361).find? (fun e => e.1 == 131) = some (131, .ishl, 0, 0) := rfl
theorem te_361_132 : (pT M_361).find? (fun e => e.1 == 132) = some (132, .ior, 0, 0) := rfl
theorem te_361_133 : (pT M_361).find? (fun e => e.1 == 133) = some (133, .istore 4, 0, 0) := rfl
theorem te_361_135 : (pT M_361).find? (fun e => e.1 == 135) = some (135, .iinc 6 1, 0, 0) := rfl
theorem te_361_138 : (pT M_361).find? (fun e => e.1 == 138) = some (138, .goto (-59), 0, 0) := rfl
theorem te_361_141 : (pT M_361).find? (fun e => e.1 == 141) = some (141, .iinc 5 1, 0, 0) := rfl
theorem te_361_144 : (pT M_361).find? (fun e => e.1 == 144) = some (144, .goto (-77), 0, 0) := rfl
theorem te_361_147 : (pT M_361).find? (fun e => e.1 == 147) = some (147, .iload 4, 0, 0) := rfl
theorem te_361_149 : (pT M_361).find? (fun e => e.1 == 149) = some (149, .ireturn, 0, 0) := rfl
theorem te_362_0 : (pT M_362).find? (fun e => e.1 == 0) = some (0, .aload_n 0, 0, 0) := rfl
theorem te_362_1 : (pT M_362).find? (fun e => e.1 == 1) = some (1, .aload_n 0, 0, 0) := rfl
theorem te_362_2 : (pT M_362).find? (fun e => e.1 == 2) = some (2, .iload_n 1, 0, 0) := rfl
theorem te_362_3 : (pT M_362).find? (fun e => e.1 == 3) = some (3, .iload_n 2, 0, 0) := rfl
theorem te_362_4 : (pT M_362).find? (fun e => e.1 == 4) = some (4, .invokevirtual 314, 311, 0) := rfl
theorem te_362_7 : (pT M_362).find? (fun e => e.1 == 7) = some (7, .putfield 101, 10, 0) := rfl
theorem te_362_10 : (pT M_362).find? (fun e => e.1 == 10) = some (10, .aload_n 0, 0, 0) := rfl
theorem te_362_11 : (pT M_362).find? (fun e => e.1 == 11) = some (11, .getfield 101, 10, 0) := rfl
theorem te_362_14 : (pT M_362).find? (fun e => e.1 == 14) = some (14, .ifCond .le 5, 0, 0) := rfl
theorem te_362_17 : (pT M_362).find? (fun e => e.1 == 17) = some (17, .iconst 0, 0, 0) := rfl
theorem te_362_18 : (pT M_362).find? (fun e => e.1 == 18) = some (18, .ireturn, 0, 0) := rfl
theorem te_362_19 : (pT M_362).find? (fun e => e.1 == 19) = some (19, .iconst 0, 0, 0) := rfl
theorem te_362_20 : (pT M_362).find? (fun e => e.1 == 20) = some (20, .istore_n 3, 0, 0) := rfl
theorem te_362_21 : (pT M_362).find? (fun e => e.1 == 21) = some (21, .iconst 0, 0, 0) := rfl
theorem te_362_22 : (pT M_362).find? (fun e => e.1 == 22) = some (22, .istore 4, 0, 0) := rfl
theorem te_362_24 : (pT M_362).find? (fun e => e.1 == 24) = some (24, .iload 4, 0, 0) := rfl
theorem te_362_26 : (pT M_362).find? (fun e => e.1 == 26) = some (26, .aload_n 0, 0, 0) := rfl
theorem te_362_27 : (pT M_362).find? (fun e => e.1 == 27) = some (27, .iload_n 1, 0, 0) := rfl
theorem te_362_28 : (pT M_362).find? (fun e => e.1 == 28) = some (28, .iload_n 2, 0, 0) := rfl
theorem te_362_29 : (pT M_362).find? (fun e => e.1 == 29) = some (29, .invokevirtual 308, 313, 0) := rfl
theorem te_362_32 : (pT M_362).find? (fun e => e.1 == 32) = some (32, .if_icmp .ge 28, 0, 0) := rfl
theorem te_362_35 : (pT M_362).find? (fun e => e.1 == 35) = some (35, .iload_n 3, 0, 0) := rfl
theorem te_362_36 : (pT M_362).find? (fun e => e.1 == 36) = some (36, .aload_n 0, 0, 0) := rfl
theorem te_362_37 : (pT M_362).find? (fun e => e.1 == 37) = some (37, .iload 4, 0, 0) := rfl
theorem te_362_39 : (pT M_362).find? (fun e => e.1 == 39) = some (39, .iload_n 1, 0, 0) := rfl
theorem te_362_40 : (pT M_362).find? (fun e => e.1 == 40) = some (40, .iload_n 2, 0, 0) := rfl
theorem te_362_41 : (pT M_362).find? (fun e => e.1 == 41) = some (41, .invokevirtual 408, 363, 0) := rfl
theorem te_362_44 : (pT M_362).find? (fun e => e.1 == 44) = some (44, .ifCond .eq 7, 0, 0) := rfl
theorem te_362_47 : (pT M_362).find? (fun e => e.1 == 47) = some (47, .iconst 0, 0, 0) := rfl
theorem te_362_48 : (pT M_362).find? (fun e => e.1 == 48) = some (48, .goto 4, 0, 0) := rfl
theorem te_362_51 : (pT M_362).find? (fun e => e.1 == 51) = some (51, .iconst 1, 0, 0) := rfl
theorem te_362_52 : (pT M_362).find? (fun e => e.1 == 52) = some (52, .iadd, 0, 0) := rfl
theorem te_362_53 : (pT M_362).find? (fun e => e.1 == 53) = some (53, .istore_n 3, 0, 0) := rfl
theorem te_362_54 : (pT M_362).find? (fun e => e.1 == 54) = some (54, .iinc 4 1, 0, 0) := rfl
theorem te_362_57 : (pT M_362).find? (fun e => e.1 == 57) = some (57, .goto (-33), 0, 0) := rfl
theorem te_362_60 : (pT M_362).find? (fun e => e.1 == 60) = some (60, .iload_n 3, 0, 0) := rfl
theorem te_362_61 : (pT M_362).find? (fun e => e.1 == 61) = some (61, .ireturn, 0, 0) := rfl
theorem te_363_0 : (pT M_363).find? (fun e => e.1 == 0) = some (0, .iconst 0, 0, 0) := rfl
theorem te_363_1 : (pT M_363).find? (fun e => e.1 == 1) = some (1, .istore 4, 0, 0) := rfl
theorem te_363_3 : (pT M_363).find? (fun e => e.1 == 3) = some (3, .iload 4, 0, 0) := rfl
theorem te_363_5 : (pT M_363).find? (fun e => e.1 == 5) = some (5, .aload_n 0, 0, 0) := rfl
theorem te_363_6 : (pT M_363).find? (fun e => e.1 == 6) = some (6, .getfield 108, 10, 1) := rfl
theorem te_363_9 : (pT M_363).find? (fun e => e.1 == 9) = some (9, .if_icmp .ge 28, 0, 0) := rfl
theorem te_363_12 : (pT M_363).find? (fun e => e.1 == 12) = some (12, .iload_n 1, 0, 0) := rfl
theorem te_363_13 : (pT M_363).find? (fun e => e.1 == 13) = some (13, .aload_n 0, 0, 0) := rfl
theorem te_363_14 : (pT M_363).find? (fun e => e.1 == 14) = some (14, .getfield 65, 10, 21) := rfl
theorem te_363_17 : (pT M_363).find? (fun e => e.1 == 17) = some (17, .iload 4, 0, 0) := rfl
theorem te_363_19 : (pT M_363).find? (fun e => e.1 == 19) = some (19, .iaload, 0, 0) := rfl
theorem te_363_20 : (pT M_363).find? (fun e => e.1 == 20) = some (20, .iload_n 2, 0, 0) := rfl
theorem te_363_21 : (pT M_363).find? (fun e => e.1 == 21) = some (21, .iload_n 3, 0, 0) := rfl
theorem te_363_22 : (pT M_363).find? (fun e => e.1 == 22) = some (22, .invokestatic 333, 319, 2) := rfl
theorem te_363_25 : (pT M_363).find? (fun e => e.1 == 25) = some (25, .iconst (-1), 0, 0) := rfl
theorem te_363_26 : (pT M_363).find? (fun e => e.1 == 26) = some (26, .if_icmp .eq 5, 0, 0) := rfl
theorem te_363_29 : (pT M_363).find? (fun e => e.1 == 29) = some (29, .iconst 1, 0, 0) := rfl
theorem te_363_30 : (pT M_363).find? (fun e => e.1 == 30) = some (30, .ireturn, 0, 0) := rfl
theorem te_363_31 : (pT M_363).find? (fun e => e.1 == 31) = some (31, .iinc 4 1, 0, 0) := rfl
theorem te_363_34 : (pT M_363).find? (fun e => e.1 == 34) = some (34, .goto (-31), 0, 0) := rfl
theorem te_363_37 : (pT M_363).find? (fun e => e.1 == 37) = some (37, .iconst 0, 0, 0) := rfl
theorem te_363_38 : (pT M_363).find? (fun e => e.1 == 38) = some (38, .ireturn, 0, 0) := rfl
theorem w_225_0 {C : CXW} (hC : Cmono C) {S : Nat × (Nat → Int32)} {K : WK} {mem : MM} (H : ∀ v1 : Int, v1 = mem 143 0 → InI v1 → (InI v1 → K (some v1) mem)) : Wx C S M_225 K 0 [some (.inr 143)] [] mem := by
  refine Wx.aload_n hC te_225_0 rfl ?_
  refine Wx.getI hC te_225_1 rfl rfl rfl (fun v1 e1 e2 => ?_)
  replace H := H v1 e1 e2
  exact Wx.ireturn hC te_225_4 rfl H
theorem w_233_0 {C : CXW} (hC : Cmono C) {S : Nat × (Nat → Int32)} {K : WK} {mem : MM} (H : ∀ v1 : Int, v1 = mem 143 1 → InI v1 → ((¬ v1 = 0 → ∀ v3 : Int, v3 = (upm mem 143 0 0) 143 1 → InI v3 → (InI (v3 - 1)) ∧ ∀ v4 : Int, v4 = (upm (upm mem 143 0 0) 143 1 (v3 - 1)) 143 1 → InI v4 → (InI v4 → K (some v4) (upm (upm mem 143 0 0) 143 1 (v3 - 1)))) ∧ (¬ (¬ v1 = 0) → (InI 0 → K (some 0) (upm mem 143 0 1))))) : Wx C S M_233 K 0 [some (.inr 143)] [] mem := by
  refine Wx.aload_n hC te_233_0 rfl ?_
  refine Wx.aload_n hC te_233_1 rfl ?_
  refine Wx.getI hC te_233_2 rfl rfl rfl (fun v1 e1 e2 => ?_)
  replace H := H v1 e1 e2
  refine Wx.ifc hC (t := 12) te_233_5 (by decide) (fun q => ?_) (fun q => ?_)
  · replace H := H.1 q
    refine Wx.iconst hC te_233_12 rfl ?_
    refine Wx.putI hC te_233_13 rfl rfl rfl rfl ?_
    refine Wx.aload_n hC te_233_16 rfl ?_
    refine Wx.getI hC te_233_17 rfl rfl rfl (fun c2 e1 e2 => ?_)
    rw [upm_eq] at e1
    subst e1
    refine Wx.ifc hC (t := 25) te_233_20 (by decide) (fun q => ?_) (fun q => absurd (show (0 : Int) ≤ 0 by decide) q)
    refine Wx.aload_n hC te_233_25 rfl ?_
    refine Wx.dup hC te_233_26 ?_
    refine Wx.getI hC te_233_27 rfl rfl rfl (fun v3 e1 e2 => ?_)
    replace H := H v3 e1 e2
    refine Wx.iconst hC te_233_30 rfl ?_
    refine Wx.isub hC te_233_31 H.1 ?_
    replace H := H.2
    refine Wx.putI hC te_233_32 rfl rfl rfl rfl ?_
    refine Wx.aload_n hC te_233_35 rfl ?_
    refine Wx.getI hC te_233_36 rfl rfl rfl (fun v4 e1 e2 => ?_)
    replace H := H v4 e1 e2
    exact Wx.ireturn hC te_233_39 rfl H
  · replace H := H.2 q
    refine Wx.iconst hC te_233_8 rfl ?_
    refine Wx.goto hC (t := 13) te_233_9 (by decide) ?_
    refine Wx.putI hC te_233_13 rfl rfl rfl rfl ?_
    refine Wx.aload_n hC te_233_16 rfl ?_
    refine Wx.getI hC te_233_17 rfl rfl rfl (fun c5 e1 e2 => ?_)
    rw [upm_eq] at e1
    subst e1
    refine Wx.ifc hC (t := 25) te_233_20 (by decide) (fun q => absurd q (show ¬ ((1 : Int) ≤ 0) by decide)) (fun q => ?_)
    refine Wx.iconst hC te_233_23 rfl ?_
    exact Wx.ireturn hC te_233_24 rfl H
theorem w_234_0 {C : CXW} (hC : Cmono C) {S : Nat × (Nat → Int32)} {K : WK} {mem : MM} {x1 x2 : Int} (H : (CWI C 235 [.inr 143, .inl x1] mem fun r2 m1 => InI r2 → ((¬ r2 = 0 → (CWI C 227 [.inl x2, .inl (-9999), .inl 9999] m1 fun r4 m3 => InI r4 → ((¬ r4 = 0 → ((0 : Int) ≤ x1 ∧ (x1 : Int) < 8) ∧ ∀ v6 : Int, v6 = (upm m3 143 0 0) 149 (Int.toNat x1) → InI v6 → ((0 : Int) ≤ x1 ∧ (x1 : Int) < 8) ∧ (InI v6 → K (some v6) (upm (upm m3 143 0 0) 149 (Int.toNat x1) x2))) ∧ (¬ (¬ r4 = 0) → (InI 0 → K (some 0) (upm m3 143 0 2)))))) ∧ (¬ (¬ r2 = 0) → (InI 0 → K (some 0) (upm m1 143 0 1)))))) : Wx C S M_234 K 0 [some (.inr 143), some (.inl x1), some (.inl x2), none] [] mem := by
  refine Wx.aload_n hC te_234_0 rfl ?_
  refine Wx.aload_n hC te_234_1 rfl ?_
  refine Wx.iload_n hC te_234_2 rfl ?_
  refine Wx.virtI hC te_234_3 mt_235 (args := [.inr 143, .inl x1]) (rest := [.inr 143]) rfl rfl rfl rfl rfl rfl rfl rfl ?_
  refine CWI.mono hC (fun r2 m1 H hy => ?_) H
  replace H := H hy
  refine Wx.ifc hC (t := 13) te_234_6 (by decide) (fun q => ?_) (fun q => ?_)
  · replace H := H.1 q
    refine Wx.iload_n hC te_234_13 rfl ?_
    refine Wx.sipush hC te_234_14 rfl rfl ?_
    refine Wx.sipush hC te_234_17 rfl rfl ?_
    refine Wx.statI hC te_234_20 (by decide) mt_227 (args := [.inl x2, .inl (-9999), .inl 9999]) (rest := [.inr 143]) rfl rfl rfl rfl rfl ?_
    refine CWI.mono hC (fun r4 m3 H hy => ?_) H
    replace H := H hy
    refine Wx.ifc hC (t := 30) te_234_23 (by decide) (fun q => ?_) (fun q => ?_)
    · replace H := H.1 q
      refine Wx.iconst hC te_234_30 rfl ?_
      refine Wx.putI hC te_234_31 rfl rfl rfl rfl ?_
      refine Wx.aload_n hC te_234_34 rfl ?_
      refine Wx.getI hC te_234_35 rfl rfl rfl (fun c5 e1 e2 => ?_)
      rw [upm_eq] at e1
      subst e1
      refine Wx.ifc hC (t := 43) te_234_38 (by decide) (fun q => ?_) (fun q => absurd (show (0 : Int) ≤ 0 by decide) q)
      refine Wx.aload_n hC te_234_43 rfl ?_
      refine Wx.getR hC te_234_44 rfl rfl rfl ?_
      refine Wx.iload_n hC te_234_47 rfl ?_
      refine Wx.iald hC te_234_48 rfl H.1 (fun v6 e1 e2 => ?_)
      replace H := H.2 v6 e1 e2
      refine Wx.istore_n hC te_234_49 rfl ?_
      refine Wx.aload_n hC te_234_50 rfl ?_
      refine Wx.getR hC te_234_51 rfl rfl rfl ?_
      refine Wx.iload_n hC te_234_54 rfl ?_
      refine Wx.iload_n hC te_234_55 rfl ?_
      refine Wx.iast hC te_234_56 rfl H.1 ?_
      replace H := H.2
      refine Wx.iload_n hC te_234_57 rfl ?_
      exact Wx.ireturn hC te_234_58 rfl H
    · replace H := H.2 q
      refine Wx.iconst hC te_234_26 rfl ?_
      refine Wx.goto hC (t := 31) te_234_27 (by decide) ?_
      refine Wx.putI hC te_234_31 rfl rfl rfl rfl ?_
      refine Wx.aload_n hC te_234_34 rfl ?_
      refine Wx.getI hC te_234_35 rfl rfl rfl (fun c7 e1 e2 => ?_)
      rw [upm_eq] at e1
      subst e1
      refine Wx.ifc hC (t := 43) te_234_38 (by decide) (fun q => absurd q (show ¬ ((2 : Int) ≤ 0) by decide)) (fun q => ?_)
      refine Wx.iconst hC te_234_41 rfl ?_
      exact Wx.ireturn hC te_234_42 rfl H
  · replace H := H.2 q
    refine Wx.iconst hC te_234_9 rfl ?_
    refine Wx.goto hC (t := 31) te_234_10 (by decide) ?_
    refine Wx.putI hC te_234_31 rfl rfl rfl rfl ?_
    refine Wx.aload_n hC te_234_34 rfl ?_
    refine Wx.getI hC te_234_35 rfl rfl rfl (fun c8 e1 e2 => ?_)
    rw [upm_eq] at e1
    subst e1
    refine Wx.ifc hC (t := 43) te_234_38 (by decide) (fun q => absurd q (show ¬ ((1 : Int) ≤ 0) by decide)) (fun q => ?_)
    refine Wx.iconst hC te_234_41 rfl ?_
    exact Wx.ireturn hC te_234_42 rfl H
theorem w_236_0 {C : CXW} (hC : Cmono C) {S : Nat × (Nat → Int32)} {K : WK} {mem : MM} {x1 x2 x3 x4 : Int} (H : (CWI C 227 [.inl x1, .inl 0, .inl 5] mem fun r2 m1 => InI r2 → ((¬ r2 = 0 → (CWI C 227 [.inl x2, .inl 0, .inl 2] m1 fun r4 m3 => InI r4 → ((r4 = 0 → (InI 0 → K (some 0) (upm m3 143 0 2))) ∧ (¬ (r4 = 0) → (CWI C 227 [.inl x3, .inl 1, .inl 6] m3 fun r7 m6 => InI r7 → ((r7 = 0 → (InI 0 → K (some 0) (upm m6 143 0 2))) ∧ (¬ (r7 = 0) → (CWI C 227 [.inl x4, .inl 1, .inl 15] m6 fun r10 m9 => InI r10 → ((¬ r10 = 0 → ((0 : Int) ≤ x1 ∧ (x1 : Int) < 6) ∧ ((0 : Int) ≤ x1 ∧ (x1 : Int) < 6) ∧ ((0 : Int) ≤ x1 ∧ (x1 : Int) < 6) ∧ (InI 0 → K (some 0) (upm (upm (upm (upm m9 143 0 0) 150 (Int.toNat x1) x2) 151 (Int.toNat x1) x3) 152 (Int.toNat x1) x4))) ∧ (¬ (¬ r10 = 0) → (InI 0 → K (some 0) (upm m9 143 0 2)))))))))))) ∧ (¬ (¬ r2 = 0) → (InI 0 → K (some 0) (upm m1 143 0 1)))))) : Wx C S M_236 K 0 [some (.inr 143), some (.inl x1), some (.inl x2), some (.inl x3), some (.inl x4)] [] mem := by
  refine Wx.aload_n hC te_236_0 rfl ?_
  refine Wx.iload_n hC te_236_1 rfl ?_
  refine Wx.iconst hC te_236_2 rfl ?_
  refine Wx.iconst hC te_236_3 rfl ?_
  refine Wx.statI hC te_236_4 (by decide) mt_227 (args := [.inl x1, .inl 0, .inl 5]) (rest := [.inr 143]) rfl rfl rfl rfl rfl ?_
  refine CWI.mono hC (fun r2 m1 H hy => ?_) H
  replace H := H hy
  refine Wx.ifc hC (t := 14) te_236_7 (by decide) (fun q => ?_) (fun q => ?_)
  · replace H := H.1 q
    refine Wx.iload_n hC te_236_14 rfl ?_
    refine Wx.iconst hC te_236_15 rfl ?_
    refine Wx.iconst hC te_236_16 rfl ?_
    refine Wx.statI hC te_236_17 (by decide) mt_227 (args := [.inl x2, .inl 0, .inl 2]) (rest := [.inr 143]) rfl rfl rfl rfl rfl ?_
    refine CWI.mono hC (fun r4 m3 H hy => ?_) H
    replace H := H hy
    refine Wx.ifc hC (t := 44) te_236_20 (by decide) (fun q => ?_) (fun q => ?_)
    · replace H := H.1 q
      refine Wx.iconst hC te_236_44 rfl ?_
      refine Wx.goto hC (t := 49) te_236_45 (by decide) ?_
      refine Wx.putI hC te_236_49 rfl rfl rfl rfl ?_
      refine Wx.aload_n hC te_236_52 rfl ?_
      refine Wx.getI hC te_236_53 rfl rfl rfl (fun c5 e1 e2 => ?_)
      rw [upm_eq] at e1
      subst e1
      refine Wx.ifc hC (t := 61) te_236_56 (by decide) (fun q => absurd q (show ¬ ((2 : Int) ≤ 0) by decide)) (fun q => ?_)
      refine Wx.iconst hC te_236_59 rfl ?_
      exact Wx.ireturn hC te_236_60 rfl H
    · replace H := H.2 q
      refine Wx.iload_n hC te_236_23 rfl ?_
      refine Wx.iconst hC te_236_24 rfl ?_
      refine Wx.bipush hC te_236_25 rfl rfl ?_
      refine Wx.statI hC te_236_27 (by decide) mt_227 (args := [.inl x3, .inl 1, .inl 6]) (rest := [.inr 143]) rfl rfl rfl rfl rfl ?_
      refine CWI.mono hC (fun r7 m6 H hy => ?_) H
      replace H := H hy
      refine Wx.ifc hC (t := 44) te_236_30 (by decide) (fun q => ?_) (fun q => ?_)
      · replace H := H.1 q
        refine Wx.iconst hC te_236_44 rfl ?_
        refine Wx.goto hC (t := 49) te_236_45 (by decide) ?_
        refine Wx.putI hC te_236_49 rfl rfl rfl rfl ?_
        refine Wx.aload_n hC te_236_52 rfl ?_
        refine Wx.getI hC te_236_53 rfl rfl rfl (fun c8 e1 e2 => ?_)
        rw [upm_eq] at e1
        subst e1
        refine Wx.ifc hC (t := 61) te_236_56 (by decide) (fun q => absurd q (show ¬ ((2 : Int) ≤ 0) by decide)) (fun q => ?_)
        refine Wx.iconst hC te_236_59 rfl ?_
        exact Wx.ireturn hC te_236_60 rfl H
      · replace H := H.2 q
        refine Wx.iload hC te_236_33 rfl ?_
        refine Wx.iconst hC te_236_35 rfl ?_
        refine Wx.bipush hC te_236_36 rfl rfl ?_
        refine Wx.statI hC te_236_38 (by decide) mt_227 (args := [.inl x4, .inl 1, .inl 15]) (rest := [.inr 143]) rfl rfl rfl rfl rfl ?_
        refine CWI.mono hC (fun r10 m9 H hy => ?_) H
        replace H := H hy
        refine Wx.ifc hC (t := 48) te_236_41 (by decide) (fun q => ?_) (fun q => ?_)
        · replace H := H.1 q
          refine Wx.iconst hC te_236_48 rfl ?_
          refine Wx.putI hC te_236_49 rfl rfl rfl rfl ?_
          refine Wx.aload_n hC te_236_52 rfl ?_
          refine Wx.getI hC te_236_53 rfl rfl rfl (fun c11 e1 e2 => ?_)
          rw [upm_eq] at e1
          subst e1
          refine Wx.ifc hC (t := 61) te_236_56 (by decide) (fun q => ?_) (fun q => absurd (show (0 : Int) ≤ 0 by decide) q)
          refine Wx.aload_n hC te_236_61 rfl ?_
          refine Wx.getR hC te_236_62 rfl rfl rfl ?_
          refine Wx.iload_n hC te_236_65 rfl ?_
          refine Wx.iload_n hC te_236_66 rfl ?_
          refine Wx.iast hC te_236_67 rfl H.1 ?_
          replace H := H.2
          refine Wx.aload_n hC te_236_68 rfl ?_
          refine Wx.getR hC te_236_69 rfl rfl rfl ?_
          refine Wx.iload_n hC te_236_72 rfl ?_
          refine Wx.iload_n hC te_236_73 rfl ?_
          refine Wx.iast hC te_236_74 rfl H.1 ?_
          replace H := H.2
          refine Wx.aload_n hC te_236_75 rfl ?_
          refine Wx.getR hC te_236_76 rfl rfl rfl ?_
          refine Wx.iload_n hC te_236_79 rfl ?_
          refine Wx.iload hC te_236_80 rfl ?_
          refine Wx.iast hC te_236_82 rfl H.1 ?_
          replace H := H.2
          refine Wx.iconst hC te_236_83 rfl ?_
          exact Wx.ireturn hC te_236_84 rfl H
        · replace H := H.2 q
          refine Wx.iconst hC te_236_44 rfl ?_
          refine Wx.goto hC (t := 49) te_236_45 (by decide) ?_
          refine Wx.putI hC te_236_49 rfl rfl rfl rfl ?_
          refine Wx.aload_n hC te_236_52 rfl ?_
          refine Wx.getI hC te_236_53 rfl rfl rfl (fun c12 e1 e2 => ?_)
          rw [upm_eq] at e1
          subst e1
          refine Wx.ifc hC (t := 61) te_236_56 (by decide) (fun q => absurd q (show ¬ ((2 : Int) ≤ 0) by decide)) (fun q => ?_)
          refine Wx.iconst hC te_236_59 rfl ?_
          exact Wx.ireturn hC te_236_60 rfl H
  · replace H := H.2 q
    refine Wx.iconst hC te_236_10 rfl ?_
    refine Wx.goto hC (t := 49) te_236_11 (by decide) ?_
    refine Wx.putI hC te_236_49 rfl rfl rfl rfl ?_
    refine Wx.aload_n hC te_236_52 rfl ?_
    refine Wx.getI hC te_236_53 rfl rfl rfl (fun c13 e1 e2 => ?_)
    rw [upm_eq] at e1
    subst e1
    refine Wx.ifc hC (t := 61) te_236_56 (by decide) (fun q => absurd q (show ¬ ((1 : Int) ≤ 0) by decide)) (fun q => ?_)
    refine Wx.iconst hC te_236_59 rfl ?_
    exact Wx.ireturn hC te_236_60 rfl H
theorem w_237_0 {C : CXW} (hC : Cmono C) {S : Nat × (Nat → Int32)} {K : WK} {mem : MM} {x1 x2 : Int} (H : (CWI C 227 [.inl x1, .inl 0, .inl 2] mem fun r2 m1 => InI r2 → ((¬ r2 = 0 → (CWI C 227 [.inl x2, .inl 1, .inl 3] m1 fun r4 m3 => InI r4 → ((¬ r4 = 0 → ((0 : Int) ≤ x1 ∧ (x1 : Int) < 3) ∧ ∀ v6 : Int, v6 = (upm m3 143 0 0) 153 (Int.toNat x1) → InI v6 → ((0 : Int) ≤ x1 ∧ (x1 : Int) < 3) ∧ (InI v6 → K (some v6) (upm (upm m3 143 0 0) 153 (Int.toNat x1) x2))) ∧ (¬ (¬ r4 = 0) → (InI 0 → K (some 0) (upm m3 143 0 2)))))) ∧ (¬ (¬ r2 = 0) → (InI 0 → K (some 0) (upm m1 143 0 1)))))) : Wx C S M_237 K 0 [some (.inr 143), some (.inl x1), some (.inl x2), none] [] mem := by
  refine Wx.aload_n hC te_237_0 rfl ?_
  refine Wx.iload_n hC te_237_1 rfl ?_
  refine Wx.iconst hC te_237_2 rfl ?_
  refine Wx.iconst hC te_237_3 rfl ?_
  refine Wx.statI hC te_237_4 (by decide) mt_227 (args := [.inl x1, .inl 0, .inl 2]) (rest := [.inr 143]) rfl rfl rfl rfl rfl ?_
  refine CWI.mono hC (fun r2 m1 H hy => ?_) H
  replace H := H hy
  refine Wx.ifc hC (t := 14) te_237_7 (by decide) (fun q => ?_) (fun q => ?_)
  · replace H := H.1 q
    refine Wx.iload_n hC te_237_14 rfl ?_
    refine Wx.iconst hC te_237_15 rfl ?_
    refine Wx.iconst hC te_237_16 rfl ?_
    refine Wx.statI hC te_237_17 (by decide) mt_227 (args := [.inl x2, .inl 1, .inl 3]) (rest := [.inr 143]) rfl rfl rfl rfl rfl ?_
    refine CWI.mono hC (fun r4 m3 H hy => ?_) H
    replace H := H hy
    refine Wx.ifc hC (t := 27) te_237_20 (by decide) (fun q => ?_) (fun q => ?_)
    · replace H := H.1 q
      refine Wx.iconst hC te_237_27 rfl ?_
      refine Wx.putI hC te_237_28 rfl rfl rfl rfl ?_
      refine Wx.aload_n hC te_237_31 rfl ?_
      refine Wx.getI hC te_237_32 rfl rfl rfl (fun c5 e1 e2 => ?_)
      rw [upm_eq] at e1
      subst e1
      refine Wx.ifc hC (t := 40) te_237_35 (by decide) (fun q => ?_) (fun q => absurd (show (0 : Int) ≤ 0 by decide) q)
      refine Wx.aload_n hC te_237_40 rfl ?_
      refine Wx.getR hC te_237_41 rfl rfl rfl ?_
      refine Wx.iload_n hC te_237_44 rfl ?_
      refine Wx.iald hC te_237_45 rfl H.1 (fun v6 e1 e2 => ?_)
      replace H := H.2 v6 e1 e2
      refine Wx.istore_n hC te_237_46 rfl ?_
      refine Wx.aload_n hC te_237_47 rfl ?_
      refine Wx.getR hC te_237_48 rfl rfl rfl ?_
      refine Wx.iload_n hC te_237_51 rfl ?_
      refine Wx.iload_n hC te_237_52 rfl ?_
      refine Wx.iast hC te_237_53 rfl H.1 ?_
      replace H := H.2
      refine Wx.iload_n hC te_237_54 rfl ?_
      exact Wx.ireturn hC te_237_55 rfl H
    · replace H := H.2 q
      refine Wx.iconst hC te_237_23 rfl ?_
      refine Wx.goto hC (t := 28) te_237_24 (by decide) ?_
      refine Wx.putI hC te_237_28 rfl rfl rfl rfl ?_
      refine Wx.aload_n hC te_237_31 rfl ?_
      refine Wx.getI hC te_237_32 rfl rfl rfl (fun c7 e1 e2 => ?_)
      rw [upm_eq] at e1
      subst e1
      refine Wx.ifc hC (t := 40) te_237_35 (by decide) (fun q => absurd q (show ¬ ((2 : Int) ≤ 0) by decide)) (fun q => ?_)
      refine Wx.iconst hC te_237_38 rfl ?_
      exact Wx.ireturn hC te_237_39 rfl H
  · replace H := H.2 q
    refine Wx.iconst hC te_237_10 rfl ?_
    refine Wx.goto hC (t := 28) te_237_11 (by decide) ?_
    refine Wx.putI hC te_237_28 rfl rfl rfl rfl ?_
    refine Wx.aload_n hC te_237_31 rfl ?_
    refine Wx.getI hC te_237_32 rfl rfl rfl (fun c8 e1 e2 => ?_)
    rw [upm_eq] at e1
    subst e1
    refine Wx.ifc hC (t := 40) te_237_35 (by decide) (fun q => absurd q (show ¬ ((1 : Int) ≤ 0) by decide)) (fun q => ?_)
    refine Wx.iconst hC te_237_38 rfl ?_
    exact Wx.ireturn hC te_237_39 rfl H
theorem w_238_0 {C : CXW} (hC : Cmono C) {S : Nat × (Nat → Int32)} {K : WK} {mem : MM} {x1 x2 : Int} (H : (CWI C 235 [.inr 143, .inl x1] mem fun r2 m1 => InI r2 → ((¬ r2 = 0 → (CWI C 227 [.inl x2, .inl 0, .inl 5] m1 fun r4 m3 => InI r4 → ((¬ r4 = 0 → ((x2 < 0 ∨ 4 < x2 → ((0 : Int) ≤ x1 ∧ (x1 : Int) < 8) ∧ ∀ v6 : Int, v6 = (upm m3 143 0 0) 149 (Int.toNat x1) → InI v6 → (InI v6 → K (some v6) (upm m3 143 0 0))) ∧ (x2 = 0 → ((0 : Int) ≤ x1 ∧ (x1 : Int) < 8) ∧ ∀ v7 : Int, v7 = (upm m3 143 0 0) 144 (Int.toNat x1) → InI v7 → (InI v7 → K (some v7) (upm m3 143 0 0))) ∧ (x2 = 1 → ((0 : Int) ≤ x1 ∧ (x1 : Int) < 8) ∧ ∀ v8 : Int, v8 = (upm m3 143 0 0) 145 (Int.toNat x1) → InI v8 → (InI v8 → K (some v8) (upm m3 143 0 0))) ∧ (x2 = 2 → ((0 : Int) ≤ x1 ∧ (x1 : Int) < 8) ∧ ∀ v9 : Int, v9 = (upm m3 143 0 0) 146 (Int.toNat x1) → InI v9 → (InI v9 → K (some v9) (upm m3 143 0 0))) ∧ (x2 = 3 → ((0 : Int) ≤ x1 ∧ (x1 : Int) < 8) ∧ ∀ v10 : Int, v10 = (upm m3 143 0 0) 147 (Int.toNat x1) → InI v10 → (InI v10 → K (some v10) (upm m3 143 0 0))) ∧ (x2 = 4 → ((0 : Int) ≤ x1 ∧ (x1 : Int) < 8) ∧ ∀ v11 : Int, v11 = (upm m3 143 0 0) 148 (Int.toNat x1) → InI v11 → (InI v11 → K (some v11) (upm m3 143 0 0))))) ∧ (¬ (¬ r4 = 0) → (InI 0 → K (some 0) (upm m3 143 0 2)))))) ∧ (¬ (¬ r2 = 0) → (InI 0 → K (some 0) (upm m1 143 0 1)))))) : Wx C S M_238 K 0 [some (.inr 143), some (.inl x1), some (.inl x2)] [] mem := by
  refine Wx.aload_n hC te_238_0 rfl ?_
  refine Wx.aload_n hC te_238_1 rfl ?_
  refine Wx.iload_n hC te_238_2 rfl ?_
  refine Wx.virtI hC te_238_3 mt_235 (args := [.inr 143, .inl x1]) (rest := [.inr 143]) rfl rfl rfl rfl rfl rfl rfl rfl ?_
  refine CWI.mono hC (fun r2 m1 H hy => ?_) H
  replace H := H hy
  refine Wx.ifc hC (t := 13) te_238_6 (by decide) (fun q => ?_) (fun q => ?_)
  · replace H := H.1 q
    refine Wx.iload_n hC te_238_13 rfl ?_
    refine Wx.iconst hC te_238_14 rfl ?_
    refine Wx.iconst hC te_238_15 rfl ?_
    refine Wx.statI hC te_238_16 (by decide) mt_227 (args := [.inl x2, .inl 0, .inl 5]) (rest := [.inr 143]) rfl rfl rfl rfl rfl ?_
    refine CWI.mono hC (fun r4 m3 H hy => ?_) H
    replace H := H hy
    refine Wx.ifc hC (t := 26) te_238_19 (by decide) (fun q => ?_) (fun q => ?_)
    · replace H := H.1 q
      refine Wx.iconst hC te_238_26 rfl ?_
      refine Wx.putI hC te_238_27 rfl rfl rfl rfl ?_
      refine Wx.aload_n hC te_238_30 rfl ?_
      refine Wx.getI hC te_238_31 rfl rfl rfl (fun c5 e1 e2 => ?_)
      rw [upm_eq] at e1
      subst e1
      refine Wx.ifc hC (t := 39) te_238_34 (by decide) (fun q => ?_) (fun q => absurd (show (0 : Int) ≤ 0 by decide) q)
      refine Wx.iload_n hC te_238_39 rfl ?_
      refine Wx.tsw hC (t := 111) (ts := [76, 83, 90, 97, 104]) te_238_40 rfl (by decide) rfl (fun q => ?_) (fun i t e q => ?_)
      · replace H := H.1 q
        refine Wx.aload_n hC te_238_111 rfl ?_
        refine Wx.getR hC te_238_112 rfl rfl rfl ?_
        refine Wx.iload_n hC te_238_115 rfl ?_
        refine Wx.iald hC te_238_116 rfl H.1 (fun v6 e1 e2 => ?_)
        replace H := H.2 v6 e1 e2
        exact Wx.ireturn hC te_238_117 rfl H
      · have hi : i = 0 ∨ i = 1 ∨ i = 2 ∨ i = 3 ∨ i = 4 := by
          have := (List.getElem?_eq_some_iff.mp e).1
          simp only [List.length_cons, List.length_nil] at this
          omega
        rcases hi with hi | hi | hi | hi | hi
        · subst hi
          cases (show some 76 = some t from e)
          replace H := H.2.1 (by omega)
          refine Wx.aload_n hC te_238_76 rfl ?_
          refine Wx.getR hC te_238_77 rfl rfl rfl ?_
          refine Wx.iload_n hC te_238_80 rfl ?_
          refine Wx.iald hC te_238_81 rfl H.1 (fun v7 e1 e2 => ?_)
          replace H := H.2 v7 e1 e2
          exact Wx.ireturn hC te_238_82 rfl H
        · subst hi
          cases (show some 83 = some t from e)
          replace H := H.2.2.1 (by omega)
          refine Wx.aload_n hC te_238_83 rfl ?_
          refine Wx.getR hC te_238_84 rfl rfl rfl ?_
          refine Wx.iload_n hC te_238_87 rfl ?_
          refine Wx.iald hC te_238_88 rfl H.1 (fun v8 e1 e2 => ?_)
          replace H := H.2 v8 e1 e2
          exact Wx.ireturn hC te_238_89 rfl H
        · subst hi
          cases (show some 90 = some t from e)
          replace H := H.2.2.2.1 (by omega)
          refine Wx.aload_n hC te_238_90 rfl ?_
          refine Wx.getR hC te_238_91 rfl rfl rfl ?_
          refine Wx.iload_n hC te_238_94 rfl ?_
          refine Wx.iald hC te_238_95 rfl H.1 (fun v9 e1 e2 => ?_)
          replace H := H.2 v9 e1 e2
          exact Wx.ireturn hC te_238_96 rfl H
        · subst hi
          cases (show some 97 = some t from e)
          replace H := H.2.2.2.2.1 (by omega)
          refine Wx.aload_n hC te_238_97 rfl ?_
          refine Wx.getR hC te_238_98 rfl rfl rfl ?_
          refine Wx.iload_n hC te_238_101 rfl ?_
          refine Wx.iald hC te_238_102 rfl H.1 (fun v10 e1 e2 => ?_)
          replace H := H.2 v10 e1 e2
          exact Wx.ireturn hC te_238_103 rfl H
        · subst hi
          cases (show some 104 = some t from e)
          replace H := H.2.2.2.2.2 (by omega)
          refine Wx.aload_n hC te_238_104 rfl ?_
          refine Wx.getR hC te_238_105 rfl rfl rfl ?_
          refine Wx.iload_n hC te_238_108 rfl ?_
          refine Wx.iald hC te_238_109 rfl H.1 (fun v11 e1 e2 => ?_)
          replace H := H.2 v11 e1 e2
          exact Wx.ireturn hC te_238_110 rfl H
    · replace H := H.2 q
      refine Wx.iconst hC te_238_22 rfl ?_
      refine Wx.goto hC (t := 27) te_238_23 (by decide) ?_
      refine Wx.putI hC te_238_27 rfl rfl rfl rfl ?_
      refine Wx.aload_n hC te_238_30 rfl ?_
      refine Wx.getI hC te_238_31 rfl rfl rfl (fun c12 e1 e2 => ?_)
      rw [upm_eq] at e1
      subst e1
      refine Wx.ifc hC (t := 39) te_238_34 (by decide) (fun q => absurd q (show ¬ ((2 : Int) ≤ 0) by decide)) (fun q => ?_)
      refine Wx.iconst hC te_238_37 rfl ?_
      exact Wx.ireturn hC te_238_38 rfl H
  · replace H := H.2 q
    refine Wx.iconst hC te_238_9 rfl ?_
    refine Wx.goto hC (t := 27) te_238_10 (by decide) ?_
    refine Wx.putI hC te_238_27 rfl rfl rfl rfl ?_
    refine Wx.aload_n hC te_238_30 rfl ?_
    refine Wx.getI hC te_238_31 rfl rfl rfl (fun c13 e1 e2 => ?_)
    rw [upm_eq] at e1
    subst e1
    refine Wx.ifc hC (t := 39) te_238_34 (by decide) (fun q => absurd q (show ¬ ((1 : Int) ≤ 0) by decide)) (fun q => ?_)
    refine Wx.iconst hC te_238_37 rfl ?_
    exact Wx.ireturn hC te_238_38 rfl H
theorem w_239_0 {C : CXW} (hC : Cmono C) {S : Nat × (Nat → Int32)} {K : WK} {mem : MM} (H : (CWI C 240 [.inr 143] (upm mem 143 0 0) fun r2 m1 => InI r2 → ((r2 = 0 ∨ r2 = 1) ∧ K (some r2) m1))) : Wx C S M_239 K 0 [some (.inr 143)] [] mem := by
  refine Wx.aload_n hC te_239_0 rfl ?_
  refine Wx.iconst hC te_239_1 rfl ?_
  refine Wx.putI hC te_239_2 rfl rfl rfl rfl ?_
  refine Wx.aload_n hC te_239_5 rfl ?_
  refine Wx.virtI hC te_239_6 mt_240 (args := [.inr 143]) (rest := []) rfl rfl rfl rfl rfl rfl rfl rfl ?_
  refine CWI.mono hC (fun r2 m1 H hy => ?_) H
  replace H := H hy
  exact Wx.bret hC te_239_9 rfl H.1 H.2
theorem w_252_0 {C : CXW} (hC : Cmono C) {S : Nat × (Nat → Int32)} {K : WK} {mem : MM} {x1 x2 x3 : Int} (H : (CWI C 235 [.inr 143, .inl x1] mem fun r2 m1 => InI r2 → ((r2 = 0 → (InI 0 → K (some 0) (upm m1 143 0 1))) ∧ (¬ (r2 = 0) → (CWI C 235 [.inr 143, .inl x2] m1 fun r5 m4 => InI r5 → ((¬ r5 = 0 → (CWI C 253 [.inl x3] m4 fun r7 m6 => InI r7 → ((¬ r7 = 0 → (CWI C 254 [.inr 143, .inl x3] m6 fun r9 m8 => InI r9 → ((r9 = 0 → (CWV C 256 [.inr 143, .inl x3] (upm m8 143 0 0) fun m11 => (InI (8 * x1)) ∧ (InI ((8 * x1) + x2)) ∧ ((0 : Int) ≤ ((8 * x1) + x2) ∧ (((8 * x1) + x2) : Int) < 64) ∧ ∀ v12 : Int, v12 = m11 158 (Int.toNat ((8 * x1) + x2)) → InI v12 → (InI v12 → K (some v12) m11))) ∧ (¬ (r9 = 0) → (InI 0 → K (some 0) (upm m8 143 0 3)))))) ∧ (¬ (¬ r7 = 0) → (InI 0 → K (some 0) (upm m6 143 0 2)))))) ∧ (¬ (¬ r5 = 0) → (InI 0 → K (some 0) (upm m4 143 0 1))))))))) : Wx C S M_252 K 0 [some (.inr 143), some (.inl x1), some (.inl x2), some (.inl x3)] [] mem := by
  refine Wx.aload_n hC te_252_0 rfl ?_
  refine Wx.aload_n hC te_252_1 rfl ?_
  refine Wx.iload_n hC te_252_2 rfl ?_
  refine Wx.virtI hC te_252_3 mt_235 (args := [.inr 143, .inl x1]) (rest := [.inr 143]) rfl rfl rfl rfl rfl rfl rfl rfl ?_
  refine CWI.mono hC (fun r2 m1 H hy => ?_) H
  replace H := H hy
  refine Wx.ifc hC (t := 17) te_252_6 (by decide) (fun q => ?_) (fun q => ?_)
  · replace H := H.1 q
    refine Wx.iconst hC te_252_17 rfl ?_
    refine Wx.goto hC (t := 45) te_252_18 (by decide) ?_
    refine Wx.putI hC te_252_45 rfl rfl rfl rfl ?_
    refine Wx.aload_n hC te_252_48 rfl ?_
    refine Wx.getI hC te_252_49 rfl rfl rfl (fun c3 e1 e2 => ?_)
    rw [upm_eq] at e1
    subst e1
    refine Wx.ifc hC (t := 57) te_252_52 (by decide) (fun q => absurd q (show ¬ ((1 : Int) ≤ 0) by decide)) (fun q => ?_)
    refine Wx.iconst hC te_252_55 rfl ?_
    exact Wx.ireturn hC te_252_56 rfl H
  · replace H := H.2 q
    refine Wx.aload_n hC te_252_9 rfl ?_
    refine Wx.iload_n hC te_252_10 rfl ?_
    refine Wx.virtI hC te_252_11 mt_235 (args := [.inr 143, .inl x2]) (rest := [.inr 143]) rfl rfl rfl rfl rfl rfl rfl rfl ?_
    refine CWI.mono hC (fun r5 m4 H hy => ?_) H
    replace H := H hy
    refine Wx.ifc hC (t := 21) te_252_14 (by decide) (fun q => ?_) (fun q => ?_)
    · replace H := H.1 q
      refine Wx.iload_n hC te_252_21 rfl ?_
      refine Wx.statI hC te_252_22 (by decide) mt_253 (args := [.inl x3]) (rest := [.inr 143]) rfl rfl rfl rfl rfl ?_
      refine CWI.mono hC (fun r7 m6 H hy => ?_) H
      replace H := H hy
      refine Wx.ifc hC (t := 32) te_252_25 (by decide) (fun q => ?_) (fun q => ?_)
      · replace H := H.1 q
        refine Wx.aload_n hC te_252_32 rfl ?_
        refine Wx.iload_n hC te_252_33 rfl ?_
        refine Wx.virtI hC te_252_34 mt_254 (args := [.inr 143, .inl x3]) (rest := [.inr 143]) rfl rfl rfl rfl rfl rfl rfl rfl ?_
        refine CWI.mono hC (fun r9 m8 H hy => ?_) H
        replace H := H hy
        refine Wx.ifc hC (t := 44) te_252_37 (by decide) (fun q => ?_) (fun q => ?_)
        · replace H := H.1 q
          refine Wx.iconst hC te_252_44 rfl ?_
          refine Wx.putI hC te_252_45 rfl rfl rfl rfl ?_
          refine Wx.aload_n hC te_252_48 rfl ?_
          refine Wx.getI hC te_252_49 rfl rfl rfl (fun c10 e1 e2 => ?_)
          rw [upm_eq] at e1
          subst e1
          refine Wx.ifc hC (t := 57) te_252_52 (by decide) (fun q => ?_) (fun q => absurd (show (0 : Int) ≤ 0 by decide) q)
          refine Wx.aload_n hC te_252_57 rfl ?_
          refine Wx.iload_n hC te_252_58 rfl ?_
          refine Wx.virtV hC te_252_59 mt_256 (args := [.inr 143, .inl x3]) (rest := []) rfl rfl rfl rfl rfl rfl rfl rfl ?_
          refine CWV.mono hC (fun m11 H => ?_) H
          refine Wx.aload_n hC te_252_62 rfl ?_
          refine Wx.getR hC te_252_63 rfl rfl rfl ?_
          refine Wx.bipush hC te_252_66 rfl rfl ?_
          refine Wx.iload_n hC te_252_68 rfl ?_
          refine Wx.imul hC te_252_69 H.1 ?_
          replace H := H.2
          refine Wx.iload_n hC te_252_70 rfl ?_
          refine Wx.iadd hC te_252_71 H.1 ?_
          replace H := H.2
          refine Wx.iald hC te_252_72 rfl H.1 (fun v12 e1 e2 => ?_)
          replace H := H.2 v12 e1 e2
          exact Wx.ireturn hC te_252_73 rfl H
        · replace H := H.2 q
          refine Wx.iconst hC te_252_40 rfl ?_
          refine Wx.goto hC (t := 45) te_252_41 (by decide) ?_
          refine Wx.putI hC te_252_45 rfl rfl rfl rfl ?_
          refine Wx.aload_n hC te_252_48 rfl ?_
          refine Wx.getI hC te_252_49 rfl rfl rfl (fun c13 e1 e2 => ?_)
          rw [upm_eq] at e1
          subst e1
          refine Wx.ifc hC (t := 57) te_252_52 (by decide) (fun q => absurd q (show ¬ ((3 : Int) ≤ 0) by decide)) (fun q => ?_)
          refine Wx.iconst hC te_252_55 rfl ?_
          exact Wx.ireturn hC te_252_56 rfl H
      · replace H := H.2 q
        refine Wx.iconst hC te_252_28 rfl ?_
        refine Wx.goto hC (t := 45) te_252_29 (by decide) ?_
        refine Wx.putI hC te_252_45 rfl rfl rfl rfl ?_
        refine Wx.aload_n hC te_252_48 rfl ?_
        refine Wx.getI hC te_252_49 rfl rfl rfl (fun c14 e1 e2 => ?_)
        rw [upm_eq] at e1
        subst e1
        refine Wx.ifc hC (t := 57) te_252_52 (by decide) (fun q => absurd q (show ¬ ((2 : Int) ≤ 0) by decide)) (fun q => ?_)
        refine Wx.iconst hC te_252_55 rfl ?_
        exact Wx.ireturn hC te_252_56 rfl H
    · replace H := H.2 q
      refine Wx.iconst hC te_252_17 rfl ?_
      refine Wx.goto hC (t := 45) te_252_18 (by decide) ?_
      refine Wx.putI hC te_252_45 rfl rfl rfl rfl ?_
      refine Wx.aload_n hC te_252_48 rfl ?_
      refine Wx.getI hC te_252_49 rfl rfl rfl (fun c15 e1 e2 => ?_)
      rw [upm_eq] at e1
      subst e1
      refine Wx.ifc hC (t := 57) te_252_52 (by decide) (fun q => absurd q (show ¬ ((1 : Int) ≤ 0) by decide)) (fun q => ?_)
      refine Wx.iconst hC te_252_55 rfl ?_
      exact Wx.ireturn hC te_252_56 rfl H
theorem w_260_0 {C : CXW} (hC : Cmono C) {S : Nat × (Nat → Int32)} {K : WK} {mem : MM} {x1 x2 : Int} (H : (CWI C 235 [.inr 143, .inl x1] mem fun r2 m1 => InI r2 → ((¬ r2 = 0 → (CWI C 253 [.inl x2] m1 fun r4 m3 => InI r4 → ((¬ r4 = 0 → (CWI C 254 [.inr 143, .inl x2] m3 fun r6 m5 => InI r6 → ((r6 = 0 → (CWV C 256 [.inr 143, .inl x2] (upm m5 143 0 0) fun m8 => (CWI C 261 [.inr 143, .inl x1] m8 fun r10 m9 => InI r10 → (InI r10 → K (some r10) m9)))) ∧ (¬ (r6 = 0) → (InI 0 → K (some 0) (upm m5 143 0 3)))))) ∧ (¬ (¬ r4 = 0) → (InI 0 → K (some 0) (upm m3 143 0 2)))))) ∧ (¬ (¬ r2 = 0) → (InI 0 → K (some 0) (upm m1 143 0 1)))))) : Wx C S M_260 K 0 [some (.inr 143), some (.inl x1), some (.inl x2)] [] mem := by
  refine Wx.aload_n hC te_260_0 rfl ?_
  refine Wx.aload_n hC te_260_1 rfl ?_
  refine Wx.iload_n hC te_260_2 rfl ?_
  refine Wx.virtI hC te_260_3 mt_235 (args := [.inr 143, .inl x1]) (rest := [.inr 143]) rfl rfl rfl rfl rfl rfl rfl rfl ?_
  refine CWI.mono hC (fun r2 m1 H hy => ?_) H
  replace H := H hy
  refine Wx.ifc hC (t := 13) te_260_6 (by decide) (fun q => ?_) (fun q => ?_)
  · replace H := H.1 q
    refine Wx.iload_n hC te_260_13 rfl ?_
    refine Wx.statI hC te_260_14 (by decide) mt_253 (args := [.inl x2]) (rest := [.inr 143]) rfl rfl rfl rfl rfl ?_
    refine CWI.mono hC (fun r4 m3 H hy => ?_) H
    replace H := H hy
    refine Wx.ifc hC (t := 24) te_260_17 (by decide) (fun q => ?_) (fun q => ?_)
    · replace H := H.1 q
      refine Wx.aload_n hC te_260_24 rfl ?_
      refine Wx.iload_n hC te_260_25 rfl ?_
      refine Wx.virtI hC te_260_26 mt_254 (args := [.inr 143, .inl x2]) (rest := [.inr 143]) rfl rfl rfl rfl rfl rfl rfl rfl ?_
      refine CWI.mono hC (fun r6 m5 H hy => ?_) H
      replace H := H hy
      refine Wx.ifc hC (t := 36) te_260_29 (by decide) (fun q => ?_) (fun q => ?_)
      · replace H := H.1 q
        refine Wx.iconst hC te_260_36 rfl ?_
        refine Wx.putI hC te_260_37 rfl rfl rfl rfl ?_
        refine Wx.aload_n hC te_260_40 rfl ?_
        refine Wx.getI hC te_260_41 rfl rfl rfl (fun c7 e1 e2 => ?_)
        rw [upm_eq] at e1
        subst e1
        refine Wx.ifc hC (t := 49) te_260_44 (by decide) (fun q => ?_) (fun q => absurd (show (0 : Int) ≤ 0 by decide) q)
        refine Wx.aload_n hC te_260_49 rfl ?_
        refine Wx.iload_n hC te_260_50 rfl ?_
        refine Wx.virtV hC te_260_51 mt_256 (args := [.inr 143, .inl x2]) (rest := []) rfl rfl rfl rfl rfl rfl rfl rfl ?_
        refine CWV.mono hC (fun m8 H => ?_) H
        refine Wx.aload_n hC te_260_54 rfl ?_
        refine Wx.iload_n hC te_260_55 rfl ?_
        refine Wx.virtI hC te_260_56 mt_261 (args := [.inr 143, .inl x1]) (rest := []) rfl rfl rfl rfl rfl rfl rfl rfl ?_
        refine CWI.mono hC (fun r10 m9 H hy => ?_) H
        replace H := H hy
        exact Wx.ireturn hC te_260_59 rfl H
      · replace H := H.2 q
        refine Wx.iconst hC te_260_32 rfl ?_
        refine Wx.goto hC (t := 37) te_260_33 (by decide) ?_
        refine Wx.putI hC te_260_37 rfl rfl rfl rfl ?_
        refine Wx.aload_n hC te_260_40 rfl ?_
        refine Wx.getI hC te_260_41 rfl rfl rfl (fun c11 e1 e2 => ?_)
        rw [upm_eq] at e1
        subst e1
        refine Wx.ifc hC (t := 49) te_260_44 (by decide) (fun q => absurd q (show ¬ ((3 : Int) ≤ 0) by decide)) (fun q => ?_)
        refine Wx.iconst hC te_260_47 rfl ?_
        exact Wx.ireturn hC te_260_48 rfl H
    · replace H := H.2 q
      refine Wx.iconst hC te_260_20 rfl ?_
      refine Wx.goto hC (t := 37) te_260_21 (by decide) ?_
      refine Wx.putI hC te_260_37 rfl rfl rfl rfl ?_
      refine Wx.aload_n hC te_260_40 rfl ?_
      refine Wx.getI hC te_260_41 rfl rfl rfl (fun c12 e1 e2 => ?_)
      rw [upm_eq] at e1
      subst e1
      refine Wx.ifc hC (t := 49) te_260_44 (by decide) (fun q => absurd q (show ¬ ((2 : Int) ≤ 0) by decide)) (fun q => ?_)
      refine Wx.iconst hC te_260_47 rfl ?_
      exact Wx.ireturn hC te_260_48 rfl H
  · replace H := H.2 q
    refine Wx.iconst hC te_260_9 rfl ?_
    refine Wx.goto hC (t := 37) te_260_10 (by decide) ?_
    refine Wx.putI hC te_260_37 rfl rfl rfl rfl ?_
    refine Wx.aload_n hC te_260_40 rfl ?_
    refine Wx.getI hC te_260_41 rfl rfl rfl (fun c13 e1 e2 => ?_)
    rw [upm_eq] at e1
    subst e1
    refine Wx.ifc hC (t := 49) te_260_44 (by decide) (fun q => absurd q (show ¬ ((1 : Int) ≤ 0) by decide)) (fun q => ?_)
    refine Wx.iconst hC te_260_47 rfl ?_
    exact Wx.ireturn hC te_260_48 rfl H
theorem w_261_0 {C : CXW} (hC : Cmono C) {S : Nat × (Nat → Int32)} {K : WK} {mem : MM} {x1 : Int} (H : (Wx C S M_261 K 4 [some (.inr 143), some (.inl x1), some (.inl 0), some (.inl 0)] [] mem)) : Wx C S M_261 K 0 [some (.inr 143), some (.inl x1), none, none] [] mem := by
  refine Wx.iconst hC te_261_0 rfl ?_
  refine Wx.istore_n hC te_261_1 rfl ?_
  refine Wx.iconst hC te_261_2 rfl ?_
  refine Wx.istore_n hC te_261_3 rfl ?_
  exact H
theorem w_261_4 {C : CXW} (hC : Cmono C) {S : Nat × (Nat → Int32)} {K : WK} {mem : MM} {x1 x2 x3 : Int} (H : ∀ v1 : Int, v1 = mem 143 1 → InI v1 → ((v1 ≤ x3 → (InI x2 → K (some x2) mem)) ∧ (¬ (v1 ≤ x3) → (InI (8 * x1)) ∧ (InI ((8 * x1) + x3)) ∧ ((0 : Int) ≤ ((8 * x1) + x3) ∧ (((8 * x1) + x3) : Int) < 64) ∧ ∀ v2 : Int, v2 = mem 158 (Int.toNat ((8 * x1) + x3)) → InI v2 → (CWI C 257 [.inl x2, .inl v2] mem fun r4 m3 => InI r4 → (InI (x3 + 1)) ∧ (Wx C S M_261 K 4 [some (.inr 143), some (.inl x1), some (.inl r4), some (.inl (x3 + 1))] [] m3))))) : Wx C S M_261 K 4 [some (.inr 143), some (.inl x1), some (.inl x2), some (.inl x3)] [] mem := by
  refine Wx.iload_n hC te_261_4 rfl ?_
  refine Wx.aload_n hC te_261_5 rfl ?_
  refine Wx.getI hC te_261_6 rfl rfl rfl (fun v1 e1 e2 => ?_)
  replace H := H v1 e1 e2
  refine Wx.icmp hC (t := 34) te_261_9 (by decide) (fun q => ?_) (fun q => ?_)
  · replace H := H.1 q
    refine Wx.iload_n hC te_261_34 rfl ?_
    exact Wx.ireturn hC te_261_35 rfl H
  · replace H := H.2 q
    refine Wx.iload_n hC te_261_12 rfl ?_
    refine Wx.aload_n hC te_261_13 rfl ?_
    refine Wx.getR hC te_261_14 rfl rfl rfl ?_
    refine Wx.bipush hC te_261_17 rfl rfl ?_
    refine Wx.iload_n hC te_261_19 rfl ?_
    refine Wx.imul hC te_261_20 H.1 ?_
    replace H := H.2
    refine Wx.iload_n hC te_261_21 rfl ?_
    refine Wx.iadd hC te_261_22 H.1 ?_
    replace H := H.2
    refine Wx.iald hC te_261_23 rfl H.1 (fun v2 e1 e2 => ?_)
    replace H := H.2 v2 e1 e2
    refine Wx.statI hC te_261_24 (by decide) mt_257 (args := [.inl x2, .inl v2]) (rest := []) rfl rfl rfl rfl rfl ?_
    refine CWI.mono hC (fun r4 m3 H hy => ?_) H
    replace H := H hy
    refine Wx.istore_n hC te_261_27 rfl ?_
    refine Wx.iinc hC te_261_28 rfl rfl H.1 ?_
    replace H := H.2
    refine Wx.goto hC (t := 4) te_261_31 (by decide) ?_
    exact H
theorem w_262_0 {C : CXW} (hC : Cmono C) {S : Nat × (Nat → Int32)} {K : WK} {mem : MM} {x1 : Int} (H : (CWI C 227 [.inl x1, .inl 0, .inl 2] mem fun r2 m1 => InI r2 → ((r2 = 0 → (InI 0 → K (some 0) (upm m1 143 0 1))) ∧ (¬ (r2 = 0) → (CWI C 263 [.inr 143, .inl x1] (upm m1 143 0 0) fun r6 m5 => InI r6 → (InI r6 → K (some r6) m5)))))) : Wx C S M_262 K 0 [some (.inr 143), some (.inl x1)] [] mem := by
  refine Wx.aload_n hC te_262_0 rfl ?_
  refine Wx.iload_n hC te_262_1 rfl ?_
  refine Wx.iconst hC te_262_2 rfl ?_
  refine Wx.iconst hC te_262_3 rfl ?_
  refine Wx.statI hC te_262_4 (by decide) mt_227 (args := [.inl x1, .inl 0, .inl 2]) (rest := [.inr 143]) rfl rfl rfl rfl rfl ?_
  refine CWI.mono hC (fun r2 m1 H hy => ?_) H
  replace H := H hy
  refine Wx.ifc hC (t := 14) te_262_7 (by decide) (fun q => ?_) (fun q => ?_)
  · replace H := H.1 q
    refine Wx.iconst hC te_262_14 rfl ?_
    refine Wx.putI hC te_262_15 rfl rfl rfl rfl ?_
    refine Wx.aload_n hC te_262_18 rfl ?_
    refine Wx.getI hC te_262_19 rfl rfl rfl (fun c3 e1 e2 => ?_)
    rw [upm_eq] at e1
    subst e1
    refine Wx.ifc hC (t := 29) te_262_22 (by decide) (fun q => absurd q (show ¬ ((1 : Int) ≤ 0) by decide)) (fun q => ?_)
    refine Wx.iconst hC te_262_25 rfl ?_
    refine Wx.goto hC (t := 34) te_262_26 (by decide) ?_
    exact Wx.ireturn hC te_262_34 rfl H
  · replace H := H.2 q
    refine Wx.iconst hC te_262_10 rfl ?_
    refine Wx.goto hC (t := 15) te_262_11 (by decide) ?_
    refine Wx.putI hC te_262_15 rfl rfl rfl rfl ?_
    refine Wx.aload_n hC te_262_18 rfl ?_
    refine Wx.getI hC te_262_19 rfl rfl rfl (fun c4 e1 e2 => ?_)
    rw [upm_eq] at e1
    subst e1
    refine Wx.ifc hC (t := 29) te_262_22 (by decide) (fun q => ?_) (fun q => absurd (show (0 : Int) ≤ 0 by decide) q)
    refine Wx.aload_n hC te_262_29 rfl ?_
    refine Wx.iload_n hC te_262_30 rfl ?_
    refine Wx.virtI hC te_262_31 mt_263 (args := [.inr 143, .inl x1]) (rest := []) rfl rfl rfl rfl rfl rfl rfl rfl ?_
    refine CWI.mono hC (fun r6 m5 H hy => ?_) H
    replace H := H hy
    exact Wx.ireturn hC te_262_34 rfl H
theorem w_267_0 {C : CXW} (hC : Cmono C) {S : Nat × (Nat → Int32)} {K : WK} {mem : MM} {x1 : Int} (H : (CWI C 253 [.inl x1] mem fun r2 m1 => InI r2 → ((¬ r2 = 0 → (CWI C 240 [.inr 143] m1 fun r4 m3 => InI r4 → ((¬ r4 = 0 → (CWI C 268 [.inr 143, .inl x1] (upm m3 143 0 0) fun r7 m6 => InI r7 → ((r7 = 0 → (K (some 0) m6)) ∧ (¬ (r7 = 0) → (K (some 1) m6))))) ∧ (¬ (¬ r4 = 0) → (K (some 0) (upm m3 143 0 2)))))) ∧ (¬ (¬ r2 = 0) → (K (some 0) (upm m1 143 0 1)))))) : Wx C S M_267 K 0 [some (.inr 143), some (.inl x1)] [] mem := by
  refine Wx.aload_n hC te_267_0 rfl ?_
  refine Wx.iload_n hC te_267_1 rfl ?_
  refine Wx.statI hC te_267_2 (by decide) mt_253 (args := [.inl x1]) (rest := [.inr 143]) rfl rfl rfl rfl rfl ?_
  refine CWI.mono hC (fun r2 m1 H hy => ?_) H
  replace H := H hy
  refine Wx.ifc hC (t := 12) te_267_5 (by decide) (fun q => ?_) (fun q => ?_)
  · replace H := H.1 q
    refine Wx.aload_n hC te_267_12 rfl ?_
    refine Wx.virtI hC te_267_13 mt_240 (args := [.inr 143]) (rest := [.inr 143]) rfl rfl rfl rfl rfl rfl rfl rfl ?_
    refine CWI.mono hC (fun r4 m3 H hy => ?_) H
    replace H := H hy
    refine Wx.ifc hC (t := 23) te_267_16 (by decide) (fun q => ?_) (fun q => ?_)
    · replace H := H.1 q
      refine Wx.iconst hC te_267_23 rfl ?_
      refine Wx.putI hC te_267_24 rfl rfl rfl rfl ?_
      refine Wx.aload_n hC te_267_27 rfl ?_
      refine Wx.getI hC te_267_28 rfl rfl rfl (fun c5 e1 e2 => ?_)
      rw [upm_eq] at e1
      subst e1
      refine Wx.ifc hC (t := 46) te_267_31 (by decide) (fun q => absurd q (show ¬ (¬ (0 : Int) = 0) by decide)) (fun q => ?_)
      refine Wx.aload_n hC te_267_34 rfl ?_
      refine Wx.iload_n hC te_267_35 rfl ?_
      refine Wx.virtI hC te_267_36 mt_268 (args := [.inr 143, .inl x1]) (rest := []) rfl rfl rfl rfl rfl rfl rfl rfl ?_
      refine CWI.mono hC (fun r7 m6 H hy => ?_) H
      replace H := H hy
      refine Wx.ifc hC (t := 46) te_267_39 (by decide) (fun q => ?_) (fun q => ?_)
      · replace H := H.1 q
        refine Wx.iconst hC te_267_46 rfl ?_
        exact Wx.bret hC te_267_47 rfl (Or.inl rfl) H
      · replace H := H.2 q
        refine Wx.iconst hC te_267_42 rfl ?_
        refine Wx.goto hC (t := 47) te_267_43 (by decide) ?_
        exact Wx.bret hC te_267_47 rfl (Or.inr rfl) H
    · replace H := H.2 q
      refine Wx.iconst hC te_267_19 rfl ?_
      refine Wx.goto hC (t := 24) te_267_20 (by decide) ?_
      refine Wx.putI hC te_267_24 rfl rfl rfl rfl ?_
      refine Wx.aload_n hC te_267_27 rfl ?_
      refine Wx.getI hC te_267_28 rfl rfl rfl (fun c8 e1 e2 => ?_)
      rw [upm_eq] at e1
      subst e1
      refine Wx.ifc hC (t := 46) te_267_31 (by decide) (fun q => ?_) (fun q => absurd (show ¬ (2 : Int) = 0 by decide) q)
      refine Wx.iconst hC te_267_46 rfl ?_
      exact Wx.bret hC te_267_47 rfl (Or.inl rfl) H
  · replace H := H.2 q
    refine Wx.iconst hC te_267_8 rfl ?_
    refine Wx.goto hC (t := 24) te_267_9 (by decide) ?_
    refine Wx.putI hC te_267_24 rfl rfl rfl rfl ?_
    refine Wx.aload_n hC te_267_27 rfl ?_
    refine Wx.getI hC te_267_28 rfl rfl rfl (fun c9 e1 e2 => ?_)
    rw [upm_eq] at e1
    subst e1
    refine Wx.ifc hC (t := 46) te_267_31 (by decide) (fun q => ?_) (fun q => absurd (show ¬ (1 : Int) = 0 by decide) q)
    refine Wx.iconst hC te_267_46 rfl ?_
    exact Wx.bret hC te_267_47 rfl (Or.inl rfl) H
theorem w_277_0 {C : CXW} (hC : Cmono C) {S : Nat × (Nat → Int32)} {K : WK} {mem : MM} (H : (CWI C 240 [.inr 143] mem fun r2 m1 => InI r2 → ((r2 = 0 → (InI 0 → K (some 0) (upm m1 143 0 1))) ∧ (¬ (r2 = 0) → (Wx C S M_277 K 27 [some (.inr 143), some (.inl 1)] [] (upm m1 143 0 0)))))) : Wx C S M_277 K 0 [some (.inr 143), none] [] mem := by
  refine Wx.aload_n hC te_277_0 rfl ?_
  refine Wx.aload_n hC te_277_1 rfl ?_
  refine Wx.virtI hC te_277_2 mt_240 (args := [.inr 143]) (rest := [.inr 143]) rfl rfl rfl rfl rfl rfl rfl rfl ?_
  refine CWI.mono hC (fun r2 m1 H hy => ?_) H
  replace H := H hy
  refine Wx.ifc hC (t := 12) te_277_5 (by decide) (fun q => ?_) (fun q => ?_)
  · replace H := H.1 q
    refine Wx.iconst hC te_277_12 rfl ?_
    refine Wx.putI hC te_277_13 rfl rfl rfl rfl ?_
    refine Wx.aload_n hC te_277_16 rfl ?_
    refine Wx.getI hC te_277_17 rfl rfl rfl (fun c3 e1 e2 => ?_)
    rw [upm_eq] at e1
    subst e1
    refine Wx.ifc hC (t := 25) te_277_20 (by decide) (fun q => absurd q (show ¬ ((1 : Int) ≤ 0) by decide)) (fun q => ?_)
    refine Wx.iconst hC te_277_23 rfl ?_
    exact Wx.ireturn hC te_277_24 rfl H
  · replace H := H.2 q
    refine Wx.iconst hC te_277_8 rfl ?_
    refine Wx.goto hC (t := 13) te_277_9 (by decide) ?_
    refine Wx.putI hC te_277_13 rfl rfl rfl rfl ?_
    refine Wx.aload_n hC te_277_16 rfl ?_
    refine Wx.getI hC te_277_17 rfl rfl rfl (fun c4 e1 e2 => ?_)
    rw [upm_eq] at e1
    subst e1
    refine Wx.ifc hC (t := 25) te_277_20 (by decide) (fun q => ?_) (fun q => absurd (show (0 : Int) ≤ 0 by decide) q)
    refine Wx.iconst hC te_277_25 rfl ?_
    refine Wx.istore_n hC te_277_26 rfl ?_
    exact H
theorem w_277_27 {C : CXW} (hC : Cmono C) {S : Nat × (Nat → Int32)} {K : WK} {mem : MM} {x1 : Int} (H : ((12 < x1 → (InI (-1) → K (some (-1)) mem)) ∧ (¬ (12 < x1) → (CWI C 268 [.inr 143, .inl x1] mem fun r2 m1 => InI r2 → ((r2 = 0 → (InI (x1 + 1)) ∧ (Wx C S M_277 K 27 [some (.inr 143), some (.inl (x1 + 1))] [] m1)) ∧ (¬ (r2 = 0) → (InI x1 → K (some x1) m1))))))) : Wx C S M_277 K 27 [some (.inr 143), some (.inl x1)] [] mem := by
  refine Wx.iload_n hC te_277_27 rfl ?_
  refine Wx.bipush hC te_277_28 rfl rfl ?_
  refine Wx.icmp hC (t := 49) te_277_30 (by decide) (fun q => ?_) (fun q => ?_)
  · replace H := H.1 q
    refine Wx.iconst hC te_277_49 rfl ?_
    exact Wx.ireturn hC te_277_50 rfl H
  · replace H := H.2 q
    refine Wx.aload_n hC te_277_33 rfl ?_
    refine Wx.iload_n hC te_277_34 rfl ?_
    refine Wx.virtI hC te_277_35 mt_268 (args := [.inr 143, .inl x1]) (rest := []) rfl rfl rfl rfl rfl rfl rfl rfl ?_
    refine CWI.mono hC (fun r2 m1 H hy => ?_) H
    replace H := H hy
    refine Wx.ifc hC (t := 43) te_277_38 (by decide) (fun q => ?_) (fun q => ?_)
    · replace H := H.1 q
      refine Wx.iinc hC te_277_43 rfl rfl H.1 ?_
      replace H := H.2
      refine Wx.goto hC (t := 27) te_277_46 (by decide) ?_
      exact H
    · replace H := H.2 q
      refine Wx.iload_n hC te_277_41 rfl ?_
      exact Wx.ireturn hC te_277_42 rfl H
theorem w_278_0 {C : CXW} (hC : Cmono C) {S : Nat × (Nat → Int32)} {K : WK} {mem : MM} {x1 x2 : Int} (H : (CWI C 235 [.inr 143, .inl x1] mem fun r2 m1 => InI r2 → ((¬ r2 = 0 → (CWI C 253 [.inl x2] m1 fun r4 m3 => InI r4 → ((¬ r4 = 0 → (CWI C 268 [.inr 143, .inl x2] m3 fun r6 m5 => InI r6 → ((¬ r6 = 0 → ((0 : Int) ≤ x1 ∧ (x1 : Int) < 8) ∧ ∀ v8 : Int, v8 = (upm m5 143 0 0) 161 (Int.toNat x1) → InI v8 → (InI v8 → K (some v8) (upm m5 143 0 0))) ∧ (¬ (¬ r6 = 0) → (InI 0 → K (some 0) (upm m5 143 0 3)))))) ∧ (¬ (¬ r4 = 0) → (InI 0 → K (some 0) (upm m3 143 0 2)))))) ∧ (¬ (¬ r2 = 0) → (InI 0 → K (some 0) (upm m1 143 0 1)))))) : Wx C S M_278 K 0 [some (.inr 143), some (.inl x1), some (.inl x2)] [] mem := by
  refine Wx.aload_n hC te_278_0 rfl ?_
  refine Wx.aload_n hC te_278_1 rfl ?_
  refine Wx.iload_n hC te_278_2 rfl ?_
  refine Wx.virtI hC te_278_3 mt_235 (args := [.inr 143, .inl x1]) (rest := [.inr 143]) rfl rfl rfl rfl rfl rfl rfl rfl ?_
  refine CWI.mono hC (fun r2 m1 H hy => ?_) H
  replace H := H hy
  refine Wx.ifc hC (t := 13) te_278_6 (by decide) (fun q => ?_) (fun q => ?_)
  · replace H := H.1 q
    refine Wx.iload_n hC te_278_13 rfl ?_
    refine Wx.statI hC te_278_14 (by decide) mt_253 (args := [.inl x2]) (rest := [.inr 143]) rfl rfl rfl rfl rfl ?_
    refine CWI.mono hC (fun r4 m3 H hy => ?_) H
    replace H := H hy
    refine Wx.ifc hC (t := 24) te_278_17 (by decide) (fun q => ?_) (fun q => ?_)
    · replace H := H.1 q
      refine Wx.aload_n hC te_278_24 rfl ?_
      refine Wx.iload_n hC te_278_25 rfl ?_
      refine Wx.virtI hC te_278_26 mt_268 (args := [.inr 143, .inl x2]) (rest := [.inr 143]) rfl rfl rfl rfl rfl rfl rfl rfl ?_
      refine CWI.mono hC (fun r6 m5 H hy => ?_) H
      replace H := H hy
      refine Wx.ifc hC (t := 36) te_278_29 (by decide) (fun q => ?_) (fun q => ?_)
      · replace H := H.1 q
        refine Wx.iconst hC te_278_36 rfl ?_
        refine Wx.putI hC te_278_37 rfl rfl rfl rfl ?_
        refine Wx.aload_n hC te_278_40 rfl ?_
        refine Wx.getI hC te_278_41 rfl rfl rfl (fun c7 e1 e2 => ?_)
        rw [upm_eq] at e1
        subst e1
        refine Wx.ifc hC (t := 51) te_278_44 (by decide) (fun q => ?_) (fun q => absurd (show (0 : Int) ≤ 0 by decide) q)
        refine Wx.aload_n hC te_278_51 rfl ?_
        refine Wx.getR hC te_278_52 rfl rfl rfl ?_
        refine Wx.iload_n hC te_278_55 rfl ?_
        refine Wx.iald hC te_278_56 rfl H.1 (fun v8 e1 e2 => ?_)
        replace H := H.2 v8 e1 e2
        exact Wx.ireturn hC te_278_57 rfl H
      · replace H := H.2 q
        refine Wx.iconst hC te_278_32 rfl ?_
        refine Wx.goto hC (t := 37) te_278_33 (by decide) ?_
        refine Wx.putI hC te_278_37 rfl rfl rfl rfl ?_
        refine Wx.aload_n hC te_278_40 rfl ?_
        refine Wx.getI hC te_278_41 rfl rfl rfl (fun c9 e1 e2 => ?_)
        rw [upm_eq] at e1
        subst e1
        refine Wx.ifc hC (t := 51) te_278_44 (by decide) (fun q => absurd q (show ¬ ((3 : Int) ≤ 0) by decide)) (fun q => ?_)
        refine Wx.iconst hC te_278_47 rfl ?_
        refine Wx.goto hC (t := 57) te_278_48 (by decide) ?_
        exact Wx.ireturn hC te_278_57 rfl H
    · replace H := H.2 q
      refine Wx.iconst hC te_278_20 rfl ?_
      refine Wx.goto hC (t := 37) te_278_21 (by decide) ?_
      refine Wx.putI hC te_278_37 rfl rfl rfl rfl ?_
      refine Wx.aload_n hC te_278_40 rfl ?_
      refine Wx.getI hC te_278_41 rfl rfl rfl (fun c10 e1 e2 => ?_)
      rw [upm_eq] at e1
      subst e1
      refine Wx.ifc hC (t := 51) te_278_44 (by decide) (fun q => absurd q (show ¬ ((2 : Int) ≤ 0) by decide)) (fun q => ?_)
      refine Wx.iconst hC te_278_47 rfl ?_
      refine Wx.goto hC (t := 57) te_278_48 (by decide) ?_
      exact Wx.ireturn hC te_278_57 rfl H
  · replace H := H.2 q
    refine Wx.iconst hC te_278_9 rfl ?_
    refine Wx.goto hC (t := 37) te_278_10 (by decide) ?_
    refine Wx.putI hC te_278_37 rfl rfl rfl rfl ?_
    refine Wx.aload_n hC te_278_40 rfl ?_
    refine Wx.getI hC te_278_41 rfl rfl rfl (fun c11 e1 e2 => ?_)
    rw [upm_eq] at e1
    subst e1
    refine Wx.ifc hC (t := 51) te_278_44 (by decide) (fun q => absurd q (show ¬ ((1 : Int) ≤ 0) by decide)) (fun q => ?_)
    refine Wx.iconst hC te_278_47 rfl ?_
    refine Wx.goto hC (t := 57) te_278_48 (by decide) ?_
    exact Wx.ireturn hC te_278_57 rfl H
theorem w_279_0 {C : CXW} (hC : Cmono C) {S : Nat × (Nat → Int32)} {K : WK} {mem : MM} {x1 x2 x3 : Int} (H : (CWI C 227 [.inl x1, .inl 0, .inl 2] mem fun r2 m1 => InI r2 → ((¬ r2 = 0 → (CWI C 253 [.inl x3] m1 fun r4 m3 => InI r4 → ((r4 = 0 → (InI 0 → K (some 0) (upm m3 143 0 2))) ∧ (¬ (r4 = 0) → (InI (x3 - 1)) ∧ (CWI C 227 [.inl x2, .inl 0, .inl (x3 - 1)] m3 fun r7 m6 => InI r7 → ((¬ r7 = 0 → (CWI C 268 [.inr 143, .inl x3] m6 fun r9 m8 => InI r9 → ((¬ r9 = 0 → (InI (12 * x1)) ∧ (InI ((12 * x1) + x2)) ∧ ((0 : Int) ≤ ((12 * x1) + x2) ∧ (((12 * x1) + x2) : Int) < 36) ∧ ∀ v11 : Int, v11 = (upm m8 143 0 0) 159 (Int.toNat ((12 * x1) + x2)) → InI v11 → (InI v11 → K (some v11) (upm m8 143 0 0))) ∧ (¬ (¬ r9 = 0) → (InI 0 → K (some 0) (upm m8 143 0 3)))))) ∧ (¬ (¬ r7 = 0) → (InI 0 → K (some 0) (upm m6 143 0 2))))))))) ∧ (¬ (¬ r2 = 0) → (InI 0 → K (some 0) (upm m1 143 0 1)))))) : Wx C S M_279 K 0 [some (.inr 143), some (.inl x1), some (.inl x2), some (.inl x3)] [] mem := by
  refine Wx.aload_n hC te_279_0 rfl ?_
  refine Wx.iload_n hC te_279_1 rfl ?_
  refine Wx.iconst hC te_279_2 rfl ?_
  refine Wx.iconst hC te_279_3 rfl ?_
  refine Wx.statI hC te_279_4 (by decide) mt_227 (args := [.inl x1, .inl 0, .inl 2]) (rest := [.inr 143]) rfl rfl rfl rfl rfl ?_
  refine CWI.mono hC (fun r2 m1 H hy => ?_) H
  replace H := H hy
  refine Wx.ifc hC (t := 14) te_279_7 (by decide) (fun q => ?_) (fun q => ?_)
  · replace H := H.1 q
    refine Wx.iload_n hC te_279_14 rfl ?_
    refine Wx.statI hC te_279_15 (by decide) mt_253 (args := [.inl x3]) (rest := [.inr 143]) rfl rfl rfl rfl rfl ?_
    refine CWI.mono hC (fun r4 m3 H hy => ?_) H
    replace H := H hy
    refine Wx.ifc hC (t := 32) te_279_18 (by decide) (fun q => ?_) (fun q => ?_)
    · replace H := H.1 q
      refine Wx.iconst hC te_279_32 rfl ?_
      refine Wx.goto hC (t := 49) te_279_33 (by decide) ?_
      refine Wx.putI hC te_279_49 rfl rfl rfl rfl ?_
      refine Wx.aload_n hC te_279_52 rfl ?_
      refine Wx.getI hC te_279_53 rfl rfl rfl (fun c5 e1 e2 => ?_)
      rw [upm_eq] at e1
      subst e1
      refine Wx.ifc hC (t := 63) te_279_56 (by decide) (fun q => absurd q (show ¬ ((2 : Int) ≤ 0) by decide)) (fun q => ?_)
      refine Wx.iconst hC te_279_59 rfl ?_
      refine Wx.goto hC (t := 74) te_279_60 (by decide) ?_
      exact Wx.ireturn hC te_279_74 rfl H
    · replace H := H.2 q
      refine Wx.iload_n hC te_279_21 rfl ?_
      refine Wx.iconst hC te_279_22 rfl ?_
      refine Wx.iload_n hC te_279_23 rfl ?_
      refine Wx.iconst hC te_279_24 rfl ?_
      refine Wx.isub hC te_279_25 H.1 ?_
      replace H := H.2
      refine Wx.statI hC te_279_26 (by decide) mt_227 (args := [.inl x2, .inl 0, .inl (x3 - 1)]) (rest := [.inr 143]) rfl rfl rfl rfl rfl ?_
      refine CWI.mono hC (fun r7 m6 H hy => ?_) H
      replace H := H hy
      refine Wx.ifc hC (t := 36) te_279_29 (by decide) (fun q => ?_) (fun q => ?_)
      · replace H := H.1 q
        refine Wx.aload_n hC te_279_36 rfl ?_
        refine Wx.iload_n hC te_279_37 rfl ?_
        refine Wx.virtI hC te_279_38 mt_268 (args := [.inr 143, .inl x3]) (rest := [.inr 143]) rfl rfl rfl rfl rfl rfl rfl rfl ?_
        refine CWI.mono hC (fun r9 m8 H hy => ?_) H
        replace H := H hy
        refine Wx.ifc hC (t := 48) te_279_41 (by decide) (fun q => ?_) (fun q => ?_)
        · replace H := H.1 q
          refine Wx.iconst hC te_279_48 rfl ?_
          refine Wx.putI hC te_279_49 rfl rfl rfl rfl ?_
          refine Wx.aload_n hC te_279_52 rfl ?_
          refine Wx.getI hC te_279_53 rfl rfl rfl (fun c10 e1 e2 => ?_)
          rw [upm_eq] at e1
          subst e1
          refine Wx.ifc hC (t := 63) te_279_56 (by decide) (fun q => ?_) (fun q => absurd (show (0 : Int) ≤ 0 by decide) q)
          refine Wx.aload_n hC te_279_63 rfl ?_
          refine Wx.getR hC te_279_64 rfl rfl rfl ?_
          refine Wx.bipush hC te_279_67 rfl rfl ?_
          refine Wx.iload_n hC te_279_69 rfl ?_
          refine Wx.imul hC te_279_70 H.1 ?_
          replace H := H.2
          refine Wx.iload_n hC te_279_71 rfl ?_
          refine Wx.iadd hC te_279_72 H.1 ?_
          replace H := H.2
          refine Wx.iald hC te_279_73 rfl H.1 (fun v11 e1 e2 => ?_)
          replace H := H.2 v11 e1 e2
          exact Wx.ireturn hC te_279_74 rfl H
        · replace H := H.2 q
          refine Wx.iconst hC te_279_44 rfl ?_
          refine Wx.goto hC (t := 49) te_279_45 (by decide) ?_
          refine Wx.putI hC te_279_49 rfl rfl rfl rfl ?_
          refine Wx.aload_n hC te_279_52 rfl ?_
          refine Wx.getI hC te_279_53 rfl rfl rfl (fun c12 e1 e2 => ?_)
          rw [upm_eq] at e1
          subst e1
          refine Wx.ifc hC (t := 63) te_279_56 (by decide) (fun q => absurd q (show ¬ ((3 : Int) ≤ 0) by decide)) (fun q => ?_)
          refine Wx.iconst hC te_279_59 rfl ?_
          refine Wx.goto hC (t := 74) te_279_60 (by decide) ?_
          exact Wx.ireturn hC te_279_74 rfl H
      · replace H := H.2 q
        refine Wx.iconst hC te_279_32 rfl ?_
        refine Wx.goto hC (t := 49) te_279_33 (by decide) ?_
        refine Wx.putI hC te_279_49 rfl rfl rfl rfl ?_
        refine Wx.aload_n hC te_279_52 rfl ?_
        refine Wx.getI hC te_279_53 rfl rfl rfl (fun c13 e1 e2 => ?_)
        rw [upm_eq] at e1
        subst e1
        refine Wx.ifc hC (t := 63) te_279_56 (by decide) (fun q => absurd q (show ¬ ((2 : Int) ≤ 0) by decide)) (fun q => ?_)
        refine Wx.iconst hC te_279_59 rfl ?_
        refine Wx.goto hC (t := 74) te_279_60 (by decide) ?_
        exact Wx.ireturn hC te_279_74 rfl H
  · replace H := H.2 q
    refine Wx.iconst hC te_279_10 rfl ?_
    refine Wx.goto hC (t := 49) te_279_11 (by decide) ?_
    refine Wx.putI hC te_279_49 rfl rfl rfl rfl ?_
    refine Wx.aload_n hC te_279_52 rfl ?_
    refine Wx.getI hC te_279_53 rfl rfl rfl (fun c14 e1 e2 => ?_)
    rw [upm_eq] at e1
    subst e1
    refine Wx.ifc hC (t := 63) te_279_56 (by decide) (fun q => absurd q (show ¬ ((1 : Int) ≤ 0) by decide)) (fun q => ?_)
    refine Wx.iconst hC te_279_59 rfl ?_
    refine Wx.goto hC (t := 74) te_279_60 (by decide) ?_
    exact Wx.ireturn hC te_279_74 rfl H
theorem w_307_0 {C : CXW} (hC : Cmono C) {S : Nat × (Nat → Int32)} {K : WK} {mem : MM} {x1 x2 : Int} (H : (CWI C 253 [.inl x2] mem fun r2 m1 => InI r2 → ((r2 = 0 → (InI 0 → K (some 0) (upm m1 143 0 1))) ∧ (¬ (r2 = 0) → (InI (x2 - 1)) ∧ (CWI C 227 [.inl x1, .inl 0, .inl (x2 - 1)] m1 fun r5 m4 => InI r5 → ((¬ r5 = 0 → (CWI C 268 [.inr 143, .inl x2] m4 fun r7 m6 => InI r7 → ((¬ r7 = 0 → (CWI C 304 [.inr 143, .inl x1, .inl x2] (upm m6 143 0 0) fun r10 m9 => InI r10 → (InI r10 → K (some r10) m9))) ∧ (¬ (¬ r7 = 0) → (InI 0 → K (some 0) (upm m6 143 0 2)))))) ∧ (¬ (¬ r5 = 0) → (InI 0 → K (some 0) (upm m4 143 0 1))))))))) : Wx C S M_307 K 0 [some (.inr 143), some (.inl x1), some (.inl x2)] [] mem := by
  refine Wx.aload_n hC te_307_0 rfl ?_
  refine Wx.iload_n hC te_307_1 rfl ?_
  refine Wx.statI hC te_307_2 (by decide) mt_253 (args := [.inl x2]) (rest := [.inr 143]) rfl rfl rfl rfl rfl ?_
  refine CWI.mono hC (fun r2 m1 H hy => ?_) H
  replace H := H hy
  refine Wx.ifc hC (t := 19) te_307_5 (by decide) (fun q => ?_) (fun q => ?_)
  · replace H := H.1 q
    refine Wx.iconst hC te_307_19 rfl ?_
    refine Wx.goto hC (t := 36) te_307_20 (by decide) ?_
    refine Wx.putI hC te_307_36 rfl rfl rfl rfl ?_
    refine Wx.aload_n hC te_307_39 rfl ?_
    refine Wx.getI hC te_307_40 rfl rfl rfl (fun c3 e1 e2 => ?_)
    rw [upm_eq] at e1
    subst e1
    refine Wx.ifc hC (t := 50) te_307_43 (by decide) (fun q => absurd q (show ¬ ((1 : Int) ≤ 0) by decide)) (fun q => ?_)
    refine Wx.iconst hC te_307_46 rfl ?_
    refine Wx.goto hC (t := 56) te_307_47 (by decide) ?_
    exact Wx.ireturn hC te_307_56 rfl H
  · replace H := H.2 q
    refine Wx.iload_n hC te_307_8 rfl ?_
    refine Wx.iconst hC te_307_9 rfl ?_
    refine Wx.iload_n hC te_307_10 rfl ?_
    refine Wx.iconst hC te_307_11 rfl ?_
    refine Wx.isub hC te_307_12 H.1 ?_
    replace H := H.2
    refine Wx.statI hC te_307_13 (by decide) mt_227 (args := [.inl x1, .inl 0, .inl (x2 - 1)]) (rest := [.inr 143]) rfl rfl rfl rfl rfl ?_
    refine CWI.mono hC (fun r5 m4 H hy => ?_) H
    replace H := H hy
    refine Wx.ifc hC (t := 23) te_307_16 (by decide) (fun q => ?_) (fun q => ?_)
    · replace H := H.1 q
      refine Wx.aload_n hC te_307_23 rfl ?_
      refine Wx.iload_n hC te_307_24 rfl ?_
      refine Wx.virtI hC te_307_25 mt_268 (args := [.inr 143, .inl x2]) (rest := [.inr 143]) rfl rfl rfl rfl rfl rfl rfl rfl ?_
      refine CWI.mono hC (fun r7 m6 H hy => ?_) H
      replace H := H hy
      refine Wx.ifc hC (t := 35) te_307_28 (by decide) (fun q => ?_) (fun q => ?_)
      · replace H := H.1 q
        refine Wx.iconst hC te_307_35 rfl ?_
        refine Wx.putI hC te_307_36 rfl rfl rfl rfl ?_
        refine Wx.aload_n hC te_307_39 rfl ?_
        refine Wx.getI hC te_307_40 rfl rfl rfl (fun c8 e1 e2 => ?_)
        rw [upm_eq] at e1
        subst e1
        refine Wx.ifc hC (t := 50) te_307_43 (by decide) (fun q => ?_) (fun q => absurd (show (0 : Int) ≤ 0 by decide) q)
        refine Wx.aload_n hC te_307_50 rfl ?_
        refine Wx.iload_n hC te_307_51 rfl ?_
        refine Wx.iload_n hC te_307_52 rfl ?_
        refine Wx.virtI hC te_307_53 mt_304 (args := [.inr 143, .inl x1, .inl x2]) (rest := []) rfl rfl rfl rfl rfl rfl rfl rfl ?_
        refine CWI.mono hC (fun r10 m9 H hy => ?_) H
        replace H := H hy
        exact Wx.ireturn hC te_307_56 rfl H
      · replace H := H.2 q
        refine Wx.iconst hC te_307_31 rfl ?_
        refine Wx.goto hC (t := 36) te_307_32 (by decide) ?_
        refine Wx.putI hC te_307_36 rfl rfl rfl rfl ?_
        refine Wx.aload_n hC te_307_39 rfl ?_
        refine Wx.getI hC te_307_40 rfl rfl rfl (fun c11 e1 e2 => ?_)
        rw [upm_eq] at e1
        subst e1
        refine Wx.ifc hC (t := 50) te_307_43 (by decide) (fun q => absurd q (show ¬ ((2 : Int) ≤ 0) by decide)) (fun q => ?_)
        refine Wx.iconst hC te_307_46 rfl ?_
        refine Wx.goto hC (t := 56) te_307_47 (by decide) ?_
        exact Wx.ireturn hC te_307_56 rfl H
    · replace H := H.2 q
      refine Wx.iconst hC te_307_19 rfl ?_
      refine Wx.goto hC (t := 36) te_307_20 (by decide) ?_
      refine Wx.putI hC te_307_36 rfl rfl rfl rfl ?_
      refine Wx.aload_n hC te_307_39 rfl ?_
      refine Wx.getI hC te_307_40 rfl rfl rfl (fun c12 e1 e2 => ?_)
      rw [upm_eq] at e1
      subst e1
      refine Wx.ifc hC (t := 50) te_307_43 (by decide) (fun q => absurd q (show ¬ ((1 : Int) ≤ 0) by decide)) (fun q => ?_)
      refine Wx.iconst hC te_307_46 rfl ?_
      refine Wx.goto hC (t := 56) te_307_47 (by decide) ?_
      exact Wx.ireturn hC te_307_56 rfl H
theorem w_308_0 {C : CXW} (hC : Cmono C) {S : Nat × (Nat → Int32)} {K : WK} {mem : MM} {x1 x2 x3 x4 : Int} (H : (CWI C 235 [.inr 143, .inl x1] mem fun r2 m1 => InI r2 → ((¬ r2 = 0 → (CWI C 253 [.inl x3] m1 fun r4 m3 => InI r4 → ((r4 = 0 → (InI 0 → K (some 0) (upm m3 143 0 2))) ∧ (¬ (r4 = 0) → (CWI C 309 [.inl x4] m3 fun r7 m6 => InI r7 → ((r7 = 0 → (InI 0 → K (some 0) (upm m6 143 0 2))) ∧ (¬ (r7 = 0) → ((0 ≤ x2 → (CWI C 268 [.inr 143, .inl x3] m6 fun r10 m9 => InI r10 → ((¬ r10 = 0 → ((0 : Int) ≤ x1 ∧ (x1 : Int) < 8) ∧ ∀ v12 : Int, v12 = (upm m9 143 0 0) 161 (Int.toNat x1) → InI v12 → (InI (x2 - v12)) ∧ (((x2 - v12) < 0 → (InI (-1) → K (some (-1)) (upm m9 143 0 0))) ∧ (¬ ((x2 - v12) < 0) → (0 < x3) ∧ ((¬ (((x2 - v12) : Int).tmod x3) = 0 → (InI (-1) → K (some (-1)) (upm m9 143 0 0))) ∧ (¬ (¬ (((x2 - v12) : Int).tmod x3) = 0) → (0 < x3) ∧ ((x4 ≤ (((x2 - v12) : Int).tdiv x3) → (InI (-1) → K (some (-1)) (upm m9 143 0 0))) ∧ (¬ (x4 ≤ (((x2 - v12) : Int).tdiv x3)) → (0 < x3) ∧ (InI (((x2 - v12) : Int).tdiv x3) → K (some (((x2 - v12) : Int).tdiv x3)) (upm m9 143 0 0))))))))) ∧ (¬ (¬ r10 = 0) → (InI 0 → K (some 0) (upm m9 143 0 3)))))) ∧ (¬ (0 ≤ x2) → (InI 0 → K (some 0) (upm m6 143 0 2))))))))))) ∧ (¬ (¬ r2 = 0) → (InI 0 → K (some 0) (upm m1 143 0 1)))))) : Wx C S M_308 K 0 [some (.inr 143), some (.inl x1), some (.inl x2), some (.inl x3), some (.inl x4), none] [] mem := by
  refine Wx.aload_n hC te_308_0 rfl ?_
  refine Wx.aload_n hC te_308_1 rfl ?_
  refine Wx.iload_n hC te_308_2 rfl ?_
  refine Wx.virtI hC te_308_3 mt_235 (args := [.inr 143, .inl x1]) (rest := [.inr 143]) rfl rfl rfl rfl rfl rfl rfl rfl ?_
  refine CWI.mono hC (fun r2 m1 H hy => ?_) H
  replace H := H hy
  refine Wx.ifc hC (t := 13) te_308_6 (by decide) (fun q => ?_) (fun q => ?_)
  · replace H := H.1 q
    refine Wx.iload_n hC te_308_13 rfl ?_
    refine Wx.statI hC te_308_14 (by decide) mt_253 (args := [.inl x3]) (rest := [.inr 143]) rfl rfl rfl rfl rfl ?_
    refine CWI.mono hC (fun r4 m3 H hy => ?_) H
    replace H := H hy
    refine Wx.ifc hC (t := 32) te_308_17 (by decide) (fun q => ?_) (fun q => ?_)
    · replace H := H.1 q
      refine Wx.iconst hC te_308_32 rfl ?_
      refine Wx.goto hC (t := 49) te_308_33 (by decide) ?_
      refine Wx.putI hC te_308_49 rfl rfl rfl rfl ?_
      refine Wx.aload_n hC te_308_52 rfl ?_
      refine Wx.getI hC te_308_53 rfl rfl rfl (fun c5 e1 e2 => ?_)
      rw [upm_eq] at e1
      subst e1
      refine Wx.ifc hC (t := 61) te_308_56 (by decide) (fun q => absurd q (show ¬ ((2 : Int) ≤ 0) by decide)) (fun q => ?_)
      refine Wx.iconst hC te_308_59 rfl ?_
      exact Wx.ireturn hC te_308_60 rfl H
    · replace H := H.2 q
      refine Wx.iload hC te_308_20 rfl ?_
      refine Wx.statI hC te_308_22 (by decide) mt_309 (args := [.inl x4]) (rest := [.inr 143]) rfl rfl rfl rfl rfl ?_
      refine CWI.mono hC (fun r7 m6 H hy => ?_) H
      replace H := H hy
      refine Wx.ifc hC (t := 32) te_308_25 (by decide) (fun q => ?_) (fun q => ?_)
      · replace H := H.1 q
        refine Wx.iconst hC te_308_32 rfl ?_
        refine Wx.goto hC (t := 49) te_308_33 (by decide) ?_
        refine Wx.putI hC te_308_49 rfl rfl rfl rfl ?_
        refine Wx.aload_n hC te_308_52 rfl ?_
        refine Wx.getI hC te_308_53 rfl rfl rfl (fun c8 e1 e2 => ?_)
        rw [upm_eq] at e1
        subst e1
        refine Wx.ifc hC (t := 61) te_308_56 (by decide) (fun q => absurd q (show ¬ ((2 : Int) ≤ 0) by decide)) (fun q => ?_)
        refine Wx.iconst hC te_308_59 rfl ?_
        exact Wx.ireturn hC te_308_60 rfl H
      · replace H := H.2 q
        refine Wx.iload_n hC te_308_28 rfl ?_
        refine Wx.ifc hC (t := 36) te_308_29 (by decide) (fun q => ?_) (fun q => ?_)
        · replace H := H.1 q
          refine Wx.aload_n hC te_308_36 rfl ?_
          refine Wx.iload_n hC te_308_37 rfl ?_
          refine Wx.virtI hC te_308_38 mt_268 (args := [.inr 143, .inl x3]) (rest := [.inr 143]) rfl rfl rfl rfl rfl rfl rfl rfl ?_
          refine CWI.mono hC (fun r10 m9 H hy => ?_) H
          replace H := H hy
          refine Wx.ifc hC (t := 48) te_308_41 (by decide) (fun q => ?_) (fun q => ?_)
          · replace H := H.1 q
            refine Wx.iconst hC te_308_48 rfl ?_
            refine Wx.putI hC te_308_49 rfl rfl rfl rfl ?_
            refine Wx.aload_n hC te_308_52 rfl ?_
            refine Wx.getI hC te_308_53 rfl rfl rfl (fun c11 e1 e2 => ?_)
            rw [upm_eq] at e1
            subst e1
            refine Wx.ifc hC (t := 61) te_308_56 (by decide) (fun q => ?_) (fun q => absurd (show (0 : Int) ≤ 0 by decide) q)
            refine Wx.iload_n hC te_308_61 rfl ?_
            refine Wx.aload_n hC te_308_62 rfl ?_
            refine Wx.getR hC te_308_63 rfl rfl rfl ?_
            refine Wx.iload_n hC te_308_66 rfl ?_
            refine Wx.iald hC te_308_67 rfl H.1 (fun v12 e1 e2 => ?_)
            replace H := H.2 v12 e1 e2
            refine Wx.isub hC te_308_68 H.1 ?_
            replace H := H.2
            refine Wx.istore hC te_308_69 rfl ?_
            refine Wx.iload hC te_308_71 rfl ?_
            refine Wx.ifc hC (t := 99) te_308_73 (by decide) (fun q => ?_) (fun q => ?_)
            · replace H := H.1 q
              refine Wx.iconst hC te_308_99 rfl ?_
              exact Wx.ireturn hC te_308_100 rfl H
            · replace H := H.2 q
              refine Wx.iload hC te_308_76 rfl ?_
              refine Wx.iload_n hC te_308_78 rfl ?_
              refine Wx.irem hC te_308_79 H.1 ?_
              replace H := H.2
              refine Wx.ifc hC (t := 99) te_308_80 (by decide) (fun q => ?_) (fun q => ?_)
              · replace H := H.1 q
                refine Wx.iconst hC te_308_99 rfl ?_
                exact Wx.ireturn hC te_308_100 rfl H
              · replace H := H.2 q
                refine Wx.iload hC te_308_83 rfl ?_
                refine Wx.iload_n hC te_308_85 rfl ?_
                refine Wx.idiv hC te_308_86 H.1 ?_
                replace H := H.2
                refine Wx.iload hC te_308_87 rfl ?_
                refine Wx.icmp hC (t := 99) te_308_89 (by decide) (fun q => ?_) (fun q => ?_)
                · replace H := H.1 q
                  refine Wx.iconst hC te_308_99 rfl ?_
                  exact Wx.ireturn hC te_308_100 rfl H
                · replace H := H.2 q
                  refine Wx.iload hC te_308_92 rfl ?_
                  refine Wx.iload_n hC te_308_94 rfl ?_
                  refine Wx.idiv hC te_308_95 H.1 ?_
                  replace H := H.2
                  refine Wx.goto hC (t := 100) te_308_96 (by decide) ?_
                  exact Wx.ireturn hC te_308_100 rfl H
          · replace H := H.2 q
            refine Wx.iconst hC te_308_44 rfl ?_
            refine Wx.goto hC (t := 49) te_308_45 (by decide) ?_
            refine Wx.putI hC te_308_49 rfl rfl rfl rfl ?_
            refine Wx.aload_n hC te_308_52 rfl ?_
            refine Wx.getI hC te_308_53 rfl rfl rfl (fun c13 e1 e2 => ?_)
            rw [upm_eq] at e1
            subst e1
            refine Wx.ifc hC (t := 61) te_308_56 (by decide) (fun q => absurd q (show ¬ ((3 : Int) ≤ 0) by decide)) (fun q => ?_)
            refine Wx.iconst hC te_308_59 rfl ?_
            exact Wx.ireturn hC te_308_60 rfl H
        · replace H := H.2 q
          refine Wx.iconst hC te_308_32 rfl ?_
          refine Wx.goto hC (t := 49) te_308_33 (by decide) ?_
          refine Wx.putI hC te_308_49 rfl rfl rfl rfl ?_
          refine Wx.aload_n hC te_308_52 rfl ?_
          refine Wx.getI hC te_308_53 rfl rfl rfl (fun c14 e1 e2 => ?_)
          rw [upm_eq] at e1
          subst e1
          refine Wx.ifc hC (t := 61) te_308_56 (by decide) (fun q => absurd q (show ¬ ((2 : Int) ≤ 0) by decide)) (fun q => ?_)
          refine Wx.iconst hC te_308_59 rfl ?_
          exact Wx.ireturn hC te_308_60 rfl H
  · replace H := H.2 q
    refine Wx.iconst hC te_308_9 rfl ?_
    refine Wx.goto hC (t := 49) te_308_10 (by decide) ?_
    refine Wx.putI hC te_308_49 rfl rfl rfl rfl ?_
    refine Wx.aload_n hC te_308_52 rfl ?_
    refine Wx.getI hC te_308_53 rfl rfl rfl (fun c15 e1 e2 => ?_)
    rw [upm_eq] at e1
    subst e1
    refine Wx.ifc hC (t := 61) te_308_56 (by decide) (fun q => absurd q (show ¬ ((1 : Int) ≤ 0) by decide)) (fun q => ?_)
    refine Wx.iconst hC te_308_59 rfl ?_
    exact Wx.ireturn hC te_308_60 rfl H
theorem w_310_0 {C : CXW} (hC : Cmono C) {S : Nat × (Nat → Int32)} {K : WK} {mem : MM} {x1 x2 x3 : Int} (H : (CWI C 227 [.inl x3, .inl 0, .inl 3] mem fun r2 m1 => InI r2 → ((r2 = 0 → (InI 0 → K (some 0) (upm m1 143 0 1))) ∧ (¬ (r2 = 0) → (CWI C 311 [.inr 143, .inl x1, .inl x2] (upm m1 143 0 0) fun r6 m5 => InI r6 → ((r6 ≤ 0 → (CWI C 312 [.inr 143, .inl x1, .inl x2] (upm m5 143 0 0) fun r9 m8 => InI r9 → (CWI C 314 [.inr 143, .inl x1, .inl x2] m8 fun r11 m10 => InI r11 → ((¬ x3 = 0 → ((¬ x3 = 1 → ((¬ x3 = 2 → (CWI C 313 [.inr 143, .inl x1, .inl x2] m10 fun r13 m12 => InI r13 → (InI (r13 - r9)) ∧ (InI ((r13 - r9) - r11)) ∧ (InI ((r13 - r9) - r11) → K (some ((r13 - r9) - r11)) m12))) ∧ (¬ (¬ x3 = 2) → (InI r11 → K (some r11) m10)))) ∧ (¬ (¬ x3 = 1) → (InI r9 → K (some r9) m10)))) ∧ (¬ (¬ x3 = 0) → (CWI C 313 [.inr 143, .inl x1, .inl x2] m10 fun r15 m14 => InI r15 → (InI r15 → K (some r15) m14))))))) ∧ (¬ (r6 ≤ 0) → (InI (r6 + 1)) ∧ ∀ v16 : Int, v16 = (upm m5 143 0 (r6 + 1)) 143 0 → InI v16 → ((v16 ≤ 0 → (CWI C 312 [.inr 143, .inl x1, .inl x2] (upm m5 143 0 (r6 + 1)) fun r18 m17 => InI r18 → (CWI C 314 [.inr 143, .inl x1, .inl x2] m17 fun r20 m19 => InI r20 → ((¬ x3 = 0 → ((¬ x3 = 1 → ((¬ x3 = 2 → (CWI C 313 [.inr 143, .inl x1, .inl x2] m19 fun r22 m21 => InI r22 → (InI (r22 - r18)) ∧ (InI ((r22 - r18) - r20)) ∧ (InI ((r22 - r18) - r20) → K (some ((r22 - r18) - r20)) m21))) ∧ (¬ (¬ x3 = 2) → (InI r20 → K (some r20) m19)))) ∧ (¬ (¬ x3 = 1) → (InI r18 → K (some r18) m19)))) ∧ (¬ (¬ x3 = 0) → (CWI C 313 [.inr 143, .inl x1, .inl x2] m19 fun r24 m23 => InI r24 → (InI r24 → K (some r24) m23))))))) ∧ (¬ (v16 ≤ 0) → (InI 0 → K (some 0) (upm m5 143 0 (r6 + 1)))))))))))) : Wx C S M_310 K 0 [some (.inr 143), some (.inl x1), some (.inl x2), some (.inl x3), none, none, none] [] mem := by
  refine Wx.aload_n hC te_310_0 rfl ?_
  refine Wx.iload_n hC te_310_1 rfl ?_
  refine Wx.iconst hC te_310_2 rfl ?_
  refine Wx.iconst hC te_310_3 rfl ?_
  refine Wx.statI hC te_310_4 (by decide) mt_227 (args := [.inl x3, .inl 0, .inl 3]) (rest := [.inr 143]) rfl rfl rfl rfl rfl ?_
  refine CWI.mono hC (fun r2 m1 H hy => ?_) H
  replace H := H hy
  refine Wx.ifc hC (t := 14) te_310_7 (by decide) (fun q => ?_) (fun q => ?_)
  · replace H := H.1 q
    refine Wx.iconst hC te_310_14 rfl ?_
    refine Wx.putI hC te_310_15 rfl rfl rfl rfl ?_
    refine Wx.aload_n hC te_310_18 rfl ?_
    refine Wx.getI hC te_310_19 rfl rfl rfl (fun c3 e1 e2 => ?_)
    rw [upm_eq] at e1
    subst e1
    refine Wx.ifc hC (t := 27) te_310_22 (by decide) (fun q => absurd q (show ¬ ((1 : Int) ≤ 0) by decide)) (fun q => ?_)
    refine Wx.iconst hC te_310_25 rfl ?_
    exact Wx.ireturn hC te_310_26 rfl H
  · replace H := H.2 q
    refine Wx.iconst hC te_310_10 rfl ?_
    refine Wx.goto hC (t := 15) te_310_11 (by decide) ?_
    refine Wx.putI hC te_310_15 rfl rfl rfl rfl ?_
    refine Wx.aload_n hC te_310_18 rfl ?_
    refine Wx.getI hC te_310_19 rfl rfl rfl (fun c4 e1 e2 => ?_)
    rw [upm_eq] at e1
    subst e1
    refine Wx.ifc hC (t := 27) te_310_22 (by decide) (fun q => ?_) (fun q => absurd (show (0 : Int) ≤ 0 by decide) q)
    refine Wx.aload_n hC te_310_27 rfl ?_
    refine Wx.iload_n hC te_310_28 rfl ?_
    refine Wx.iload_n hC te_310_29 rfl ?_
    refine Wx.virtI hC te_310_30 mt_311 (args := [.inr 143, .inl x1, .inl x2]) (rest := []) rfl rfl rfl rfl rfl rfl rfl rfl ?_
    refine CWI.mono hC (fun r6 m5 H hy => ?_) H
    replace H := H hy
    refine Wx.istore hC te_310_33 rfl ?_
    refine Wx.aload_n hC te_310_35 rfl ?_
    refine Wx.iload hC te_310_36 rfl ?_
    refine Wx.ifc hC (t := 48) te_310_38 (by decide) (fun q => ?_) (fun q => ?_)
    · replace H := H.1 q
      refine Wx.iconst hC te_310_48 rfl ?_
      refine Wx.putI hC te_310_49 rfl rfl rfl rfl ?_
      refine Wx.aload_n hC te_310_52 rfl ?_
      refine Wx.getI hC te_310_53 rfl rfl rfl (fun c7 e1 e2 => ?_)
      rw [upm_eq] at e1
      subst e1
      refine Wx.ifc hC (t := 61) te_310_56 (by decide) (fun q => ?_) (fun q => absurd (show (0 : Int) ≤ 0 by decide) q)
      refine Wx.aload_n hC te_310_61 rfl ?_
      refine Wx.iload_n hC te_310_62 rfl ?_
      refine Wx.iload_n hC te_310_63 rfl ?_
      refine Wx.virtI hC te_310_64 mt_312 (args := [.inr 143, .inl x1, .inl x2]) (rest := []) rfl rfl rfl rfl rfl rfl rfl rfl ?_
      refine CWI.mono hC (fun r9 m8 H hy => ?_) H
      replace H := H hy
      refine Wx.istore hC te_310_67 rfl ?_
      refine Wx.aload_n hC te_310_69 rfl ?_
      refine Wx.iload_n hC te_310_70 rfl ?_
      refine Wx.iload_n hC te_310_71 rfl ?_
      refine Wx.virtI hC te_310_72 mt_314 (args := [.inr 143, .inl x1, .inl x2]) (rest := []) rfl rfl rfl rfl rfl rfl rfl rfl ?_
      refine CWI.mono hC (fun r11 m10 H hy => ?_) H
      replace H := H hy
      refine Wx.istore hC te_310_75 rfl ?_
      refine Wx.iload_n hC te_310_77 rfl ?_
      refine Wx.ifc hC (t := 90) te_310_78 (by decide) (fun q => ?_) (fun q => ?_)
      · replace H := H.1 q
        refine Wx.iload_n hC te_310_90 rfl ?_
        refine Wx.iconst hC te_310_91 rfl ?_
        refine Wx.icmp hC (t := 100) te_310_92 (by decide) (fun q => ?_) (fun q => ?_)
        · replace H := H.1 q
          refine Wx.iload_n hC te_310_100 rfl ?_
          refine Wx.iconst hC te_310_101 rfl ?_
          refine Wx.icmp hC (t := 110) te_310_102 (by decide) (fun q => ?_) (fun q => ?_)
          · replace H := H.1 q
            refine Wx.aload_n hC te_310_110 rfl ?_
            refine Wx.iload_n hC te_310_111 rfl ?_
            refine Wx.iload_n hC te_310_112 rfl ?_
            refine Wx.virtI hC te_310_113 mt_313 (args := [.inr 143, .inl x1, .inl x2]) (rest := []) rfl rfl rfl rfl rfl rfl rfl rfl ?_
            refine CWI.mono hC (fun r13 m12 H hy => ?_) H
            replace H := H hy
            refine Wx.iload hC te_310_116 rfl ?_
            refine Wx.isub hC te_310_118 H.1 ?_
            replace H := H.2
            refine Wx.iload hC te_310_119 rfl ?_
            refine Wx.isub hC te_310_121 H.1 ?_
            replace H := H.2
            exact Wx.ireturn hC te_310_122 rfl H
          · replace H := H.2 q
            refine Wx.iload hC te_310_105 rfl ?_
            refine Wx.goto hC (t := 122) te_310_107 (by decide) ?_
            exact Wx.ireturn hC te_310_122 rfl H
        · replace H := H.2 q
          refine Wx.iload hC te_310_95 rfl ?_
          refine Wx.goto hC (t := 122) te_310_97 (by decide) ?_
          exact Wx.ireturn hC te_310_122 rfl H
      · replace H := H.2 q
        refine Wx.aload_n hC te_310_81 rfl ?_
        refine Wx.iload_n hC te_310_82 rfl ?_
        refine Wx.iload_n hC te_310_83 rfl ?_
        refine Wx.virtI hC te_310_84 mt_313 (args := [.inr 143, .inl x1, .inl x2]) (rest := []) rfl rfl rfl rfl rfl rfl rfl rfl ?_
        refine CWI.mono hC (fun r15 m14 H hy => ?_) H
        replace H := H hy
        refine Wx.goto hC (t := 122) te_310_87 (by decide) ?_
        exact Wx.ireturn hC te_310_122 rfl H
    · replace H := H.2 q
      refine Wx.iload hC te_310_41 rfl ?_
      refine Wx.iconst hC te_310_43 rfl ?_
      refine Wx.iadd hC te_310_44 H.1 ?_
      replace H := H.2
      refine Wx.goto hC (t := 49) te_310_45 (by decide) ?_
      refine Wx.putI hC te_310_49 rfl rfl rfl rfl ?_
      refine Wx.aload_n hC te_310_52 rfl ?_
      refine Wx.getI hC te_310_53 rfl rfl rfl (fun v16 e1 e2 => ?_)
      replace H := H v16 e1 e2
      refine Wx.ifc hC (t := 61) te_310_56 (by decide) (fun q => ?_) (fun q => ?_)
      · replace H := H.1 q
        refine Wx.aload_n hC te_310_61 rfl ?_
        refine Wx.iload_n hC te_310_62 rfl ?_
        refine Wx.iload_n hC te_310_63 rfl ?_
        refine Wx.virtI hC te_310_64 mt_312 (args := [.inr 143, .inl x1, .inl x2]) (rest := []) rfl rfl rfl rfl rfl rfl rfl rfl ?_
        refine CWI.mono hC (fun r18 m17 H hy => ?_) H
        replace H := H hy
        refine Wx.istore hC te_310_67 rfl ?_
        refine Wx.aload_n hC te_310_69 rfl ?_
        refine Wx.iload_n hC te_310_70 rfl ?_
        refine Wx.iload_n hC te_310_71 rfl ?_
        refine Wx.virtI hC te_310_72 mt_314 (args := [.inr 143, .inl x1, .inl x2]) (rest := []) rfl rfl rfl rfl rfl rfl rfl rfl ?_
        refine CWI.mono hC (fun r20 m19 H hy => ?_) H
        replace H := H hy
        refine Wx.istore hC te_310_75 rfl ?_
        refine Wx.iload_n hC te_310_77 rfl ?_
        refine Wx.ifc hC (t := 90) te_310_78 (by decide) (fun q => ?_) (fun q => ?_)
        · replace H := H.1 q
          refine Wx.iload_n hC te_310_90 rfl ?_
          refine Wx.iconst hC te_310_91 rfl ?_
          refine Wx.icmp hC (t := 100) te_310_92 (by decide) (fun q => ?_) (fun q => ?_)
          · replace H := H.1 q
            refine Wx.iload_n hC te_310_100 rfl ?_
            refine Wx.iconst hC te_310_101 rfl ?_
            refine Wx.icmp hC (t := 110) te_310_102 (by decide) (fun q => ?_) (fun q => ?_)
            · replace H := H.1 q
              refine Wx.aload_n hC te_310_110 rfl ?_
              refine Wx.iload_n hC te_310_111 rfl ?_
              refine Wx.iload_n hC te_310_112 rfl ?_
              refine Wx.virtI hC te_310_113 mt_313 (args := [.inr 143, .inl x1, .inl x2]) (rest := []) rfl rfl rfl rfl rfl rfl rfl rfl ?_
              refine CWI.mono hC (fun r22 m21 H hy => ?_) H
              replace H := H hy
              refine Wx.iload hC te_310_116 rfl ?_
              refine Wx.isub hC te_310_118 H.1 ?_
              replace H := H.2
              refine Wx.iload hC te_310_119 rfl ?_
              refine Wx.isub hC te_310_121 H.1 ?_
              replace H := H.2
              exact Wx.ireturn hC te_310_122 rfl H
            · replace H := H.2 q
              refine Wx.iload hC te_310_105 rfl ?_
              refine Wx.goto hC (t := 122) te_310_107 (by decide) ?_
              exact Wx.ireturn hC te_310_122 rfl H
          · replace H := H.2 q
            refine Wx.iload hC te_310_95 rfl ?_
            refine Wx.goto hC (t := 122) te_310_97 (by decide) ?_
            exact Wx.ireturn hC te_310_122 rfl H
        · replace H := H.2 q
          refine Wx.aload_n hC te_310_81 rfl ?_
          refine Wx.iload_n hC te_310_82 rfl ?_
          refine Wx.iload_n hC te_310_83 rfl ?_
          refine Wx.virtI hC te_310_84 mt_313 (args := [.inr 143, .inl x1, .inl x2]) (rest := []) rfl rfl rfl rfl rfl rfl rfl rfl ?_
          refine CWI.mono hC (fun r24 m23 H hy => ?_) H
          replace H := H hy
          refine Wx.goto hC (t := 122) te_310_87 (by decide) ?_
          exact Wx.ireturn hC te_310_122 rfl H
      · replace H := H.2 q
        refine Wx.iconst hC te_310_59 rfl ?_
        exact Wx.ireturn hC te_310_60 rfl H
theorem w_312_0 {C : CXW} (hC : Cmono C) {S : Nat × (Nat → Int32)} {K : WK} {mem : MM} {x1 x2 : Int} (H : (CWI C 301 [.inr 143, .inl x1] mem fun r2 m1 => InI r2 → ((r2 ≤ x2 → (CWI C 301 [.inr 143, .inl x1] m1 fun r4 m3 => InI r4 → (InI (r4 - 1)) ∧ (InI (x1 * (r4 - 1))) ∧ (InI (x1 * (r4 - 1)) → K (some (x1 * (r4 - 1))) m3))) ∧ (¬ (r2 ≤ x2) → (CWI C 313 [.inr 143, .inl x1, .inl x2] m1 fun r6 m5 => InI r6 → (InI r6 → K (some r6) m5)))))) : Wx C S M_312 K 0 [some (.inr 143), some (.inl x1), some (.inl x2)] [] mem := by
  refine Wx.iload_n hC te_312_0 rfl ?_
  refine Wx.aload_n hC te_312_1 rfl ?_
  refine Wx.iload_n hC te_312_2 rfl ?_
  refine Wx.virtI hC te_312_3 mt_301 (args := [.inr 143, .inl x1]) (rest := [.inl x2]) rfl rfl rfl rfl rfl rfl rfl rfl ?_
  refine CWI.mono hC (fun r2 m1 H hy => ?_) H
  replace H := H hy
  refine Wx.icmp hC (t := 18) te_312_6 (by decide) (fun q => ?_) (fun q => ?_)
  · replace H := H.1 q
    refine Wx.iload_n hC te_312_18 rfl ?_
    refine Wx.aload_n hC te_312_19 rfl ?_
    refine Wx.iload_n hC te_312_20 rfl ?_
    refine Wx.virtI hC te_312_21 mt_301 (args := [.inr 143, .inl x1]) (rest := [.inl x1]) rfl rfl rfl rfl rfl rfl rfl rfl ?_
    refine CWI.mono hC (fun r4 m3 H hy => ?_) H
    replace H := H hy
    refine Wx.iconst hC te_312_24 rfl ?_
    refine Wx.isub hC te_312_25 H.1 ?_
    replace H := H.2
    refine Wx.imul hC te_312_26 H.1 ?_
    replace H := H.2
    exact Wx.ireturn hC te_312_27 rfl H
  · replace H := H.2 q
    refine Wx.aload_n hC te_312_9 rfl ?_
    refine Wx.iload_n hC te_312_10 rfl ?_
    refine Wx.iload_n hC te_312_11 rfl ?_
    refine Wx.virtI hC te_312_12 mt_313 (args := [.inr 143, .inl x1, .inl x2]) (rest := []) rfl rfl rfl rfl rfl rfl rfl rfl ?_
    refine CWI.mono hC (fun r6 m5 H hy => ?_) H
    replace H := H hy
    refine Wx.goto hC (t := 27) te_312_15 (by decide) ?_
    exact Wx.ireturn hC te_312_27 rfl H
theorem w_314_0 {C : CXW} (hC : Cmono C) {S : Nat × (Nat → Int32)} {K : WK} {mem : MM} {x1 x2 : Int} (H : (CWI C 301 [.inr 143, .inl x1] mem fun r2 m1 => InI r2 → ((r2 ≤ x2 → (CWI C 301 [.inr 143, .inl x1] m1 fun r4 m3 => InI r4 → (InI (x2 - r4)) ∧ (InI ((x2 - r4) + 1)) ∧ (InI (x1 * ((x2 - r4) + 1))) ∧ (CWI C 313 [.inr 143, .inl x1, .inl x2] m3 fun r6 m5 => InI r6 → (CWI C 312 [.inr 143, .inl x1, .inl x2] m5 fun r8 m7 => InI r8 → (InI (r6 - r8)) ∧ (CWI C 258 [.inl (x1 * ((x2 - r4) + 1)), .inl (r6 - r8)] m7 fun r10 m9 => InI r10 → (InI r10 → K (some r10) m9)))))) ∧ (¬ (r2 ≤ x2) → (InI 0 → K (some 0) m1))))) : Wx C S M_314 K 0 [some (.inr 143), some (.inl x1), some (.inl x2)] [] mem := by
  refine Wx.iload_n hC te_314_0 rfl ?_
  refine Wx.aload_n hC te_314_1 rfl ?_
  refine Wx.iload_n hC te_314_2 rfl ?_
  refine Wx.virtI hC te_314_3 mt_301 (args := [.inr 143, .inl x1]) (rest := [.inl x2]) rfl rfl rfl rfl rfl rfl rfl rfl ?_
  refine CWI.mono hC (fun r2 m1 H hy => ?_) H
  replace H := H hy
  refine Wx.icmp hC (t := 13) te_314_6 (by decide) (fun q => ?_) (fun q => ?_)
  · replace H := H.1 q
    refine Wx.iload_n hC te_314_13 rfl ?_
    refine Wx.iload_n hC te_314_14 rfl ?_
    refine Wx.aload_n hC te_314_15 rfl ?_
    refine Wx.iload_n hC te_314_16 rfl ?_
    refine Wx.virtI hC te_314_17 mt_301 (args := [.inr 143, .inl x1]) (rest := [.inl x2, .inl x1]) rfl rfl rfl rfl rfl rfl rfl rfl ?_
    refine CWI.mono hC (fun r4 m3 H hy => ?_) H
    replace H := H hy
    refine Wx.isub hC te_314_20 H.1 ?_
    replace H := H.2
    refine Wx.iconst hC te_314_21 rfl ?_
    refine Wx.iadd hC te_314_22 H.1 ?_
    replace H := H.2
    refine Wx.imul hC te_314_23 H.1 ?_
    replace H := H.2
    refine Wx.aload_n hC te_314_24 rfl ?_
    refine Wx.iload_n hC te_314_25 rfl ?_
    refine Wx.iload_n hC te_314_26 rfl ?_
    refine Wx.virtI hC te_314_27 mt_313 (args := [.inr 143, .inl x1, .inl x2]) (rest := [.inl (x1 * ((x2 - r4) + 1))]) rfl rfl rfl rfl rfl rfl rfl rfl ?_
    refine CWI.mono hC (fun r6 m5 H hy => ?_) H
    replace H := H hy
    refine Wx.aload_n hC te_314_30 rfl ?_
    refine Wx.iload_n hC te_314_31 rfl ?_
    refine Wx.iload_n hC te_314_32 rfl ?_
    refine Wx.virtI hC te_314_33 mt_312 (args := [.inr 143, .inl x1, .inl x2]) (rest := [.inl r6, .inl (x1 * ((x2 - r4) + 1))]) rfl rfl rfl rfl rfl rfl rfl rfl ?_
    refine CWI.mono hC (fun r8 m7 H hy => ?_) H
    replace H := H hy
    refine Wx.isub hC te_314_36 H.1 ?_
    replace H := H.2
    refine Wx.statI hC te_314_37 (by decide) mt_258 (args := [.inl (x1 * ((x2 - r4) + 1)), .inl (r6 - r8)]) (rest := []) rfl rfl rfl rfl rfl ?_
    refine CWI.mono hC (fun r10 m9 H hy => ?_) H
    replace H := H hy
    exact Wx.ireturn hC te_314_40 rfl H
  · replace H := H.2 q
    refine Wx.iconst hC te_314_9 rfl ?_
    refine Wx.goto hC (t := 40) te_314_10 (by decide) ?_
    exact Wx.ireturn hC te_314_40 rfl H
theorem w_331_0 {C : CXW} (hC : Cmono C) {S : Nat × (Nat → Int32)} {K : WK} {mem : MM} {x1 x2 x3 x4 : Int} (H : (CWI C 235 [.inr 143, .inl x1] mem fun r2 m1 => InI r2 → ((¬ r2 = 0 → ((x2 < 0 → (K (some 0) (upm (upm m1 143 0 0) 143 0 2))) ∧ (¬ (x2 < 0) → ((¬ x4 = 0 → (CWI C 311 [.inr 143, .inl x3, .inl x4] (upm m1 143 0 0) fun r6 m5 => InI r6 → ((¬ r6 = 0 → ((r6 ≤ 0 → ((0 : Int) ≤ x1 ∧ (x1 : Int) < 8) ∧ ∀ v8 : Int, v8 = (upm m5 143 0 0) 161 (Int.toNat x1) → InI v8 → (0 < x3) ∧ (InI (x2 - ((v8 : Int).tdiv x3))) ∧ (InI (x4 - 1)) ∧ (CWI C 227 [.inl (x2 - ((v8 : Int).tdiv x3)), .inl 0, .inl (x4 - 1)] (upm m5 143 0 0) fun r10 m9 => InI r10 → ((r10 = 0 ∨ r10 = 1) ∧ K (some r10) m9))) ∧ (¬ (r6 ≤ 0) → (InI (r6 + 1)) ∧ ∀ v11 : Int, v11 = (upm m5 143 0 (r6 + 1)) 143 0 → InI v11 → ((v11 ≤ 0 → ((0 : Int) ≤ x1 ∧ (x1 : Int) < 8) ∧ ∀ v12 : Int, v12 = (upm m5 143 0 (r6 + 1)) 161 (Int.toNat x1) → InI v12 → (0 < x3) ∧ (InI (x2 - ((v12 : Int).tdiv x3))) ∧ (InI (x4 - 1)) ∧ (CWI C 227 [.inl (x2 - ((v12 : Int).tdiv x3)), .inl 0, .inl (x4 - 1)] (upm m5 143 0 (r6 + 1)) fun r14 m13 => InI r14 → ((r14 = 0 ∨ r14 = 1) ∧ K (some r14) m13))) ∧ (¬ (v11 ≤ 0) → (K (some 0) (upm m5 143 0 (r6 + 1)))))))) ∧ (¬ (¬ r6 = 0) → (CWI C 301 [.inr 143, .inl x3] m5 fun r16 m15 => InI r16 → (InI (x4 + r16)) ∧ (InI ((x4 + r16) - 2)) ∧ ((x2 ≤ ((x4 + r16) - 2) → ((r6 ≤ 0 → ((0 : Int) ≤ x1 ∧ (x1 : Int) < 8) ∧ ∀ v18 : Int, v18 = (upm m15 143 0 0) 161 (Int.toNat x1) → InI v18 → (0 < x3) ∧ (InI (x2 - ((v18 : Int).tdiv x3))) ∧ (InI (x4 - 1)) ∧ (CWI C 227 [.inl (x2 - ((v18 : Int).tdiv x3)), .inl 0, .inl (x4 - 1)] (upm m15 143 0 0) fun r20 m19 => InI r20 → ((r20 = 0 ∨ r20 = 1) ∧ K (some r20) m19))) ∧ (¬ (r6 ≤ 0) → (InI (r6 + 1)) ∧ ∀ v21 : Int, v21 = (upm m15 143 0 (r6 + 1)) 143 0 → InI v21 → ((v21 ≤ 0 → ((0 : Int) ≤ x1 ∧ (x1 : Int) < 8) ∧ ∀ v22 : Int, v22 = (upm m15 143 0 (r6 + 1)) 161 (Int.toNat x1) → InI v22 → (0 < x3) ∧ (InI (x2 - ((v22 : Int).tdiv x3))) ∧ (InI (x4 - 1)) ∧ (CWI C 227 [.inl (x2 - ((v22 : Int).tdiv x3)), .inl 0, .inl (x4 - 1)] (upm m15 143 0 (r6 + 1)) fun r24 m23 => InI r24 → ((r24 = 0 ∨ r24 = 1) ∧ K (some r24) m23))) ∧ (¬ (v21 ≤ 0) → (K (some 0) (upm m15 143 0 (r6 + 1)))))))) ∧ (¬ (x2 ≤ ((x4 + r16) - 2)) → (K (some 0) (upm m15 143 0 2))))))))) ∧ (¬ (¬ x4 = 0) → (K (some 0) (upm (upm m1 143 0 0) 143 0 2))))))) ∧ (¬ (¬ r2 = 0) → (K (some 0) (upm m1 143 0 1)))))) : Wx C S M_331 K 0 [some (.inr 143), some (.inl x1), some (.inl x2), some (.inl x3), some (.inl x4), none] [] mem := by
  refine Wx.aload_n hC te_331_0 rfl ?_
  refine Wx.aload_n hC te_331_1 rfl ?_
  refine Wx.iload_n hC te_331_2 rfl ?_
  refine Wx.virtI hC te_331_3 mt_235 (args := [.inr 143, .inl x1]) (rest := [.inr 143]) rfl rfl rfl rfl rfl rfl rfl rfl ?_
  refine CWI.mono hC (fun r2 m1 H hy => ?_) H
  replace H := H hy
  refine Wx.ifc hC (t := 13) te_331_6 (by decide) (fun q => ?_) (fun q => ?_)
  · replace H := H.1 q
    refine Wx.iconst hC te_331_13 rfl ?_
    refine Wx.putI hC te_331_14 rfl rfl rfl rfl ?_
    refine Wx.aload_n hC te_331_17 rfl ?_
    refine Wx.getI hC te_331_18 rfl rfl rfl (fun c3 e1 e2 => ?_)
    rw [upm_eq] at e1
    subst e1
    refine Wx.ifc hC (t := 26) te_331_21 (by decide) (fun q => ?_) (fun q => absurd (show (0 : Int) ≤ 0 by decide) q)
    refine Wx.iload_n hC te_331_26 rfl ?_
    refine Wx.ifc hC (t := 35) te_331_27 (by decide) (fun q => ?_) (fun q => ?_)
    · replace H := H.1 q
      refine Wx.iconst hC te_331_35 rfl ?_
      refine Wx.goto hC (t := 46) te_331_36 (by decide) ?_
      refine Wx.istore hC te_331_46 rfl ?_
      refine Wx.iload hC te_331_48 rfl ?_
      refine Wx.ifc hC (t := 70) te_331_50 (by decide) (fun q => ?_) (fun q => absurd (show ¬ (1 : Int) = 0 by decide) q)
      refine Wx.aload_n hC te_331_70 rfl ?_
      refine Wx.iload hC te_331_71 rfl ?_
      refine Wx.ifc hC (t := 83) te_331_73 (by decide) (fun q => absurd q (show ¬ ((1 : Int) ≤ 0) by decide)) (fun q => ?_)
      refine Wx.iload hC te_331_76 rfl ?_
      refine Wx.iconst hC te_331_78 rfl ?_
      refine Wx.iadd hC te_331_79 (by unfold InI; omega) ?_
      change Wx C S M_331 K _ _ (.inl 2 :: _) _
      refine Wx.goto hC (t := 84) te_331_80 (by decide) ?_
      refine Wx.putI hC te_331_84 rfl rfl rfl rfl ?_
      refine Wx.aload_n hC te_331_87 rfl ?_
      refine Wx.getI hC te_331_88 rfl rfl rfl (fun c4 e1 e2 => ?_)
      rw [upm_eq] at e1
      subst e1
      refine Wx.ifc hC (t := 96) te_331_91 (by decide) (fun q => absurd q (show ¬ ((2 : Int) ≤ 0) by decide)) (fun q => ?_)
      refine Wx.iconst hC te_331_94 rfl ?_
      exact Wx.bret hC te_331_95 rfl (Or.inl rfl) H
    · replace H := H.2 q
      refine Wx.iload hC te_331_30 rfl ?_
      refine Wx.ifc hC (t := 39) te_331_32 (by decide) (fun q => ?_) (fun q => ?_)
      · replace H := H.1 q
        refine Wx.aload_n hC te_331_39 rfl ?_
        refine Wx.iload_n hC te_331_40 rfl ?_
        refine Wx.iload hC te_331_41 rfl ?_
        refine Wx.virtI hC te_331_43 mt_311 (args := [.inr 143, .inl x3, .inl x4]) (rest := []) rfl rfl rfl rfl rfl rfl rfl rfl ?_
        refine CWI.mono hC (fun r6 m5 H hy => ?_) H
        replace H := H hy
        refine Wx.istore hC te_331_46 rfl ?_
        refine Wx.iload hC te_331_48 rfl ?_
        refine Wx.ifc hC (t := 70) te_331_50 (by decide) (fun q => ?_) (fun q => ?_)
        · replace H := H.1 q
          refine Wx.aload_n hC te_331_70 rfl ?_
          refine Wx.iload hC te_331_71 rfl ?_
          refine Wx.ifc hC (t := 83) te_331_73 (by decide) (fun q => ?_) (fun q => ?_)
          · replace H := H.1 q
            refine Wx.iconst hC te_331_83 rfl ?_
            refine Wx.putI hC te_331_84 rfl rfl rfl rfl ?_
            refine Wx.aload_n hC te_331_87 rfl ?_
            refine Wx.getI hC te_331_88 rfl rfl rfl (fun c7 e1 e2 => ?_)
            rw [upm_eq] at e1
            subst e1
            refine Wx.ifc hC (t := 96) te_331_91 (by decide) (fun q => ?_) (fun q => absurd (show (0 : Int) ≤ 0 by decide) q)
            refine Wx.iload_n hC te_331_96 rfl ?_
            refine Wx.aload_n hC te_331_97 rfl ?_
            refine Wx.getR hC te_331_98 rfl rfl rfl ?_
            refine Wx.iload_n hC te_331_101 rfl ?_
            refine Wx.iald hC te_331_102 rfl H.1 (fun v8 e1 e2 => ?_)
            replace H := H.2 v8 e1 e2
            refine Wx.iload_n hC te_331_103 rfl ?_
            refine Wx.idiv hC te_331_104 H.1 ?_
            replace H := H.2
            refine Wx.isub hC te_331_105 H.1 ?_
            replace H := H.2
            refine Wx.iconst hC te_331_106 rfl ?_
            refine Wx.iload hC te_331_107 rfl ?_
            refine Wx.iconst hC te_331_109 rfl ?_
            refine Wx.isub hC te_331_110 H.1 ?_
            replace H := H.2
            refine Wx.statI hC te_331_111 (by decide) mt_227 (args := [.inl (x2 - ((v8 : Int).tdiv x3)), .inl 0, .inl (x4 - 1)]) (rest := []) rfl rfl rfl rfl rfl ?_
            refine CWI.mono hC (fun r10 m9 H hy => ?_) H
            replace H := H hy
            exact Wx.bret hC te_331_114 rfl H.1 H.2
          · replace H := H.2 q
            refine Wx.iload hC te_331_76 rfl ?_
            refine Wx.iconst hC te_331_78 rfl ?_
            refine Wx.iadd hC te_331_79 H.1 ?_
            replace H := H.2
            refine Wx.goto hC (t := 84) te_331_80 (by decide) ?_
            refine Wx.putI hC te_331_84 rfl rfl rfl rfl ?_
            refine Wx.aload_n hC te_331_87 rfl ?_
            refine Wx.getI hC te_331_88 rfl rfl rfl (fun v11 e1 e2 => ?_)
            replace H := H v11 e1 e2
            refine Wx.ifc hC (t := 96) te_331_91 (by decide) (fun q => ?_) (fun q => ?_)
            · replace H := H.1 q
              refine Wx.iload_n hC te_331_96 rfl ?_
              refine Wx.aload_n hC te_331_97 rfl ?_
              refine Wx.getR hC te_331_98 rfl rfl rfl ?_
              refine Wx.iload_n hC te_331_101 rfl ?_
              refine Wx.iald hC te_331_102 rfl H.1 (fun v12 e1 e2 => ?_)
              replace H := H.2 v12 e1 e2
              refine Wx.iload_n hC te_331_103 rfl ?_
              refine Wx.idiv hC te_331_104 H.1 ?_
              replace H := H.2
              refine Wx.isub hC te_331_105 H.1 ?_
              replace H := H.2
              refine Wx.iconst hC te_331_106 rfl ?_
              refine Wx.iload hC te_331_107 rfl ?_
              refine Wx.iconst hC te_331_109 rfl ?_
              refine Wx.isub hC te_331_110 H.1 ?_
              replace H := H.2
              refine Wx.statI hC te_331_111 (by decide) mt_227 (args := [.inl (x2 - ((v12 : Int).tdiv x3)), .inl 0, .inl (x4 - 1)]) (rest := []) rfl rfl rfl rfl rfl ?_
              refine CWI.mono hC (fun r14 m13 H hy => ?_) H
              replace H := H hy
              exact Wx.bret hC te_331_114 rfl H.1 H.2
            · replace H := H.2 q
              refine Wx.iconst hC te_331_94 rfl ?_
              exact Wx.bret hC te_331_95 rfl (Or.inl rfl) H
        · replace H := H.2 q
          refine Wx.iload_n hC te_331_53 rfl ?_
          refine Wx.iload hC te_331_54 rfl ?_
          refine Wx.aload_n hC te_331_56 rfl ?_
          refine Wx.iload_n hC te_331_57 rfl ?_
          refine Wx.virtI hC te_331_58 mt_301 (args := [.inr 143, .inl x3]) (rest := [.inl x4, .inl x2]) rfl rfl rfl rfl rfl rfl rfl rfl ?_
          refine CWI.mono hC (fun r16 m15 H hy => ?_) H
          replace H := H hy
          refine Wx.iadd hC te_331_61 H.1 ?_
          replace H := H.2
          refine Wx.iconst hC te_331_62 rfl ?_
          refine Wx.isub hC te_331_63 H.1 ?_
          replace H := H.2
          refine Wx.icmp hC (t := 70) te_331_64 (by decide) (fun q => ?_) (fun q => ?_)
          · replace H := H.1 q
            refine Wx.aload_n hC te_331_70 rfl ?_
            refine Wx.iload hC te_331_71 rfl ?_
            refine Wx.ifc hC (t := 83) te_331_73 (by decide) (fun q => ?_) (fun q => ?_)
            · replace H := H.1 q
              refine Wx.iconst hC te_331_83 rfl ?_
              refine Wx.putI hC te_331_84 rfl rfl rfl rfl ?_
              refine Wx.aload_n hC te_331_87 rfl ?_
              refine Wx.getI hC te_331_88 rfl rfl rfl (fun c17 e1 e2 => ?_)
              rw [upm_eq] at e1
              subst e1
              refine Wx.ifc hC (t := 96) te_331_91 (by decide) (fun q => ?_) (fun q => absurd (show (0 : Int) ≤ 0 by decide) q)
              refine Wx.iload_n hC te_331_96 rfl ?_
              refine Wx.aload_n hC te_331_97 rfl ?_
              refine Wx.getR hC te_331_98 rfl rfl rfl ?_
              refine Wx.iload_n hC te_331_101 rfl ?_
              refine Wx.iald hC te_331_102 rfl H.1 (fun v18 e1 e2 => ?_)
              replace H := H.2 v18 e1 e2
              refine Wx.iload_n hC te_331_103 rfl ?_
              refine Wx.idiv hC te_331_104 H.1 ?_
              replace H := H.2
              refine Wx.isub hC te_331_105 H.1 ?_
              replace H := H.2
              refine Wx.iconst hC te_331_106 rfl ?_
              refine Wx.iload hC te_331_107 rfl ?_
              refine Wx.iconst hC te_331_109 rfl ?_
              refine Wx.isub hC te_331_110 H.1 ?_
              replace H := H.2
              refine Wx.statI hC te_331_111 (by decide) mt_227 (args := [.inl (x2 - ((v18 : Int).tdiv x3)), .inl 0, .inl (x4 - 1)]) (rest := []) rfl rfl rfl rfl rfl ?_
              refine CWI.mono hC (fun r20 m19 H hy => ?_) H
              replace H := H hy
              exact Wx.bret hC te_331_114 rfl H.1 H.2
            · replace H := H.2 q
              refine Wx.iload hC te_331_76 rfl ?_
              refine Wx.iconst hC te_331_78 rfl ?_
              refine Wx.iadd hC te_331_79 H.1 ?_
              replace H := H.2
              refine Wx.goto hC (t := 84) te_331_80 (by decide) ?_
              refine Wx.putI hC te_331_84 rfl rfl rfl rfl ?_
              refine Wx.aload_n hC te_331_87 rfl ?_
              refine Wx.getI hC te_331_88 rfl rfl rfl (fun v21 e1 e2 => ?_)
              replace H := H v21 e1 e2
              refine Wx.ifc hC (t := 96) te_331_91 (by decide) (fun q => ?_) (fun q => ?_)
              · replace H := H.1 q
                refine Wx.iload_n hC te_331_96 rfl ?_
                refine Wx.aload_n hC te_331_97 rfl ?_
                refine Wx.getR hC te_331_98 rfl rfl rfl ?_
                refine Wx.iload_n hC te_331_101 rfl ?_
                refine Wx.iald hC te_331_102 rfl H.1 (fun v22 e1 e2 => ?_)
                replace H := H.2 v22 e1 e2
                refine Wx.iload_n hC te_331_103 rfl ?_
                refine Wx.idiv hC te_331_104 H.1 ?_
                replace H := H.2
                refine Wx.isub hC te_331_105 H.1 ?_
                replace H := H.2
                refine Wx.iconst hC te_331_106 rfl ?_
                refine Wx.iload hC te_331_107 rfl ?_
                refine Wx.iconst hC te_331_109 rfl ?_
                refine Wx.isub hC te_331_110 H.1 ?_
                replace H := H.2
                refine Wx.statI hC te_331_111 (by decide) mt_227 (args := [.inl (x2 - ((v22 : Int).tdiv x3)), .inl 0, .inl (x4 - 1)]) (rest := []) rfl rfl rfl rfl rfl ?_
                refine CWI.mono hC (fun r24 m23 H hy => ?_) H
                replace H := H hy
                exact Wx.bret hC te_331_114 rfl H.1 H.2
              · replace H := H.2 q
                refine Wx.iconst hC te_331_94 rfl ?_
                exact Wx.bret hC te_331_95 rfl (Or.inl rfl) H
          · replace H := H.2 q
            refine Wx.iconst hC te_331_67 rfl ?_
            refine Wx.istore hC te_331_68 rfl ?_
            refine Wx.aload_n hC te_331_70 rfl ?_
            refine Wx.iload hC te_331_71 rfl ?_
            refine Wx.ifc hC (t := 83) te_331_73 (by decide) (fun q => absurd q (show ¬ ((1 : Int) ≤ 0) by decide)) (fun q => ?_)
            refine Wx.iload hC te_331_76 rfl ?_
            refine Wx.iconst hC te_331_78 rfl ?_
            refine Wx.iadd hC te_331_79 (by unfold InI; omega) ?_
            change Wx C S M_331 K _ _ (.inl 2 :: _) _
            refine Wx.goto hC (t := 84) te_331_80 (by decide) ?_
            refine Wx.putI hC te_331_84 rfl rfl rfl rfl ?_
            refine Wx.aload_n hC te_331_87 rfl ?_
            refine Wx.getI hC te_331_88 rfl rfl rfl (fun c25 e1 e2 => ?_)
            rw [upm_eq] at e1
            subst e1
            refine Wx.ifc hC (t := 96) te_331_91 (by decide) (fun q => absurd q (show ¬ ((2 : Int) ≤ 0) by decide)) (fun q => ?_)
            refine Wx.iconst hC te_331_94 rfl ?_
            exact Wx.bret hC te_331_95 rfl (Or.inl rfl) H
      · replace H := H.2 q
        refine Wx.iconst hC te_331_35 rfl ?_
        refine Wx.goto hC (t := 46) te_331_36 (by decide) ?_
        refine Wx.istore hC te_331_46 rfl ?_
        refine Wx.iload hC te_331_48 rfl ?_
        refine Wx.ifc hC (t := 70) te_331_50 (by decide) (fun q => ?_) (fun q => absurd (show ¬ (1 : Int) = 0 by decide) q)
        refine Wx.aload_n hC te_331_70 rfl ?_
        refine Wx.iload hC te_331_71 rfl ?_
        refine Wx.ifc hC (t := 83) te_331_73 (by decide) (fun q => absurd q (show ¬ ((1 : Int) ≤ 0) by decide)) (fun q => ?_)
        refine Wx.iload hC te_331_76 rfl ?_
        refine Wx.iconst hC te_331_78 rfl ?_
        refine Wx.iadd hC te_331_79 (by unfold InI; omega) ?_
        change Wx C S M_331 K _ _ (.inl 2 :: _) _
        refine Wx.goto hC (t := 84) te_331_80 (by decide) ?_
        refine Wx.putI hC te_331_84 rfl rfl rfl rfl ?_
        refine Wx.aload_n hC te_331_87 rfl ?_
        refine Wx.getI hC te_331_88 rfl rfl rfl (fun c26 e1 e2 => ?_)
        rw [upm_eq] at e1
        subst e1
        refine Wx.ifc hC (t := 96) te_331_91 (by decide) (fun q => absurd q (show ¬ ((2 : Int) ≤ 0) by decide)) (fun q => ?_)
        refine Wx.iconst hC te_331_94 rfl ?_
        exact Wx.bret hC te_331_95 rfl (Or.inl rfl) H
  · replace H := H.2 q
    refine Wx.iconst hC te_331_9 rfl ?_
    refine Wx.goto hC (t := 14) te_331_10 (by decide) ?_
    refine Wx.putI hC te_331_14 rfl rfl rfl rfl ?_
    refine Wx.aload_n hC te_331_17 rfl ?_
    refine Wx.getI hC te_331_18 rfl rfl rfl (fun c27 e1 e2 => ?_)
    rw [upm_eq] at e1
    subst e1
    refine Wx.ifc hC (t := 26) te_331_21 (by decide) (fun q => absurd q (show ¬ ((1 : Int) ≤ 0) by decide)) (fun q => ?_)
    refine Wx.iconst hC te_331_24 rfl ?_
    exact Wx.bret hC te_331_25 rfl (Or.inl rfl) H
theorem w_332_0 {C : CXW} (hC : Cmono C) {S : Nat × (Nat → Int32)} {K : WK} {mem : MM} {x1 x2 : Int} (H : (CWI C 253 [.inl x1] mem fun r2 m1 => InI r2 → ((¬ r2 = 0 → (CWI C 268 [.inr 143, .inl x1] m1 fun r4 m3 => InI r4 → ((¬ r4 = 0 → ((x2 = 0 → ∀ v6 : Int, v6 = (upm m3 143 0 0) 143 1 → InI v6 → (CWI C 301 [.inr 143, .inl x1] (upm m3 143 0 0) fun r8 m7 => InI r8 → (InI (r8 - 1)) ∧ (InI (v6 * (r8 - 1))) ∧ (CWI C 296 [.inr 143, .inl x1] m7 fun r10 m9 => InI r10 → ∀ v11 : Int, v11 = m9 143 1 → InI v11 → (InI (r10 * v11)) ∧ (InI ((v6 * (r8 - 1)) + (r10 * v11))) ∧ (InI ((v6 * (r8 - 1)) + (r10 * v11)) → K (some ((v6 * (r8 - 1)) + (r10 * v11))) m9)))) ∧ (¬ (x2 = 0) → ∀ v12 : Int, v12 = (upm m3 143 0 0) 143 1 → InI v12 → (InI v12 → K (some v12) (upm m3 143 0 0))))) ∧ (¬ (¬ r4 = 0) → (InI 0 → K (some 0) (upm m3 143 0 2)))))) ∧ (¬ (¬ r2 = 0) → (InI 0 → K (some 0) (upm m1 143 0 1)))))) : Wx C S M_332 K 0 [some (.inr 143), some (.inl x1), some (.inl x2)] [] mem := by
  refine Wx.aload_n hC te_332_0 rfl ?_
  refine Wx.iload_n hC te_332_1 rfl ?_
  refine Wx.statI hC te_332_2 (by decide) mt_253 (args := [.inl x1]) (rest := [.inr 143]) rfl rfl rfl rfl rfl ?_
  refine CWI.mono hC (fun r2 m1 H hy => ?_) H
  replace H := H hy
  refine Wx.ifc hC (t := 12) te_332_5 (by decide) (fun q => ?_) (fun q => ?_)
  · replace H := H.1 q
    refine Wx.aload_n hC te_332_12 rfl ?_
    refine Wx.iload_n hC te_332_13 rfl ?_
    refine Wx.virtI hC te_332_14 mt_268 (args := [.inr 143, .inl x1]) (rest := [.inr 143]) rfl rfl rfl rfl rfl rfl rfl rfl ?_
    refine CWI.mono hC (fun r4 m3 H hy => ?_) H
    replace H := H hy
    refine Wx.ifc hC (t := 24) te_332_17 (by decide) (fun q => ?_) (fun q => ?_)
    · replace H := H.1 q
      refine Wx.iconst hC te_332_24 rfl ?_
      refine Wx.putI hC te_332_25 rfl rfl rfl rfl ?_
      refine Wx.aload_n hC te_332_28 rfl ?_
      refine Wx.getI hC te_332_29 rfl rfl rfl (fun c5 e1 e2 => ?_)
      rw [upm_eq] at e1
      subst e1
      refine Wx.ifc hC (t := 37) te_332_32 (by decide) (fun q => ?_) (fun q => absurd (show (0 : Int) ≤ 0 by decide) q)
      refine Wx.iload_n hC te_332_37 rfl ?_
      refine Wx.ifc hC (t := 48) te_332_38 (by decide) (fun q => ?_) (fun q => ?_)
      · replace H := H.1 q
        refine Wx.aload_n hC te_332_48 rfl ?_
        refine Wx.getI hC te_332_49 rfl rfl rfl (fun v6 e1 e2 => ?_)
        replace H := H v6 e1 e2
        refine Wx.aload_n hC te_332_52 rfl ?_
        refine Wx.iload_n hC te_332_53 rfl ?_
        refine Wx.virtI hC te_332_54 mt_301 (args := [.inr 143, .inl x1]) (rest := [.inl v6]) rfl rfl rfl rfl rfl rfl rfl rfl ?_
        refine CWI.mono hC (fun r8 m7 H hy => ?_) H
        replace H := H hy
        refine Wx.iconst hC te_332_57 rfl ?_
        refine Wx.isub hC te_332_58 H.1 ?_
        replace H := H.2
        refine Wx.imul hC te_332_59 H.1 ?_
        replace H := H.2
        refine Wx.aload_n hC te_332_60 rfl ?_
        refine Wx.iload_n hC te_332_61 rfl ?_
        refine Wx.virtI hC te_332_62 mt_296 (args := [.inr 143, .inl x1]) (rest := [.inl (v6 * (r8 - 1))]) rfl rfl rfl rfl rfl rfl rfl rfl ?_
        refine CWI.mono hC (fun r10 m9 H hy => ?_) H
        replace H := H hy
        refine Wx.aload_n hC te_332_65 rfl ?_
        refine Wx.getI hC te_332_66 rfl rfl rfl (fun v11 e1 e2 => ?_)
        replace H := H v11 e1 e2
        refine Wx.imul hC te_332_69 H.1 ?_
        replace H := H.2
        refine Wx.iadd hC te_332_70 H.1 ?_
        replace H := H.2
        exact Wx.ireturn hC te_332_71 rfl H
      · replace H := H.2 q
        refine Wx.aload_n hC te_332_41 rfl ?_
        refine Wx.getI hC te_332_42 rfl rfl rfl (fun v12 e1 e2 => ?_)
        replace H := H v12 e1 e2
        refine Wx.goto hC (t := 71) te_332_45 (by decide) ?_
        exact Wx.ireturn hC te_332_71 rfl H
    · replace H := H.2 q
      refine Wx.iconst hC te_332_20 rfl ?_
      refine Wx.goto hC (t := 25) te_332_21 (by decide) ?_
      refine Wx.putI hC te_332_25 rfl rfl rfl rfl ?_
      refine Wx.aload_n hC te_332_28 rfl ?_
      refine Wx.getI hC te_332_29 rfl rfl rfl (fun c13 e1 e2 => ?_)
      rw [upm_eq] at e1
      subst e1
      refine Wx.ifc hC (t := 37) te_332_32 (by decide) (fun q => absurd q (show ¬ ((2 : Int) ≤ 0) by decide)) (fun q => ?_)
      refine Wx.iconst hC te_332_35 rfl ?_
      exact Wx.ireturn hC te_332_36 rfl H
  · replace H := H.2 q
    refine Wx.iconst hC te_332_8 rfl ?_
    refine Wx.goto hC (t := 25) te_332_9 (by decide) ?_
    refine Wx.putI hC te_332_25 rfl rfl rfl rfl ?_
    refine Wx.aload_n hC te_332_28 rfl ?_
    refine Wx.getI hC te_332_29 rfl rfl rfl (fun c14 e1 e2 => ?_)
    rw [upm_eq] at e1
    subst e1
    refine Wx.ifc hC (t := 37) te_332_32 (by decide) (fun q => absurd q (show ¬ ((1 : Int) ≤ 0) by decide)) (fun q => ?_)
    refine Wx.iconst hC te_332_35 rfl ?_
    exact Wx.ireturn hC te_332_36 rfl H
theorem w_333_0 {C : CXW} (hC : Cmono C) {S : Nat × (Nat → Int32)} {K : WK} {mem : MM} {x1 x2 x3 : Int} (H : (CWI C 311 [.inr 143, .inl x1, .inl x2] mem fun r2 m1 => InI r2 → ((r2 ≤ 0 → (CWI C 334 [.inr 143, .inl x1, .inl x2] (upm m1 143 0 r2) fun r5 m4 => InI r5 → ((x3 = 0 → (InI r5 → K (some r5) m4)) ∧ (¬ (x3 = 0) → (CWI C 335 [.inr 143] m4 fun r7 m6 => InI r7 → (InI (r5 * r7)) ∧ (InI (x2 - r5)) ∧ (CWI C 313 [.inr 143, .inl x1, .inl (x2 - r5)] m6 fun r9 m8 => InI r9 → (InI ((r5 * r7) + r9)) ∧ (InI ((r5 * r7) + r9) → K (some ((r5 * r7) + r9)) m8))))))) ∧ (¬ (r2 ≤ 0) → (InI 0 → K (some 0) (upm m1 143 0 r2)))))) : Wx C S M_333 K 0 [some (.inr 143), some (.inl x1), some (.inl x2), some (.inl x3), none] [] mem := by
  refine Wx.aload_n hC te_333_0 rfl ?_
  refine Wx.aload_n hC te_333_1 rfl ?_
  refine Wx.iload_n hC te_333_2 rfl ?_
  refine Wx.iload_n hC te_333_3 rfl ?_
  refine Wx.virtI hC te_333_4 mt_311 (args := [.inr 143, .inl x1, .inl x2]) (rest := [.inr 143]) rfl rfl rfl rfl rfl rfl rfl rfl ?_
  refine CWI.mono hC (fun r2 m1 H hy => ?_) H
  replace H := H hy
  refine Wx.putI hC te_333_7 rfl rfl rfl rfl ?_
  refine Wx.aload_n hC te_333_10 rfl ?_
  refine Wx.getI hC te_333_11 rfl rfl rfl (fun c3 e1 e2 => ?_)
  rw [upm_eq] at e1
  subst e1
  refine Wx.ifc hC (t := 19) te_333_14 (by decide) (fun q => ?_) (fun q => ?_)
  · replace H := H.1 q
    refine Wx.aload_n hC te_333_19 rfl ?_
    refine Wx.iload_n hC te_333_20 rfl ?_
    refine Wx.iload_n hC te_333_21 rfl ?_
    refine Wx.virtI hC te_333_22 mt_334 (args := [.inr 143, .inl x1, .inl x2]) (rest := []) rfl rfl rfl rfl rfl rfl rfl rfl ?_
    refine CWI.mono hC (fun r5 m4 H hy => ?_) H
    replace H := H hy
    refine Wx.istore hC te_333_25 rfl ?_
    refine Wx.iload_n hC te_333_27 rfl ?_
    refine Wx.ifc hC (t := 51) te_333_28 (by decide) (fun q => ?_) (fun q => ?_)
    · replace H := H.1 q
      refine Wx.iload hC te_333_51 rfl ?_
      exact Wx.ireturn hC te_333_53 rfl H
    · replace H := H.2 q
      refine Wx.iload hC te_333_31 rfl ?_
      refine Wx.aload_n hC te_333_33 rfl ?_
      refine Wx.virtI hC te_333_34 mt_335 (args := [.inr 143]) (rest := [.inl r5]) rfl rfl rfl rfl rfl rfl rfl rfl ?_
      refine CWI.mono hC (fun r7 m6 H hy => ?_) H
      replace H := H hy
      refine Wx.imul hC te_333_37 H.1 ?_
      replace H := H.2
      refine Wx.aload_n hC te_333_38 rfl ?_
      refine Wx.iload_n hC te_333_39 rfl ?_
      refine Wx.iload_n hC te_333_40 rfl ?_
      refine Wx.iload hC te_333_41 rfl ?_
      refine Wx.isub hC te_333_43 H.1 ?_
      replace H := H.2
      refine Wx.virtI hC te_333_44 mt_313 (args := [.inr 143, .inl x1, .inl (x2 - r5)]) (rest := [.inl (r5 * r7)]) rfl rfl rfl rfl rfl rfl rfl rfl ?_
      refine CWI.mono hC (fun r9 m8 H hy => ?_) H
      replace H := H hy
      refine Wx.iadd hC te_333_47 H.1 ?_
      replace H := H.2
      refine Wx.goto hC (t := 53) te_333_48 (by decide) ?_
      exact Wx.ireturn hC te_333_53 rfl H
  · replace H := H.2 q
    refine Wx.iconst hC te_333_17 rfl ?_
    exact Wx.ireturn hC te_333_18 rfl H
theorem w_334_0 {C : CXW} (hC : Cmono C) {S : Nat × (Nat → Int32)} {K : WK} {mem : MM} {x1 x2 : Int} (H : (CWI C 301 [.inr 143, .inl x1] mem fun r2 m1 => InI r2 → ((r2 ≤ x2 → (CWI C 301 [.inr 143, .inl x1] m1 fun r4 m3 => InI r4 → (InI (x2 - r4)) ∧ (InI ((x2 - r4) + 1)) ∧ (CWI C 296 [.inr 143, .inl x1] m3 fun r6 m5 => InI r6 → (0 < r6) ∧ (InI ((((x2 - r4) + 1) : Int).tmod r6) → K (some ((((x2 - r4) + 1) : Int).tmod r6)) m5)))) ∧ (¬ (r2 ≤ x2) → (InI x2 → K (some x2) m1))))) : Wx C S M_334 K 0 [some (.inr 143), some (.inl x1), some (.inl x2)] [] mem := by
  refine Wx.iload_n hC te_334_0 rfl ?_
  refine Wx.aload_n hC te_334_1 rfl ?_
  refine Wx.iload_n hC te_334_2 rfl ?_
  refine Wx.virtI hC te_334_3 mt_301 (args := [.inr 143, .inl x1]) (rest := [.inl x2]) rfl rfl rfl rfl rfl rfl rfl rfl ?_
  refine CWI.mono hC (fun r2 m1 H hy => ?_) H
  replace H := H hy
  refine Wx.icmp hC (t := 13) te_334_6 (by decide) (fun q => ?_) (fun q => ?_)
  · replace H := H.1 q
    refine Wx.iload_n hC te_334_13 rfl ?_
    refine Wx.aload_n hC te_334_14 rfl ?_
    refine Wx.iload_n hC te_334_15 rfl ?_
    refine Wx.virtI hC te_334_16 mt_301 (args := [.inr 143, .inl x1]) (rest := [.inl x2]) rfl rfl rfl rfl rfl rfl rfl rfl ?_
    refine CWI.mono hC (fun r4 m3 H hy => ?_) H
    replace H := H hy
    refine Wx.isub hC te_334_19 H.1 ?_
    replace H := H.2
    refine Wx.iconst hC te_334_20 rfl ?_
    refine Wx.iadd hC te_334_21 H.1 ?_
    replace H := H.2
    refine Wx.aload_n hC te_334_22 rfl ?_
    refine Wx.iload_n hC te_334_23 rfl ?_
    refine Wx.virtI hC te_334_24 mt_296 (args := [.inr 143, .inl x1]) (rest := [.inl ((x2 - r4) + 1)]) rfl rfl rfl rfl rfl rfl rfl rfl ?_
    refine CWI.mono hC (fun r6 m5 H hy => ?_) H
    replace H := H hy
    refine Wx.irem hC te_334_27 H.1 ?_
    replace H := H.2
    exact Wx.ireturn hC te_334_28 rfl H
  · replace H := H.2 q
    refine Wx.iload_n hC te_334_9 rfl ?_
    refine Wx.goto hC (t := 28) te_334_10 (by decide) ?_
    exact Wx.ireturn hC te_334_28 rfl H
theorem w_336_0 {C : CXW} (hC : Cmono C) {S : Nat × (Nat → Int32)} {K : WK} {mem : MM} {x1 : Int} (H : (CWI C 253 [.inl x1] mem fun r2 m1 => InI r2 → ((¬ r2 = 0 → (CWI C 268 [.inr 143, .inl x1] m1 fun r4 m3 => InI r4 → ((¬ r4 = 0 → (Wx C S M_336 K 39 [some (.inr 143), some (.inl x1), some (.inl 1)] [] (upm m3 143 0 0))) ∧ (¬ (¬ r4 = 0) → (InI 0 → K (some 0) (upm m3 143 0 2)))))) ∧ (¬ (¬ r2 = 0) → (InI 0 → K (some 0) (upm m1 143 0 1)))))) : Wx C S M_336 K 0 [some (.inr 143), some (.inl x1), none] [] mem := by
  refine Wx.aload_n hC te_336_0 rfl ?_
  refine Wx.iload_n hC te_336_1 rfl ?_
  refine Wx.statI hC te_336_2 (by decide) mt_253 (args := [.inl x1]) (rest := [.inr 143]) rfl rfl rfl rfl rfl ?_
  refine CWI.mono hC (fun r2 m1 H hy => ?_) H
  replace H := H hy
  refine Wx.ifc hC (t := 12) te_336_5 (by decide) (fun q => ?_) (fun q => ?_)
  · replace H := H.1 q
    refine Wx.aload_n hC te_336_12 rfl ?_
    refine Wx.iload_n hC te_336_13 rfl ?_
    refine Wx.virtI hC te_336_14 mt_268 (args := [.inr 143, .inl x1]) (rest := [.inr 143]) rfl rfl rfl rfl rfl rfl rfl rfl ?_
    refine CWI.mono hC (fun r4 m3 H hy => ?_) H
    replace H := H hy
    refine Wx.ifc hC (t := 24) te_336_17 (by decide) (fun q => ?_) (fun q => ?_)
    · replace H := H.1 q
      refine Wx.iconst hC te_336_24 rfl ?_
      refine Wx.putI hC te_336_25 rfl rfl rfl rfl ?_
      refine Wx.aload_n hC te_336_28 rfl ?_
      refine Wx.getI hC te_336_29 rfl rfl rfl (fun c5 e1 e2 => ?_)
      rw [upm_eq] at e1
      subst e1
      refine Wx.ifc hC (t := 37) te_336_32 (by decide) (fun q => ?_) (fun q => absurd (show (0 : Int) ≤ 0 by decide) q)
      refine Wx.iconst hC te_336_37 rfl ?_
      refine Wx.istore_n hC te_336_38 rfl ?_
      exact H
    · replace H := H.2 q
      refine Wx.iconst hC te_336_20 rfl ?_
      refine Wx.goto hC (t := 25) te_336_21 (by decide) ?_
      refine Wx.putI hC te_336_25 rfl rfl rfl rfl ?_
      refine Wx.aload_n hC te_336_28 rfl ?_
      refine Wx.getI hC te_336_29 rfl rfl rfl (fun c6 e1 e2 => ?_)
      rw [upm_eq] at e1
      subst e1
      refine Wx.ifc hC (t := 37) te_336_32 (by decide) (fun q => absurd q (show ¬ ((2 : Int) ≤ 0) by decide)) (fun q => ?_)
      refine Wx.iconst hC te_336_35 rfl ?_
      exact Wx.ireturn hC te_336_36 rfl H
  · replace H := H.2 q
    refine Wx.iconst hC te_336_8 rfl ?_
    refine Wx.goto hC (t := 25) te_336_9 (by decide) ?_
    refine Wx.putI hC te_336_25 rfl rfl rfl rfl ?_
    refine Wx.aload_n hC te_336_28 rfl ?_
    refine Wx.getI hC te_336_29 rfl rfl rfl (fun c7 e1 e2 => ?_)
    rw [upm_eq] at e1
    subst e1
    refine Wx.ifc hC (t := 37) te_336_32 (by decide) (fun q => absurd q (show ¬ ((1 : Int) ≤ 0) by decide)) (fun q => ?_)
    refine Wx.iconst hC te_336_35 rfl ?_
    exact Wx.ireturn hC te_336_36 rfl H
theorem w_336_39 {C : CXW} (hC : Cmono C) {S : Nat × (Nat → Int32)} {K : WK} {mem : MM} {x1 x2 : Int} (H : ((40 < x2 → (InI (-1) → K (some (-1)) mem)) ∧ (¬ (40 < x2) → (CWI C 313 [.inr 143, .inl x1, .inl x2] mem fun r2 m1 => InI r2 → (CWI C 335 [.inr 143] m1 fun r4 m3 => InI r4 → (InI (x2 * r4)) ∧ (((x2 * r4) ≤ r2 → (InI (x2 + 1)) ∧ (Wx C S M_336 K 39 [some (.inr 143), some (.inl x1), some (.inl (x2 + 1))] [] m3)) ∧ (¬ ((x2 * r4) ≤ r2) → (InI x2 → K (some x2) m3)))))))) : Wx C S M_336 K 39 [some (.inr 143), some (.inl x1), some (.inl x2)] [] mem := by
  refine Wx.iload_n hC te_336_39 rfl ?_
  refine Wx.bipush hC te_336_40 rfl rfl ?_
  refine Wx.icmp hC (t := 68) te_336_42 (by decide) (fun q => ?_) (fun q => ?_)
  · replace H := H.1 q
    refine Wx.iconst hC te_336_68 rfl ?_
    exact Wx.ireturn hC te_336_69 rfl H
  · replace H := H.2 q
    refine Wx.aload_n hC te_336_45 rfl ?_
    refine Wx.iload_n hC te_336_46 rfl ?_
    refine Wx.iload_n hC te_336_47 rfl ?_
    refine Wx.virtI hC te_336_48 mt_313 (args := [.inr 143, .inl x1, .inl x2]) (rest := []) rfl rfl rfl rfl rfl rfl rfl rfl ?_
    refine CWI.mono hC (fun r2 m1 H hy => ?_) H
    replace H := H hy
    refine Wx.iload_n hC te_336_51 rfl ?_
    refine Wx.aload_n hC te_336_52 rfl ?_
    refine Wx.virtI hC te_336_53 mt_335 (args := [.inr 143]) (rest := [.inl x2, .inl r2]) rfl rfl rfl rfl rfl rfl rfl rfl ?_
    refine CWI.mono hC (fun r4 m3 H hy => ?_) H
    replace H := H hy
    refine Wx.imul hC te_336_56 H.1 ?_
    replace H := H.2
    refine Wx.icmp hC (t := 62) te_336_57 (by decide) (fun q => ?_) (fun q => ?_)
    · replace H := H.1 q
      refine Wx.iinc hC te_336_62 rfl rfl H.1 ?_
      replace H := H.2
      refine Wx.goto hC (t := 39) te_336_65 (by decide) ?_
      exact H
    · replace H := H.2 q
      refine Wx.iload_n hC te_336_60 rfl ?_
      exact Wx.ireturn hC te_336_61 rfl H
theorem w_356_0 {C : CXW} (hC : Cmono C) {S : Nat × (Nat → Int32)} {K : WK} {mem : MM} {x1 x2 : Int} (H : (CWI C 227 [.inl x1, .inl 0, .inl 2] mem fun r2 m1 => InI r2 → ((¬ r2 = 0 → (CWI C 253 [.inl x2] m1 fun r4 m3 => InI r4 → ((¬ r4 = 0 → (CWI C 268 [.inr 143, .inl x2] m3 fun r6 m5 => InI r6 → ((¬ r6 = 0 → ((0 : Int) ≤ x1 ∧ (x1 : Int) < 3) ∧ ∀ v8 : Int, v8 = (upm m5 143 0 0) 153 (Int.toNat x1) → InI v8 → (InI (x2 * v8)) ∧ (CWI C 263 [.inr 143, .inl x1] (upm m5 143 0 0) fun r10 m9 => InI r10 → (InI ((x2 * v8) - r10)) ∧ (InI ((x2 * v8) - r10) → K (some ((x2 * v8) - r10)) m9))) ∧ (¬ (¬ r6 = 0) → (InI 0 → K (some 0) (upm m5 143 0 3)))))) ∧ (¬ (¬ r4 = 0) → (InI 0 → K (some 0) (upm m3 143 0 2)))))) ∧ (¬ (¬ r2 = 0) → (InI 0 → K (some 0) (upm m1 143 0 1)))))) : Wx C S M_356 K 0 [some (.inr 143), some (.inl x1), some (.inl x2)] [] mem := by
  refine Wx.aload_n hC te_356_0 rfl ?_
  refine Wx.iload_n hC te_356_1 rfl ?_
  refine Wx.iconst hC te_356_2 rfl ?_
  refine Wx.iconst hC te_356_3 rfl ?_
  refine Wx.statI hC te_356_4 (by decide) mt_227 (args := [.inl x1, .inl 0, .inl 2]) (rest := [.inr 143]) rfl rfl rfl rfl rfl ?_
  refine CWI.mono hC (fun r2 m1 H hy => ?_) H
  replace H := H hy
  refine Wx.ifc hC (t := 14) te_356_7 (by decide) (fun q => ?_) (fun q => ?_)
  · replace H := H.1 q
    refine Wx.iload_n hC te_356_14 rfl ?_
    refine Wx.statI hC te_356_15 (by decide) mt_253 (args := [.inl x2]) (rest := [.inr 143]) rfl rfl rfl rfl rfl ?_
    refine CWI.mono hC (fun r4 m3 H hy => ?_) H
    replace H := H hy
    refine Wx.ifc hC (t := 25) te_356_18 (by decide) (fun q => ?_) (fun q => ?_)
    · replace H := H.1 q
      refine Wx.aload_n hC te_356_25 rfl ?_
      refine Wx.iload_n hC te_356_26 rfl ?_
      refine Wx.virtI hC te_356_27 mt_268 (args := [.inr 143, .inl x2]) (rest := [.inr 143]) rfl rfl rfl rfl rfl rfl rfl rfl ?_
      refine CWI.mono hC (fun r6 m5 H hy => ?_) H
      replace H := H hy
      refine Wx.ifc hC (t := 37) te_356_30 (by decide) (fun q => ?_) (fun q => ?_)
      · replace H := H.1 q
        refine Wx.iconst hC te_356_37 rfl ?_
        refine Wx.putI hC te_356_38 rfl rfl rfl rfl ?_
        refine Wx.aload_n hC te_356_41 rfl ?_
        refine Wx.getI hC te_356_42 rfl rfl rfl (fun c7 e1 e2 => ?_)
        rw [upm_eq] at e1
        subst e1
        refine Wx.ifc hC (t := 52) te_356_45 (by decide) (fun q => ?_) (fun q => absurd (show (0 : Int) ≤ 0 by decide) q)
        refine Wx.iload_n hC te_356_52 rfl ?_
        refine Wx.aload_n hC te_356_53 rfl ?_
        refine Wx.getR hC te_356_54 rfl rfl rfl ?_
        refine Wx.iload_n hC te_356_57 rfl ?_
        refine Wx.iald hC te_356_58 rfl H.1 (fun v8 e1 e2 => ?_)
        replace H := H.2 v8 e1 e2
        refine Wx.imul hC te_356_59 H.1 ?_
        replace H := H.2
        refine Wx.aload_n hC te_356_60 rfl ?_
        refine Wx.iload_n hC te_356_61 rfl ?_
        refine Wx.virtI hC te_356_62 mt_263 (args := [.inr 143, .inl x1]) (rest := [.inl (x2 * v8)]) rfl rfl rfl rfl rfl rfl rfl rfl ?_
        refine CWI.mono hC (fun r10 m9 H hy => ?_) H
        replace H := H hy
        refine Wx.isub hC te_356_65 H.1 ?_
        replace H := H.2
        exact Wx.ireturn hC te_356_66 rfl H
      · replace H := H.2 q
        refine Wx.iconst hC te_356_33 rfl ?_
        refine Wx.goto hC (t := 38) te_356_34 (by decide) ?_
        refine Wx.putI hC te_356_38 rfl rfl rfl rfl ?_
        refine Wx.aload_n hC te_356_41 rfl ?_
        refine Wx.getI hC te_356_42 rfl rfl rfl (fun c11 e1 e2 => ?_)
        rw [upm_eq] at e1
        subst e1
        refine Wx.ifc hC (t := 52) te_356_45 (by decide) (fun q => absurd q (show ¬ ((3 : Int) ≤ 0) by decide)) (fun q => ?_)
        refine Wx.iconst hC te_356_48 rfl ?_
        refine Wx.goto hC (t := 66) te_356_49 (by decide) ?_
        exact Wx.ireturn hC te_356_66 rfl H
    · replace H := H.2 q
      refine Wx.iconst hC te_356_21 rfl ?_
      refine Wx.goto hC (t := 38) te_356_22 (by decide) ?_
      refine Wx.putI hC te_356_38 rfl rfl rfl rfl ?_
      refine Wx.aload_n hC te_356_41 rfl ?_
      refine Wx.getI hC te_356_42 rfl rfl rfl (fun c12 e1 e2 => ?_)
      rw [upm_eq] at e1
      subst e1
      refine Wx.ifc hC (t := 52) te_356_45 (by decide) (fun q => absurd q (show ¬ ((2 : Int) ≤ 0) by decide)) (fun q => ?_)
      refine Wx.iconst hC te_356_48 rfl ?_
      refine Wx.goto hC (t := 66) te_356_49 (by decide) ?_
      exact Wx.ireturn hC te_356_66 rfl H
  · replace H := H.2 q
    refine Wx.iconst hC te_356_10 rfl ?_
    refine Wx.goto hC (t := 38) te_356_11 (by decide) ?_
    refine Wx.putI hC te_356_38 rfl rfl rfl rfl ?_
    refine Wx.aload_n hC te_356_41 rfl ?_
    refine Wx.getI hC te_356_42 rfl rfl rfl (fun c13 e1 e2 => ?_)
    rw [upm_eq] at e1
    subst e1
    refine Wx.ifc hC (t := 52) te_356_45 (by decide) (fun q => absurd q (show ¬ ((1 : Int) ≤ 0) by decide)) (fun q => ?_)
    refine Wx.iconst hC te_356_48 rfl ?_
    refine Wx.goto hC (t := 66) te_356_49 (by decide) ?_
    exact Wx.ireturn hC te_356_66 rfl H
theorem w_358_0 {C : CXW} (hC : Cmono C) {S : Nat × (Nat → Int32)} {K : WK} {mem : MM} {x1 : Int} (H : (CWI C 227 [.inl x1, .inl 0, .inl 99] mem fun r2 m1 => InI r2 → ((¬ r2 = 0 → (CWI C 240 [.inr 143] m1 fun r4 m3 => InI r4 → ((¬ r4 = 0 → (Wx C S M_358 K 41 [some (.inr 143), some (.inl x1), some (.inl 1)] [] (upm m3 143 0 0))) ∧ (¬ (¬ r4 = 0) → (InI 0 → K (some 0) (upm m3 143 0 2)))))) ∧ (¬ (¬ r2 = 0) → (InI 0 → K (some 0) (upm m1 143 0 1)))))) : Wx C S M_358 K 0 [some (.inr 143), some (.inl x1), none] [] mem := by
  refine Wx.aload_n hC te_358_0 rfl ?_
  refine Wx.iload_n hC te_358_1 rfl ?_
  refine Wx.iconst hC te_358_2 rfl ?_
  refine Wx.bipush hC te_358_3 rfl rfl ?_
  refine Wx.statI hC te_358_5 (by decide) mt_227 (args := [.inl x1, .inl 0, .inl 99]) (rest := [.inr 143]) rfl rfl rfl rfl rfl ?_
  refine CWI.mono hC (fun r2 m1 H hy => ?_) H
  replace H := H hy
  refine Wx.ifc hC (t := 15) te_358_8 (by decide) (fun q => ?_) (fun q => ?_)
  · replace H := H.1 q
    refine Wx.aload_n hC te_358_15 rfl ?_
    refine Wx.virtI hC te_358_16 mt_240 (args := [.inr 143]) (rest := [.inr 143]) rfl rfl rfl rfl rfl rfl rfl rfl ?_
    refine CWI.mono hC (fun r4 m3 H hy => ?_) H
    replace H := H hy
    refine Wx.ifc hC (t := 26) te_358_19 (by decide) (fun q => ?_) (fun q => ?_)
    · replace H := H.1 q
      refine Wx.iconst hC te_358_26 rfl ?_
      refine Wx.putI hC te_358_27 rfl rfl rfl rfl ?_
      refine Wx.aload_n hC te_358_30 rfl ?_
      refine Wx.getI hC te_358_31 rfl rfl rfl (fun c5 e1 e2 => ?_)
      rw [upm_eq] at e1
      subst e1
      refine Wx.ifc hC (t := 39) te_358_34 (by decide) (fun q => ?_) (fun q => absurd (show (0 : Int) ≤ 0 by decide) q)
      refine Wx.iconst hC te_358_39 rfl ?_
      refine Wx.istore_n hC te_358_40 rfl ?_
      exact H
    · replace H := H.2 q
      refine Wx.iconst hC te_358_22 rfl ?_
      refine Wx.goto hC (t := 27) te_358_23 (by decide) ?_
      refine Wx.putI hC te_358_27 rfl rfl rfl rfl ?_
      refine Wx.aload_n hC te_358_30 rfl ?_
      refine Wx.getI hC te_358_31 rfl rfl rfl (fun c6 e1 e2 => ?_)
      rw [upm_eq] at e1
      subst e1
      refine Wx.ifc hC (t := 39) te_358_34 (by decide) (fun q => absurd q (show ¬ ((2 : Int) ≤ 0) by decide)) (fun q => ?_)
      refine Wx.iconst hC te_358_37 rfl ?_
      exact Wx.ireturn hC te_358_38 rfl H
  · replace H := H.2 q
    refine Wx.iconst hC te_358_11 rfl ?_
    refine Wx.goto hC (t := 27) te_358_12 (by decide) ?_
    refine Wx.putI hC te_358_27 rfl rfl rfl rfl ?_
    refine Wx.aload_n hC te_358_30 rfl ?_
    refine Wx.getI hC te_358_31 rfl rfl rfl (fun c7 e1 e2 => ?_)
    rw [upm_eq] at e1
    subst e1
    refine Wx.ifc hC (t := 39) te_358_34 (by decide) (fun q => absurd q (show ¬ ((1 : Int) ≤ 0) by decide)) (fun q => ?_)
    refine Wx.iconst hC te_358_37 rfl ?_
    exact Wx.ireturn hC te_358_38 rfl H
theorem w_358_41 {C : CXW} (hC : Cmono C) {S : Nat × (Nat → Int32)} {K : WK} {mem : MM} {x1 x2 : Int} (H : ((12 < x2 → (InI (-1) → K (some (-1)) mem)) ∧ (¬ (12 < x2) → (CWI C 268 [.inr 143, .inl x2] mem fun r2 m1 => InI r2 → ((r2 = 0 → (InI (x2 + 1)) ∧ (Wx C S M_358 K 41 [some (.inr 143), some (.inl x1), some (.inl (x2 + 1))] [] m1)) ∧ (¬ (r2 = 0) → (CWI C 302 [.inr 143, .inl x2] m1 fun r4 m3 => InI r4 → ((x1 < r4 → (InI (x2 + 1)) ∧ (Wx C S M_358 K 41 [some (.inr 143), some (.inl x1), some (.inl (x2 + 1))] [] m3)) ∧ (¬ (x1 < r4) → (InI x2 → K (some x2) m3)))))))))) : Wx C S M_358 K 41 [some (.inr 143), some (.inl x1), some (.inl x2)] [] mem := by
  refine Wx.iload_n hC te_358_41 rfl ?_
  refine Wx.bipush hC te_358_42 rfl rfl ?_
  refine Wx.icmp hC (t := 72) te_358_44 (by decide) (fun q => ?_) (fun q => ?_)
  · replace H := H.1 q
    refine Wx.iconst hC te_358_72 rfl ?_
    exact Wx.ireturn hC te_358_73 rfl H
  · replace H := H.2 q
    refine Wx.aload_n hC te_358_47 rfl ?_
    refine Wx.iload_n hC te_358_48 rfl ?_
    refine Wx.virtI hC te_358_49 mt_268 (args := [.inr 143, .inl x2]) (rest := []) rfl rfl rfl rfl rfl rfl rfl rfl ?_
    refine CWI.mono hC (fun r2 m1 H hy => ?_) H
    replace H := H hy
    refine Wx.ifc hC (t := 66) te_358_52 (by decide) (fun q => ?_) (fun q => ?_)
    · replace H := H.1 q
      refine Wx.iinc hC te_358_66 rfl rfl H.1 ?_
      replace H := H.2
      refine Wx.goto hC (t := 41) te_358_69 (by decide) ?_
      exact H
    · replace H := H.2 q
      refine Wx.aload_n hC te_358_55 rfl ?_
      refine Wx.iload_n hC te_358_56 rfl ?_
      refine Wx.virtI hC te_358_57 mt_302 (args := [.inr 143, .inl x2]) (rest := []) rfl rfl rfl rfl rfl rfl rfl rfl ?_
      refine CWI.mono hC (fun r4 m3 H hy => ?_) H
      replace H := H hy
      refine Wx.iload_n hC te_358_60 rfl ?_
      refine Wx.icmp hC (t := 66) te_358_61 (by decide) (fun q => ?_) (fun q => ?_)
      · replace H := H.1 q
        refine Wx.iinc hC te_358_66 rfl rfl H.1 ?_
        replace H := H.2
        refine Wx.goto hC (t := 41) te_358_69 (by decide) ?_
        exact H
      · replace H := H.2 q
        refine Wx.iload_n hC te_358_64 rfl ?_
        exact Wx.ireturn hC te_358_65 rfl H
theorem w_359_0 {C : CXW} (hC : Cmono C) {S : Nat × (Nat → Int32)} {K : WK} {mem : MM} {x1 x2 x3 : Int} (H : (CWI C 235 [.inr 143, .inl x1] mem fun r2 m1 => InI r2 → ((¬ r2 = 0 → (CWI C 253 [.inl x2] m1 fun r4 m3 => InI r4 → ((¬ r4 = 0 → (CWI C 254 [.inr 143, .inl x2] m3 fun r6 m5 => InI r6 → ((r6 = 0 → (CWV C 256 [.inr 143, .inl x2] (upm m5 143 0 0) fun m8 => (CWV C 360 [.inr 143, .inl x2] m8 fun m9 => ((x3 = 0 → ((0 : Int) ≤ x1 ∧ (x1 : Int) < 8) ∧ ∀ v10 : Int, v10 = m9 171 (Int.toNat x1) → InI v10 → (InI v10 → K (some v10) m9)) ∧ (¬ (x3 = 0) → ((0 : Int) ≤ x1 ∧ (x1 : Int) < 8) ∧ ∀ v11 : Int, v11 = m9 172 (Int.toNat x1) → InI v11 → (InI v11 → K (some v11) m9)))))) ∧ (¬ (r6 = 0) → (InI 0 → K (some 0) (upm m5 143 0 3)))))) ∧ (¬ (¬ r4 = 0) → (InI 0 → K (some 0) (upm m3 143 0 2)))))) ∧ (¬ (¬ r2 = 0) → (InI 0 → K (some 0) (upm m1 143 0 1)))))) : Wx C S M_359 K 0 [some (.inr 143), some (.inl x1), some (.inl x2), some (.inl x3)] [] mem := by
  refine Wx.aload_n hC te_359_0 rfl ?_
  refine Wx.aload_n hC te_359_1 rfl ?_
  refine Wx.iload_n hC te_359_2 rfl ?_
  refine Wx.virtI hC te_359_3 mt_235 (args := [.inr 143, .inl x1]) (rest := [.inr 143]) rfl rfl rfl rfl rfl rfl rfl rfl ?_
  refine CWI.mono hC (fun r2 m1 H hy => ?_) H
  replace H := H hy
  refine Wx.ifc hC (t := 13) te_359_6 (by decide) (fun q => ?_) (fun q => ?_)
  · replace H := H.1 q
    refine Wx.iload_n hC te_359_13 rfl ?_
    refine Wx.statI hC te_359_14 (by decide) mt_253 (args := [.inl x2]) (rest := [.inr 143]) rfl rfl rfl rfl rfl ?_
    refine CWI.mono hC (fun r4 m3 H hy => ?_) H
    replace H := H hy
    refine Wx.ifc hC (t := 24) te_359_17 (by decide) (fun q => ?_) (fun q => ?_)
    · replace H := H.1 q
      refine Wx.aload_n hC te_359_24 rfl ?_
      refine Wx.iload_n hC te_359_25 rfl ?_
      refine Wx.virtI hC te_359_26 mt_254 (args := [.inr 143, .inl x2]) (rest := [.inr 143]) rfl rfl rfl rfl rfl rfl rfl rfl ?_
      refine CWI.mono hC (fun r6 m5 H hy => ?_) H
      replace H := H hy
      refine Wx.ifc hC (t := 36) te_359_29 (by decide) (fun q => ?_) (fun q => ?_)
      · replace H := H.1 q
        refine Wx.iconst hC te_359_36 rfl ?_
        refine Wx.putI hC te_359_37 rfl rfl rfl rfl ?_
        refine Wx.aload_n hC te_359_40 rfl ?_
        refine Wx.getI hC te_359_41 rfl rfl rfl (fun c7 e1 e2 => ?_)
        rw [upm_eq] at e1
        subst e1
        refine Wx.ifc hC (t := 49) te_359_44 (by decide) (fun q => ?_) (fun q => absurd (show (0 : Int) ≤ 0 by decide) q)
        refine Wx.aload_n hC te_359_49 rfl ?_
        refine Wx.iload_n hC te_359_50 rfl ?_
        refine Wx.virtV hC te_359_51 mt_256 (args := [.inr 143, .inl x2]) (rest := []) rfl rfl rfl rfl rfl rfl rfl rfl ?_
        refine CWV.mono hC (fun m8 H => ?_) H
        refine Wx.aload_n hC te_359_54 rfl ?_
        refine Wx.iload_n hC te_359_55 rfl ?_
        refine Wx.virtV hC te_359_56 mt_360 (args := [.inr 143, .inl x2]) (rest := []) rfl rfl rfl rfl rfl rfl rfl rfl ?_
        refine CWV.mono hC (fun m9 H => ?_) H
        refine Wx.iload_n hC te_359_59 rfl ?_
        refine Wx.ifc hC (t := 72) te_359_60 (by decide) (fun q => ?_) (fun q => ?_)
        · replace H := H.1 q
          refine Wx.aload_n hC te_359_72 rfl ?_
          refine Wx.getR hC te_359_73 rfl rfl rfl ?_
          refine Wx.iload_n hC te_359_76 rfl ?_
          refine Wx.iald hC te_359_77 rfl H.1 (fun v10 e1 e2 => ?_)
          replace H := H.2 v10 e1 e2
          exact Wx.ireturn hC te_359_78 rfl H
        · replace H := H.2 q
          refine Wx.aload_n hC te_359_63 rfl ?_
          refine Wx.getR hC te_359_64 rfl rfl rfl ?_
          refine Wx.iload_n hC te_359_67 rfl ?_
          refine Wx.iald hC te_359_68 rfl H.1 (fun v11 e1 e2 => ?_)
          replace H := H.2 v11 e1 e2
          refine Wx.goto hC (t := 78) te_359_69 (by decide) ?_
          exact Wx.ireturn hC te_359_78 rfl H
      · replace H := H.2 q
        refine Wx.iconst hC te_359_32 rfl ?_
        refine Wx.goto hC (t := 37) te_359_33 (by decide) ?_
        refine Wx.putI hC te_359_37 rfl rfl rfl rfl ?_
        refine Wx.aload_n hC te_359_40 rfl ?_
        refine Wx.getI hC te_359_41 rfl rfl rfl (fun c12 e1 e2 => ?_)
        rw [upm_eq] at e1
        subst e1
        refine Wx.ifc hC (t := 49) te_359_44 (by decide) (fun q => absurd q (show ¬ ((3 : Int) ≤ 0) by decide)) (fun q => ?_)
        refine Wx.iconst hC te_359_47 rfl ?_
        exact Wx.ireturn hC te_359_48 rfl H
    · replace H := H.2 q
      refine Wx.iconst hC te_359_20 rfl ?_
      refine Wx.goto hC (t := 37) te_359_21 (by decide) ?_
      refine Wx.putI hC te_359_37 rfl rfl rfl rfl ?_
      refine Wx.aload_n hC te_359_40 rfl ?_
      refine Wx.getI hC te_359_41 rfl rfl rfl (fun c13 e1 e2 => ?_)
      rw [upm_eq] at e1
      subst e1
      refine Wx.ifc hC (t := 49) te_359_44 (by decide) (fun q => absurd q (show ¬ ((2 : Int) ≤ 0) by decide)) (fun q => ?_)
      refine Wx.iconst hC te_359_47 rfl ?_
      exact Wx.ireturn hC te_359_48 rfl H
  · replace H := H.2 q
    refine Wx.iconst hC te_359_9 rfl ?_
    refine Wx.goto hC (t := 37) te_359_10 (by decide) ?_
    refine Wx.putI hC te_359_37 rfl rfl rfl rfl ?_
    refine Wx.aload_n hC te_359_40 rfl ?_
    refine Wx.getI hC te_359_41 rfl rfl rfl (fun c14 e1 e2 => ?_)
    rw [upm_eq] at e1
    subst e1
    refine Wx.ifc hC (t := 49) te_359_44 (by decide) (fun q => absurd q (show ¬ ((1 : Int) ≤ 0) by decide)) (fun q => ?_)
    refine Wx.iconst hC te_359_47 rfl ?_
    exact Wx.ireturn hC te_359_48 rfl H
theorem w_360_0 {C : CXW} (hC : Cmono C) {S : Nat × (Nat → Int32)} {K : WK} {mem : MM} {x1 : Int} (H : (Wx C S M_360 K 4 [some (.inr 143), some (.inl x1), some (.inl 0), some (.inl 0), none] [] mem)) : Wx C S M_360 K 0 [some (.inr 143), some (.inl x1), none, none, none] [] mem := by
  refine Wx.iconst hC te_360_0 rfl ?_
  refine Wx.istore_n hC te_360_1 rfl ?_
  refine Wx.iconst hC te_360_2 rfl ?_
  refine Wx.istore_n hC te_360_3 rfl ?_
  exact H
theorem w_360_4 {C : CXW} (hC : Cmono C) {S : Nat × (Nat → Int32)} {K : WK} {mem : MM} {x1 x2 x3 : Int} (H : ∀ v1 : Int, v1 = mem 143 1 → InI v1 → ((v1 ≤ x3 → (Wx C S M_360 K 89 [some (.inr 143), some (.inl x1), some (.inl x2), some (.inl 0), none] [] mem)) ∧ (¬ (v1 ≤ x3) → ((0 : Int) ≤ x3 ∧ (x3 : Int) < 8) ∧ (Wx C S M_360 K 22 [some (.inr 143), some (.inl x1), some (.inl x2), some (.inl x3), some (.inl 0)] [] (upm mem 171 (Int.toNat x3) 0))))) : Wx C S M_360 K 4 [some (.inr 143), some (.inl x1), some (.inl x2), some (.inl x3), none] [] mem := by
  refine Wx.iload_n hC te_360_4 rfl ?_
  refine Wx.aload_n hC te_360_5 rfl ?_
  refine Wx.getI hC te_360_6 rfl rfl rfl (fun v1 e1 e2 => ?_)
  replace H := H v1 e1 e2
  refine Wx.icmp hC (t := 87) te_360_9 (by decide) (fun q => ?_) (fun q => ?_)
  · replace H := H.1 q
    refine Wx.iconst hC te_360_87 rfl ?_
    refine Wx.istore_n hC te_360_88 rfl ?_
    exact H
  · replace H := H.2 q
    refine Wx.aload_n hC te_360_12 rfl ?_
    refine Wx.getR hC te_360_13 rfl rfl rfl ?_
    refine Wx.iload_n hC te_360_16 rfl ?_
    refine Wx.iconst hC te_360_17 rfl ?_
    refine Wx.iast hC te_360_18 rfl H.1 ?_
    replace H := H.2
    refine Wx.iconst hC te_360_19 rfl ?_
    refine Wx.istore hC te_360_20 rfl ?_
    exact H
theorem w_360_22 {C : CXW} (hC : Cmono C) {S : Nat × (Nat → Int32)} {K : WK} {mem : MM} {x1 x2 x3 x4 : Int} (H : ∀ v1 : Int, v1 = mem 143 1 → InI v1 → ((v1 ≤ x4 → ((0 : Int) ≤ x3 ∧ (x3 : Int) < 8) ∧ ∀ v2 : Int, v2 = mem 171 (Int.toNat x3) → InI v2 → (CWI C 246 [.inr 143, .inl x3] mem fun r4 m3 => InI r4 → (InI (v2 + r4)) ∧ (CWI C 257 [.inl x2, .inl (v2 + r4)] m3 fun r6 m5 => InI r6 → (InI (x3 + 1)) ∧ (Wx C S M_360 K 4 [some (.inr 143), some (.inl x1), some (.inl r6), some (.inl (x3 + 1)), none] [] m5)))) ∧ (¬ (v1 ≤ x4) → ((0 : Int) ≤ x3 ∧ (x3 : Int) < 8) ∧ ∀ v7 : Int, v7 = mem 171 (Int.toNat x3) → InI v7 → (InI (8 * x4)) ∧ (InI ((8 * x4) + x3)) ∧ ((0 : Int) ≤ ((8 * x4) + x3) ∧ (((8 * x4) + x3) : Int) < 64) ∧ ∀ v8 : Int, v8 = mem 158 (Int.toNat ((8 * x4) + x3)) → InI v8 → (CWI C 257 [.inl v7, .inl v8] mem fun r10 m9 => InI r10 → ((0 : Int) ≤ x3 ∧ (x3 : Int) < 8) ∧ (InI (x4 + 1)) ∧ (Wx C S M_360 K 22 [some (.inr 143), some (.inl x1), some (.inl x2), some (.inl x3), some (.inl (x4 + 1))] [] (upm m9 171 (Int.toNat x3) r10)))))) : Wx C S M_360 K 22 [some (.inr 143), some (.inl x1), some (.inl x2), some (.inl x3), some (.inl x4)] [] mem := by
  refine Wx.iload hC te_360_22 rfl ?_
  refine Wx.aload_n hC te_360_24 rfl ?_
  refine Wx.getI hC te_360_25 rfl rfl rfl (fun v1 e1 e2 => ?_)
  replace H := H v1 e1 e2
  refine Wx.icmp hC (t := 64) te_360_28 (by decide) (fun q => ?_) (fun q => ?_)
  · replace H := H.1 q
    refine Wx.iload_n hC te_360_64 rfl ?_
    refine Wx.aload_n hC te_360_65 rfl ?_
    refine Wx.getR hC te_360_66 rfl rfl rfl ?_
    refine Wx.iload_n hC te_360_69 rfl ?_
    refine Wx.iald hC te_360_70 rfl H.1 (fun v2 e1 e2 => ?_)
    replace H := H.2 v2 e1 e2
    refine Wx.aload_n hC te_360_71 rfl ?_
    refine Wx.iload_n hC te_360_72 rfl ?_
    refine Wx.virtI hC te_360_73 mt_246 (args := [.inr 143, .inl x3]) (rest := [.inl v2, .inl x2]) rfl rfl rfl rfl rfl rfl rfl rfl ?_
    refine CWI.mono hC (fun r4 m3 H hy => ?_) H
    replace H := H hy
    refine Wx.iadd hC te_360_76 H.1 ?_
    replace H := H.2
    refine Wx.statI hC te_360_77 (by decide) mt_257 (args := [.inl x2, .inl (v2 + r4)]) (rest := []) rfl rfl rfl rfl rfl ?_
    refine CWI.mono hC (fun r6 m5 H hy => ?_) H
    replace H := H hy
    refine Wx.istore_n hC te_360_80 rfl ?_
    refine Wx.iinc hC te_360_81 rfl rfl H.1 ?_
    replace H := H.2
    refine Wx.goto hC (t := 4) te_360_84 (by decide) ?_
    exact Wx.weak (by repeat' (first | exact trivial | exact rfl | constructor)) H
  · replace H := H.2 q
    refine Wx.aload_n hC te_360_31 rfl ?_
    refine Wx.getR hC te_360_32 rfl rfl rfl ?_
    refine Wx.iload_n hC te_360_35 rfl ?_
    refine Wx.aload_n hC te_360_36 rfl ?_
    refine Wx.getR hC te_360_37 rfl rfl rfl ?_
    refine Wx.iload_n hC te_360_40 rfl ?_
    refine Wx.iald hC te_360_41 rfl H.1 (fun v7 e1 e2 => ?_)
    replace H := H.2 v7 e1 e2
    refine Wx.aload_n hC te_360_42 rfl ?_
    refine Wx.getR hC te_360_43 rfl rfl rfl ?_
    refine Wx.bipush hC te_360_46 rfl rfl ?_
    refine Wx.iload hC te_360_48 rfl ?_
    refine Wx.imul hC te_360_50 H.1 ?_
    replace H := H.2
    refine Wx.iload_n hC te_360_51 rfl ?_
    refine Wx.iadd hC te_360_52 H.1 ?_
    replace H := H.2
    refine Wx.iald hC te_360_53 rfl H.1 (fun v8 e1 e2 => ?_)
    replace H := H.2 v8 e1 e2
    refine Wx.statI hC te_360_54 (by decide) mt_257 (args := [.inl v7, .inl v8]) (rest := [.inl x3, .inr 171]) rfl rfl rfl rfl rfl ?_
    refine CWI.mono hC (fun r10 m9 H hy => ?_) H
    replace H := H hy
    refine Wx.iast hC te_360_57 rfl H.1 ?_
    replace H := H.2
    refine Wx.iinc hC te_360_58 rfl rfl H.1 ?_
    replace H := H.2
    refine Wx.goto hC (t := 22) te_360_61 (by decide) ?_
    exact H
theorem w_360_89 {C : CXW} (hC : Cmono C) {S : Nat × (Nat → Int32)} {K : WK} {mem : MM} {x1 x2 x3 : Int} (H : ∀ v1 : Int, v1 = mem 143 1 → InI v1 → ((v1 ≤ x3 → (K none mem)) ∧ (¬ (v1 ≤ x3) → (CWI C 246 [.inr 143, .inl x3] mem fun r3 m2 => InI r3 → (InI (x2 - r3)) ∧ ((0 : Int) ≤ x3 ∧ (x3 : Int) < 8) ∧ (Wx C S M_360 K 113 [some (.inr 143), some (.inl x1), some (.inl x2), some (.inl x3), some (.inl 0)] [] (upm m2 172 (Int.toNat x3) (x2 - r3))))))) : Wx C S M_360 K 89 [some (.inr 143), some (.inl x1), some (.inl x2), some (.inl x3), none] [] mem := by
  refine Wx.iload_n hC te_360_89 rfl ?_
  refine Wx.aload_n hC te_360_90 rfl ?_
  refine Wx.getI hC te_360_91 rfl rfl rfl (fun v1 e1 e2 => ?_)
  replace H := H v1 e1 e2
  refine Wx.icmp hC (t := 188) te_360_94 (by decide) (fun q => ?_) (fun q => ?_)
  · replace H := H.1 q
    exact Wx.vret hC te_360_188 rfl H
  · replace H := H.2 q
    refine Wx.aload_n hC te_360_97 rfl ?_
    refine Wx.getR hC te_360_98 rfl rfl rfl ?_
    refine Wx.iload_n hC te_360_101 rfl ?_
    refine Wx.iload_n hC te_360_102 rfl ?_
    refine Wx.aload_n hC te_360_103 rfl ?_
    refine Wx.iload_n hC te_360_104 rfl ?_
    refine Wx.virtI hC te_360_105 mt_246 (args := [.inr 143, .inl x3]) (rest := [.inl x2, .inl x3, .inr 172]) rfl rfl rfl rfl rfl rfl rfl rfl ?_
    refine CWI.mono hC (fun r3 m2 H hy => ?_) H
    replace H := H hy
    refine Wx.isub hC te_360_108 H.1 ?_
    replace H := H.2
    refine Wx.iast hC te_360_109 rfl H.1 ?_
    replace H := H.2
    refine Wx.iconst hC te_360_110 rfl ?_
    refine Wx.istore hC te_360_111 rfl ?_
    exact H
theorem w_360_113 {C : CXW} (hC : Cmono C) {S : Nat × (Nat → Int32)} {K : WK} {mem : MM} {x1 x2 x3 x4 : Int} (H : ∀ v1 : Int, v1 = mem 143 1 → InI v1 → ((v1 ≤ x4 → (InI (x3 + 1)) ∧ (Wx C S M_360 K 89 [some (.inr 143), some (.inl x1), some (.inl x2), some (.inl (x3 + 1)), none] [] mem)) ∧ (¬ (v1 ≤ x4) → (InI (8 * x3)) ∧ (InI ((8 * x3) + x4)) ∧ ((0 : Int) ≤ ((8 * x3) + x4) ∧ (((8 * x3) + x4) : Int) < 64) ∧ ∀ v2 : Int, v2 = mem 158 (Int.toNat ((8 * x3) + x4)) → InI v2 → ((v2 ≤ (-1000) → (InI (x4 + 1)) ∧ (Wx C S M_360 K 113 [some (.inr 143), some (.inl x1), some (.inl x2), some (.inl x3), some (.inl (x4 + 1))] [] mem)) ∧ (¬ (v2 ≤ (-1000)) → ((0 : Int) ≤ x3 ∧ (x3 : Int) < 8) ∧ ∀ v3 : Int, v3 = mem 172 (Int.toNat x3) → InI v3 → (CWI C 246 [.inr 143, .inl x4] mem fun r5 m4 => InI r5 → (InI (x2 - r5)) ∧ (InI (8 * x3)) ∧ (InI ((8 * x3) + x4)) ∧ ((0 : Int) ≤ ((8 * x3) + x4) ∧ (((8 * x3) + x4) : Int) < 64) ∧ ∀ v6 : Int, v6 = m4 158 (Int.toNat ((8 * x3) + x4)) → InI v6 → (InI ((x2 - r5) - v6)) ∧ (CWI C 258 [.inl v3, .inl ((x2 - r5) - v6)] m4 fun r8 m7 => InI r8 → ((0 : Int) ≤ x3 ∧ (x3 : Int) < 8) ∧ (InI (x4 + 1)) ∧ (Wx C S M_360 K 113 [some (.inr 143), some (.inl x1), some (.inl x2), some (.inl x3), some (.inl (x4 + 1))] [] (upm m7 172 (Int.toNat x3) r8))))))))) : Wx C S M_360 K 113 [some (.inr 143), some (.inl x1), some (.inl x2), some (.inl x3), some (.inl x4)] [] mem := by
  refine Wx.iload hC te_360_113 rfl ?_
  refine Wx.aload_n hC te_360_115 rfl ?_
  refine Wx.getI hC te_360_116 rfl rfl rfl (fun v1 e1 e2 => ?_)
  replace H := H v1 e1 e2
  refine Wx.icmp hC (t := 182) te_360_119 (by decide) (fun q => ?_) (fun q => ?_)
  · replace H := H.1 q
    refine Wx.iinc hC te_360_182 rfl rfl H.1 ?_
    replace H := H.2
    refine Wx.goto hC (t := 89) te_360_185 (by decide) ?_
    exact Wx.weak (by repeat' (first | exact trivial | exact rfl | constructor)) H
  · replace H := H.2 q
    refine Wx.aload_n hC te_360_122 rfl ?_
    refine Wx.getR hC te_360_123 rfl rfl rfl ?_
    refine Wx.bipush hC te_360_126 rfl rfl ?_
    refine Wx.iload_n hC te_360_128 rfl ?_
    refine Wx.imul hC te_360_129 H.1 ?_
    replace H := H.2
    refine Wx.iload hC te_360_130 rfl ?_
    refine Wx.iadd hC te_360_132 H.1 ?_
    replace H := H.2
    refine Wx.iald hC te_360_133 rfl H.1 (fun v2 e1 e2 => ?_)
    replace H := H.2 v2 e1 e2
    refine Wx.sipush hC te_360_134 rfl rfl ?_
    refine Wx.icmp hC (t := 176) te_360_137 (by decide) (fun q => ?_) (fun q => ?_)
    · replace H := H.1 q
      refine Wx.iinc hC te_360_176 rfl rfl H.1 ?_
      replace H := H.2
      refine Wx.goto hC (t := 113) te_360_179 (by decide) ?_
      exact H
    · replace H := H.2 q
      refine Wx.aload_n hC te_360_140 rfl ?_
      refine Wx.getR hC te_360_141 rfl rfl rfl ?_
      refine Wx.iload_n hC te_360_144 rfl ?_
      refine Wx.aload_n hC te_360_145 rfl ?_
      refine Wx.getR hC te_360_146 rfl rfl rfl ?_
      refine Wx.iload_n hC te_360_149 rfl ?_
      refine Wx.iald hC te_360_150 rfl H.1 (fun v3 e1 e2 => ?_)
      replace H := H.2 v3 e1 e2
      refine Wx.iload_n hC te_360_151 rfl ?_
      refine Wx.aload_n hC te_360_152 rfl ?_
      refine Wx.iload hC te_360_153 rfl ?_
      refine Wx.virtI hC te_360_155 mt_246 (args := [.inr 143, .inl x4]) (rest := [.inl x2, .inl v3, .inl x3, .inr 172]) rfl rfl rfl rfl rfl rfl rfl rfl ?_
      refine CWI.mono hC (fun r5 m4 H hy => ?_) H
      replace H := H hy
      refine Wx.isub hC te_360_158 H.1 ?_
      replace H := H.2
      refine Wx.aload_n hC te_360_159 rfl ?_
      refine Wx.getR hC te_360_160 rfl rfl rfl ?_
      refine Wx.bipush hC te_360_163 rfl rfl ?_
      refine Wx.iload_n hC te_360_165 rfl ?_
      refine Wx.imul hC te_360_166 H.1 ?_
      replace H := H.2
      refine Wx.iload hC te_360_167 rfl ?_
      refine Wx.iadd hC te_360_169 H.1 ?_
      replace H := H.2
      refine Wx.iald hC te_360_170 rfl H.1 (fun v6 e1 e2 => ?_)
      replace H := H.2 v6 e1 e2
      refine Wx.isub hC te_360_171 H.1 ?_
      replace H := H.2
      refine Wx.statI hC te_360_172 (by decide) mt_258 (args := [.inl v3, .inl ((x2 - r5) - v6)]) (rest := [.inl x3, .inr 172]) rfl rfl rfl rfl rfl ?_
      refine CWI.mono hC (fun r8 m7 H hy => ?_) H
      replace H := H hy
      refine Wx.iast hC te_360_175 rfl H.1 ?_
      replace H := H.2
      refine Wx.iinc hC te_360_176 rfl rfl H.1 ?_
      replace H := H.2
      refine Wx.goto hC (t := 113) te_360_179 (by decide) ?_
      exact H
theorem w_361_0 {C : CXW} (hC : Cmono C) {S : Nat × (Nat → Int32)} {K : WK} {mem : MM} {x1 x2 x3 : Int} (H : (CWI C 227 [.inl x1, .inl 0, .inl 2] mem fun r2 m1 => InI r2 → ((¬ r2 = 0 → (CWI C 253 [.inl x3] m1 fun r4 m3 => InI r4 → ((r4 = 0 → (InI 0 → K (some 0) (upm m3 143 0 2))) ∧ (¬ (r4 = 0) → (InI (x3 - 1)) ∧ (CWI C 227 [.inl x2, .inl 0, .inl (x3 - 1)] m3 fun r7 m6 => InI r7 → ((¬ r7 = 0 → (CWI C 268 [.inr 143, .inl x3] m6 fun r9 m8 => InI r9 → ((¬ r9 = 0 → (Wx C S M_361 K 67 [some (.inr 143), some (.inl x1), some (.inl x2), some (.inl x3), some (.inl 0), some (.inl 0), none] [] (upm m8 143 0 0))) ∧ (¬ (¬ r9 = 0) → (InI 0 → K (some 0) (upm m8 143 0 3)))))) ∧ (¬ (¬ r7 = 0) → (InI 0 → K (some 0) (upm m6 143 0 2))))))))) ∧ (¬ (¬ r2 = 0) → (InI 0 → K (some 0) (upm m1 143 0 1)))))) : Wx C S M_361 K 0 [some (.inr 143), some (.inl x1), some (.inl x2), some (.inl x3), none, none, none] [] mem := by
  refine Wx.aload_n hC te_361_0 rfl ?_
  refine Wx.iload_n hC te_361_1 rfl ?_
  refine Wx.iconst hC te_361_2 rfl ?_
  refine Wx.iconst hC te_361_3 rfl ?_
  refine Wx.statI hC te_361_4 (by decide) mt_227 (args := [.inl x1, .inl 0, .inl 2]) (rest := [.inr 143]) rfl rfl rfl rfl rfl ?_
  refine CWI.mono hC (fun r2 m1 H hy => ?_) H
  replace H := H hy
  refine Wx.ifc hC (t := 14) te_361_7 (by decide) (fun q => ?_) (fun q => ?_)
  · replace H := H.1 q
    refine Wx.iload_n hC te_361_14 rfl ?_
    refine Wx.statI hC te_361_15 (by decide) mt_253 (args := [.inl x3]) (rest := [.inr 143]) rfl rfl rfl rfl rfl ?_
    refine CWI.mono hC (fun r4 m3 H hy => ?_) H
    replace H := H hy
    refine Wx.ifc hC (t := 32) te_361_18 (by decide) (fun q => ?_) (fun q => ?_)
    · replace H := H.1 q
      refine Wx.iconst hC te_361_32 rfl ?_
      refine Wx.goto hC (t := 49) te_361_33 (by decide) ?_
      refine Wx.putI hC te_361_49 rfl rfl rfl rfl ?_
      refine Wx.aload_n hC te_361_52 rfl ?_
      refine Wx.getI hC te_361_53 rfl rfl rfl (fun c5 e1 e2 => ?_)
      rw [upm_eq] at e1
      subst e1
      refine Wx.ifc hC (t := 61) te_361_56 (by decide) (fun q => absurd q (show ¬ ((2 : Int) ≤ 0) by decide)) (fun q => ?_)
      refine Wx.iconst hC te_361_59 rfl ?_
      exact Wx.ireturn hC te_361_60 rfl H
    · replace H := H.2 q
      refine Wx.iload_n hC te_361_21 rfl ?_
      refine Wx.iconst hC te_361_22 rfl ?_
      refine Wx.iload_n hC te_361_23 rfl ?_
      refine Wx.iconst hC te_361_24 rfl ?_
      refine Wx.isub hC te_361_25 H.1 ?_
      replace H := H.2
      refine Wx.statI hC te_361_26 (by decide) mt_227 (args := [.inl x2, .inl 0, .inl (x3 - 1)]) (rest := [.inr 143]) rfl rfl rfl rfl rfl ?_
      refine CWI.mono hC (fun r7 m6 H hy => ?_) H
      replace H := H hy
      refine Wx.ifc hC (t := 36) te_361_29 (by decide) (fun q => ?_) (fun q => ?_)
      · replace H := H.1 q
        refine Wx.aload_n hC te_361_36 rfl ?_
        refine Wx.iload_n hC te_361_37 rfl ?_
        refine Wx.virtI hC te_361_38 mt_268 (args := [.inr 143, .inl x3]) (rest := [.inr 143]) rfl rfl rfl rfl rfl rfl rfl rfl ?_
        refine CWI.mono hC (fun r9 m8 H hy => ?_) H
        replace H := H hy
        refine Wx.ifc hC (t := 48) te_361_41 (by decide) (fun q => ?_) (fun q => ?_)
        · replace H := H.1 q
          refine Wx.iconst hC te_361_48 rfl ?_
          refine Wx.putI hC te_361_49 rfl rfl rfl rfl ?_
          refine Wx.aload_n hC te_361_52 rfl ?_
          refine Wx.getI hC te_361_53 rfl rfl rfl (fun c10 e1 e2 => ?_)
          rw [upm_eq] at e1
          subst e1
          refine Wx.ifc hC (t := 61) te_361_56 (by decide) (fun q => ?_) (fun q => absurd (show (0 : Int) ≤ 0 by decide) q)
          refine Wx.iconst hC te_361_61 rfl ?_
          refine Wx.istore hC te_361_62 rfl ?_
          refine Wx.iconst hC te_361_64 rfl ?_
          refine Wx.istore hC te_361_65 rfl ?_
          exact H
        · replace H := H.2 q
          refine Wx.iconst hC te_361_44 rfl ?_
          refine Wx.goto hC (t := 49) te_361_45 (by decide) ?_
          refine Wx.putI hC te_361_49 rfl rfl rfl rfl ?_
          refine Wx.aload_n hC te_361_52 rfl ?_
          refine Wx.getI hC te_361_53 rfl rfl rfl (fun c11 e1 e2 => ?_)
          rw [upm_eq] at e1
          subst e1
          refine Wx.ifc hC (t := 61) te_361_56 (by decide) (fun q => absurd q (show ¬ ((3 : Int) ≤ 0) by decide)) (fun q => ?_)
          refine Wx.iconst hC te_361_59 rfl ?_
          exact Wx.ireturn hC te_361_60 rfl H
      · replace H := H.2 q
        refine Wx.iconst hC te_361_32 rfl ?_
        refine Wx.goto hC (t := 49) te_361_33 (by decide) ?_
        refine Wx.putI hC te_361_49 rfl rfl rfl rfl ?_
        refine Wx.aload_n hC te_361_52 rfl ?_
        refine Wx.getI hC te_361_53 rfl rfl rfl (fun c12 e1 e2 => ?_)
        rw [upm_eq] at e1
        subst e1
        refine Wx.ifc hC (t := 61) te_361_56 (by decide) (fun q => absurd q (show ¬ ((2 : Int) ≤ 0) by decide)) (fun q => ?_)
        refine Wx.iconst hC te_361_59 rfl ?_
        exact Wx.ireturn hC te_361_60 rfl H
  · replace H := H.2 q
    refine Wx.iconst hC te_361_10 rfl ?_
    refine Wx.goto hC (t := 49) te_361_11 (by decide) ?_
    refine Wx.putI hC te_361_49 rfl rfl rfl rfl ?_
    refine Wx.aload_n hC te_361_52 rfl ?_
    refine Wx.getI hC te_361_53 rfl rfl rfl (fun c13 e1 e2 => ?_)
    rw [upm_eq] at e1
    subst e1
    refine Wx.ifc hC (t := 61) te_361_56 (by decide) (fun q => absurd q (show ¬ ((1 : Int) ≤ 0) by decide)) (fun q => ?_)
    refine Wx.iconst hC te_361_59 rfl ?_
    exact Wx.ireturn hC te_361_60 rfl H
theorem w_361_67 {C : CXW} (hC : Cmono C) {S : Nat × (Nat → Int32)} {K : WK} {mem : MM} {x1 x2 x3 x4 x5 : Int} (H : ∀ v1 : Int, v1 = mem 143 1 → InI v1 → ((v1 ≤ x5 → (InI x4 → K (some x4) mem)) ∧ (¬ (v1 ≤ x5) → (Wx C S M_361 K 79 [some (.inr 143), some (.inl x1), some (.inl x2), some (.inl x3), some (.inl x4), some (.inl x5), some (.inl 0)] [] mem)))) : Wx C S M_361 K 67 [some (.inr 143), some (.inl x1), some (.inl x2), some (.inl x3), some (.inl x4), some (.inl x5), none] [] mem := by
  refine Wx.iload hC te_361_67 rfl ?_
  refine Wx.aload_n hC te_361_69 rfl ?_
  refine Wx.getI hC te_361_70 rfl rfl rfl (fun v1 e1 e2 => ?_)
  replace H := H v1 e1 e2
  refine Wx.icmp hC (t := 147) te_361_73 (by decide) (fun q => ?_) (fun q => ?_)
  · replace H := H.1 q
    refine Wx.iload hC te_361_147 rfl ?_
    exact Wx.ireturn hC te_361_149 rfl H
  · replace H := H.2 q
    refine Wx.iconst hC te_361_76 rfl ?_
    refine Wx.istore hC te_361_77 rfl ?_
    exact H
theorem w_361_79 {C : CXW} (hC : Cmono C) {S : Nat × (Nat → Int32)} {K : WK} {mem : MM} {x1 x2 x3 x4 x5 x6 : Int} (H : ((4 ≤ x6 → (InI (x5 + 1)) ∧ (Wx C S M_361 K 67 [some (.inr 143), some (.inl x1), some (.inl x2), some (.inl x3), some (.inl x4), some (.inl (x5 + 1)), none] [] mem)) ∧ (¬ (4 ≤ x6) → (CWI C 264 [.inr 143, .inl x5] mem fun r2 m1 => InI r2 → ((¬ r2 = x1 → (InI (x6 + 1)) ∧ (Wx C S M_361 K 79 [some (.inr 143), some (.inl x1), some (.inl x2), some (.inl x3), some (.inl x4), some (.inl x5), some (.inl (x6 + 1))] [] m1)) ∧ (¬ (¬ r2 = x1) → (CWI C 265 [.inr 143, .inl x5] m1 fun r4 m3 => InI r4 → ∀ b5 : Int, b5 = ((fun (x y : Int32) => x >>> (y &&& 31)) (Int32.ofInt r4) (Int32.ofInt x6)).toInt → InI b5 → ∀ b6 : Int, b6 = ((fun (x y : Int32) => x &&& y) (Int32.ofInt b5) (Int32.ofInt 1)).toInt → InI b6 → ((¬ b6 = 1 → (InI (x6 + 1)) ∧ (Wx C S M_361 K 79 [some (.inr 143), some (.inl x1), some (.inl x2), some (.inl x3), some (.inl x4), some (.inl x5), some (.inl (x6 + 1))] [] m3)) ∧ (¬ (¬ b6 = 1) → ((0 : Int) ≤ x5 ∧ (x5 : Int) < 8) ∧ ∀ v7 : Int, v7 = m3 161 (Int.toNat x5) → InI v7 → (InI (v7 + x6)) ∧ (0 < x3) ∧ ((¬ (((v7 + x6) : Int).tmod x3) = x2 → (InI (x6 + 1)) ∧ (Wx C S M_361 K 79 [some (.inr 143), some (.inl x1), some (.inl x2), some (.inl x3), some (.inl x4), some (.inl x5), some (.inl (x6 + 1))] [] m3)) ∧ (¬ (¬ (((v7 + x6) : Int).tmod x3) = x2) → ∀ b8 : Int, b8 = ((fun (x y : Int32) => x <<< (y &&& 31)) (Int32.ofInt 1) (Int32.ofInt x5)).toInt → InI b8 → ∀ b9 : Int, b9 = ((fun (x y : Int32) => x ||| y) (Int32.ofInt x4) (Int32.ofInt b8)).toInt → InI b9 → (InI (x6 + 1)) ∧ (Wx C S M_361 K 79 [some (.inr 143), some (.inl x1), some (.inl x2), some (.inl x3), some (.inl b9), some (.inl x5), some (.inl (x6 + 1))] [] m3)))))))))))) : Wx C S M_361 K 79 [some (.inr 143), some (.inl x1), some (.inl x2), some (.inl x3), some (.inl x4), some (.inl x5), some (.inl x6)] [] mem := by
  refine Wx.iload hC te_361_79 rfl ?_
  refine Wx.iconst hC te_361_81 rfl ?_
  refine Wx.icmp hC (t := 141) te_361_82 (by decide) (fun q => ?_) (fun q => ?_)
  · replace H := H.1 q
    refine Wx.iinc hC te_361_141 rfl rfl H.1 ?_
    replace H := H.2
    refine Wx.goto hC (t := 67) te_361_144 (by decide) ?_
    exact Wx.weak (by repeat' (first | exact trivial | exact rfl | constructor)) H
  · replace H := H.2 q
    refine Wx.aload_n hC te_361_85 rfl ?_
    refine Wx.iload hC te_361_86 rfl ?_
    refine Wx.virtI hC te_361_88 mt_264 (args := [.inr 143, .inl x5]) (rest := []) rfl rfl rfl rfl rfl rfl rfl rfl ?_
    refine CWI.mono hC (fun r2 m1 H hy => ?_) H
    replace H := H hy
    refine Wx.iload_n hC te_361_91 rfl ?_
    refine Wx.icmp hC (t := 135) te_361_92 (by decide) (fun q => ?_) (fun q => ?_)
    · replace H := H.1 q
      refine Wx.iinc hC te_361_135 rfl rfl H.1 ?_
      replace H := H.2
      refine Wx.goto hC (t := 79) te_361_138 (by decide) ?_
      exact H
    · replace H := H.2 q
      refine Wx.aload_n hC te_361_95 rfl ?_
      refine Wx.iload hC te_361_96 rfl ?_
      refine Wx.virtI hC te_361_98 mt_265 (args := [.inr 143, .inl x5]) (rest := []) rfl rfl rfl rfl rfl rfl rfl rfl ?_
      refine CWI.mono hC (fun r4 m3 H hy => ?_) H
      replace H := H hy
      refine Wx.iload hC te_361_101 rfl ?_
      refine Wx.bits hC (f := (fun (x y : Int32) => x >>> (y &&& 31))) te_361_103 (fun _ _ _ _ => Iff.rfl) (fun b5 e1 e2 => ?_)
      replace H := H b5 e1 e2
      refine Wx.iconst hC te_361_104 rfl ?_
      refine Wx.bits hC (f := (fun (x y : Int32) => x &&& y)) te_361_105 (fun _ _ _ _ => Iff.rfl) (fun b6 e1 e2 => ?_)
      replace H := H b6 e1 e2
      refine Wx.iconst hC te_361_106 rfl ?_
      refine Wx.icmp hC (t := 135) te_361_107 (by decide) (fun q => ?_) (fun q => ?_)
      · replace H := H.1 q
        refine Wx.iinc hC te_361_135 rfl rfl H.1 ?_
        replace H := H.2
        refine Wx.goto hC (t := 79) te_361_138 (by decide) ?_
        exact H
      · replace H := H.2 q
        refine Wx.aload_n hC te_361_110 rfl ?_
        refine Wx.getR hC te_361_111 rfl rfl rfl ?_
        refine Wx.iload hC te_361_114 rfl ?_
        refine Wx.iald hC te_361_116 rfl H.1 (fun v7 e1 e2 => ?_)
        replace H := H.2 v7 e1 e2
        refine Wx.iload hC te_361_117 rfl ?_
        refine Wx.iadd hC te_361_119 H.1 ?_
        replace H := H.2
        refine Wx.iload_n hC te_361_120 rfl ?_
        refine Wx.irem hC te_361_121 H.1 ?_
        replace H := H.2
        refine Wx.iload_n hC te_361_122 rfl ?_
        refine Wx.icmp hC (t := 135) te_361_123 (by decide) (fun q => ?_) (fun q => ?_)
        · replace H := H.1 q
          refine Wx.iinc hC te_361_135 rfl rfl H.1 ?_
          replace H := H.2
          refine Wx.goto hC (t := 79) te_361_138 (by decide) ?_
          exact H
        · replace H := H.2 q
          refine Wx.iload hC te_361_126 rfl ?_
          refine Wx.iconst hC te_361_128 rfl ?_
          refine Wx.iload hC te_361_129 rfl ?_
          refine Wx.bits hC (f := (fun (x y : Int32) => x <<< (y &&& 31))) te_361_131 (fun _ _ _ _ => Iff.rfl) (fun b8 e1 e2 => ?_)
          replace H := H b8 e1 e2
          refine Wx.bits hC (f := (fun (x y : Int32) => x ||| y)) te_361_132 (fun _ _ _ _ => Iff.rfl) (fun b9 e1 e2 => ?_)
          replace H := H b9 e1 e2
          refine Wx.istore hC te_361_133 rfl ?_
          refine Wx.iinc hC te_361_135 rfl rfl H.1 ?_
          replace H := H.2
          refine Wx.goto hC (t := 79) te_361_138 (by decide) ?_
          exact H
theorem w_362_0 {C : CXW} (hC : Cmono C) {S : Nat × (Nat → Int32)} {K : WK} {mem : MM} {x1 x2 : Int} (H : (CWI C 311 [.inr 143, .inl x1, .inl x2] mem fun r2 m1 => InI r2 → ((r2 ≤ 0 → (Wx C S M_362 K 24 [some (.inr 143), some (.inl x1), some (.inl x2), some (.inl 0), some (.inl 0)] [] (upm m1 143 0 r2))) ∧ (¬ (r2 ≤ 0) → (InI 0 → K (some 0) (upm m1 143 0 r2)))))) : Wx C S M_362 K 0 [some (.inr 143), some (.inl x1), some (.inl x2), none, none] [] mem := by
  refine Wx.aload_n hC te_362_0 rfl ?_
  refine Wx.aload_n hC te_362_1 rfl ?_
  refine Wx.iload_n hC te_362_2 rfl ?_
  refine Wx.iload_n hC te_362_3 rfl ?_
  refine Wx.virtI hC te_362_4 mt_311 (args := [.inr 143, .inl x1, .inl x2]) (rest := [.inr 143]) rfl rfl rfl rfl rfl rfl rfl rfl ?_
  refine CWI.mono hC (fun r2 m1 H hy => ?_) H
  replace H := H hy
  refine Wx.putI hC te_362_7 rfl rfl rfl rfl ?_
  refine Wx.aload_n hC te_362_10 rfl ?_
  refine Wx.getI hC te_362_11 rfl rfl rfl (fun c3 e1 e2 => ?_)
  rw [upm_eq] at e1
  subst e1
  refine Wx.ifc hC (t := 19) te_362_14 (by decide) (fun q => ?_) (fun q => ?_)
  · replace H := H.1 q
    refine Wx.iconst hC te_362_19 rfl ?_
    refine Wx.istore_n hC te_362_20 rfl ?_
    refine Wx.iconst hC te_362_21 rfl ?_
    refine Wx.istore hC te_362_22 rfl ?_
    exact H
  · replace H := H.2 q
    refine Wx.iconst hC te_362_17 rfl ?_
    exact Wx.ireturn hC te_362_18 rfl H
theorem w_362_24 {C : CXW} (hC : Cmono C) {S : Nat × (Nat → Int32)} {K : WK} {mem : MM} {x1 x2 x3 x4 : Int} (H : (CWI C 313 [.inr 143, .inl x1, .inl x2] mem fun r2 m1 => InI r2 → ((r2 ≤ x4 → (InI x3 → K (some x3) m1)) ∧ (¬ (r2 ≤ x4) → (CWI C 363 [.inr 143, .inl x4, .inl x1, .inl x2] m1 fun r4 m3 => InI r4 → ((r4 = 0 → (InI (x3 + 1)) ∧ (InI (x4 + 1)) ∧ (Wx C S M_362 K 24 [some (.inr 143), some (.inl x1), some (.inl x2), some (.inl (x3 + 1)), some (.inl (x4 + 1))] [] m3)) ∧ (¬ (r4 = 0) → (InI (x3 + 0)) ∧ (InI (x4 + 1)) ∧ (Wx C S M_362 K 24 [some (.inr 143), some (.inl x1), some (.inl x2), some (.inl (x3 + 0)), some (.inl (x4 + 1))] [] m3)))))))) : Wx C S M_362 K 24 [some (.inr 143), some (.inl x1), some (.inl x2), some (.inl x3), some (.inl x4)] [] mem := by
  refine Wx.iload hC te_362_24 rfl ?_
  refine Wx.aload_n hC te_362_26 rfl ?_
  refine Wx.iload_n hC te_362_27 rfl ?_
  refine Wx.iload_n hC te_362_28 rfl ?_
  refine Wx.virtI hC te_362_29 mt_313 (args := [.inr 143, .inl x1, .inl x2]) (rest := [.inl x4]) rfl rfl rfl rfl rfl rfl rfl rfl ?_
  refine CWI.mono hC (fun r2 m1 H hy => ?_) H
  replace H := H hy
  refine Wx.icmp hC (t := 60) te_362_32 (by decide) (fun q => ?_) (fun q => ?_)
  · replace H := H.1 q
    refine Wx.iload_n hC te_362_60 rfl ?_
    exact Wx.ireturn hC te_362_61 rfl H
  · replace H := H.2 q
    refine Wx.iload_n hC te_362_35 rfl ?_
    refine Wx.aload_n hC te_362_36 rfl ?_
    refine Wx.iload hC te_362_37 rfl ?_
    refine Wx.iload_n hC te_362_39 rfl ?_
    refine Wx.iload_n hC te_362_40 rfl ?_
    refine Wx.virtI hC te_362_41 mt_363 (args := [.inr 143, .inl x4, .inl x1, .inl x2]) (rest := [.inl x3]) rfl rfl rfl rfl rfl rfl rfl rfl ?_
    refine CWI.mono hC (fun r4 m3 H hy => ?_) H
    replace H := H hy
    refine Wx.ifc hC (t := 51) te_362_44 (by decide) (fun q => ?_) (fun q => ?_)
    · replace H := H.1 q
      refine Wx.iconst hC te_362_51 rfl ?_
      refine Wx.iadd hC te_362_52 H.1 ?_
      replace H := H.2
      refine Wx.istore_n hC te_362_53 rfl ?_
      refine Wx.iinc hC te_362_54 rfl rfl H.1 ?_
      replace H := H.2
      refine Wx.goto hC (t := 24) te_362_57 (by decide) ?_
      exact H
    · replace H := H.2 q
      refine Wx.iconst hC te_362_47 rfl ?_
      refine Wx.goto hC (t := 52) te_362_48 (by decide) ?_
      refine Wx.iadd hC te_362_52 H.1 ?_
      replace H := H.2
      refine Wx.istore_n hC te_362_53 rfl ?_
      refine Wx.iinc hC te_362_54 rfl rfl H.1 ?_
      replace H := H.2
      refine Wx.goto hC (t := 24) te_362_57 (by decide) ?_
      exact H
theorem w_363_0 {C : CXW} (hC : Cmono C) {S : Nat × (Nat → Int32)} {K : WK} {mem : MM} {x1 x2 x3 : Int} (H : (Wx C S M_363 K 3 [some (.inr 143), some (.inl x1), some (.inl x2), some (.inl x3), some (.inl 0)] [] mem)) : Wx C S M_363 K 0 [some (.inr 143), some (.inl x1), some (.inl x2), some (.inl x3), none] [] mem := by
  refine Wx.iconst hC te_363_0 rfl ?_
  refine Wx.istore hC te_363_1 rfl ?_
  exact H
theorem w_363_3 {C : CXW} (hC : Cmono C) {S : Nat × (Nat → Int32)} {K : WK} {mem : MM} {x1 x2 x3 x4 : Int} (H : ∀ v1 : Int, v1 = mem 143 1 → InI v1 → ((v1 ≤ x4 → (K (some 0) mem)) ∧ (¬ (v1 ≤ x4) → ((0 : Int) ≤ x4 ∧ (x4 : Int) < 8) ∧ ∀ v2 : Int, v2 = mem 161 (Int.toNat x4) → InI v2 → (CWI C 319 [.inl x1, .inl v2, .inl x2, .inl x3] mem fun r4 m3 => InI r4 → ((r4 = (-1) → (InI (x4 + 1)) ∧ (Wx C S M_363 K 3 [some (.inr 143), some (.inl x1), some (.inl x2), some (.inl x3), some (.inl (x4 + 1))] [] m3)) ∧ (¬ (r4 = (-1)) → (K (some 1) m3))))))) : Wx C S M_363 K 3 [some (.inr 143), some (.inl x1), some (.inl x2), some (.inl x3), some (.inl x4)] [] mem := by
  refine Wx.iload hC te_363_3 rfl ?_
  refine Wx.aload_n hC te_363_5 rfl ?_
  refine Wx.getI hC te_363_6 rfl rfl rfl (fun v1 e1 e2 => ?_)
  replace H := H v1 e1 e2
  refine Wx.icmp hC (t := 37) te_363_9 (by decide) (fun q => ?_) (fun q => ?_)
  · replace H := H.1 q
    refine Wx.iconst hC te_363_37 rfl ?_
    exact Wx.bret hC te_363_38 rfl (Or.inl rfl) H
  · replace H := H.2 q
    refine Wx.iload_n hC te_363_12 rfl ?_
    refine Wx.aload_n hC te_363_13 rfl ?_
    refine Wx.getR hC te_363_14 rfl rfl rfl ?_
    refine Wx.iload hC te_363_17 rfl ?_
    refine Wx.iald hC te_363_19 rfl H.1 (fun v2 e1 e2 => ?_)
    replace H := H.2 v2 e1 e2
    refine Wx.iload_n hC te_363_20 rfl ?_
    refine Wx.iload_n hC te_363_21 rfl ?_
    refine Wx.statI hC te_363_22 (by decide) mt_319 (args := [.inl x1, .inl v2, .inl x2, .inl x3]) (rest := []) rfl rfl rfl rfl rfl ?_
    refine CWI.mono hC (fun r4 m3 H hy => ?_) H
    replace H := H hy
    refine Wx.iconst hC te_363_25 rfl ?_
    refine Wx.icmp hC (t := 31) te_363_26 (by decide) (fun q => ?_) (fun q => ?_)
    · replace H := H.1 q
      refine Wx.iinc hC te_363_31 rfl rfl H.1 ?_
      replace H := H.2
      refine Wx.goto hC (t := 3) te_363_34 (by decide) ?_
      exact H
    · replace H := H.2 q
      refine Wx.iconst hC te_363_29 rfl ?_
      exact Wx.bret hC te_363_30 rfl (Or.inr rfl) H
/-! the other public methods of the reference -/
theorem tmod_le {a b : Int} (ha : 0 ≤ a) (hb : 0 < b) : 0 ≤ a.tmod b ∧ a.tmod b ≤ a := by
  have h1 := tmod_r ha hb
  have h2 := tdiv_r ha hb
  have h3 := Int.mul_tdiv_add_tmod a b
  have h4 : 0 ≤ b * a.tdiv b := Int.mul_nonneg (by omega) h2.1
  omega
theorem RefOK.gen {m m' : MM} (h : RefOK m) (e : ∀ A i, (A = 143 ∧ ¬ i = 1) ∨ (143 < A ∧ A < 149) ∨ (153 < A ∧ A < 169) → m' A i = m A i) (h1 : 0 ≤ m' 143 1 ∧ m' 143 1 ≤ 8) (hl : ∀ k, k < 6 → 1 ≤ m' 151 k ∧ m' 151 k ≤ 6) (hu : UnOK m') (hb : ∀ k, k < 6 → 1 ≤ m' 152 k ∧ m' 152 k ≤ 15) (hc : ∀ k, k < 3 → 1 ≤ m' 153 k ∧ m' 153 k ≤ 3) (hf : ∀ o, o < 8 → -9999 ≤ m' 149 o ∧ m' 149 o ≤ 9999) : RefOK m' := by
  refine ⟨⟨h1, fun k hk => ?_, hl⟩, hu, hb, hc, hf, fun k hk => ?_, fun k hk => ?_, ?_, fun k hk => ?_, ?_, ?_, fun k hk => ?_⟩
  · unfold OpOK
    rw [e _ _ (by omega), e _ _ (by omega), e _ _ (by omega), e _ _ (by omega), e _ _ (by omega)]; exact h.ops.2.1 k hk
  · rw [e _ _ (by omega), e _ _ (by omega)]; exact h.ab k hk
  · rw [e _ _ (by omega)]; exact h.sl k hk
  · rw [e _ _ (by omega)]; exact h.lo
  · rw [e _ _ (by omega), e _ _ (by omega), e _ _ (by omega), e _ _ (by omega)]; exact h.r48 k hk
  · rw [e _ _ (by omega)]; exact h.nd
  · rw [e _ _ (by omega)]; exact h.th
  · rw [e _ _ (by omega)]; exact h.pa k hk
theorem up_in {m : MM} {A i k n : Nat} {x lo hi : Int} (h : ∀ k, k < n → lo ≤ m A k ∧ m A k ≤ hi) (hx : lo ≤ x ∧ x ≤ hi) (hk : k < n) : lo ≤ upm m A i x A k ∧ upm m A i x A k ≤ hi := by
  by_cases q : k = i
  · subst q; rw [upm_eq]; exact hx
  · rw [upm_ne (fun z => q z.2)]; exact h k hk
section SMALL
variable {S : Nat × (Nat → Int32)} {n : Nat} {mem : MM} {K : Int → MM → Prop} {d : Int}
theorem f_225 (H : K (mem 143 0) mem) : CWI (Ex S (n + 1)) 225 [.inr 143] mem K := by
  refine CW.of (k := 0) mt_225 rfl rfl (w_225_0 (Ex.mono S n) (fun v e _ _ => ⟨_, rfl, ?_⟩))
  rw [e]; exact H
/-- kind: what is thrown is told by the arguments alone -/
theorem f_238 {a x : Int} (h : RefOK mem) (H : Fin mem K) : CWI (Ex S (n + 3)) 238 [.inr 143, .inl a, .inl x] mem K := by
  have h8 := h.ops.1
  have h' := h.th' (z := 0) (by omega)
  refine CW.of (k := 0) mt_238 rfl rfl (w_238_0 (Ex.mono S (n + 2)) (f_235 h8 (fun a1 a2 _ => ⟨fun _ => f_227 (fun _ _ _ => ⟨fun _ => ?_, fun z => absurd (by decide) z⟩) (fun _ _ => ⟨fun z => absurd rfl z, fun _ _ => H.thr h FrQ.rf 0 (by omega)⟩), fun z => absurd (by decide) z⟩) (fun _ => ⟨fun z => absurd rfl z, fun _ _ => H.thr h FrQ.rf 0 (by omega)⟩)))
  have ha : 0 ≤ a ∧ a < 8 := by omega
  exact ⟨fun _ => ⟨ha, fun v _ _ _ => H.at h' FrQ.th _⟩, fun _ => ⟨ha, fun v _ _ _ => H.at h' FrQ.th _⟩, fun _ => ⟨ha, fun v _ _ _ => H.at h' FrQ.th _⟩, fun _ => ⟨ha, fun v _ _ _ => H.at h' FrQ.th _⟩, fun _ => ⟨ha, fun v _ _ _ => H.at h' FrQ.th _⟩, fun _ => ⟨ha, fun v _ _ _ => H.at h' FrQ.th _⟩⟩
theorem f_239 (h : RefOK mem) (H : Fin mem K) : CWI (Ex S (n + 3)) 239 [.inr 143] mem K := by
  have h' := h.th' (z := 0) (by omega)
  exact CW.of (k := 0) mt_239 rfl rfl (w_239_0 (Ex.mono S (n + 2)) (f_240 h'.ops (fun _ _ => ⟨Or.inr rfl, H.at h' FrQ.th _⟩) (fun _ _ => ⟨Or.inl rfl, H.at h' FrQ.th _⟩)))
theorem f_254r (h : RefOK mem) (H1 : ∀ m', RefOK m' → FrQ mem m' → K 1 m') (H0 : ∀ m', RefOK m' → FrQ mem m' → Kp mem m' → NdsOK m' → K 0 m') : CWI (Ex S (n + 4)) 254 [.inr 143, .inl d] mem K :=
  f_254 h.ops (fun m' k1 k2 => H1 m' (k1.rest k2 h) k1.f.q) (fun m' k1 k2 _ k4 _ => H0 m' (k1.rest k2 h) k1.f.q k1.f.kp k4)
theorem Fr1.rest158 {m m' : MM} (k : Fr1 158 m m') (h : RefOK m) : RefOK m' ∧ FrQ m m' := ⟨k.w.rest (k.rn (by omega)) h, k.w.f.q⟩
theorem f_252 {a b : Int} (h : RefOK mem) (H : Fin mem K) : CWI (Ex S (n + 5)) 252 [.inr 143, .inl a, .inl b, .inl d] mem K := by
  have h8 := h.ops.1
  refine CW.of (k := 0) mt_252 rfl rfl (w_252_0 (Ex.mono S (n + 4)) (f_235 h8 (fun a1 a2 _ => ⟨fun z => absurd z (by decide), fun _ => f_235 h8 (fun b1 b2 _ => ⟨fun _ => f_253 (fun d1 d2 _ => ⟨fun _ => f_254r h (fun m' h1 h2 _ => ⟨fun z => absurd z (by decide), fun _ _ => H.thr h1 h2 0 (by omega)⟩) (fun m' h1 h2 hk hN _ => ⟨fun _ => ?_, fun z => absurd rfl z⟩), fun z => absurd (by decide) z⟩) (fun _ => ⟨fun z => absurd rfl z, fun _ _ => H.thr h FrQ.rf 0 (by omega)⟩), fun z => absurd (by decide) z⟩) (fun _ => ⟨fun z => absurd rfl z, fun _ _ => H.thr h FrQ.rf 0 (by omega)⟩)⟩) (fun _ => ⟨fun _ _ => H.thr h FrQ.rf 0 (by omega), fun z => absurd rfl z⟩)))
  refine f_256 hN.th ⟨by omega, by omega⟩ (fun m2 k2 _ => ?_)
  obtain ⟨g1, g2⟩ := k2.rest158 (h1.th' (z := 0) (by omega))
  exact ⟨by unfold InI; omega, by unfold InI; omega, by omega, fun v _ _ _ => H.at g1 ((h2.tr FrQ.th).tr g2) _⟩
theorem f_261 (h8 : 0 ≤ mem 143 1 ∧ mem 143 1 ≤ 8) {o : Int} (ho : 0 ≤ o ∧ o < 8) (H : ∀ r, K r mem) : CWI (Ex S (n + 2)) 261 [.inr 143, .inl o] mem K := by
  have key : ∀ (N : Nat) (c b : Int), 0 ≤ b → (8 - b).toNat < N → Wx (Ex S (n + 1)) S M_261 (fun r m => ∃ y, r = some y ∧ K y m) 4 [some (.inr 143), some (.inl o), some (.inl c), some (.inl b)] [] mem := by
    intro N
    induction N with
    | zero => intros; omega
    | succ N ih =>
      intro c b hb hN
      exact w_261_4 (Ex.mono S (n + 1)) (fun v1 e1 _ => ⟨fun _ _ => ⟨_, rfl, H _⟩, fun q => ⟨by unfold InI; omega, by unfold InI; omega, by omega, fun v2 _ _ => f_257 (fun _ _ => ⟨by unfold InI; omega, ih _ (b + 1) (by omega) (by omega)⟩)⟩⟩)
  exact CW.of (k := 2) mt_261 rfl rfl (w_261_0 (Ex.mono S (n + 1)) (key 9 0 0 (by omega) (by omega)))
theorem f_260 {a : Int} (h : RefOK mem) (H : Fin mem K) : CWI (Ex S (n + 5)) 260 [.inr 143, .inl a, .inl d] mem K := by
  have h8 := h.ops.1
  refine CW.of (k := 0) mt_260 rfl rfl (w_260_0 (Ex.mono S (n + 4)) (f_235 h8 (fun a1 a2 _ => ⟨fun _ => f_253 (fun d1 d2 _ => ⟨fun _ => f_254r h (fun m' h1 h2 _ => ⟨fun z => absurd z (by decide), fun _ _ => H.thr h1 h2 0 (by omega)⟩) (fun m' h1 h2 hk hN _ => ⟨fun _ => ?_, fun z => absurd rfl z⟩), fun z => absurd (by decide) z⟩) (fun _ => ⟨fun z => absurd rfl z, fun _ _ => H.thr h FrQ.rf 0 (by omega)⟩), fun z => absurd (by decide) z⟩) (fun _ => ⟨fun z => absurd rfl z, fun _ _ => H.thr h FrQ.rf 0 (by omega)⟩)))
  refine f_256 hN.th ⟨by omega, by omega⟩ (fun m2 k2 _ => ?_)
  obtain ⟨g1, g2⟩ := k2.rest158 (h1.th' (z := 0) (by omega))
  exact f_261 g1.ops.1 ⟨by omega, by omega⟩ (fun r _ _ => H.at g1 ((h2.tr FrQ.th).tr g2) _)
theorem f_262 {a : Int} (h : RefOK mem) (H : Fin mem K) : CWI (Ex S (n + 3)) 262 [.inr 143, .inl a] mem K := by
  have h' := h.th' (z := 0) (by omega)
  exact CW.of (k := 0) mt_262 rfl rfl (w_262_0 (Ex.mono S (n + 2)) (f_227 (fun a1 a2 _ => ⟨fun z => absurd z (by decide), fun _ => f_263 h'.ops h'.un h'.bz (fun r _ _ _ _ => H.at h' FrQ.th _)⟩) (fun _ _ => ⟨fun _ _ => H.thr h FrQ.rf 0 (by omega), fun z => absurd rfl z⟩)))
theorem f_267 (h : RefOK mem) (H : Fin mem K) : CWI (Ex S (n + 6)) 267 [.inr 143, .inl d] mem K := by
  have h' := h.th' (z := 0) (by omega)
  exact CW.of (k := 0) mt_267 rfl rfl (w_267_0 (Ex.mono S (n + 5)) (f_253 (fun d1 d2 _ => ⟨fun _ => f_240 h.ops (fun _ _ => ⟨fun _ => f_268r h' ⟨d1, d2⟩ (fun m' h1 h2 _ _ _ _ _ => ⟨fun z => absurd z (by decide), fun _ => H.at h1 (FrQ.th.tr h2) _⟩) (fun m' h1 h2 _ => ⟨fun _ => H.at h1 (FrQ.th.tr h2) _, fun z => absurd rfl z⟩), fun z => absurd (by decide) z⟩) (fun _ _ => ⟨fun z => absurd rfl z, fun _ => H.thr h FrQ.rf 0 (by omega)⟩), fun z => absurd (by decide) z⟩) (fun _ => ⟨fun z => absurd rfl z, fun _ => H.thr h FrQ.rf 0 (by omega)⟩)))
theorem f_277 (h : RefOK mem) (H : Fin mem K) : CWI (Ex S (n + 6)) 277 [.inr 143] mem K := by
  have key : ∀ (N : Nat) (c : Int) (m : MM), 1 ≤ c → (13 - c).toNat < N → RefOK m → FrQ mem m → Wx (Ex S (n + 5)) S M_277 (fun r m => ∃ y, r = some y ∧ K y m) 27 [some (.inr 143), some (.inl c)] [] m := by
    intro N
    induction N with
    | zero => intros; omega
    | succ N ih =>
      intro c m hc hN hm hq
      exact w_277_27 (Ex.mono S (n + 5)) ⟨fun _ _ => H.at hm hq _, fun q => f_268r hm ⟨hc, by omega⟩ (fun m' h1 h2 _ _ _ _ _ => ⟨fun z => absurd z (by decide), fun _ _ => H.at h1 (hq.tr h2) _⟩) (fun m' h1 h2 _ => ⟨fun _ => ⟨by unfold InI; omega, ih (c + 1) m' (by omega) (by omega) h1 (hq.tr h2)⟩, fun z => absurd rfl z⟩)⟩
  exact CW.of (k := 1) mt_277 rfl rfl (w_277_0 (Ex.mono S (n + 5)) (f_240 h.ops (fun _ _ => ⟨fun z => absurd z (by decide), fun _ => key 13 1 _ (by omega) (by omega) (h.th' (by omega)) FrQ.th⟩) (fun _ _ => ⟨fun _ _ => H.thr h FrQ.rf 0 (by omega), fun z => absurd rfl z⟩)))
theorem f_278 {a : Int} (h : RefOK mem) (H : Fin mem K) : CWI (Ex S (n + 6)) 278 [.inr 143, .inl a, .inl d] mem K := by
  have h8 := h.ops.1
  exact CW.of (k := 0) mt_278 rfl rfl (w_278_0 (Ex.mono S (n + 5)) (f_235 h8 (fun a1 a2 _ => ⟨fun _ => f_253 (fun d1 d2 _ => ⟨fun _ => f_268r h ⟨d1, d2⟩ (fun m' h1 h2 _ _ _ _ _ => ⟨fun _ => ⟨by omega, fun v _ _ _ => H.thr h1 h2 _ (by omega)⟩, fun z => absurd (by decide) z⟩) (fun m' h1 h2 _ => ⟨fun z => absurd rfl z, fun _ _ => H.thr h1 h2 0 (by omega)⟩), fun z => absurd (by decide) z⟩) (fun _ => ⟨fun z => absurd rfl z, fun _ _ => H.thr h FrQ.rf 0 (by omega)⟩), fun z => absurd (by decide) z⟩) (fun _ => ⟨fun z => absurd rfl z, fun _ _ => H.thr h FrQ.rf 0 (by omega)⟩)))
theorem f_279 {a b : Int} (h : RefOK mem) (H : Fin mem K) : CWI (Ex S (n + 6)) 279 [.inr 143, .inl a, .inl b, .inl d] mem K := by
  exact CW.of (k := 0) mt_279 rfl rfl (w_279_0 (Ex.mono S (n + 5)) (f_227 (fun a1 a2 _ => ⟨fun _ => f_253 (fun d1 d2 _ => ⟨fun z => absurd z (by decide), fun _ => ⟨by unfold InI; omega, f_227 (fun b1 b2 _ => ⟨fun _ => f_268r h ⟨d1, d2⟩ (fun m' h1 h2 _ _ _ _ _ => ⟨fun _ => ⟨by unfold InI; omega, by unfold InI; omega, by omega, fun v _ _ _ => H.thr h1 h2 _ (by omega)⟩, fun z => absurd (by decide) z⟩) (fun m' h1 h2 _ => ⟨fun z => absurd rfl z, fun _ _ => H.thr h1 h2 0 (by omega)⟩), fun z => absurd (by decide) z⟩) (fun _ _ => ⟨fun z => absurd rfl z, fun _ _ => H.thr h FrQ.rf 0 (by omega)⟩)⟩⟩) (fun _ => ⟨fun _ _ => H.thr h FrQ.rf 0 (by omega), fun z => absurd rfl z⟩), fun z => absurd (by decide) z⟩) (fun _ _ => ⟨fun z => absurd rfl z, fun _ _ => H.thr h FrQ.rf 0 (by omega)⟩)))
theorem f_307 {a : Int} (h : RefOK mem) (H : Fin mem K) : CWI (Ex S (n + 6)) 307 [.inr 143, .inl a, .inl d] mem K := by
  exact CW.of (k := 0) mt_307 rfl rfl (w_307_0 (Ex.mono S (n + 5)) (f_253 (fun d1 d2 _ => ⟨fun z => absurd z (by decide), fun _ => ⟨by unfold InI; omega, f_227 (fun b1 b2 _ => ⟨fun _ => f_268r h ⟨d1, d2⟩ (fun m' h1 h2 _ _ _ h5 _ => ⟨fun _ => f_304 (h1.th' (by omega)).ops ⟨d1, d2⟩ h5.th (fun r _ _ _ => H.thr h1 h2 _ (by omega)), fun z => absurd (by decide) z⟩) (fun m' h1 h2 _ => ⟨fun z => absurd rfl z, fun _ _ => H.thr h1 h2 0 (by omega)⟩), fun z => absurd (by decide) z⟩) (fun _ _ => ⟨fun z => absurd rfl z, fun _ _ => H.thr h FrQ.rf 0 (by omega)⟩)⟩⟩) (fun _ => ⟨fun _ _ => H.thr h FrQ.rf 0 (by omega), fun z => absurd rfl z⟩)))
end SMALL
/-! the other public methods of the reference, after a plan -/
section SMALL2
variable {S : Nat × (Nat → Int32)} {n : Nat} {mem : MM} {K : Int → MM → Prop} {d : Int}
theorem f_308 {a c x : Int} (hc : InI c) (h : RefOK mem) (H : Fin mem K) : CWI (Ex S (n + 6)) 308 [.inr 143, .inl a, .inl c, .inl d, .inl x] mem K := by
  have h8 := h.ops.1
  refine CW.of (k := 1) mt_308 rfl rfl (w_308_0 (Ex.mono S (n + 5)) (f_235 h8 (fun a1 a2 _ => ⟨fun _ => f_253 (fun d1 d2 _ => ⟨fun z => absurd z (by decide), fun _ => f_309 (fun x1 x2 _ => ⟨fun z => absurd z (by decide), fun _ => ⟨fun c0 => f_268r h ⟨d1, d2⟩ (fun m' h1 h2 hk _ _ h5 _ => ⟨fun _ => ⟨by omega, fun v e _ => ?_⟩, fun z => absurd (by decide) z⟩) (fun m' h1 h2 _ => ⟨fun z => absurd rfl z, fun _ _ => H.thr h1 h2 0 (by omega)⟩), fun _ _ => H.thr h FrQ.rf 0 (by omega)⟩⟩) (fun _ => ⟨fun _ _ => H.thr h FrQ.rf 0 (by omega), fun z => absurd rfl z⟩)⟩) (fun _ => ⟨fun _ _ => H.thr h FrQ.rf 0 (by omega), fun z => absurd rfl z⟩), fun z => absurd (by decide) z⟩) (fun _ => ⟨fun z => absurd rfl z, fun _ _ => H.thr h FrQ.rf 0 (by omega)⟩)))
  have e1 : m' 143 1 = mem 143 1 := hk _ _ (by omega)
  have ht := h5 a.toNat (by omega)
  rw [upm_ne (by omega)] at e
  unfold InI at hc
  exact ⟨by unfold InI; omega, fun _ _ => H.thr h1 h2 _ (by omega), fun _ => ⟨by omega, fun _ _ => H.thr h1 h2 _ (by omega), fun _ => ⟨by omega, fun _ _ => H.thr h1 h2 _ (by omega), fun _ => ⟨by omega, fun _ => H.thr h1 h2 _ (by omega)⟩⟩⟩⟩
theorem mul12 {d y : Int} (hd : 1 ≤ d ∧ d ≤ 12) {c : Int} (hy : 0 ≤ y ∧ y ≤ c) : 0 ≤ d * y ∧ d * y ≤ 12 * c := by
  have a1 : 0 ≤ d * y := Int.mul_nonneg (by omega) (by omega)
  have a2 : d * y ≤ 12 * y := Int.mul_le_mul_of_nonneg_right hd.2 (by omega)
  omega
theorem f_312 {x : Int} (hO : OpsOK mem) (hd : 1 ≤ d ∧ d ≤ 12) (hx : 0 ≤ x ∧ x ≤ 40) (hT : TmOK mem d) (H : ∀ r, 0 ≤ r → r ≤ 2000 → K r mem) : CWI (Ex S (n + 4)) 312 [.inr 143, .inl d, .inl x] mem K := by
  refine CW.of (k := 0) mt_312 rfl rfl (w_312_0 (Ex.mono S (n + 3)) (f_301 hO hd hT (fun r r1 r2 _ => ⟨fun _ => f_301 hO hd hT (fun s s1 s2 _ => ?_), fun _ => f_313 hO hd hx hT (fun s s1 s2 _ _ => ⟨_, rfl, H _ s1 (by omega)⟩)⟩)))
  have := mul12 hd (y := s - 1) (c := 141) (by omega)
  exact ⟨by unfold InI; omega, by unfold InI; omega, fun _ => ⟨_, rfl, H _ (by omega) (by omega)⟩⟩
theorem f_314 {x : Int} (hO : OpsOK mem) (hd : 1 ≤ d ∧ d ≤ 12) (hx : 0 ≤ x ∧ x ≤ 40) (hT : TmOK mem d) (H : ∀ r, -9000 ≤ r → r ≤ 9000 → K r mem) : CWI (Ex S (n + 5)) 314 [.inr 143, .inl d, .inl x] mem K := by
  have key : ∀ y : Int, -200 ≤ y ∧ y ≤ 100 → -2400 ≤ d * y ∧ d * y ≤ 1200 := fun y hy => by
    have a1 : d * (-200) ≤ d * y := Int.mul_le_mul_of_nonneg_left hy.1 (by omega)
    have a2 : d * y ≤ d * 100 := Int.mul_le_mul_of_nonneg_left hy.2 (by omega)
    omega
  refine CW.of (k := 0) mt_314 rfl rfl (w_314_0 (Ex.mono S (n + 4)) (f_301 hO hd hT (fun r r1 r2 _ => ⟨fun _ => f_301 hO hd hT (fun s s1 s2 _ => ?_), fun _ _ => ⟨_, rfl, H _ (by omega) (by omega)⟩⟩)))
  have := key (x - s + 1) (by omega)
  exact ⟨by unfold InI; omega, by unfold InI; omega, by unfold InI; omega, f_313 hO hd hx hT (fun p p1 p2 _ => f_312 hO hd hx hT (fun q q1 q2 _ => ⟨by unfold InI; omega, f_258 (fun _ _ _ => ⟨_, rfl, H _ (by omega) (by omega)⟩)⟩))⟩
theorem f_310 {x y : Int} (h : RefOK mem) (H : Fin mem K) : CWI (Ex S (n + 7)) 310 [.inr 143, .inl d, .inl x, .inl y] mem K := by
  have h' := h.th' (z := 0) (by omega)
  refine CW.of (k := 3) mt_310 rfl rfl (w_310_0 (Ex.mono S (n + 6)) (f_227 (fun y1 y2 _ => ⟨fun z => absurd z (by decide), fun _ => f_311 h' (fun m' d1 d2 x1 x2 h1 h2 hk h3 h5 _ => ⟨fun _ => ?_, fun z => absurd (by decide) z⟩) (fun r m' r1 r2 h1 h2 _ => ⟨fun z => by omega, fun _ => ⟨by unfold InI; omega, fun v e _ => ⟨fun z => ?_, fun _ _ => H.thr h1 (FrQ.th.tr h2) 0 (by omega)⟩⟩⟩)⟩) (fun _ _ => ⟨fun _ _ => H.thr h FrQ.rf 0 (by omega), fun z => absurd rfl z⟩)))
  · have hm := h1.th' (z := 0) (by omega)
    have hq := (FrQ.th.tr h2).tr (FrQ.th (z := 0))
    have hd : 1 ≤ d ∧ d ≤ 12 := ⟨d1, d2⟩
    have hx : 0 ≤ x ∧ x ≤ 40 := ⟨x1, x2⟩
    exact f_312 hm.ops hd hx h5.th (fun p p1 p2 _ => f_314 hm.ops hd hx h5.th (fun q q1 q2 _ => ⟨fun _ => ⟨fun _ => ⟨fun _ => f_313 hm.ops hd hx h5.th (fun s s1 s2 _ => ⟨by unfold InI; omega, by unfold InI; omega, fun _ => H.at hm hq _⟩), fun _ _ => H.at hm hq _⟩, fun _ _ => H.at hm hq _⟩, fun _ => f_313 hm.ops hd hx h5.th (fun s s1 s2 _ _ => H.at hm hq _)⟩))
  · rw [upm_eq] at e; omega
theorem f_331 {a c x : Int} (hc : InI c) (h : RefOK mem) (H : Fin mem K) : CWI (Ex S (n + 7)) 331 [.inr 143, .inl a, .inl c, .inl d, .inl x] mem K := by
  have h8 := h.ops.1
  have h' := h.th' (z := 0) (by omega)
  refine CW.of (k := 1) mt_331 rfl rfl (w_331_0 (Ex.mono S (n + 6)) (f_235 h8 (fun a1 a2 _ => ⟨fun _ => ⟨fun _ => H.thr h' FrQ.th 0 (by omega), fun c0 => ⟨fun _ => f_311 h' (fun m' d1 d2 x1 x2 h1 h2 hk h3 h5 _ => ⟨fun z => absurd rfl z, fun _ => ?_⟩) (fun r m' r1 r2 h1 h2 _ => ⟨fun _ => ⟨fun z => by omega, fun _ => ⟨by unfold InI; omega, fun v e _ => ⟨fun z => ?_, fun _ => H.thr h1 (FrQ.th.tr h2) 0 (by omega)⟩⟩⟩, fun z => by omega⟩), fun _ => H.thr h' FrQ.th 0 (by omega)⟩⟩, fun z => absurd (by decide) z⟩) (fun _ => ⟨fun z => absurd rfl z, fun _ => H.thr h FrQ.rf 0 (by omega)⟩)))
  · have hm := h1.th' (z := 0) (by omega)
    have hq := (FrQ.th.tr h2).tr (FrQ.th (z := 0))
    have e1 : m' 143 1 = mem 143 1 := by rw [hk 143 1 (by omega), upm_ne (by omega)]
    have ht := h5 a.toNat (by omega)
    unfold InI at hc
    refine f_301 h1.ops ⟨d1, d2⟩ h5 (fun r r1 r2 _ => ⟨by unfold InI; omega, by unfold InI; omega, fun q => ⟨fun _ => ⟨by omega, fun v e _ => ?_⟩, fun z => absurd (by decide) z⟩, fun _ => H.thr h1 (FrQ.th.tr h2) 0 (by omega)⟩)
    rw [upm_ne (by omega)] at e
    have hv := tdiv_b (show 0 ≤ v by omega) d1
    exact ⟨by omega, by unfold InI; omega, by unfold InI; omega, f_227 (fun _ _ _ => ⟨Or.inr rfl, H.at hm hq _⟩) (fun _ _ => ⟨Or.inl rfl, H.at hm hq _⟩)⟩
  · rw [upm_eq] at e; omega
theorem f_332 {x : Int} (h : RefOK mem) (H : Fin mem K) : CWI (Ex S (n + 6)) 332 [.inr 143, .inl d, .inl x] mem K := by
  refine CW.of (k := 0) mt_332 rfl rfl (w_332_0 (Ex.mono S (n + 5)) (f_253 (fun d1 d2 _ => ⟨fun _ => f_268r h ⟨d1, d2⟩ (fun m' h1 h2 hk _ _ h5 _ => ⟨fun _ => ⟨fun _ v e _ => ?_, fun _ v _ _ _ => H.thr h1 h2 _ (by omega)⟩, fun z => absurd (by decide) z⟩) (fun m' h1 h2 _ => ⟨fun z => absurd rfl z, fun _ _ => H.thr h1 h2 0 (by omega)⟩), fun z => absurd (by decide) z⟩) (fun _ => ⟨fun z => absurd rfl z, fun _ _ => H.thr h FrQ.rf 0 (by omega)⟩)))
  have hm := h1.th' (z := 0) (by omega)
  have h8 := hm.ops.1
  refine f_301 hm.ops ⟨d1, d2⟩ h5.th (fun r r1 r2 _ => ?_)
  have p := Int.mul_nonneg (show 0 ≤ v by omega) (show 0 ≤ r - 1 by omega)
  have p2 : v * (r - 1) ≤ 8 * (r - 1) := Int.mul_le_mul_of_nonneg_right (by omega) (by omega)
  refine ⟨by unfold InI; omega, by unfold InI; omega, f_296 hm.ops h5.th ⟨d1, d2⟩ (fun s s1 s2 _ _ w ew _ => ?_)⟩
  have q := Int.mul_nonneg (show 0 ≤ s by omega) (show 0 ≤ w by omega)
  have q2 : s * w ≤ s * 8 := Int.mul_le_mul_of_nonneg_left (by omega) (by omega)
  exact ⟨by unfold InI; omega, by unfold InI; omega, fun _ => H.thr h1 h2 _ (by omega)⟩
def stgN (m : MM) (d : Int) : Nat → Int
  | 0 => 0
  | k + 1 => max (stgN m d k) ((m 161 k).tdiv d)
theorem f_301d (hO : OpsOK mem) (hd : 1 ≤ d ∧ d ≤ 12) (hT : TmOK mem d) (H : 1 ≤ stgN mem d (mem 143 1).toNat + 1 → stgN mem d (mem 143 1).toNat + 1 ≤ 142 → K (stgN mem d (mem 143 1).toNat + 1) mem) : CWI (Ex S (n + 2)) 301 [.inr 143, .inl d] mem K := by
  have h8 := hO.1
  have key : ∀ (N : Nat) (c : Int) (o : Nat), c = stgN mem d o → 0 ≤ c → c ≤ 141 → (o : Int) ≤ mem 143 1 → (mem 143 1 - o).toNat < N → Wx (Ex S (n + 1)) S M_301 (fun r m => ∃ y, r = some y ∧ K y m) 4 [some (.inr 143), some (.inl d), some (.inl c), some (.inl (o : Int))] [] mem := by
    intro N
    induction N with
    | zero => intros; omega
    | succ N ih =>
      intro c o he hc hc2 ho2 hN
      refine w_301_4 (Ex.mono S (n + 1)) (fun v1 e1 _ => ⟨fun q => ⟨by unfold InI; omega, fun _ => ⟨_, rfl, ?_⟩⟩, fun q => ⟨by omega, fun v2 e2 _ => ⟨by omega, ?_⟩⟩⟩)
      · rw [show (mem 143 1).toNat = o by omega, ← he] at H
        exact H (by omega) (by omega)
      · rw [Int.toNat_natCast] at e2
        have ht := hT o (by omega)
        have hv := tdiv_b (show 0 ≤ v2 by omega) hd.1
        exact f_257 (fun _ _ => ⟨by unfold InI; omega, ih _ (o + 1) (by rw [he, e2]; rfl) (by omega) (by omega) (by omega) (by omega)⟩)
  exact CW.of (k := 2) mt_301 rfl rfl (w_301_0 (Ex.mono S (n + 1)) (key 9 0 0 rfl (by omega) (by omega) (by omega) (by omega)))
theorem f_334 {x : Int} (hO : OpsOK mem) (hd : 1 ≤ d ∧ d ≤ 12) (hx : 0 ≤ x ∧ x ≤ 40) (hT : TmOK mem d) (H : ∀ r, 0 ≤ r → r ≤ x → K r mem) : CWI (Ex S (n + 6)) 334 [.inr 143, .inl d, .inl x] mem K := by
  refine CW.of (k := 0) mt_334 rfl rfl (w_334_0 (Ex.mono S (n + 5)) (f_301d hO hd hT (fun r1 r2 _ => ⟨fun q => f_301d hO hd hT (fun s1 s2 _ => ?_), fun _ _ => ⟨_, rfl, H _ (by omega) (by omega)⟩⟩)))
  refine ⟨by unfold InI; omega, by unfold InI; omega, f_296 hO hT hd (fun u u1 u2 _ _ => ⟨by omega, fun _ => ⟨_, rfl, ?_⟩⟩)⟩
  have := tmod_le (show 0 ≤ x - (stgN mem d (mem 143 1).toNat + 1) + 1 by omega) (show 0 < u by omega)
  exact H _ (by omega) (by omega)
theorem f_333 {x y : Int} (h : RefOK mem) (H : Fin mem K) : CWI (Ex S (n + 7)) 333 [.inr 143, .inl d, .inl x, .inl y] mem K := by
  refine CW.of (k := 1) mt_333 rfl rfl (w_333_0 (Ex.mono S (n + 6)) (f_311 h (fun m' d1 d2 x1 x2 h1 h2 hk h3 h5 _ => ⟨fun _ => ?_, fun z => absurd (by decide) z⟩) (fun r m' r1 r2 h1 h2 _ => ⟨fun z => by omega, fun _ _ => H.thr h1 h2 0 (by omega)⟩)))
  have hm := h1.th' (z := 0) (by omega)
  have hq := h2.tr (FrQ.th (z := 0))
  refine f_334 hm.ops ⟨d1, d2⟩ ⟨x1, x2⟩ h5.th (fun r r1 r2 _ => ⟨fun _ _ => H.at hm hq _, fun _ => f_335 hm.ops (fun s s1 s2 _ => ?_)⟩)
  have p := Int.mul_nonneg r1 s1
  have p2 : r * s ≤ r * 48 := Int.mul_le_mul_of_nonneg_left s2 r1
  exact ⟨by unfold InI; omega, by unfold InI; omega, f_313 hm.ops ⟨d1, d2⟩ ⟨by omega, by omega⟩ h5.th (fun u u1 u2 _ => ⟨by unfold InI; omega, fun _ => H.at hm hq _⟩)⟩
theorem f_336 (h : RefOK mem) (H : Fin mem K) : CWI (Ex S (n + 6)) 336 [.inr 143, .inl d] mem K := by
  refine CW.of (k := 1) mt_336 rfl rfl (w_336_0 (Ex.mono S (n + 5)) (f_253 (fun d1 d2 _ => ⟨fun _ => f_268r h ⟨d1, d2⟩ (fun m' h1 h2 hk _ _ h5 _ => ⟨fun _ => ?_, fun z => absurd (by decide) z⟩) (fun m' h1 h2 _ => ⟨fun z => absurd rfl z, fun _ _ => H.thr h1 h2 0 (by omega)⟩), fun z => absurd (by decide) z⟩) (fun _ => ⟨fun z => absurd rfl z, fun _ _ => H.thr h FrQ.rf 0 (by omega)⟩)))
  have hm := h1.th' (z := 0) (by omega)
  have hq := h2.tr (FrQ.th (z := 0))
  have hT : TmOK (upm m' 143 0 0) d := h5
  generalize upm m' 143 0 0 = M at hm hq hT
  have key : ∀ (N : Nat) (c : Int), 1 ≤ c → (41 - c).toNat < N → Wx (Ex S (n + 5)) S M_336 (fun r m => ∃ y, r = some y ∧ K y m) 39 [some (.inr 143), some (.inl d), some (.inl c)] [] M := by
    intro N
    induction N with
    | zero => intros; omega
    | succ N ih =>
      intro c hc hN
      refine w_336_39 (Ex.mono S (n + 5)) ⟨fun _ _ => H.at hm hq _, fun q => f_313 hm.ops ⟨d1, d2⟩ ⟨by omega, by omega⟩ hT (fun r r1 r2 _ => f_335 hm.ops (fun s s1 s2 _ => ?_))⟩
      have p := Int.mul_nonneg (show 0 ≤ c by omega) s1
      have p2 : c * s ≤ c * 48 := Int.mul_le_mul_of_nonneg_left s2 (by omega)
      exact ⟨by unfold InI; omega, fun _ => ⟨by unfold InI; omega, ih (c + 1) (by omega) (by omega)⟩, fun _ _ => H.at hm hq _⟩
  exact key 41 1 (by omega) (by omega)
theorem f_356 {a : Int} (h : RefOK mem) (H : Fin mem K) : CWI (Ex S (n + 6)) 356 [.inr 143, .inl a, .inl d] mem K := by
  refine CW.of (k := 0) mt_356 rfl rfl (w_356_0 (Ex.mono S (n + 5)) (f_227 (fun a1 a2 _ => ⟨fun _ => f_253 (fun d1 d2 _ => ⟨fun _ => f_268r h ⟨d1, d2⟩ (fun m' h1 h2 hk _ _ h5 _ => ⟨fun _ => ⟨by omega, fun v e _ => ?_⟩, fun z => absurd (by decide) z⟩) (fun m' h1 h2 _ => ⟨fun z => absurd rfl z, fun _ _ => H.thr h1 h2 0 (by omega)⟩), fun z => absurd (by decide) z⟩) (fun _ => ⟨fun z => absurd rfl z, fun _ _ => H.thr h FrQ.rf 0 (by omega)⟩), fun z => absurd (by decide) z⟩) (fun _ _ => ⟨fun z => absurd rfl z, fun _ _ => H.thr h FrQ.rf 0 (by omega)⟩)))
  have hm := h1.th' (z := 0) (by omega)
  have hv := hm.cn a.toNat (by omega)
  have p := mul12 (d := d) ⟨d1, d2⟩ (y := v) (c := 3) (by omega)
  exact ⟨by unfold InI; omega, f_263 hm.ops hm.un hm.bz (fun r r1 r2 _ => ⟨by unfold InI; omega, fun _ => H.thr h1 h2 _ (by omega)⟩)⟩
theorem f_358 {a : Int} (h : RefOK mem) (H : Fin mem K) : CWI (Ex S (n + 6)) 358 [.inr 143, .inl a] mem K := by
  have key : ∀ (N : Nat) (c : Int) (m : MM), 1 ≤ c → (13 - c).toNat < N → RefOK m → FrQ mem m → Wx (Ex S (n + 5)) S M_358 (fun r m => ∃ y, r = some y ∧ K y m) 41 [some (.inr 143), some (.inl a), some (.inl c)] [] m := by
    intro N
    induction N with
    | zero => intros; omega
    | succ N ih =>
      intro c m hc hN hm hq
      exact w_358_41 (Ex.mono S (n + 5)) ⟨fun _ _ => H.at hm hq _, fun q => f_268r hm ⟨hc, by omega⟩ (fun m' h1 h2 _ _ _ h5 _ => ⟨fun z => absurd z (by decide), fun _ => f_302 h1.ops ⟨hc, by omega⟩ h5 (fun r _ _ _ => ⟨fun _ => ⟨by unfold InI; omega, ih (c + 1) m' (by omega) (by omega) h1 (hq.tr h2)⟩, fun _ _ => H.at h1 (hq.tr h2) _⟩)⟩) (fun m' h1 h2 _ => ⟨fun _ => ⟨by unfold InI; omega, ih (c + 1) m' (by omega) (by omega) h1 (hq.tr h2)⟩, fun z => absurd rfl z⟩)⟩
  exact CW.of (k := 1) mt_358 rfl rfl (w_358_0 (Ex.mono S (n + 5)) (f_227 (fun _ _ _ => ⟨fun _ => f_240 h.ops (fun _ _ => ⟨fun _ => key 13 1 _ (by omega) (by omega) (h.th' (by omega)) FrQ.th, fun z => absurd (by decide) z⟩) (fun _ _ => ⟨fun z => absurd rfl z, fun _ _ => H.thr h FrQ.rf 0 (by omega)⟩), fun z => absurd (by decide) z⟩) (fun _ _ => ⟨fun z => absurd rfl z, fun _ _ => H.thr h FrQ.rf 0 (by omega)⟩)))
theorem f_363 {c x : Int} (hO : OpsOK mem) (hd : 1 ≤ d ∧ d ≤ 12) (hT : TmOK mem d) (hc : 0 ≤ c ∧ c ≤ 700) (H : ∀ r, K r mem) : CWI (Ex S (n + 2)) 363 [.inr 143, .inl c, .inl d, .inl x] mem K := by
  have h8 := hO.1
  have key : ∀ (N : Nat) (o : Nat), (o : Int) ≤ mem 143 1 → (mem 143 1 - o).toNat < N → Wx (Ex S (n + 1)) S M_363 (fun r m => ∃ y, r = some y ∧ K y m) 3 [some (.inr 143), some (.inl c), some (.inl d), some (.inl x), some (.inl (o : Int))] [] mem := by
    intro N
    induction N with
    | zero => intros; omega
    | succ N ih =>
      intro o ho hN
      refine w_363_3 (Ex.mono S (n + 1)) (fun v1 e1 _ => ⟨fun _ => ⟨_, rfl, H _⟩, fun q => ⟨by omega, fun v2 e2 _ => ?_⟩⟩)
      rw [Int.toNat_natCast] at e2
      have ht := hT o (by omega)
      exact f_319d (by omega) (by unfold InI; omega) (fun _ => ⟨fun _ => ⟨by unfold InI; omega, ih (o + 1) (by omega) (by omega)⟩, fun _ => ⟨_, rfl, H _⟩⟩)
  exact CW.of (k := 1) mt_363 rfl rfl (w_363_0 (Ex.mono S (n + 1)) (key 9 0 (by omega) (by omega)))
theorem f_362 {x : Int} (h : RefOK mem) (H : Fin mem K) : CWI (Ex S (n + 7)) 362 [.inr 143, .inl d, .inl x] mem K := by
  refine CW.of (k := 2) mt_362 rfl rfl (w_362_0 (Ex.mono S (n + 6)) (f_311 h (fun m' d1 d2 x1 x2 h1 h2 hk h3 h5 _ => ⟨fun _ => ?_, fun z => absurd (by decide) z⟩) (fun r m' r1 r2 h1 h2 _ => ⟨fun z => by omega, fun _ _ => H.thr h1 h2 0 (by omega)⟩)))
  have hm := h1.th' (z := 0) (by omega)
  have hq := h2.tr (FrQ.th (z := 0))
  have hT : TmOK (upm m' 143 0 0) d := h5
  generalize upm m' 143 0 0 = M at hm hq hT
  have key : ∀ (N : Nat) (s c : Int), 0 ≤ c → 0 ≤ s → s ≤ c → (701 - c).toNat < N → Wx (Ex S (n + 6)) S M_362 (fun r m => ∃ y, r = some y ∧ K y m) 24 [some (.inr 143), some (.inl d), some (.inl x), some (.inl s), some (.inl c)] [] M := by
    intro N
    induction N with
    | zero => intros; omega
    | succ N ih =>
      intro s c hc hs hsc hN
      exact w_362_24 (Ex.mono S (n + 6)) (f_313 hm.ops ⟨d1, d2⟩ ⟨x1, x2⟩ hT (fun r r1 r2 _ => ⟨fun _ _ => H.at hm hq _, fun q => f_363 hm.ops ⟨d1, d2⟩ hT ⟨hc, by omega⟩ (fun u _ => ⟨fun _ => ⟨by unfold InI; omega, by unfold InI; omega, ih _ (c + 1) (by omega) (by omega) (by omega) (by omega)⟩, fun _ => ⟨by unfold InI; omega, by unfold InI; omega, ih _ (c + 1) (by omega) (by omega) (by omega) (by omega)⟩⟩)⟩))
  exact key 702 0 0 (by omega) (by omega) (by omega) (by omega)
theorem f_361 {a b : Int} (h : RefOK mem) (H : Fin mem K) : CWI (Ex S (n + 6)) 361 [.inr 143, .inl a, .inl b, .inl d] mem K := by
  refine CW.of (k := 3) mt_361 rfl rfl (w_361_0 (Ex.mono S (n + 5)) (f_227 (fun a1 a2 _ => ⟨fun _ => f_253 (fun d1 d2 _ => ⟨fun z => absurd z (by decide), fun _ => ⟨by unfold InI; omega, f_227 (fun b1 b2 _ => ⟨fun _ => f_268r h ⟨d1, d2⟩ (fun m' h1 h2 _ _ _ h5 _ => ⟨fun _ => ?_, fun z => absurd (by decide) z⟩) (fun m' h1 h2 _ => ⟨fun z => absurd rfl z, fun _ _ => H.thr h1 h2 0 (by omega)⟩), fun z => absurd (by decide) z⟩) (fun _ _ => ⟨fun z => absurd rfl z, fun _ _ => H.thr h FrQ.rf 0 (by omega)⟩)⟩⟩) (fun _ => ⟨fun _ _ => H.thr h FrQ.rf 0 (by omega), fun z => absurd rfl z⟩), fun z => absurd (by decide) z⟩) (fun _ _ => ⟨fun z => absurd rfl z, fun _ _ => H.thr h FrQ.rf 0 (by omega)⟩)))
  have hm := h1.th' (z := 0) (by omega)
  have hq := h2.tr (FrQ.th (z := 0))
  have hT : TmOK (upm m' 143 0 0) d := h5
  generalize upm m' 143 0 0 = M at hm hq hT
  have h8 := hm.ops.1
  have key : ∀ (N : Nat) (s : Int) (o : Nat), (o : Int) ≤ M 143 1 → (M 143 1 - o).toNat < N → Wx (Ex S (n + 5)) S M_361 (fun r m => ∃ y, r = some y ∧ K y m) 67 [some (.inr 143), some (.inl a), some (.inl b), some (.inl d), some (.inl s), some (.inl (o : Int)), none] [] M := by
    intro N
    induction N with
    | zero => intros; omega
    | succ N ih =>
      intro s o ho hN
      refine w_361_67 (Ex.mono S (n + 5)) (fun v1 e1 _ => ⟨fun _ _ => H.at hm hq _, fun q => ?_⟩)
      have ho8 : 0 ≤ (o : Int) ∧ (o : Int) < 8 := by omega
      have ht := hT o (by omega)
      have inner : ∀ (N' : Nat) (s k : Int), 0 ≤ k → (5 - k).toNat < N' → Wx (Ex S (n + 5)) S M_361 (fun r m => ∃ y, r = some y ∧ K y m) 79 [some (.inr 143), some (.inl a), some (.inl b), some (.inl d), some (.inl s), some (.inl (o : Int)), some (.inl k)] [] M := by
        intro N'
        induction N' with
        | zero => intros; omega
        | succ N' ih2 =>
          intro s k hk hN'
          have nx : ∀ s, ¬ 4 ≤ k → InI (k + 1) ∧ Wx (Ex S (n + 5)) S M_361 (fun r m => ∃ y, r = some y ∧ K y m) 79 [some (.inr 143), some (.inl a), some (.inl b), some (.inl d), some (.inl s), some (.inl (o : Int)), some (.inl (k + 1))] [] M := fun s z => ⟨by unfold InI; omega, ih2 s (k + 1) (by omega) (by omega)⟩
          refine w_361_79 (Ex.mono S (n + 5)) ⟨fun _ => ⟨by unfold InI; omega, ih s (o + 1) (by omega) (by omega)⟩, fun z => f_264 hm.ops hm.un ho8 (fun u _ _ _ => ⟨fun _ => nx _ z, fun _ => f_265 hm.ops ho8 (fun w _ b5 _ _ b6 _ _ => ⟨fun _ => nx _ z, fun _ => ⟨ho8, fun v7 e7 _ => ?_⟩⟩)⟩)⟩
          rw [Int.toNat_natCast] at e7
          exact ⟨by unfold InI; omega, by omega, fun _ => nx _ z, fun _ b8 _ _ b9 _ _ => nx _ z⟩
      exact inner 6 s 0 (by omega) (by omega)
  exact key 9 0 0 (by omega) (by omega)
end SMALL2
/-! laid by wip/hand/wxg.py: quick, turning: what the paths of methods ask for -/
set_option maxRecDepth 100000 in
theorem mt_280 : MT[280]? = some M_280 := rfl
set_option maxRecDepth 100000 in
theorem mt_281 : MT[281]? = some M_281 := rfl
set_option maxRecDepth 100000 in
theorem mt_282 : MT[282]? = some M_282 := rfl
set_option maxRecDepth 100000 in
theorem mt_283 : MT[283]? = some M_283 := rfl
set_option maxRecDepth 100000 in
theorem mt_284 : MT[284]? = some M_284 := rfl
set_option maxRecDepth 100000 in
theorem mt_285 : MT[285]? = some M_285 := rfl
set_option maxRecDepth 100000 in
theorem mt_286 : MT[286]? = some M_286 := rfl
set_option maxRecDepth 100000 in
theorem mt_287 : MT[287]? = some M_287 := rfl
set_option maxRecDepth 100000 in
theorem mt_288 : MT[288]? = some M_288 := rfl
set_option maxRecDepth 100000 in
theorem mt_289 : MT[289]? = some M_289 := rfl
set_option maxRecDepth 100000 in
theorem mt_290 : MT[290]? = some M_290 := rfl
set_option maxRecDepth 100000 in
theorem mt_291 : MT[291]? = some M_291 := rfl
set_option maxRecDepth 100000 in
theorem mt_292 : MT[292]? = some M_292 := rfl
set_option maxRecDepth 100000 in
theorem mt_293 : MT[293]? = some M_293 := rfl
set_option maxRecDepth 100000 in
theorem mt_337 : MT[337]? = some M_337 := rfl
set_option maxRecDepth 100000 in
theorem mt_338 : MT[338]? = some M_338 := rfl
set_option maxRecDepth 100000 in
theorem mt_339 : MT[339]? = some M_339 := rfl
set_option maxRecDepth 100000 in
theorem mt_340 : MT[340]? = some M_340 := rfl
set_option maxRecDepth 100000 in
theorem mt_341 : MT[341]? = some M_341 := rfl
set_option maxRecDepth 100000 in
theorem mt_342 : MT[342]? = some M_342 := rfl
theorem te_280_0 : (pT M_280).find? (fun e => e.1 == 0) = some (0, .aload_n 0, 0, 0) := rfl
theorem te_280_1 : (pT M_280).find? (fun e => e.1 == 1) = some (1, .aload_n 0, 0, 0) := rfl
theorem te_280_2 : (pT M_280).find? (fun e => e.1 == 2) = some (2, .iload_n 1, 0, 0) := rfl
theorem te_280_3 : (pT M_280).find? (fun e => e.1 == 3) = some (3, .invokevirtual 122, 235, 0) := rfl
theorem te_280_6 : (pT M_280).find? (fun e => e.1 == 6) = some (6, .ifCond .ne 7, 0, 0) := rfl
theorem te_280_9 : (pT M_280).find? (fun e => e.1 == 9) = some (9, .iconst 1, 0, 0) := rfl
theorem te_280_10 : (pT M_280).find? (fun e => e.1 == 10) = some (10, .goto 27, 0, 0) := rfl
theorem te_280_13 : (pT M_280).find? (fun e => e.1 == 13) = some (13, .iload_n 2, 0, 0) := rfl
theorem te_280_14 : (pT M_280).find? (fun e => e.1 == 14) = some (14, .invokestatic 202, 253, 2) := rfl
theorem te_280_17 : (pT M_280).find? (fun e => e.1 == 17) = some (17, .ifCond .ne 7, 0, 0) := rfl
theorem te_280_20 : (pT M_280).find? (fun e => e.1 == 20) = some (20, .iconst 2, 0, 0) := rfl
theorem te_280_21 : (pT M_280).find? (fun e => e.1 == 21) = some (21, .goto 16, 0, 0) := rfl
theorem te_280_24 : (pT M_280).find? (fun e => e.1 == 24) = some (24, .aload_n 0, 0, 0) := rfl
theorem te_280_25 : (pT M_280).find? (fun e => e.1 == 25) = some (25, .iload_n 2, 0, 0) := rfl
theorem te_280_26 : (pT M_280).find? (fun e => e.1 == 26) = some (26, .invokevirtual 205, 254, 0) := rfl
theorem te_280_29 : (pT M_280).find? (fun e => e.1 == 29) = some (29, .ifCond .eq 7, 0, 0) := rfl
theorem te_280_32 : (pT M_280).find? (fun e => e.1 == 32) = some (32, .iconst 3, 0, 0) := rfl
theorem te_280_33 : (pT M_280).find? (fun e => e.1 == 33) = some (33, .goto 4, 0, 0) := rfl
theorem te_280_36 : (pT M_280).find? (fun e => e.1 == 36) = some (36, .iconst 0, 0, 0) := rfl
theorem te_280_37 : (pT M_280).find? (fun e => e.1 == 37) = some (37, .putfield 101, 10, 0) := rfl
theorem te_280_40 : (pT M_280).find? (fun e => e.1 == 40) = some (40, .aload_n 0, 0, 0) := rfl
theorem te_280_41 : (pT M_280).find? (fun e => e.1 == 41) = some (41, .getfield 101, 10, 0) := rfl
theorem te_280_44 : (pT M_280).find? (fun e => e.1 == 44) = some (44, .ifCond .le 7, 0, 0) := rfl
theorem te_280_47 : (pT M_280).find? (fun e => e.1 == 47) = some (47, .iconst 0, 0, 0) := rfl
theorem te_280_48 : (pT M_280).find? (fun e => e.1 == 48) = some (48, .goto 21, 0, 0) := rfl
theorem te_280_51 : (pT M_280).find? (fun e => e.1 == 51) = some (51, .aload_n 0, 0, 0) := rfl
theorem te_280_52 : (pT M_280).find? (fun e => e.1 == 52) = some (52, .iload_n 2, 0, 0) := rfl
theorem te_280_53 : (pT M_280).find? (fun e => e.1 == 53) = some (53, .invokevirtual 269, 281, 0) := rfl
theorem te_280_56 : (pT M_280).find? (fun e => e.1 == 56) = some (56, .ifCond .eq 12, 0, 0) := rfl
theorem te_280_59 : (pT M_280).find? (fun e => e.1 == 59) = some (59, .aload_n 0, 0, 0) := rfl
theorem te_280_60 : (pT M_280).find? (fun e => e.1 == 60) = some (60, .getfield 71, 10, 23) := rfl
theorem te_280_63 : (pT M_280).find? (fun e => e.1 == 63) = some (63, .iload_n 1, 0, 0) := rfl
theorem te_280_64 : (pT M_280).find? (fun e => e.1 == 64) = some (64, .iaload, 0, 0) := rfl
theorem te_280_65 : (pT M_280).find? (fun e => e.1 == 65) = some (65, .goto 4, 0, 0) := rfl
theorem te_280_68 : (pT M_280).find? (fun e => e.1 == 68) = some (68, .iconst (-1), 0, 0) := rfl
theorem te_280_69 : (pT M_280).find? (fun e => e.1 == 69) = some (69, .ireturn, 0, 0) := rfl
theorem te_281_0 : (pT M_281).find? (fun e => e.1 == 0) = some (0, .aload_n 0, 0, 0) := rfl
theorem te_281_1 : (pT M_281).find? (fun e => e.1 == 1) = some (1, .iload_n 1, 0, 0) := rfl
theorem te_281_2 : (pT M_281).find? (fun e => e.1 == 2) = some (2, .invokevirtual 173, 256, 0) := rfl
theorem te_281_5 : (pT M_281).find? (fun e => e.1 == 5) = some (5, .aload_n 0, 0, 0) := rfl
theorem te_281_6 : (pT M_281).find? (fun e => e.1 == 6) = some (6, .iload_n 1, 0, 0) := rfl
theorem te_281_7 : (pT M_281).find? (fun e => e.1 == 7) = some (7, .invokevirtual 266, 282, 0) := rfl
theorem te_281_10 : (pT M_281).find? (fun e => e.1 == 10) = some (10, .ireturn, 0, 0) := rfl
theorem te_282_0 : (pT M_282).find? (fun e => e.1 == 0) = some (0, .iconst 0, 0, 0) := rfl
theorem te_282_1 : (pT M_282).find? (fun e => e.1 == 1) = some (1, .istore_n 2, 0, 0) := rfl
theorem te_282_2 : (pT M_282).find? (fun e => e.1 == 2) = some (2, .iload_n 2, 0, 0) := rfl
theorem te_282_3 : (pT M_282).find? (fun e => e.1 == 3) = some (3, .aload_n 0, 0, 0) := rfl
theorem te_282_4 : (pT M_282).find? (fun e => e.1 == 4) = some (4, .getfield 108, 10, 1) := rfl
theorem te_282_7 : (pT M_282).find? (fun e => e.1 == 7) = some (7, .if_icmp .ge 20, 0, 0) := rfl
theorem te_282_10 : (pT M_282).find? (fun e => e.1 == 10) = some (10, .aload_n 0, 0, 0) := rfl
theorem te_282_11 : (pT M_282).find? (fun e => e.1 == 11) = some (11, .iload_n 2, 0, 0) := rfl
theorem te_282_12 : (pT M_282).find? (fun e => e.1 == 12) = some (12, .iload_n 1, 0, 0) := rfl
theorem te_282_13 : (pT M_282).find? (fun e => e.1 == 13) = some (13, .invokevirtual 254, 283, 0) := rfl
theorem te_282_16 : (pT M_282).find? (fun e => e.1 == 16) = some (16, .ifCond .ne 5, 0, 0) := rfl
theorem te_282_19 : (pT M_282).find? (fun e => e.1 == 19) = some (19, .iconst 0, 0, 0) := rfl
theorem te_282_20 : (pT M_282).find? (fun e => e.1 == 20) = some (20, .ireturn, 0, 0) := rfl
theorem te_282_21 : (pT M_282).find? (fun e => e.1 == 21) = some (21, .iinc 2 1, 0, 0) := rfl
theorem te_282_24 : (pT M_282).find? (fun e => e.1 == 24) = some (24, .goto (-22), 0, 0) := rfl
theorem te_282_27 : (pT M_282).find? (fun e => e.1 == 27) = some (27, .aload_n 0, 0, 0) := rfl
theorem te_282_28 : (pT M_282).find? (fun e => e.1 == 28) = some (28, .invokevirtual 214, 270, 0) := rfl
theorem te_282_31 : (pT M_282).find? (fun e => e.1 == 31) = some (31, .aload_n 0, 0, 0) := rfl
theorem te_282_32 : (pT M_282).find? (fun e => e.1 == 32) = some (32, .iconst 0, 0, 0) := rfl
theorem te_282_33 : (pT M_282).find? (fun e => e.1 == 33) = some (33, .putfield 257, 10, 25) := rfl
theorem te_282_36 : (pT M_282).find? (fun e => e.1 == 36) = some (36, .iconst 0, 0, 0) := rfl
theorem te_282_37 : (pT M_282).find? (fun e => e.1 == 37) = some (37, .istore_n 2, 0, 0) := rfl
theorem te_282_38 : (pT M_282).find? (fun e => e.1 == 38) = some (38, .iload_n 2, 0, 0) := rfl
theorem te_282_39 : (pT M_282).find? (fun e => e.1 == 39) = some (39, .aload_n 0, 0, 0) := rfl
theorem te_282_40 : (pT M_282).find? (fun e => e.1 == 40) = some (40, .getfield 108, 10, 1) := rfl
theorem te_282_43 : (pT M_282).find? (fun e => e.1 == 43) = some (43, .if_icmp .ge 23, 0, 0) := rfl
theorem te_282_46 : (pT M_282).find? (fun e => e.1 == 46) = some (46, .aload_n 0, 0, 0) := rfl
theorem te_282_47 : (pT M_282).find? (fun e => e.1 == 47) = some (47, .getfield 71, 10, 23) := rfl
theorem te_282_50 : (pT M_282).find? (fun e => e.1 == 50) = some (50, .iload_n 2, 0, 0) := rfl
theorem te_282_51 : (pT M_282).find? (fun e => e.1 == 51) = some (51, .iconst (-1), 0, 0) := rfl
theorem te_282_52 : (pT M_282).find? (fun e => e.1 == 52) = some (52, .iastore, 0, 0) := rfl
theorem te_282_53 : (pT M_282).find? (fun e => e.1 == 53) = some (53, .aload_n 0, 0, 0) := rfl
theorem te_282_54 : (pT M_282).find? (fun e => e.1 == 54) = some (54, .getfield 74, 10, 24) := rfl
theorem te_282_57 : (pT M_282).find? (fun e => e.1 == 57) = some (57, .iload_n 2, 0, 0) := rfl
theorem te_282_58 : (pT M_282).find? (fun e => e.1 == 58) = some (58, .iconst (-1), 0, 0) := rfl
theorem te_282_59 : (pT M_282).find? (fun e => e.1 == 59) = some (59, .iastore, 0, 0) := rfl
theorem te_282_60 : (pT M_282).find? (fun e => e.1 == 60) = some (60, .iinc 2 1, 0, 0) := rfl
theorem te_282_63 : (pT M_282).find? (fun e => e.1 == 63) = some (63, .goto (-25), 0, 0) := rfl
theorem te_282_66 : (pT M_282).find? (fun e => e.1 == 66) = some (66, .aload_n 0, 0, 0) := rfl
theorem te_282_67 : (pT M_282).find? (fun e => e.1 == 67) = some (67, .invokevirtual 260, 284, 0) := rfl
theorem te_282_70 : (pT M_282).find? (fun e => e.1 == 70) = some (70, .istore_n 2, 0, 0) := rfl
theorem te_282_71 : (pT M_282).find? (fun e => e.1 == 71) = some (71, .iload_n 2, 0, 0) := rfl
theorem te_282_72 : (pT M_282).find? (fun e => e.1 == 72) = some (72, .iconst (-1), 0, 0) := rfl
theorem te_282_73 : (pT M_282).find? (fun e => e.1 == 73) = some (73, .if_icmp .eq 41, 0, 0) := rfl
theorem te_282_76 : (pT M_282).find? (fun e => e.1 == 76) = some (76, .aload_n 0, 0, 0) := rfl
theorem te_282_77 : (pT M_282).find? (fun e => e.1 == 77) = some (77, .getfield 257, 10, 25) := rfl
theorem te_282_80 : (pT M_282).find? (fun e => e.1 == 80) = some (80, .bipush 6, 0, 0) := rfl
theorem te_282_82 : (pT M_282).find? (fun e => e.1 == 82) = some (82, .aload_n 0, 0, 0) := rfl
theorem te_282_83 : (pT M_282).find? (fun e => e.1 == 83) = some (83, .getfield 108, 10, 1) := rfl
theorem te_282_86 : (pT M_282).find? (fun e => e.1 == 86) = some (86, .imul, 0, 0) := rfl
theorem te_282_87 : (pT M_282).find? (fun e => e.1 == 87) = some (87, .if_icmp .ge 27, 0, 0) := rfl
theorem te_282_90 : (pT M_282).find? (fun e => e.1 == 90) = some (90, .aload_n 0, 0, 0) := rfl
theorem te_282_91 : (pT M_282).find? (fun e => e.1 == 91) = some (91, .iload_n 2, 0, 0) := rfl
theorem te_282_92 : (pT M_282).find? (fun e => e.1 == 92) = some (92, .iload_n 1, 0, 0) := rfl
theorem te_282_93 : (pT M_282).find? (fun e => e.1 == 93) = some (93, .invokevirtual 263, 285, 0) := rfl
theorem te_282_96 : (pT M_282).find? (fun e => e.1 == 96) = some (96, .aload_n 0, 0, 0) := rfl
theorem te_282_97 : (pT M_282).find? (fun e => e.1 == 97) = some (97, .dup, 0, 0) := rfl
theorem te_282_98 : (pT M_282).find? (fun e => e.1 == 98) = some (98, .getfield 257, 10, 25) := rfl
theorem te_282_101 : (pT M_282).find? (fun e => e.1 == 101) = some (101, .iconst 1, 0, 0) := rfl
theorem te_282_102 : (pT M_282).find? (fun e => e.1 == 102) = some (102, .iadd, 0, 0) := rfl
theorem te_282_103 : (pT M_282).find? (fun e => e.1 == 103) = some (103, .putfield 257, 10, 25) := rfl
theorem te_282_106 : (pT M_282).find? (fun e => e.1 == 106) = some (106, .aload_n 0, 0, 0) := rfl
theorem te_282_107 : (pT M_282).find? (fun e => e.1 == 107) = some (107, .invokevirtual 260, 284, 0) := rfl
theorem te_282_110 : (pT M_282).find? (fun e => e.1 == 110) = some (110, .istore_n 2, 0, 0) := rfl
theorem te_282_111 : (pT M_282).find? (fun e => e.1 == 111) = some (111, .goto (-40), 0, 0) := rfl
theorem te_282_114 : (pT M_282).find? (fun e => e.1 == 114) = some (114, .iload_n 2, 0, 0) := rfl
theorem te_282_115 : (pT M_282).find? (fun e => e.1 == 115) = some (115, .iconst (-1), 0, 0) := rfl
theorem te_282_116 : (pT M_282).find? (fun e => e.1 == 116) = some (116, .if_icmp .ne 7, 0, 0) := rfl
theorem te_282_119 : (pT M_282).find? (fun e => e.1 == 119) = some (119, .iconst 1, 0, 0) := rfl
theorem te_282_120 : (pT M_282).find? (fun e => e.1 == 120) = some (120, .goto 4, 0, 0) := rfl
theorem te_282_123 : (pT M_282).find? (fun e => e.1 == 123) = some (123, .iconst 0, 0, 0) := rfl
theorem te_282_124 : (pT M_282).find? (fun e => e.1 == 124) = some (124, .ireturn, 0, 0) := rfl
theorem te_283_0 : (pT M_283).find? (fun e => e.1 == 0) = some (0, .iconst 0, 0, 0) := rfl
theorem te_283_1 : (pT M_283).find? (fun e => e.1 == 1) = some (1, .istore_n 3, 0, 0) := rfl
theorem te_283_2 : (pT M_283).find? (fun e => e.1 == 2) = some (2, .iload_n 3, 0, 0) := rfl
theorem te_283_3 : (pT M_283).find? (fun e => e.1 == 3) = some (3, .aload_n 0, 0, 0) := rfl
theorem te_283_4 : (pT M_283).find? (fun e => e.1 == 4) = some (4, .getfield 141, 10, 12) := rfl
theorem te_283_7 : (pT M_283).find? (fun e => e.1 == 7) = some (7, .if_icmp .ge 48, 0, 0) := rfl
theorem te_283_10 : (pT M_283).find? (fun e => e.1 == 10) = some (10, .aload_n 0, 0, 0) := rfl
theorem te_283_11 : (pT M_283).find? (fun e => e.1 == 11) = some (11, .getfield 40, 10, 13) := rfl
theorem te_283_14 : (pT M_283).find? (fun e => e.1 == 14) = some (14, .iload_n 3, 0, 0) := rfl
theorem te_283_15 : (pT M_283).find? (fun e => e.1 == 15) = some (15, .iaload, 0, 0) := rfl
theorem te_283_16 : (pT M_283).find? (fun e => e.1 == 16) = some (16, .iload_n 1, 0, 0) := rfl
theorem te_283_17 : (pT M_283).find? (fun e => e.1 == 17) = some (17, .if_icmp .ne 32, 0, 0) := rfl
theorem te_283_20 : (pT M_283).find? (fun e => e.1 == 20) = some (20, .aload_n 0, 0, 0) := rfl
theorem te_283_21 : (pT M_283).find? (fun e => e.1 == 21) = some (21, .getfield 43, 10, 14) := rfl
theorem te_283_24 : (pT M_283).find? (fun e => e.1 == 24) = some (24, .iload_n 3, 0, 0) := rfl
theorem te_283_25 : (pT M_283).find? (fun e => e.1 == 25) = some (25, .iaload, 0, 0) := rfl
theorem te_283_26 : (pT M_283).find? (fun e => e.1 == 26) = some (26, .iload_n 1, 0, 0) := rfl
theorem te_283_27 : (pT M_283).find? (fun e => e.1 == 27) = some (27, .if_icmp .ne 22, 0, 0) := rfl
theorem te_283_30 : (pT M_283).find? (fun e => e.1 == 30) = some (30, .aload_n 0, 0, 0) := rfl
theorem te_283_31 : (pT M_283).find? (fun e => e.1 == 31) = some (31, .getfield 49, 10, 16) := rfl
theorem te_283_34 : (pT M_283).find? (fun e => e.1 == 34) = some (34, .iload_n 3, 0, 0) := rfl
theorem te_283_35 : (pT M_283).find? (fun e => e.1 == 35) = some (35, .iaload, 0, 0) := rfl
theorem te_283_36 : (pT M_283).find? (fun e => e.1 == 36) = some (36, .iload_n 2, 0, 0) := rfl
theorem te_283_37 : (pT M_283).find? (fun e => e.1 == 37) = some (37, .aload_n 0, 0, 0) := rfl
theorem te_283_38 : (pT M_283).find? (fun e => e.1 == 38) = some (38, .getfield 46, 10, 15) := rfl
theorem te_283_41 : (pT M_283).find? (fun e => e.1 == 41) = some (41, .iload_n 3, 0, 0) := rfl
theorem te_283_42 : (pT M_283).find? (fun e => e.1 == 42) = some (42, .iaload, 0, 0) := rfl
theorem te_283_43 : (pT M_283).find? (fun e => e.1 == 43) = some (43, .imul, 0, 0) := rfl
theorem te_283_44 : (pT M_283).find? (fun e => e.1 == 44) = some (44, .if_icmp .le 5, 0, 0) := rfl
theorem te_283_47 : (pT M_283).find? (fun e => e.1 == 47) = some (47, .iconst 0, 0, 0) := rfl
theorem te_283_48 : (pT M_283).find? (fun e => e.1 == 48) = some (48, .ireturn, 0, 0) := rfl
theorem te_283_49 : (pT M_283).find? (fun e => e.1 == 49) = some (49, .iinc 3 1, 0, 0) := rfl
theorem te_283_52 : (pT M_283).find? (fun e => e.1 == 52) = some (52, .goto (-50), 0, 0) := rfl
theorem te_283_55 : (pT M_283).find? (fun e => e.1 == 55) = some (55, .aload_n 0, 0, 0) := rfl
theorem te_283_56 : (pT M_283).find? (fun e => e.1 == 56) = some (56, .invokevirtual 214, 270, 0) := rfl
theorem te_283_59 : (pT M_283).find? (fun e => e.1 == 59) = some (59, .aload_n 0, 0, 0) := rfl
theorem te_283_60 : (pT M_283).find? (fun e => e.1 == 60) = some (60, .iload_n 1, 0, 0) := rfl
theorem te_283_61 : (pT M_283).find? (fun e => e.1 == 61) = some (61, .iconst 0, 0, 0) := rfl
theorem te_283_62 : (pT M_283).find? (fun e => e.1 == 62) = some (62, .iload_n 2, 0, 0) := rfl
theorem te_283_63 : (pT M_283).find? (fun e => e.1 == 63) = some (63, .iconst 1, 0, 0) := rfl
theorem te_283_64 : (pT M_283).find? (fun e => e.1 == 64) = some (64, .invokevirtual 217, 271, 0) := rfl
theorem te_283_67 : (pT M_283).find? (fun e => e.1 == 67) = some (67, .aload_n 0, 0, 0) := rfl
theorem te_283_68 : (pT M_283).find? (fun e => e.1 == 68) = some (68, .aload_n 0, 0, 0) := rfl
theorem te_283_69 : (pT M_283).find? (fun e => e.1 == 69) = some (69, .iload_n 1, 0, 0) := rfl
theorem te_283_70 : (pT M_283).find? (fun e => e.1 == 70) = some (70, .invokevirtual 180, 264, 0) := rfl
theorem te_283_73 : (pT M_283).find? (fun e => e.1 == 73) = some (73, .iload_n 2, 0, 0) := rfl
theorem te_283_74 : (pT M_283).find? (fun e => e.1 == 74) = some (74, .invokevirtual 220, 273, 0) := rfl
theorem te_283_77 : (pT M_283).find? (fun e => e.1 == 77) = some (77, .ifCond .ne 7, 0, 0) := rfl
theorem te_283_80 : (pT M_283).find? (fun e => e.1 == 80) = some (80, .iconst 1, 0, 0) := rfl
theorem te_283_81 : (pT M_283).find? (fun e => e.1 == 81) = some (81, .goto 4, 0, 0) := rfl
theorem te_283_84 : (pT M_283).find? (fun e => e.1 == 84) = some (84, .iconst 0, 0, 0) := rfl
theorem te_283_85 : (pT M_283).find? (fun e => e.1 == 85) = some (85, .ireturn, 0, 0) := rfl
theorem te_284_0 : (pT M_284).find? (fun e => e.1 == 0) = some (0, .iconst (-1), 0, 0) := rfl
theorem te_284_1 : (pT M_284).find? (fun e => e.1 == 1) = some (1, .istore_n 1, 0, 0) := rfl
theorem te_284_2 : (pT M_284).find? (fun e => e.1 == 2) = some (2, .iconst 0, 0, 0) := rfl
theorem te_284_3 : (pT M_284).find? (fun e => e.1 == 3) = some (3, .istore_n 2, 0, 0) := rfl
theorem te_284_4 : (pT M_284).find? (fun e => e.1 == 4) = some (4, .iload_n 2, 0, 0) := rfl
theorem te_284_5 : (pT M_284).find? (fun e => e.1 == 5) = some (5, .aload_n 0, 0, 0) := rfl
theorem te_284_6 : (pT M_284).find? (fun e => e.1 == 6) = some (6, .getfield 108, 10, 1) := rfl
theorem te_284_9 : (pT M_284).find? (fun e => e.1 == 9) = some (9, .if_icmp .ge 39, 0, 0) := rfl
theorem te_284_12 : (pT M_284).find? (fun e => e.1 == 12) = some (12, .aload_n 0, 0, 0) := rfl
theorem te_284_13 : (pT M_284).find? (fun e => e.1 == 13) = some (13, .getfield 71, 10, 23) := rfl
theorem te_284_16 : (pT M_284).find? (fun e => e.1 == 16) = some (16, .iload_n 2, 0, 0) := rfl
theorem te_284_17 : (pT M_284).find? (fun e => e.1 == 17) = some (17, .iaload, 0, 0) := rfl
theorem te_284_18 : (pT M_284).find? (fun e => e.1 == 18) = some (18, .iconst (-1), 0, 0) := rfl
theorem te_284_19 : (pT M_284).find? (fun e => e.1 == 19) = some (19, .if_icmp .ne 23, 0, 0) := rfl
theorem te_284_22 : (pT M_284).find? (fun e => e.1 == 22) = some (22, .iload_n 1, 0, 0) := rfl
theorem te_284_23 : (pT M_284).find? (fun e => e.1 == 23) = some (23, .iconst (-1), 0, 0) := rfl
theorem te_284_24 : (pT M_284).find? (fun e => e.1 == 24) = some (24, .if_icmp .eq 16, 0, 0) := rfl
theorem te_284_27 : (pT M_284).find? (fun e => e.1 == 27) = some (27, .aload_n 0, 0, 0) := rfl
theorem te_284_28 : (pT M_284).find? (fun e => e.1 == 28) = some (28, .iload_n 2, 0, 0) := rfl
theorem te_284_29 : (pT M_284).find? (fun e => e.1 == 29) = some (29, .invokevirtual 208, 261, 0) := rfl
theorem te_284_32 : (pT M_284).find? (fun e => e.1 == 32) = some (32, .aload_n 0, 0, 0) := rfl
theorem te_284_33 : (pT M_284).find? (fun e => e.1 == 33) = some (33, .iload_n 1, 0, 0) := rfl
theorem te_284_34 : (pT M_284).find? (fun e => e.1 == 34) = some (34, .invokevirtual 208, 261, 0) := rfl
theorem te_284_37 : (pT M_284).find? (fun e => e.1 == 37) = some (37, .if_icmp .le 5, 0, 0) := rfl
theorem te_284_40 : (pT M_284).find? (fun e => e.1 == 40) = some (40, .iload_n 2, 0, 0) := rfl
theorem te_284_41 : (pT M_284).find? (fun e => e.1 == 41) = some (41, .istore_n 1, 0, 0) := rfl
theorem te_284_42 : (pT M_284).find? (fun e => e.1 == 42) = some (42, .iinc 2 1, 0, 0) := rfl
theorem te_284_45 : (pT M_284).find? (fun e => e.1 == 45) = some (45, .goto (-41), 0, 0) := rfl
theorem te_284_48 : (pT M_284).find? (fun e => e.1 == 48) = some (48, .iload_n 1, 0, 0) := rfl
theorem te_284_49 : (pT M_284).find? (fun e => e.1 == 49) = some (49, .ireturn, 0, 0) := rfl
theorem te_285_0 : (pT M_285).find? (fun e => e.1 == 0) = some (0, .aload_n 0, 0, 0) := rfl
theorem te_285_1 : (pT M_285).find? (fun e => e.1 == 1) = some (1, .iload_n 1, 0, 0) := rfl
theorem te_285_2 : (pT M_285).find? (fun e => e.1 == 2) = some (2, .iload_n 2, 0, 0) := rfl
theorem te_285_3 : (pT M_285).find? (fun e => e.1 == 3) = some (3, .invokevirtual 238, 286, 0) := rfl
theorem te_285_6 : (pT M_285).find? (fun e => e.1 == 6) = some (6, .istore_n 3, 0, 0) := rfl
theorem te_285_7 : (pT M_285).find? (fun e => e.1 == 7) = some (7, .iload_n 3, 0, 0) := rfl
theorem te_285_8 : (pT M_285).find? (fun e => e.1 == 8) = some (8, .istore 4, 0, 0) := rfl
theorem te_285_10 : (pT M_285).find? (fun e => e.1 == 10) = some (10, .iload 4, 0, 0) := rfl
theorem te_285_12 : (pT M_285).find? (fun e => e.1 == 12) = some (12, .iload_n 3, 0, 0) := rfl
theorem te_285_13 : (pT M_285).find? (fun e => e.1 == 13) = some (13, .iload_n 2, 0, 0) := rfl
theorem te_285_14 : (pT M_285).find? (fun e => e.1 == 14) = some (14, .iadd, 0, 0) := rfl
theorem te_285_15 : (pT M_285).find? (fun e => e.1 == 15) = some (15, .if_icmp .ge 20, 0, 0) := rfl
theorem te_285_18 : (pT M_285).find? (fun e => e.1 == 18) = some (18, .aload_n 0, 0, 0) := rfl
theorem te_285_19 : (pT M_285).find? (fun e => e.1 == 19) = some (19, .iload_n 1, 0, 0) := rfl
theorem te_285_20 : (pT M_285).find? (fun e => e.1 == 20) = some (20, .iload 4, 0, 0) := rfl
theorem te_285_22 : (pT M_285).find? (fun e => e.1 == 22) = some (22, .iload_n 2, 0, 0) := rfl
theorem te_285_23 : (pT M_285).find? (fun e => e.1 == 23) = some (23, .invokevirtual 241, 287, 0) := rfl
theorem te_285_26 : (pT M_285).find? (fun e => e.1 == 26) = some (26, .ifCond .ne 9, 0, 0) := rfl
theorem te_285_29 : (pT M_285).find? (fun e => e.1 == 29) = some (29, .iinc 4 1, 0, 0) := rfl
theorem te_285_32 : (pT M_285).find? (fun e => e.1 == 32) = some (32, .goto (-22), 0, 0) := rfl
theorem te_285_35 : (pT M_285).find? (fun e => e.1 == 35) = some (35, .iload 4, 0, 0) := rfl
theorem te_285_37 : (pT M_285).find? (fun e => e.1 == 37) = some (37, .iload_n 3, 0, 0) := rfl
theorem te_285_38 : (pT M_285).find? (fun e => e.1 == 38) = some (38, .iload_n 2, 0, 0) := rfl
theorem te_285_39 : (pT M_285).find? (fun e => e.1 == 39) = some (39, .iadd, 0, 0) := rfl
theorem te_285_40 : (pT M_285).find? (fun e => e.1 == 40) = some (40, .if_icmp .ne 31, 0, 0) := rfl
theorem te_285_43 : (pT M_285).find? (fun e => e.1 == 43) = some (43, .aload_n 0, 0, 0) := rfl
theorem te_285_44 : (pT M_285).find? (fun e => e.1 == 44) = some (44, .getfield 74, 10, 24) := rfl
theorem te_285_47 : (pT M_285).find? (fun e => e.1 == 47) = some (47, .iload_n 1, 0, 0) := rfl
theorem te_285_48 : (pT M_285).find? (fun e => e.1 == 48) = some (48, .iaload, 0, 0) := rfl
theorem te_285_49 : (pT M_285).find? (fun e => e.1 == 49) = some (49, .iconst (-1), 0, 0) := rfl
theorem te_285_50 : (pT M_285).find? (fun e => e.1 == 50) = some (50, .if_icmp .ne 7, 0, 0) := rfl
theorem te_285_53 : (pT M_285).find? (fun e => e.1 == 53) = some (53, .iload_n 3, 0, 0) := rfl
theorem te_285_54 : (pT M_285).find? (fun e => e.1 == 54) = some (54, .goto 15, 0, 0) := rfl
theorem te_285_57 : (pT M_285).find? (fun e => e.1 == 57) = some (57, .iload_n 3, 0, 0) := rfl
theorem te_285_58 : (pT M_285).find? (fun e => e.1 == 58) = some (58, .aload_n 0, 0, 0) := rfl
theorem te_285_59 : (pT M_285).find? (fun e => e.1 == 59) = some (59, .getfield 74, 10, 24) := rfl
theorem te_285_62 : (pT M_285).find? (fun e => e.1 == 62) = some (62, .iload_n 1, 0, 0) := rfl
theorem te_285_63 : (pT M_285).find? (fun e => e.1 == 63) = some (63, .iaload, 0, 0) := rfl
theorem te_285_64 : (pT M_285).find? (fun e => e.1 == 64) = some (64, .iconst 1, 0, 0) := rfl
theorem te_285_65 : (pT M_285).find? (fun e => e.1 == 65) = some (65, .iadd, 0, 0) := rfl
theorem te_285_66 : (pT M_285).find? (fun e => e.1 == 66) = some (66, .invokestatic 167, 257, 2) := rfl
theorem te_285_69 : (pT M_285).find? (fun e => e.1 == 69) = some (69, .istore 4, 0, 0) := rfl
theorem te_285_71 : (pT M_285).find? (fun e => e.1 == 71) = some (71, .aload_n 0, 0, 0) := rfl
theorem te_285_72 : (pT M_285).find? (fun e => e.1 == 72) = some (72, .getfield 71, 10, 23) := rfl
theorem te_285_75 : (pT M_285).find? (fun e => e.1 == 75) = some (75, .iload_n 1, 0, 0) := rfl
theorem te_285_76 : (pT M_285).find? (fun e => e.1 == 76) = some (76, .iload 4, 0, 0) := rfl
theorem te_285_78 : (pT M_285).find? (fun e => e.1 == 78) = some (78, .iastore, 0, 0) := rfl
theorem te_285_79 : (pT M_285).find? (fun e => e.1 == 79) = some (79, .aload_n 0, 0, 0) := rfl
theorem te_285_80 : (pT M_285).find? (fun e => e.1 == 80) = some (80, .getfield 74, 10, 24) := rfl
theorem te_285_83 : (pT M_285).find? (fun e => e.1 == 83) = some (83, .iload_n 1, 0, 0) := rfl
theorem te_285_84 : (pT M_285).find? (fun e => e.1 == 84) = some (84, .iload 4, 0, 0) := rfl
theorem te_285_86 : (pT M_285).find? (fun e => e.1 == 86) = some (86, .iastore, 0, 0) := rfl
theorem te_285_87 : (pT M_285).find? (fun e => e.1 == 87) = some (87, .aload_n 0, 0, 0) := rfl
theorem te_285_88 : (pT M_285).find? (fun e => e.1 == 88) = some (88, .iload_n 1, 0, 0) := rfl
theorem te_285_89 : (pT M_285).find? (fun e => e.1 == 89) = some (89, .iload 4, 0, 0) := rfl
theorem te_285_91 : (pT M_285).find? (fun e => e.1 == 91) = some (91, .iload_n 2, 0, 0) := rfl
theorem te_285_92 : (pT M_285).find? (fun e => e.1 == 92) = some (92, .iconst 1, 0, 0) := rfl
theorem te_285_93 : (pT M_285).find? (fun e => e.1 == 93) = some (93, .invokevirtual 217, 271, 0) := rfl
theorem te_285_96 : (pT M_285).find? (fun e => e.1 == 96) = some (96, .iconst 0, 0, 0) := rfl
theorem te_285_97 : (pT M_285).find? (fun e => e.1 == 97) = some (97, .istore 5, 0, 0) := rfl
theorem te_285_99 : (pT M_285).find? (fun e => e.1 == 99) = some (99, .iload 5, 0, 0) := rfl
theorem te_285_101 : (pT M_285).find? (fun e => e.1 == 101) = some (101, .aload_n 0, 0, 0) := rfl
theorem te_285_102 : (pT M_285).find? (fun e => e.1 == 102) = some (102, .getfield 108, 10, 1) := rfl
theorem te_285_105 : (pT M_285).find? (fun e => e.1 == 105) = some (105, .if_icmp .ge 44, 0, 0) := rfl
theorem te_285_108 : (pT M_285).find? (fun e => e.1 == 108) = some (108, .iload 5, 0, 0) := rfl
theorem te_285_110 : (pT M_285).find? (fun e => e.1 == 110) = some (110, .iload_n 1, 0, 0) := rfl
theorem te_285_111 : (pT M_285).find? (fun e => e.1 == 111) = some (111, .if_icmp .eq 32, 0, 0) := rfl
theorem te_285_114 : (pT M_285).find? (fun e => e.1 == 114) = some (114, .aload_n 0, 0, 0) := rfl
theorem te_285_115 : (pT M_285).find? (fun e => e.1 == 115) = some (115, .getfield 71, 10, 23) := rfl
theorem te_285_118 : (pT M_285).find? (fun e => e.1 == 118) = some (118, .iload 5, 0, 0) := rfl
theorem te_285_120 : (pT M_285).find? (fun e => e.1 == 120) = some (120, .iaload, 0, 0) := rfl
theorem te_285_121 : (pT M_285).find? (fun e => e.1 == 121) = some (121, .iconst (-1), 0, 0) := rfl
theorem te_285_122 : (pT M_285).find? (fun e => e.1 == 122) = some (122, .if_icmp .eq 21, 0, 0) := rfl
theorem te_285_125 : (pT M_285).find? (fun e => e.1 == 125) = some (125, .aload_n 0, 0, 0) := rfl
theorem te_285_126 : (pT M_285).find? (fun e => e.1 == 126) = some (126, .iload_n 1, 0, 0) := rfl
theorem te_285_127 : (pT M_285).find? (fun e => e.1 == 127) = some (127, .iload 5, 0, 0) := rfl
theorem te_285_129 : (pT M_285).find? (fun e => e.1 == 129) = some (129, .iload_n 2, 0, 0) := rfl
theorem te_285_130 : (pT M_285).find? (fun e => e.1 == 130) = some (130, .invokevirtual 244, 288, 0) := rfl
theorem te_285_133 : (pT M_285).find? (fun e => e.1 == 133) = some (133, .ifCond .eq 10, 0, 0) := rfl
theorem te_285_136 : (pT M_285).find? (fun e => e.1 == 136) = some (136, .aload_n 0, 0, 0) := rfl
theorem te_285_137 : (pT M_285).find? (fun e => e.1 == 137) = some (137, .iload 5, 0, 0) := rfl
theorem te_285_139 : (pT M_285).find? (fun e => e.1 == 139) = some (139, .iload_n 2, 0, 0) := rfl
theorem te_285_140 : (pT M_285).find? (fun e => e.1 == 140) = some (140, .invokevirtual 247, 290, 0) := rfl
theorem te_285_143 : (pT M_285).find? (fun e => e.1 == 143) = some (143, .iinc 5 1, 0, 0) := rfl
theorem te_285_146 : (pT M_285).find? (fun e => e.1 == 146) = some (146, .goto (-47), 0, 0) := rfl
theorem te_285_149 : (pT M_285).find? (fun e => e.1 == 149) = some (149, .iconst 0, 0, 0) := rfl
theorem te_285_150 : (pT M_285).find? (fun e => e.1 == 150) = some (150, .istore 5, 0, 0) := rfl
theorem te_285_152 : (pT M_285).find? (fun e => e.1 == 152) = some (152, .iconst 0, 0, 0) := rfl
theorem te_285_153 : (pT M_285).find? (fun e => e.1 == 153) = some (153, .istore 6, 0, 0) := rfl
theorem te_285_155 : (pT M_285).find? (fun e => e.1 == 155) = some (155, .iload 6, 0, 0) := rfl
theorem te_285_157 : (pT M_285).find? (fun e => e.1 == 157) = some (157, .aload_n 0, 0, 0) := rfl
theorem te_285_158 : (pT M_285).find? (fun e => e.1 == 158) = some (158, .getfield 141, 10, 12) := rfl
theorem te_285_161 : (pT M_285).find? (fun e => e.1 == 161) = some (161, .if_icmp .ge 90, 0, 0) := rfl
theorem te_285_164 : (pT M_285).find? (fun e => e.1 == 164) = some (164, .aload_n 0, 0, 0) := rfl
theorem te_285_165 : (pT M_285).find? (fun e => e.1 == 165) = some (165, .getfield 40, 10, 13) := rfl
theorem te_285_168 : (pT M_285).find? (fun e => e.1 == 168) = some (168, .iload 6, 0, 0) := rfl
theorem te_285_170 : (pT M_285).find? (fun e => e.1 == 170) = some (170, .iaload, 0, 0) := rfl
theorem te_285_171 : (pT M_285).find? (fun e => e.1 == 171) = some (171, .iload_n 1, 0, 0) := rfl
theorem te_285_172 : (pT M_285).find? (fun e => e.1 == 172) = some (172, .if_icmp .ne 13, 0, 0) := rfl
theorem te_285_175 : (pT M_285).find? (fun e => e.1 == 175) = some (175, .aload_n 0, 0, 0) := rfl
theorem te_285_176 : (pT M_285).find? (fun e => e.1 == 176) = some (176, .getfield 43, 10, 14) := rfl
theorem te_285_179 : (pT M_285).find? (fun e => e.1 == 179) = some (179, .iload 6, 0, 0) := rfl
theorem te_285_181 : (pT M_285).find? (fun e => e.1 == 181) = some (181, .iaload, 0, 0) := rfl
theorem te_285_182 : (pT M_285).find? (fun e => e.1 == 182) = some (182, .goto 25, 0, 0) := rfl
theorem te_285_185 : (pT M_285).find? (fun e => e.1 == 185) = some (185, .aload_n 0, 0, 0) := rfl
theorem te_285_186 : (pT M_285).find? (fun e => e.1 == 186) = some (186, .getfield 43, 10, 14) := rfl
theorem te_285_189 : (pT M_285).find? (fun e => e.1 == 189) = some (189, .iload 6, 0, 0) := rfl
theorem te_285_191 : (pT M_285).find? (fun e => e.1 == 191) = some (191, .iaload, 0, 0) := rfl
theorem te_285_192 : (pT M_285).find? (fun e => e.1 == 192) = some (192, .iload_n 1, 0, 0) := rfl
theorem te_285_193 : (pT M_285).find? (fun e => e.1 == 193) = some (193, .if_icmp .ne 13, 0, 0) := rfl
theorem te_285_196 : (pT M_285).find? (fun e => e.1 == 196) = some (196, .aload_n 0, 0, 0) := rfl
theorem te_285_197 : (pT M_285).find? (fun e => e.1 == 197) = some (197, .getfield 40, 10, 13) := rfl
theorem te_285_200 : (pT M_285).find? (fun e => e.1 == 200) = some (200, .iload 6, 0, 0) := rfl
theorem te_285_202 : (pT M_285).find? (fun e => e.1 == 202) = some (202, .iaload, 0, 0) := rfl
theorem te_285_203 : (pT M_285).find? (fun e => e.1 == 203) = some (203, .goto 4, 0, 0) := rfl
theorem te_285_206 : (pT M_285).find? (fun e => e.1 == 206) = some (206, .iload_n 1, 0, 0) := rfl
theorem te_285_207 : (pT M_285).find? (fun e => e.1 == 207) = some (207, .istore 7, 0, 0) := rfl
theorem te_285_209 : (pT M_285).find? (fun e => e.1 == 209) = some (209, .iload 7, 0, 0) := rfl
theorem te_285_211 : (pT M_285).find? (fun e => e.1 == 211) = some (211, .iload_n 1, 0, 0) := rfl
theorem te_285_212 : (pT M_285).find? (fun e => e.1 == 212) = some (212, .if_icmp .eq 33, 0, 0) := rfl
theorem te_285_215 : (pT M_285).find? (fun e => e.1 == 215) = some (215, .aload_n 0, 0, 0) := rfl
theorem te_285_216 : (pT M_285).find? (fun e => e.1 == 216) = some (216, .getfield 71, 10, 23) := rfl
theorem te_285_219 : (pT M_285).find? (fun e => e.1 == 219) = some (219, .iload 7, 0, 0) := rfl
theorem te_285_221 : (pT M_285).find? (fun e => e.1 == 221) = some (221, .iaload, 0, 0) := rfl
theorem te_285_222 : (pT M_285).find? (fun e => e.1 == 222) = some (222, .iconst (-1), 0, 0) := rfl
theorem te_285_223 : (pT M_285).find? (fun e => e.1 == 223) = some (223, .if_icmp .eq 22, 0, 0) := rfl
theorem te_285_226 : (pT M_285).find? (fun e => e.1 == 226) = some (226, .aload_n 0, 0, 0) := rfl
theorem te_285_227 : (pT M_285).find? (fun e => e.1 == 227) = some (227, .iload 6, 0, 0) := rfl
theorem te_285_229 : (pT M_285).find? (fun e => e.1 == 229) = some (229, .iload_n 2, 0, 0) := rfl
theorem te_285_230 : (pT M_285).find? (fun e => e.1 == 230) = some (230, .invokevirtual 251, 291, 0) := rfl
theorem te_285_233 : (pT M_285).find? (fun e => e.1 == 233) = some (233, .ifCond .ne 12, 0, 0) := rfl
theorem te_285_236 : (pT M_285).find? (fun e => e.1 == 236) = some (236, .iload 5, 0, 0) := rfl
theorem te_285_238 : (pT M_285).find? (fun e => e.1 == 238) = some (238, .iconst 1, 0, 0) := rfl
theorem te_285_239 : (pT M_285).find? (fun e => e.1 == 239) = some (239, .iload 7, 0, 0) := rfl
theorem te_285_241 : (pT M_285).find? (fun e => e.1 == 241) = some (241, .ishl, 0, 0) := rfl
theorem te_285_242 : (pT M_285).find? (fun e => e.1 == 242) = some (242, .ior, 0, 0) := rfl
theorem te_285_243 : (pT M_285).find? (fun e => e.1 == 243) = some (243, .istore 5, 0, 0) := rfl
theorem te_285_245 : (pT M_285).find? (fun e => e.1 == 245) = some (245, .iinc 6 1, 0, 0) := rfl
theorem te_285_248 : (pT M_285).find? (fun e => e.1 == 248) = some (248, .goto (-93), 0, 0) := rfl
theorem te_285_251 : (pT M_285).find? (fun e => e.1 == 251) = some (251, .iconst 0, 0, 0) := rfl
theorem te_285_252 : (pT M_285).find? (fun e => e.1 == 252) = some (252, .istore 6, 0, 0) := rfl
theorem te_285_254 : (pT M_285).find? (fun e => e.1 == 254) = some (254, .iload 6, 0, 0) := rfl
theorem te_285_256 : (pT M_285).find? (fun e => e.1 == 256) = some (256, .aload_n 0, 0, 0) := rfl
theorem te_285_257 : (pT M_285).find? (fun e => e.1 == 257) = some (257, .getfield 108, 10, 1) := rfl
theorem te_285_260 : (pT M_285).find? (fun e => e.1 == 260) = some (260, .if_icmp .ge 27, 0, 0) := rfl
theorem te_285_263 : (pT M_285).find? (fun e => e.1 == 263) = some (263, .iload 5, 0, 0) := rfl
theorem te_285_265 : (pT M_285).find? (fun e => e.1 == 265) = some (265, .iload 6, 0, 0) := rfl
theorem te_285_267 : (pT M_285).find? (fun e => e.1 == 267) = some (267, .ishr, 0, 0) := rfl
theorem te_285_268 : (pT M_285).find? (fun e => e.1 == 268) = some (268, .iconst 1, 0, 0) := rfl
theorem te_285_269 : (pT M_285).find? (fun e => e.1 == 269) = some (269, .iand, 0, 0) := rfl
theorem te_285_270 : (pT M_285).find? (fun e => e.1 == 270) = some (270, .iconst 1, 0, 0) := rfl
theorem te_285_271 : (pT M_285).find? (fun e => e.1 == 271) = some (271, .if_icmp .ne 10, 0, 0) := rfl
theorem te_285_274 : (pT M_285).find? (fun e => e.1 == 274) = some (274, .aload_n 0, 0, 0) := rfl
theorem te_285_275 : (pT M_285).find? (fun e => e.1 == 275) = some (275, .iload 6, 0, 0) := rfl
theorem te_285_277 : (pT M_285).find? (fun e => e.1 == 277) = some (277, .iload_n 2, 0, 0) := rfl
theorem te_285_278 : (pT M_285).find? (fun e => e.1 == 278) = some (278, .invokevirtual 247, 290, 0) := rfl
theorem te_285_281 : (pT M_285).find? (fun e => e.1 == 281) = some (281, .iinc 6 1, 0, 0) := rfl
theorem te_285_284 : (pT M_285).find? (fun e => e.1 == 284) = some (284, .goto (-30), 0, 0) := rfl
theorem te_285_287 : (pT M_285).find? (fun e => e.1 == 287) = some (287, .return_, 0, 0) := rfl
theorem te_286_0 : (pT M_286).find? (fun e => e.1 == 0) = some (0, .iconst 0, 0, 0) := rfl
theorem te_286_1 : (pT M_286).find? (fun e => e.1 == 1) = some (1, .istore_n 3, 0, 0) := rfl
theorem te_286_2 : (pT M_286).find? (fun e => e.1 == 2) = some (2, .iconst 0, 0, 0) := rfl
theorem te_286_3 : (pT M_286).find? (fun e => e.1 == 3) = some (3, .istore 4, 0, 0) := rfl
theorem te_286_5 : (pT M_286).find? (fun e => e.1 == 5) = some (5, .iload 4, 0, 0) := rfl
theorem te_286_7 : (pT M_286).find? (fun e => e.1 == 7) = some (7, .aload_n 0, 0, 0) := rfl
theorem te_286_8 : (pT M_286).find? (fun e => e.1 == 8) = some (8, .getfield 141, 10, 12) := rfl
theorem te_286_11 : (pT M_286).find? (fun e => e.1 == 11) = some (11, .if_icmp .ge 82, 0, 0) := rfl
theorem te_286_14 : (pT M_286).find? (fun e => e.1 == 14) = some (14, .aload_n 0, 0, 0) := rfl
theorem te_286_15 : (pT M_286).find? (fun e => e.1 == 15) = some (15, .getfield 43, 10, 14) := rfl
theorem te_286_18 : (pT M_286).find? (fun e => e.1 == 18) = some (18, .iload 4, 0, 0) := rfl
theorem te_286_20 : (pT M_286).find? (fun e => e.1 == 20) = some (20, .iaload, 0, 0) := rfl
theorem te_286_21 : (pT M_286).find? (fun e => e.1 == 21) = some (21, .iload_n 1, 0, 0) := rfl
theorem te_286_22 : (pT M_286).find? (fun e => e.1 == 22) = some (22, .if_icmp .ne 65, 0, 0) := rfl
theorem te_286_25 : (pT M_286).find? (fun e => e.1 == 25) = some (25, .aload_n 0, 0, 0) := rfl
theorem te_286_26 : (pT M_286).find? (fun e => e.1 == 26) = some (26, .getfield 40, 10, 13) := rfl
theorem te_286_29 : (pT M_286).find? (fun e => e.1 == 29) = some (29, .iload 4, 0, 0) := rfl
theorem te_286_31 : (pT M_286).find? (fun e => e.1 == 31) = some (31, .iaload, 0, 0) := rfl
theorem te_286_32 : (pT M_286).find? (fun e => e.1 == 32) = some (32, .iload_n 1, 0, 0) := rfl
theorem te_286_33 : (pT M_286).find? (fun e => e.1 == 33) = some (33, .if_icmp .eq 54, 0, 0) := rfl
theorem te_286_36 : (pT M_286).find? (fun e => e.1 == 36) = some (36, .aload_n 0, 0, 0) := rfl
theorem te_286_37 : (pT M_286).find? (fun e => e.1 == 37) = some (37, .getfield 71, 10, 23) := rfl
theorem te_286_40 : (pT M_286).find? (fun e => e.1 == 40) = some (40, .aload_n 0, 0, 0) := rfl
theorem te_286_41 : (pT M_286).find? (fun e => e.1 == 41) = some (41, .getfield 40, 10, 13) := rfl
theorem te_286_44 : (pT M_286).find? (fun e => e.1 == 44) = some (44, .iload 4, 0, 0) := rfl
theorem te_286_46 : (pT M_286).find? (fun e => e.1 == 46) = some (46, .iaload, 0, 0) := rfl
theorem te_286_47 : (pT M_286).find? (fun e => e.1 == 47) = some (47, .iaload, 0, 0) := rfl
theorem te_286_48 : (pT M_286).find? (fun e => e.1 == 48) = some (48, .iconst (-1), 0, 0) := rfl
theorem te_286_49 : (pT M_286).find? (fun e => e.1 == 49) = some (49, .if_icmp .eq 38, 0, 0) := rfl
theorem te_286_52 : (pT M_286).find? (fun e => e.1 == 52) = some (52, .iload_n 3, 0, 0) := rfl
theorem te_286_53 : (pT M_286).find? (fun e => e.1 == 53) = some (53, .aload_n 0, 0, 0) := rfl
theorem te_286_54 : (pT M_286).find? (fun e => e.1 == 54) = some (54, .getfield 71, 10, 23) := rfl
theorem te_286_57 : (pT M_286).find? (fun e => e.1 == 57) = some (57, .aload_n 0, 0, 0) := rfl
theorem te_286_58 : (pT M_286).find? (fun e => e.1 == 58) = some (58, .getfield 40, 10, 13) := rfl
theorem te_286_61 : (pT M_286).find? (fun e => e.1 == 61) = some (61, .iload 4, 0, 0) := rfl
theorem te_286_63 : (pT M_286).find? (fun e => e.1 == 63) = some (63, .iaload, 0, 0) := rfl
theorem te_286_64 : (pT M_286).find? (fun e => e.1 == 64) = some (64, .iaload, 0, 0) := rfl
theorem te_286_65 : (pT M_286).find? (fun e => e.1 == 65) = some (65, .aload_n 0, 0, 0) := rfl
theorem te_286_66 : (pT M_286).find? (fun e => e.1 == 66) = some (66, .getfield 49, 10, 16) := rfl
theorem te_286_69 : (pT M_286).find? (fun e => e.1 == 69) = some (69, .iload 4, 0, 0) := rfl
theorem te_286_71 : (pT M_286).find? (fun e => e.1 == 71) = some (71, .iaload, 0, 0) := rfl
theorem te_286_72 : (pT M_286).find? (fun e => e.1 == 72) = some (72, .iadd, 0, 0) := rfl
theorem te_286_73 : (pT M_286).find? (fun e => e.1 == 73) = some (73, .iload_n 2, 0, 0) := rfl
theorem te_286_74 : (pT M_286).find? (fun e => e.1 == 74) = some (74, .aload_n 0, 0, 0) := rfl
theorem te_286_75 : (pT M_286).find? (fun e => e.1 == 75) = some (75, .getfield 46, 10, 15) := rfl
theorem te_286_78 : (pT M_286).find? (fun e => e.1 == 78) = some (78, .iload 4, 0, 0) := rfl
theorem te_286_80 : (pT M_286).find? (fun e => e.1 == 80) = some (80, .iaload, 0, 0) := rfl
theorem te_286_81 : (pT M_286).find? (fun e => e.1 == 81) = some (81, .imul, 0, 0) := rfl
theorem te_286_82 : (pT M_286).find? (fun e => e.1 == 82) = some (82, .isub, 0, 0) := rfl
theorem te_286_83 : (pT M_286).find? (fun e => e.1 == 83) = some (83, .invokestatic 167, 257, 2) := rfl
theorem te_286_86 : (pT M_286).find? (fun e => e.1 == 86) = some (86, .istore_n 3, 0, 0) := rfl
theorem te_286_87 : (pT M_286).find? (fun e => e.1 == 87) = some (87, .iinc 4 1, 0, 0) := rfl
theorem te_286_90 : (pT M_286).find? (fun e => e.1 == 90) = some (90, .goto (-85), 0, 0) := rfl
theorem te_286_93 : (pT M_286).find? (fun e => e.1 == 93) = some (93, .iload_n 3, 0, 0) := rfl
theorem te_286_94 : (pT M_286).find? (fun e => e.1 == 94) = some (94, .ireturn, 0, 0) := rfl
theorem te_287_0 : (pT M_287).find? (fun e => e.1 == 0) = some (0, .aload_n 0, 0, 0) := rfl
theorem te_287_1 : (pT M_287).find? (fun e => e.1 == 1) = some (1, .iload_n 1, 0, 0) := rfl
theorem te_287_2 : (pT M_287).find? (fun e => e.1 == 2) = some (2, .iload_n 2, 0, 0) := rfl
theorem te_287_3 : (pT M_287).find? (fun e => e.1 == 3) = some (3, .iload_n 3, 0, 0) := rfl
theorem te_287_4 : (pT M_287).find? (fun e => e.1 == 4) = some (4, .iconst 1, 0, 0) := rfl
theorem te_287_5 : (pT M_287).find? (fun e => e.1 == 5) = some (5, .invokevirtual 217, 271, 0) := rfl
theorem te_287_8 : (pT M_287).find? (fun e => e.1 == 8) = some (8, .aload_n 0, 0, 0) := rfl
theorem te_287_9 : (pT M_287).find? (fun e => e.1 == 9) = some (9, .aload_n 0, 0, 0) := rfl
theorem te_287_10 : (pT M_287).find? (fun e => e.1 == 10) = some (10, .iload_n 1, 0, 0) := rfl
theorem te_287_11 : (pT M_287).find? (fun e => e.1 == 11) = some (11, .invokevirtual 180, 264, 0) := rfl
theorem te_287_14 : (pT M_287).find? (fun e => e.1 == 14) = some (14, .iload_n 3, 0, 0) := rfl
theorem te_287_15 : (pT M_287).find? (fun e => e.1 == 15) = some (15, .invokevirtual 220, 273, 0) := rfl
theorem te_287_18 : (pT M_287).find? (fun e => e.1 == 18) = some (18, .ifCond .ne 7, 0, 0) := rfl
theorem te_287_21 : (pT M_287).find? (fun e => e.1 == 21) = some (21, .iconst 1, 0, 0) := rfl
theorem te_287_22 : (pT M_287).find? (fun e => e.1 == 22) = some (22, .goto 4, 0, 0) := rfl
theorem te_287_25 : (pT M_287).find? (fun e => e.1 == 25) = some (25, .iconst 0, 0, 0) := rfl
theorem te_287_26 : (pT M_287).find? (fun e => e.1 == 26) = some (26, .istore 4, 0, 0) := rfl
theorem te_287_28 : (pT M_287).find? (fun e => e.1 == 28) = some (28, .aload_n 0, 0, 0) := rfl
theorem te_287_29 : (pT M_287).find? (fun e => e.1 == 29) = some (29, .iload_n 1, 0, 0) := rfl
theorem te_287_30 : (pT M_287).find? (fun e => e.1 == 30) = some (30, .iload_n 2, 0, 0) := rfl
theorem te_287_31 : (pT M_287).find? (fun e => e.1 == 31) = some (31, .iload_n 3, 0, 0) := rfl
theorem te_287_32 : (pT M_287).find? (fun e => e.1 == 32) = some (32, .iconst (-1), 0, 0) := rfl
theorem te_287_33 : (pT M_287).find? (fun e => e.1 == 33) = some (33, .invokevirtual 217, 271, 0) := rfl
theorem te_287_36 : (pT M_287).find? (fun e => e.1 == 36) = some (36, .iload 4, 0, 0) := rfl
theorem te_287_38 : (pT M_287).find? (fun e => e.1 == 38) = some (38, .ireturn, 0, 0) := rfl
theorem te_288_0 : (pT M_288).find? (fun e => e.1 == 0) = some (0, .aload_n 0, 0, 0) := rfl
theorem te_288_1 : (pT M_288).find? (fun e => e.1 == 1) = some (1, .iload_n 1, 0, 0) := rfl
theorem te_288_2 : (pT M_288).find? (fun e => e.1 == 2) = some (2, .invokevirtual 180, 264, 0) := rfl
theorem te_288_5 : (pT M_288).find? (fun e => e.1 == 5) = some (5, .aload_n 0, 0, 0) := rfl
theorem te_288_6 : (pT M_288).find? (fun e => e.1 == 6) = some (6, .iload_n 2, 0, 0) := rfl
theorem te_288_7 : (pT M_288).find? (fun e => e.1 == 7) = some (7, .invokevirtual 180, 264, 0) := rfl
theorem te_288_10 : (pT M_288).find? (fun e => e.1 == 10) = some (10, .if_icmp .eq 5, 0, 0) := rfl
theorem te_288_13 : (pT M_288).find? (fun e => e.1 == 13) = some (13, .iconst 0, 0, 0) := rfl
theorem te_288_14 : (pT M_288).find? (fun e => e.1 == 14) = some (14, .ireturn, 0, 0) := rfl
theorem te_288_15 : (pT M_288).find? (fun e => e.1 == 15) = some (15, .iconst 0, 0, 0) := rfl
theorem te_288_16 : (pT M_288).find? (fun e => e.1 == 16) = some (16, .istore 4, 0, 0) := rfl
theorem te_288_18 : (pT M_288).find? (fun e => e.1 == 18) = some (18, .iload 4, 0, 0) := rfl
theorem te_288_20 : (pT M_288).find? (fun e => e.1 == 20) = some (20, .iload_n 3, 0, 0) := rfl
theorem te_288_21 : (pT M_288).find? (fun e => e.1 == 21) = some (21, .if_icmp .ge 62, 0, 0) := rfl
theorem te_288_24 : (pT M_288).find? (fun e => e.1 == 24) = some (24, .aload_n 0, 0, 0) := rfl
theorem te_288_25 : (pT M_288).find? (fun e => e.1 == 25) = some (25, .getfield 59, 10, 19) := rfl
theorem te_288_28 : (pT M_288).find? (fun e => e.1 == 28) = some (28, .bipush 12, 0, 0) := rfl
theorem te_288_30 : (pT M_288).find? (fun e => e.1 == 30) = some (30, .aload_n 0, 0, 0) := rfl
theorem te_288_31 : (pT M_288).find? (fun e => e.1 == 31) = some (31, .iload_n 1, 0, 0) := rfl
theorem te_288_32 : (pT M_288).find? (fun e => e.1 == 32) = some (32, .invokevirtual 180, 264, 0) := rfl
theorem te_288_35 : (pT M_288).find? (fun e => e.1 == 35) = some (35, .imul, 0, 0) := rfl
theorem te_288_36 : (pT M_288).find? (fun e => e.1 == 36) = some (36, .iload 4, 0, 0) := rfl
theorem te_288_38 : (pT M_288).find? (fun e => e.1 == 38) = some (38, .iadd, 0, 0) := rfl
theorem te_288_39 : (pT M_288).find? (fun e => e.1 == 39) = some (39, .iaload, 0, 0) := rfl
theorem te_288_40 : (pT M_288).find? (fun e => e.1 == 40) = some (40, .aload_n 0, 0, 0) := rfl
theorem te_288_41 : (pT M_288).find? (fun e => e.1 == 41) = some (41, .getfield 37, 10, 11) := rfl
theorem te_288_44 : (pT M_288).find? (fun e => e.1 == 44) = some (44, .aload_n 0, 0, 0) := rfl
theorem te_288_45 : (pT M_288).find? (fun e => e.1 == 45) = some (45, .iload_n 1, 0, 0) := rfl
theorem te_288_46 : (pT M_288).find? (fun e => e.1 == 46) = some (46, .invokevirtual 180, 264, 0) := rfl
theorem te_288_49 : (pT M_288).find? (fun e => e.1 == 49) = some (49, .iaload, 0, 0) := rfl
theorem te_288_50 : (pT M_288).find? (fun e => e.1 == 50) = some (50, .if_icmp .le 27, 0, 0) := rfl
theorem te_288_53 : (pT M_288).find? (fun e => e.1 == 53) = some (53, .aload_n 0, 0, 0) := rfl
theorem te_288_54 : (pT M_288).find? (fun e => e.1 == 54) = some (54, .iload_n 1, 0, 0) := rfl
theorem te_288_55 : (pT M_288).find? (fun e => e.1 == 55) = some (55, .iload 4, 0, 0) := rfl
theorem te_288_57 : (pT M_288).find? (fun e => e.1 == 57) = some (57, .iload_n 3, 0, 0) := rfl
theorem te_288_58 : (pT M_288).find? (fun e => e.1 == 58) = some (58, .invokevirtual 235, 289, 0) := rfl
theorem te_288_61 : (pT M_288).find? (fun e => e.1 == 61) = some (61, .ifCond .eq 16, 0, 0) := rfl
theorem te_288_64 : (pT M_288).find? (fun e => e.1 == 64) = some (64, .aload_n 0, 0, 0) := rfl
theorem te_288_65 : (pT M_288).find? (fun e => e.1 == 65) = some (65, .iload_n 2, 0, 0) := rfl
theorem te_288_66 : (pT M_288).find? (fun e => e.1 == 66) = some (66, .iload 4, 0, 0) := rfl
theorem te_288_68 : (pT M_288).find? (fun e => e.1 == 68) = some (68, .iload_n 3, 0, 0) := rfl
theorem te_288_69 : (pT M_288).find? (fun e => e.1 == 69) = some (69, .invokevirtual 235, 289, 0) := rfl
theorem te_288_72 : (pT M_288).find? (fun e => e.1 == 72) = some (72, .ifCond .eq 5, 0, 0) := rfl
theorem te_288_75 : (pT M_288).find? (fun e => e.1 == 75) = some (75, .iconst 1, 0, 0) := rfl
theorem te_288_76 : (pT M_288).find? (fun e => e.1 == 76) = some (76, .ireturn, 0, 0) := rfl
theorem te_288_77 : (pT M_288).find? (fun e => e.1 == 77) = some (77, .iinc 4 1, 0, 0) := rfl
theorem te_288_80 : (pT M_288).find? (fun e => e.1 == 80) = some (80, .goto (-62), 0, 0) := rfl
theorem te_288_83 : (pT M_288).find? (fun e => e.1 == 83) = some (83, .iconst 0, 0, 0) := rfl
theorem te_288_84 : (pT M_288).find? (fun e => e.1 == 84) = some (84, .ireturn, 0, 0) := rfl
theorem te_289_0 : (pT M_289).find? (fun e => e.1 == 0) = some (0, .iconst 0, 0, 0) := rfl
theorem te_289_1 : (pT M_289).find? (fun e => e.1 == 1) = some (1, .istore 4, 0, 0) := rfl
theorem te_289_3 : (pT M_289).find? (fun e => e.1 == 3) = some (3, .iload 4, 0, 0) := rfl
theorem te_289_5 : (pT M_289).find? (fun e => e.1 == 5) = some (5, .iconst 4, 0, 0) := rfl
theorem te_289_6 : (pT M_289).find? (fun e => e.1 == 6) = some (6, .if_icmp .ge 42, 0, 0) := rfl
theorem te_289_9 : (pT M_289).find? (fun e => e.1 == 9) = some (9, .aload_n 0, 0, 0) := rfl
theorem te_289_10 : (pT M_289).find? (fun e => e.1 == 10) = some (10, .iload_n 1, 0, 0) := rfl
theorem te_289_11 : (pT M_289).find? (fun e => e.1 == 11) = some (11, .invokevirtual 183, 265, 0) := rfl
theorem te_289_14 : (pT M_289).find? (fun e => e.1 == 14) = some (14, .iload 4, 0, 0) := rfl
theorem te_289_16 : (pT M_289).find? (fun e => e.1 == 16) = some (16, .ishr, 0, 0) := rfl
theorem te_289_17 : (pT M_289).find? (fun e => e.1 == 17) = some (17, .iconst 1, 0, 0) := rfl
theorem te_289_18 : (pT M_289).find? (fun e => e.1 == 18) = some (18, .iand, 0, 0) := rfl
theorem te_289_19 : (pT M_289).find? (fun e => e.1 == 19) = some (19, .iconst 1, 0, 0) := rfl
theorem te_289_20 : (pT M_289).find? (fun e => e.1 == 20) = some (20, .if_icmp .ne 22, 0, 0) := rfl
theorem te_289_23 : (pT M_289).find? (fun e => e.1 == 23) = some (23, .aload_n 0, 0, 0) := rfl
theorem te_289_24 : (pT M_289).find? (fun e => e.1 == 24) = some (24, .getfield 71, 10, 23) := rfl
theorem te_289_27 : (pT M_289).find? (fun e => e.1 == 27) = some (27, .iload_n 1, 0, 0) := rfl
theorem te_289_28 : (pT M_289).find? (fun e => e.1 == 28) = some (28, .iaload, 0, 0) := rfl
theorem te_289_29 : (pT M_289).find? (fun e => e.1 == 29) = some (29, .iload 4, 0, 0) := rfl
theorem te_289_31 : (pT M_289).find? (fun e => e.1 == 31) = some (31, .iadd, 0, 0) := rfl
theorem te_289_32 : (pT M_289).find? (fun e => e.1 == 32) = some (32, .iload_n 3, 0, 0) := rfl
theorem te_289_33 : (pT M_289).find? (fun e => e.1 == 33) = some (33, .invokestatic 211, 272, 2) := rfl
theorem te_289_36 : (pT M_289).find? (fun e => e.1 == 36) = some (36, .iload_n 2, 0, 0) := rfl
theorem te_289_37 : (pT M_289).find? (fun e => e.1 == 37) = some (37, .if_icmp .ne 5, 0, 0) := rfl
theorem te_289_40 : (pT M_289).find? (fun e => e.1 == 40) = some (40, .iconst 1, 0, 0) := rfl
theorem te_289_41 : (pT M_289).find? (fun e => e.1 == 41) = some (41, .ireturn, 0, 0) := rfl
theorem te_289_42 : (pT M_289).find? (fun e => e.1 == 42) = some (42, .iinc 4 1, 0, 0) := rfl
theorem te_289_45 : (pT M_289).find? (fun e => e.1 == 45) = some (45, .goto (-42), 0, 0) := rfl
theorem te_289_48 : (pT M_289).find? (fun e => e.1 == 48) = some (48, .iconst 0, 0, 0) := rfl
theorem te_289_49 : (pT M_289).find? (fun e => e.1 == 49) = some (49, .ireturn, 0, 0) := rfl
theorem te_290_0 : (pT M_290).find? (fun e => e.1 == 0) = some (0, .aload_n 0, 0, 0) := rfl
theorem te_290_1 : (pT M_290).find? (fun e => e.1 == 1) = some (1, .iload_n 1, 0, 0) := rfl
theorem te_290_2 : (pT M_290).find? (fun e => e.1 == 2) = some (2, .aload_n 0, 0, 0) := rfl
theorem te_290_3 : (pT M_290).find? (fun e => e.1 == 3) = some (3, .getfield 71, 10, 23) := rfl
theorem te_290_6 : (pT M_290).find? (fun e => e.1 == 6) = some (6, .iload_n 1, 0, 0) := rfl
theorem te_290_7 : (pT M_290).find? (fun e => e.1 == 7) = some (7, .iaload, 0, 0) := rfl
theorem te_290_8 : (pT M_290).find? (fun e => e.1 == 8) = some (8, .iload_n 2, 0, 0) := rfl
theorem te_290_9 : (pT M_290).find? (fun e => e.1 == 9) = some (9, .iconst (-1), 0, 0) := rfl
theorem te_290_10 : (pT M_290).find? (fun e => e.1 == 10) = some (10, .invokevirtual 217, 271, 0) := rfl
theorem te_290_13 : (pT M_290).find? (fun e => e.1 == 13) = some (13, .aload_n 0, 0, 0) := rfl
theorem te_290_14 : (pT M_290).find? (fun e => e.1 == 14) = some (14, .getfield 71, 10, 23) := rfl
theorem te_290_17 : (pT M_290).find? (fun e => e.1 == 17) = some (17, .iload_n 1, 0, 0) := rfl
theorem te_290_18 : (pT M_290).find? (fun e => e.1 == 18) = some (18, .iconst (-1), 0, 0) := rfl
theorem te_290_19 : (pT M_290).find? (fun e => e.1 == 19) = some (19, .iastore, 0, 0) := rfl
theorem te_290_20 : (pT M_290).find? (fun e => e.1 == 20) = some (20, .return_, 0, 0) := rfl
theorem te_291_0 : (pT M_291).find? (fun e => e.1 == 0) = some (0, .aload_n 0, 0, 0) := rfl
theorem te_291_1 : (pT M_291).find? (fun e => e.1 == 1) = some (1, .getfield 71, 10, 23) := rfl
theorem te_291_4 : (pT M_291).find? (fun e => e.1 == 4) = some (4, .aload_n 0, 0, 0) := rfl
theorem te_291_5 : (pT M_291).find? (fun e => e.1 == 5) = some (5, .getfield 43, 10, 14) := rfl
theorem te_291_8 : (pT M_291).find? (fun e => e.1 == 8) = some (8, .iload_n 1, 0, 0) := rfl
theorem te_291_9 : (pT M_291).find? (fun e => e.1 == 9) = some (9, .iaload, 0, 0) := rfl
theorem te_291_10 : (pT M_291).find? (fun e => e.1 == 10) = some (10, .iaload, 0, 0) := rfl
theorem te_291_11 : (pT M_291).find? (fun e => e.1 == 11) = some (11, .aload_n 0, 0, 0) := rfl
theorem te_291_12 : (pT M_291).find? (fun e => e.1 == 12) = some (12, .getfield 71, 10, 23) := rfl
theorem te_291_15 : (pT M_291).find? (fun e => e.1 == 15) = some (15, .aload_n 0, 0, 0) := rfl
theorem te_291_16 : (pT M_291).find? (fun e => e.1 == 16) = some (16, .getfield 40, 10, 13) := rfl
theorem te_291_19 : (pT M_291).find? (fun e => e.1 == 19) = some (19, .iload_n 1, 0, 0) := rfl
theorem te_291_20 : (pT M_291).find? (fun e => e.1 == 20) = some (20, .iaload, 0, 0) := rfl
theorem te_291_21 : (pT M_291).find? (fun e => e.1 == 21) = some (21, .iaload, 0, 0) := rfl
theorem te_291_22 : (pT M_291).find? (fun e => e.1 == 22) = some (22, .aload_n 0, 0, 0) := rfl
theorem te_291_23 : (pT M_291).find? (fun e => e.1 == 23) = some (23, .getfield 49, 10, 16) := rfl
theorem te_291_26 : (pT M_291).find? (fun e => e.1 == 26) = some (26, .iload_n 1, 0, 0) := rfl
theorem te_291_27 : (pT M_291).find? (fun e => e.1 == 27) = some (27, .iaload, 0, 0) := rfl
theorem te_291_28 : (pT M_291).find? (fun e => e.1 == 28) = some (28, .iadd, 0, 0) := rfl
theorem te_291_29 : (pT M_291).find? (fun e => e.1 == 29) = some (29, .iload_n 2, 0, 0) := rfl
theorem te_291_30 : (pT M_291).find? (fun e => e.1 == 30) = some (30, .aload_n 0, 0, 0) := rfl
theorem te_291_31 : (pT M_291).find? (fun e => e.1 == 31) = some (31, .getfield 46, 10, 15) := rfl
theorem te_291_34 : (pT M_291).find? (fun e => e.1 == 34) = some (34, .iload_n 1, 0, 0) := rfl
theorem te_291_35 : (pT M_291).find? (fun e => e.1 == 35) = some (35, .iaload, 0, 0) := rfl
theorem te_291_36 : (pT M_291).find? (fun e => e.1 == 36) = some (36, .imul, 0, 0) := rfl
theorem te_291_37 : (pT M_291).find? (fun e => e.1 == 37) = some (37, .isub, 0, 0) := rfl
theorem te_291_38 : (pT M_291).find? (fun e => e.1 == 38) = some (38, .if_icmp .lt 7, 0, 0) := rfl
theorem te_291_41 : (pT M_291).find? (fun e => e.1 == 41) = some (41, .iconst 1, 0, 0) := rfl
theorem te_291_42 : (pT M_291).find? (fun e => e.1 == 42) = some (42, .goto 4, 0, 0) := rfl
theorem te_291_45 : (pT M_291).find? (fun e => e.1 == 45) = some (45, .iconst 0, 0, 0) := rfl
theorem te_291_46 : (pT M_291).find? (fun e => e.1 == 46) = some (46, .ireturn, 0, 0) := rfl
theorem te_292_0 : (pT M_292).find? (fun e => e.1 == 0) = some (0, .aload_n 0, 0, 0) := rfl
theorem te_292_1 : (pT M_292).find? (fun e => e.1 == 1) = some (1, .iload_n 1, 0, 0) := rfl
theorem te_292_2 : (pT M_292).find? (fun e => e.1 == 2) = some (2, .invokestatic 202, 253, 2) := rfl
theorem te_292_5 : (pT M_292).find? (fun e => e.1 == 5) = some (5, .ifCond .ne 7, 0, 0) := rfl
theorem te_292_8 : (pT M_292).find? (fun e => e.1 == 8) = some (8, .iconst 1, 0, 0) := rfl
theorem te_292_9 : (pT M_292).find? (fun e => e.1 == 9) = some (9, .goto 16, 0, 0) := rfl
theorem te_292_12 : (pT M_292).find? (fun e => e.1 == 12) = some (12, .aload_n 0, 0, 0) := rfl
theorem te_292_13 : (pT M_292).find? (fun e => e.1 == 13) = some (13, .iload_n 1, 0, 0) := rfl
theorem te_292_14 : (pT M_292).find? (fun e => e.1 == 14) = some (14, .invokevirtual 205, 254, 0) := rfl
theorem te_292_17 : (pT M_292).find? (fun e => e.1 == 17) = some (17, .ifCond .eq 7, 0, 0) := rfl
theorem te_292_20 : (pT M_292).find? (fun e => e.1 == 20) = some (20, .iconst 2, 0, 0) := rfl
theorem te_292_21 : (pT M_292).find? (fun e => e.1 == 21) = some (21, .goto 4, 0, 0) := rfl
theorem te_292_24 : (pT M_292).find? (fun e => e.1 == 24) = some (24, .iconst 0, 0, 0) := rfl
theorem te_292_25 : (pT M_292).find? (fun e => e.1 == 25) = some (25, .putfield 101, 10, 0) := rfl
theorem te_292_28 : (pT M_292).find? (fun e => e.1 == 28) = some (28, .aload_n 0, 0, 0) := rfl
theorem te_292_29 : (pT M_292).find? (fun e => e.1 == 29) = some (29, .getfield 101, 10, 0) := rfl
theorem te_292_32 : (pT M_292).find? (fun e => e.1 == 32) = some (32, .ifCond .le 7, 0, 0) := rfl
theorem te_292_35 : (pT M_292).find? (fun e => e.1 == 35) = some (35, .iconst 0, 0, 0) := rfl
theorem te_292_36 : (pT M_292).find? (fun e => e.1 == 36) = some (36, .goto 19, 0, 0) := rfl
theorem te_292_39 : (pT M_292).find? (fun e => e.1 == 39) = some (39, .aload_n 0, 0, 0) := rfl
theorem te_292_40 : (pT M_292).find? (fun e => e.1 == 40) = some (40, .iload_n 1, 0, 0) := rfl
theorem te_292_41 : (pT M_292).find? (fun e => e.1 == 41) = some (41, .invokevirtual 269, 281, 0) := rfl
theorem te_292_44 : (pT M_292).find? (fun e => e.1 == 44) = some (44, .ifCond .eq 10, 0, 0) := rfl
theorem te_292_47 : (pT M_292).find? (fun e => e.1 == 47) = some (47, .aload_n 0, 0, 0) := rfl
theorem te_292_48 : (pT M_292).find? (fun e => e.1 == 48) = some (48, .getfield 257, 10, 25) := rfl
theorem te_292_51 : (pT M_292).find? (fun e => e.1 == 51) = some (51, .goto 4, 0, 0) := rfl
theorem te_292_54 : (pT M_292).find? (fun e => e.1 == 54) = some (54, .iconst (-1), 0, 0) := rfl
theorem te_292_55 : (pT M_292).find? (fun e => e.1 == 55) = some (55, .ireturn, 0, 0) := rfl
theorem te_293_0 : (pT M_293).find? (fun e => e.1 == 0) = some (0, .aload_n 0, 0, 0) := rfl
theorem te_293_1 : (pT M_293).find? (fun e => e.1 == 1) = some (1, .aload_n 0, 0, 0) := rfl
theorem te_293_2 : (pT M_293).find? (fun e => e.1 == 2) = some (2, .invokevirtual 137, 240, 0) := rfl
theorem te_293_5 : (pT M_293).find? (fun e => e.1 == 5) = some (5, .ifCond .eq 7, 0, 0) := rfl
theorem te_293_8 : (pT M_293).find? (fun e => e.1 == 8) = some (8, .iconst 0, 0, 0) := rfl
theorem te_293_9 : (pT M_293).find? (fun e => e.1 == 9) = some (9, .goto 4, 0, 0) := rfl
theorem te_293_12 : (pT M_293).find? (fun e => e.1 == 12) = some (12, .iconst 1, 0, 0) := rfl
theorem te_293_13 : (pT M_293).find? (fun e => e.1 == 13) = some (13, .putfield 101, 10, 0) := rfl
theorem te_293_16 : (pT M_293).find? (fun e => e.1 == 16) = some (16, .aload_n 0, 0, 0) := rfl
theorem te_293_17 : (pT M_293).find? (fun e => e.1 == 17) = some (17, .getfield 101, 10, 0) := rfl
theorem te_293_20 : (pT M_293).find? (fun e => e.1 == 20) = some (20, .ifCond .le 5, 0, 0) := rfl
theorem te_293_23 : (pT M_293).find? (fun e => e.1 == 23) = some (23, .iconst 0, 0, 0) := rfl
theorem te_293_24 : (pT M_293).find? (fun e => e.1 == 24) = some (24, .ireturn, 0, 0) := rfl
theorem te_293_25 : (pT M_293).find? (fun e => e.1 == 25) = some (25, .iconst 1, 0, 0) := rfl
theorem te_293_26 : (pT M_293).find? (fun e => e.1 == 26) = some (26, .istore_n 1, 0, 0) := rfl
theorem te_293_27 : (pT M_293).find? (fun e => e.1 == 27) = some (27, .iload_n 1, 0, 0) := rfl
theorem te_293_28 : (pT M_293).find? (fun e => e.1 == 28) = some (28, .bipush 12, 0, 0) := rfl
theorem te_293_30 : (pT M_293).find? (fun e => e.1 == 30) = some (30, .if_icmp .gt 27, 0, 0) := rfl
theorem te_293_33 : (pT M_293).find? (fun e => e.1 == 33) = some (33, .aload_n 0, 0, 0) := rfl
theorem te_293_34 : (pT M_293).find? (fun e => e.1 == 34) = some (34, .iload_n 1, 0, 0) := rfl
theorem te_293_35 : (pT M_293).find? (fun e => e.1 == 35) = some (35, .invokevirtual 205, 254, 0) := rfl
theorem te_293_38 : (pT M_293).find? (fun e => e.1 == 38) = some (38, .ifCond .ne 13, 0, 0) := rfl
theorem te_293_41 : (pT M_293).find? (fun e => e.1 == 41) = some (41, .aload_n 0, 0, 0) := rfl
theorem te_293_42 : (pT M_293).find? (fun e => e.1 == 42) = some (42, .iload_n 1, 0, 0) := rfl
theorem te_293_43 : (pT M_293).find? (fun e => e.1 == 43) = some (43, .invokevirtual 269, 281, 0) := rfl
theorem te_293_46 : (pT M_293).find? (fun e => e.1 == 46) = some (46, .ifCond .eq 5, 0, 0) := rfl
theorem te_293_49 : (pT M_293).find? (fun e => e.1 == 49) = some (49, .iload_n 1, 0, 0) := rfl
theorem te_293_50 : (pT M_293).find? (fun e => e.1 == 50) = some (50, .ireturn, 0, 0) := rfl
theorem te_293_51 : (pT M_293).find? (fun e => e.1 == 51) = some (51, .iinc 1 1, 0, 0) := rfl
theorem te_293_54 : (pT M_293).find? (fun e => e.1 == 54) = some (54, .goto (-27), 0, 0) := rfl
theorem te_293_57 : (pT M_293).find? (fun e => e.1 == 57) = some (57, .iconst (-1), 0, 0) := rfl
theorem te_293_58 : (pT M_293).find? (fun e => e.1 == 58) = some (58, .ireturn, 0, 0) := rfl
theorem te_337_0 : (pT M_337).find? (fun e => e.1 == 0) = some (0, .aload_n 0, 0, 0) := rfl
theorem te_337_1 : (pT M_337).find? (fun e => e.1 == 1) = some (1, .iload_n 1, 0, 0) := rfl
theorem te_337_2 : (pT M_337).find? (fun e => e.1 == 2) = some (2, .invokestatic 202, 253, 2) := rfl
theorem te_337_5 : (pT M_337).find? (fun e => e.1 == 5) = some (5, .ifCond .ne 7, 0, 0) := rfl
theorem te_337_8 : (pT M_337).find? (fun e => e.1 == 8) = some (8, .iconst 1, 0, 0) := rfl
theorem te_337_9 : (pT M_337).find? (fun e => e.1 == 9) = some (9, .goto 16, 0, 0) := rfl
theorem te_337_12 : (pT M_337).find? (fun e => e.1 == 12) = some (12, .aload_n 0, 0, 0) := rfl
theorem te_337_13 : (pT M_337).find? (fun e => e.1 == 13) = some (13, .iload_n 1, 0, 0) := rfl
theorem te_337_14 : (pT M_337).find? (fun e => e.1 == 14) = some (14, .invokevirtual 232, 268, 0) := rfl
theorem te_337_17 : (pT M_337).find? (fun e => e.1 == 17) = some (17, .ifCond .ne 7, 0, 0) := rfl
theorem te_337_20 : (pT M_337).find? (fun e => e.1 == 20) = some (20, .iconst 2, 0, 0) := rfl
theorem te_337_21 : (pT M_337).find? (fun e => e.1 == 21) = some (21, .goto 4, 0, 0) := rfl
theorem te_337_24 : (pT M_337).find? (fun e => e.1 == 24) = some (24, .iconst 0, 0, 0) := rfl
theorem te_337_25 : (pT M_337).find? (fun e => e.1 == 25) = some (25, .putfield 101, 10, 0) := rfl
theorem te_337_28 : (pT M_337).find? (fun e => e.1 == 28) = some (28, .aload_n 0, 0, 0) := rfl
theorem te_337_29 : (pT M_337).find? (fun e => e.1 == 29) = some (29, .getfield 101, 10, 0) := rfl
theorem te_337_32 : (pT M_337).find? (fun e => e.1 == 32) = some (32, .ifCond .le 5, 0, 0) := rfl
theorem te_337_35 : (pT M_337).find? (fun e => e.1 == 35) = some (35, .iconst 0, 0, 0) := rfl
theorem te_337_36 : (pT M_337).find? (fun e => e.1 == 36) = some (36, .ireturn, 0, 0) := rfl
theorem te_337_37 : (pT M_337).find? (fun e => e.1 == 37) = some (37, .iconst 1, 0, 0) := rfl
theorem te_337_38 : (pT M_337).find? (fun e => e.1 == 38) = some (38, .istore_n 2, 0, 0) := rfl
theorem te_337_39 : (pT M_337).find? (fun e => e.1 == 39) = some (39, .iload_n 2, 0, 0) := rfl
theorem te_337_40 : (pT M_337).find? (fun e => e.1 == 40) = some (40, .bipush 40, 0, 0) := rfl
theorem te_337_42 : (pT M_337).find? (fun e => e.1 == 42) = some (42, .if_icmp .gt 24, 0, 0) := rfl
theorem te_337_45 : (pT M_337).find? (fun e => e.1 == 45) = some (45, .aload_n 0, 0, 0) := rfl
theorem te_337_46 : (pT M_337).find? (fun e => e.1 == 46) = some (46, .iload_n 1, 0, 0) := rfl
theorem te_337_47 : (pT M_337).find? (fun e => e.1 == 47) = some (47, .iload_n 2, 0, 0) := rfl
theorem te_337_48 : (pT M_337).find? (fun e => e.1 == 48) = some (48, .invokevirtual 375, 338, 0) := rfl
theorem te_337_51 : (pT M_337).find? (fun e => e.1 == 51) = some (51, .aload_n 0, 0, 0) := rfl
theorem te_337_52 : (pT M_337).find? (fun e => e.1 == 52) = some (52, .getfield 108, 10, 1) := rfl
theorem te_337_55 : (pT M_337).find? (fun e => e.1 == 55) = some (55, .if_icmp .ne 5, 0, 0) := rfl
theorem te_337_58 : (pT M_337).find? (fun e => e.1 == 58) = some (58, .iload_n 2, 0, 0) := rfl
theorem te_337_59 : (pT M_337).find? (fun e => e.1 == 59) = some (59, .ireturn, 0, 0) := rfl
theorem te_337_60 : (pT M_337).find? (fun e => e.1 == 60) = some (60, .iinc 2 1, 0, 0) := rfl
theorem te_337_63 : (pT M_337).find? (fun e => e.1 == 63) = some (63, .goto (-24), 0, 0) := rfl
theorem te_337_66 : (pT M_337).find? (fun e => e.1 == 66) = some (66, .iconst (-1), 0, 0) := rfl
theorem te_337_67 : (pT M_337).find? (fun e => e.1 == 67) = some (67, .ireturn, 0, 0) := rfl
theorem te_338_0 : (pT M_338).find? (fun e => e.1 == 0) = some (0, .iconst 0, 0, 0) := rfl
theorem te_338_1 : (pT M_338).find? (fun e => e.1 == 1) = some (1, .istore_n 3, 0, 0) := rfl
theorem te_338_2 : (pT M_338).find? (fun e => e.1 == 2) = some (2, .iload_n 3, 0, 0) := rfl
theorem te_338_3 : (pT M_338).find? (fun e => e.1 == 3) = some (3, .aload_n 0, 0, 0) := rfl
theorem te_338_4 : (pT M_338).find? (fun e => e.1 == 4) = some (4, .getfield 108, 10, 1) := rfl
theorem te_338_7 : (pT M_338).find? (fun e => e.1 == 7) = some (7, .if_icmp .ge 78, 0, 0) := rfl
theorem te_338_10 : (pT M_338).find? (fun e => e.1 == 10) = some (10, .aload_n 0, 0, 0) := rfl
theorem te_338_11 : (pT M_338).find? (fun e => e.1 == 11) = some (11, .getfield 89, 10, 30) := rfl
theorem te_338_14 : (pT M_338).find? (fun e => e.1 == 14) = some (14, .iload_n 3, 0, 0) := rfl
theorem te_338_15 : (pT M_338).find? (fun e => e.1 == 15) = some (15, .iconst (-1), 0, 0) := rfl
theorem te_338_16 : (pT M_338).find? (fun e => e.1 == 16) = some (16, .iastore, 0, 0) := rfl
theorem te_338_17 : (pT M_338).find? (fun e => e.1 == 17) = some (17, .aload_n 0, 0, 0) := rfl
theorem te_338_18 : (pT M_338).find? (fun e => e.1 == 18) = some (18, .iload_n 3, 0, 0) := rfl
theorem te_338_19 : (pT M_338).find? (fun e => e.1 == 19) = some (19, .iload_n 1, 0, 0) := rfl
theorem te_338_20 : (pT M_338).find? (fun e => e.1 == 20) = some (20, .invokevirtual 275, 298, 0) := rfl
theorem te_338_23 : (pT M_338).find? (fun e => e.1 == 23) = some (23, .ifCond .ne 6, 0, 0) := rfl
theorem te_338_26 : (pT M_338).find? (fun e => e.1 == 26) = some (26, .goto 53, 0, 0) := rfl
theorem te_338_29 : (pT M_338).find? (fun e => e.1 == 29) = some (29, .iconst 0, 0, 0) := rfl
theorem te_338_30 : (pT M_338).find? (fun e => e.1 == 30) = some (30, .istore 4, 0, 0) := rfl
theorem te_338_32 : (pT M_338).find? (fun e => e.1 == 32) = some (32, .iload 4, 0, 0) := rfl
theorem te_338_34 : (pT M_338).find? (fun e => e.1 == 34) = some (34, .iload_n 2, 0, 0) := rfl
theorem te_338_35 : (pT M_338).find? (fun e => e.1 == 35) = some (35, .if_icmp .ge 21, 0, 0) := rfl
theorem te_338_38 : (pT M_338).find? (fun e => e.1 == 38) = some (38, .aload_n 0, 0, 0) := rfl
theorem te_338_39 : (pT M_338).find? (fun e => e.1 == 39) = some (39, .iload_n 3, 0, 0) := rfl
theorem te_338_40 : (pT M_338).find? (fun e => e.1 == 40) = some (40, .iload 4, 0, 0) := rfl
theorem te_338_42 : (pT M_338).find? (fun e => e.1 == 42) = some (42, .iload_n 1, 0, 0) := rfl
theorem te_338_43 : (pT M_338).find? (fun e => e.1 == 43) = some (43, .iload_n 2, 0, 0) := rfl
theorem te_338_44 : (pT M_338).find? (fun e => e.1 == 44) = some (44, .invokevirtual 369, 339, 0) := rfl
theorem te_338_47 : (pT M_338).find? (fun e => e.1 == 47) = some (47, .ifCond .ne 9, 0, 0) := rfl
theorem te_338_50 : (pT M_338).find? (fun e => e.1 == 50) = some (50, .iinc 4 1, 0, 0) := rfl
theorem te_338_53 : (pT M_338).find? (fun e => e.1 == 53) = some (53, .goto (-21), 0, 0) := rfl
theorem te_338_56 : (pT M_338).find? (fun e => e.1 == 56) = some (56, .iload 4, 0, 0) := rfl
theorem te_338_58 : (pT M_338).find? (fun e => e.1 == 58) = some (58, .iload_n 2, 0, 0) := rfl
theorem te_338_59 : (pT M_338).find? (fun e => e.1 == 59) = some (59, .if_icmp .ne 12, 0, 0) := rfl
theorem te_338_62 : (pT M_338).find? (fun e => e.1 == 62) = some (62, .aload_n 0, 0, 0) := rfl
theorem te_338_63 : (pT M_338).find? (fun e => e.1 == 63) = some (63, .getfield 89, 10, 30) := rfl
theorem te_338_66 : (pT M_338).find? (fun e => e.1 == 66) = some (66, .iload_n 3, 0, 0) := rfl
theorem te_338_67 : (pT M_338).find? (fun e => e.1 == 67) = some (67, .iconst (-1), 0, 0) := rfl
theorem te_338_68 : (pT M_338).find? (fun e => e.1 == 68) = some (68, .iastore, 0, 0) := rfl
theorem te_338_69 : (pT M_338).find? (fun e => e.1 == 69) = some (69, .iload_n 3, 0, 0) := rfl
theorem te_338_70 : (pT M_338).find? (fun e => e.1 == 70) = some (70, .ireturn, 0, 0) := rfl
theorem te_338_71 : (pT M_338).find? (fun e => e.1 == 71) = some (71, .aload_n 0, 0, 0) := rfl
theorem te_338_72 : (pT M_338).find? (fun e => e.1 == 72) = some (72, .getfield 89, 10, 30) := rfl
theorem te_338_75 : (pT M_338).find? (fun e => e.1 == 75) = some (75, .iload_n 3, 0, 0) := rfl
theorem te_338_76 : (pT M_338).find? (fun e => e.1 == 76) = some (76, .iload 4, 0, 0) := rfl
theorem te_338_78 : (pT M_338).find? (fun e => e.1 == 78) = some (78, .iastore, 0, 0) := rfl
theorem te_338_79 : (pT M_338).find? (fun e => e.1 == 79) = some (79, .iinc 3 1, 0, 0) := rfl
theorem te_338_82 : (pT M_338).find? (fun e => e.1 == 82) = some (82, .goto (-80), 0, 0) := rfl
theorem te_338_85 : (pT M_338).find? (fun e => e.1 == 85) = some (85, .aload_n 0, 0, 0) := rfl
theorem te_338_86 : (pT M_338).find? (fun e => e.1 == 86) = some (86, .getfield 108, 10, 1) := rfl
theorem te_338_89 : (pT M_338).find? (fun e => e.1 == 89) = some (89, .ireturn, 0, 0) := rfl
theorem te_339_0 : (pT M_339).find? (fun e => e.1 == 0) = some (0, .aload_n 0, 0, 0) := rfl
theorem te_339_1 : (pT M_339).find? (fun e => e.1 == 1) = some (1, .getfield 89, 10, 30) := rfl
theorem te_339_4 : (pT M_339).find? (fun e => e.1 == 4) = some (4, .iload_n 1, 0, 0) := rfl
theorem te_339_5 : (pT M_339).find? (fun e => e.1 == 5) = some (5, .iload_n 2, 0, 0) := rfl
theorem te_339_6 : (pT M_339).find? (fun e => e.1 == 6) = some (6, .iastore, 0, 0) := rfl
theorem te_339_7 : (pT M_339).find? (fun e => e.1 == 7) = some (7, .aload_n 0, 0, 0) := rfl
theorem te_339_8 : (pT M_339).find? (fun e => e.1 == 8) = some (8, .iload_n 1, 0, 0) := rfl
theorem te_339_9 : (pT M_339).find? (fun e => e.1 == 9) = some (9, .iload_n 1, 0, 0) := rfl
theorem te_339_10 : (pT M_339).find? (fun e => e.1 == 10) = some (10, .iload_n 3, 0, 0) := rfl
theorem te_339_11 : (pT M_339).find? (fun e => e.1 == 11) = some (11, .iload 4, 0, 0) := rfl
theorem te_339_13 : (pT M_339).find? (fun e => e.1 == 13) = some (13, .invokevirtual 372, 340, 0) := rfl
theorem te_339_16 : (pT M_339).find? (fun e => e.1 == 16) = some (16, .ifCond .eq 5, 0, 0) := rfl
theorem te_339_19 : (pT M_339).find? (fun e => e.1 == 19) = some (19, .iconst 0, 0, 0) := rfl
theorem te_339_20 : (pT M_339).find? (fun e => e.1 == 20) = some (20, .ireturn, 0, 0) := rfl
theorem te_339_21 : (pT M_339).find? (fun e => e.1 == 21) = some (21, .iconst 0, 0, 0) := rfl
theorem te_339_22 : (pT M_339).find? (fun e => e.1 == 22) = some (22, .istore 5, 0, 0) := rfl
theorem te_339_24 : (pT M_339).find? (fun e => e.1 == 24) = some (24, .iload 5, 0, 0) := rfl
theorem te_339_26 : (pT M_339).find? (fun e => e.1 == 26) = some (26, .iload_n 1, 0, 0) := rfl
theorem te_339_27 : (pT M_339).find? (fun e => e.1 == 27) = some (27, .if_icmp .ge 34, 0, 0) := rfl
theorem te_339_30 : (pT M_339).find? (fun e => e.1 == 30) = some (30, .aload_n 0, 0, 0) := rfl
theorem te_339_31 : (pT M_339).find? (fun e => e.1 == 31) = some (31, .iload 5, 0, 0) := rfl
theorem te_339_33 : (pT M_339).find? (fun e => e.1 == 33) = some (33, .iload_n 3, 0, 0) := rfl
theorem te_339_34 : (pT M_339).find? (fun e => e.1 == 34) = some (34, .invokevirtual 275, 298, 0) := rfl
theorem te_339_37 : (pT M_339).find? (fun e => e.1 == 37) = some (37, .ifCond .le 18, 0, 0) := rfl
theorem te_339_40 : (pT M_339).find? (fun e => e.1 == 40) = some (40, .aload_n 0, 0, 0) := rfl
theorem te_339_41 : (pT M_339).find? (fun e => e.1 == 41) = some (41, .iload 5, 0, 0) := rfl
theorem te_339_43 : (pT M_339).find? (fun e => e.1 == 43) = some (43, .iload_n 1, 0, 0) := rfl
theorem te_339_44 : (pT M_339).find? (fun e => e.1 == 44) = some (44, .iload_n 3, 0, 0) := rfl
theorem te_339_45 : (pT M_339).find? (fun e => e.1 == 45) = some (45, .iload 4, 0, 0) := rfl
theorem te_339_47 : (pT M_339).find? (fun e => e.1 == 47) = some (47, .invokevirtual 372, 340, 0) := rfl
theorem te_339_50 : (pT M_339).find? (fun e => e.1 == 50) = some (50, .ifCond .eq 5, 0, 0) := rfl
theorem te_339_53 : (pT M_339).find? (fun e => e.1 == 53) = some (53, .iconst 0, 0, 0) := rfl
theorem te_339_54 : (pT M_339).find? (fun e => e.1 == 54) = some (54, .ireturn, 0, 0) := rfl
theorem te_339_55 : (pT M_339).find? (fun e => e.1 == 55) = some (55, .iinc 5 1, 0, 0) := rfl
theorem te_339_58 : (pT M_339).find? (fun e => e.1 == 58) = some (58, .goto (-34), 0, 0) := rfl
theorem te_339_61 : (pT M_339).find? (fun e => e.1 == 61) = some (61, .iconst 1, 0, 0) := rfl
theorem te_339_62 : (pT M_339).find? (fun e => e.1 == 62) = some (62, .ireturn, 0, 0) := rfl
theorem te_340_0 : (pT M_340).find? (fun e => e.1 == 0) = some (0, .aload_n 0, 0, 0) := rfl
theorem te_340_1 : (pT M_340).find? (fun e => e.1 == 1) = some (1, .getfield 89, 10, 30) := rfl
theorem te_340_4 : (pT M_340).find? (fun e => e.1 == 4) = some (4, .iload_n 2, 0, 0) := rfl
theorem te_340_5 : (pT M_340).find? (fun e => e.1 == 5) = some (5, .iaload, 0, 0) := rfl
theorem te_340_6 : (pT M_340).find? (fun e => e.1 == 6) = some (6, .aload_n 0, 0, 0) := rfl
theorem te_340_7 : (pT M_340).find? (fun e => e.1 == 7) = some (7, .getfield 89, 10, 30) := rfl
theorem te_340_10 : (pT M_340).find? (fun e => e.1 == 10) = some (10, .iload_n 1, 0, 0) := rfl
theorem te_340_11 : (pT M_340).find? (fun e => e.1 == 11) = some (11, .iaload, 0, 0) := rfl
theorem te_340_12 : (pT M_340).find? (fun e => e.1 == 12) = some (12, .isub, 0, 0) := rfl
theorem te_340_13 : (pT M_340).find? (fun e => e.1 == 13) = some (13, .iload 4, 0, 0) := rfl
theorem te_340_15 : (pT M_340).find? (fun e => e.1 == 15) = some (15, .invokestatic 211, 272, 2) := rfl
theorem te_340_18 : (pT M_340).find? (fun e => e.1 == 18) = some (18, .istore 5, 0, 0) := rfl
theorem te_340_20 : (pT M_340).find? (fun e => e.1 == 20) = some (20, .iload 5, 0, 0) := rfl
theorem te_340_22 : (pT M_340).find? (fun e => e.1 == 22) = some (22, .sipush 400, 0, 0) := rfl
theorem te_340_25 : (pT M_340).find? (fun e => e.1 == 25) = some (25, .iload 4, 0, 0) := rfl
theorem te_340_27 : (pT M_340).find? (fun e => e.1 == 27) = some (27, .idiv, 0, 0) := rfl
theorem te_340_28 : (pT M_340).find? (fun e => e.1 == 28) = some (28, .iload 4, 0, 0) := rfl
theorem te_340_30 : (pT M_340).find? (fun e => e.1 == 30) = some (30, .imul, 0, 0) := rfl
theorem te_340_31 : (pT M_340).find? (fun e => e.1 == 31) = some (31, .isub, 0, 0) := rfl
theorem te_340_32 : (pT M_340).find? (fun e => e.1 == 32) = some (32, .iload 4, 0, 0) := rfl
theorem te_340_34 : (pT M_340).find? (fun e => e.1 == 34) = some (34, .isub, 0, 0) := rfl
theorem te_340_35 : (pT M_340).find? (fun e => e.1 == 35) = some (35, .istore 6, 0, 0) := rfl
theorem te_340_37 : (pT M_340).find? (fun e => e.1 == 37) = some (37, .iload 6, 0, 0) := rfl
theorem te_340_39 : (pT M_340).find? (fun e => e.1 == 39) = some (39, .sipush 400, 0, 0) := rfl
theorem te_340_42 : (pT M_340).find? (fun e => e.1 == 42) = some (42, .if_icmp .gt 37, 0, 0) := rfl
theorem te_340_45 : (pT M_340).find? (fun e => e.1 == 45) = some (45, .iload_n 1, 0, 0) := rfl
theorem te_340_46 : (pT M_340).find? (fun e => e.1 == 46) = some (46, .iload_n 2, 0, 0) := rfl
theorem te_340_47 : (pT M_340).find? (fun e => e.1 == 47) = some (47, .if_icmp .ne 8, 0, 0) := rfl
theorem te_340_50 : (pT M_340).find? (fun e => e.1 == 50) = some (50, .iload 6, 0, 0) := rfl
theorem te_340_52 : (pT M_340).find? (fun e => e.1 == 52) = some (52, .ifCond .eq 17, 0, 0) := rfl
theorem te_340_55 : (pT M_340).find? (fun e => e.1 == 55) = some (55, .aload_n 0, 0, 0) := rfl
theorem te_340_56 : (pT M_340).find? (fun e => e.1 == 56) = some (56, .iload_n 1, 0, 0) := rfl
theorem te_340_57 : (pT M_340).find? (fun e => e.1 == 57) = some (57, .iload_n 2, 0, 0) := rfl
theorem te_340_58 : (pT M_340).find? (fun e => e.1 == 58) = some (58, .iload 6, 0, 0) := rfl
theorem te_340_60 : (pT M_340).find? (fun e => e.1 == 60) = some (60, .iload_n 3, 0, 0) := rfl
theorem te_340_61 : (pT M_340).find? (fun e => e.1 == 61) = some (61, .invokevirtual 365, 341, 0) := rfl
theorem te_340_64 : (pT M_340).find? (fun e => e.1 == 64) = some (64, .ifCond .eq 5, 0, 0) := rfl
theorem te_340_67 : (pT M_340).find? (fun e => e.1 == 67) = some (67, .iconst 1, 0, 0) := rfl
theorem te_340_68 : (pT M_340).find? (fun e => e.1 == 68) = some (68, .ireturn, 0, 0) := rfl
theorem te_340_69 : (pT M_340).find? (fun e => e.1 == 69) = some (69, .iload 6, 0, 0) := rfl
theorem te_340_71 : (pT M_340).find? (fun e => e.1 == 71) = some (71, .iload 4, 0, 0) := rfl
theorem te_340_73 : (pT M_340).find? (fun e => e.1 == 73) = some (73, .iadd, 0, 0) := rfl
theorem te_340_74 : (pT M_340).find? (fun e => e.1 == 74) = some (74, .istore 6, 0, 0) := rfl
theorem te_340_76 : (pT M_340).find? (fun e => e.1 == 76) = some (76, .goto (-39), 0, 0) := rfl
theorem te_340_79 : (pT M_340).find? (fun e => e.1 == 79) = some (79, .iconst 0, 0, 0) := rfl
theorem te_340_80 : (pT M_340).find? (fun e => e.1 == 80) = some (80, .ireturn, 0, 0) := rfl
theorem te_341_0 : (pT M_341).find? (fun e => e.1 == 0) = some (0, .aload_n 0, 0, 0) := rfl
theorem te_341_1 : (pT M_341).find? (fun e => e.1 == 1) = some (1, .iload_n 1, 0, 0) := rfl
theorem te_341_2 : (pT M_341).find? (fun e => e.1 == 2) = some (2, .invokevirtual 272, 299, 0) := rfl
theorem te_341_5 : (pT M_341).find? (fun e => e.1 == 5) = some (5, .istore 5, 0, 0) := rfl
theorem te_341_7 : (pT M_341).find? (fun e => e.1 == 7) = some (7, .aload_n 0, 0, 0) := rfl
theorem te_341_8 : (pT M_341).find? (fun e => e.1 == 8) = some (8, .iload_n 2, 0, 0) := rfl
theorem te_341_9 : (pT M_341).find? (fun e => e.1 == 9) = some (9, .invokevirtual 272, 299, 0) := rfl
theorem te_341_12 : (pT M_341).find? (fun e => e.1 == 12) = some (12, .iload 4, 0, 0) := rfl
theorem te_341_14 : (pT M_341).find? (fun e => e.1 == 14) = some (14, .iload_n 3, 0, 0) := rfl
theorem te_341_15 : (pT M_341).find? (fun e => e.1 == 15) = some (15, .imul, 0, 0) := rfl
theorem te_341_16 : (pT M_341).find? (fun e => e.1 == 16) = some (16, .iadd, 0, 0) := rfl
theorem te_341_17 : (pT M_341).find? (fun e => e.1 == 17) = some (17, .istore 6, 0, 0) := rfl
theorem te_341_19 : (pT M_341).find? (fun e => e.1 == 19) = some (19, .iload 6, 0, 0) := rfl
theorem te_341_21 : (pT M_341).find? (fun e => e.1 == 21) = some (21, .iload 5, 0, 0) := rfl
theorem te_341_23 : (pT M_341).find? (fun e => e.1 == 23) = some (23, .aload_n 0, 0, 0) := rfl
theorem te_341_24 : (pT M_341).find? (fun e => e.1 == 24) = some (24, .iload_n 1, 0, 0) := rfl
theorem te_341_25 : (pT M_341).find? (fun e => e.1 == 25) = some (25, .iload 4, 0, 0) := rfl
theorem te_341_27 : (pT M_341).find? (fun e => e.1 == 27) = some (27, .invokevirtual 275, 298, 0) := rfl
theorem te_341_30 : (pT M_341).find? (fun e => e.1 == 30) = some (30, .iadd, 0, 0) := rfl
theorem te_341_31 : (pT M_341).find? (fun e => e.1 == 31) = some (31, .iconst 1, 0, 0) := rfl
theorem te_341_32 : (pT M_341).find? (fun e => e.1 == 32) = some (32, .isub, 0, 0) := rfl
theorem te_341_33 : (pT M_341).find? (fun e => e.1 == 33) = some (33, .if_icmp .gt 24, 0, 0) := rfl
theorem te_341_36 : (pT M_341).find? (fun e => e.1 == 36) = some (36, .iload 5, 0, 0) := rfl
theorem te_341_38 : (pT M_341).find? (fun e => e.1 == 38) = some (38, .iload 6, 0, 0) := rfl
theorem te_341_40 : (pT M_341).find? (fun e => e.1 == 40) = some (40, .aload_n 0, 0, 0) := rfl
theorem te_341_41 : (pT M_341).find? (fun e => e.1 == 41) = some (41, .iload_n 2, 0, 0) := rfl
theorem te_341_42 : (pT M_341).find? (fun e => e.1 == 42) = some (42, .iload 4, 0, 0) := rfl
theorem te_341_44 : (pT M_341).find? (fun e => e.1 == 44) = some (44, .invokevirtual 275, 298, 0) := rfl
theorem te_341_47 : (pT M_341).find? (fun e => e.1 == 47) = some (47, .iadd, 0, 0) := rfl
theorem te_341_48 : (pT M_341).find? (fun e => e.1 == 48) = some (48, .iconst 1, 0, 0) := rfl
theorem te_341_49 : (pT M_341).find? (fun e => e.1 == 49) = some (49, .isub, 0, 0) := rfl
theorem te_341_50 : (pT M_341).find? (fun e => e.1 == 50) = some (50, .if_icmp .gt 7, 0, 0) := rfl
theorem te_341_53 : (pT M_341).find? (fun e => e.1 == 53) = some (53, .iconst 1, 0, 0) := rfl
theorem te_341_54 : (pT M_341).find? (fun e => e.1 == 54) = some (54, .goto 4, 0, 0) := rfl
theorem te_341_57 : (pT M_341).find? (fun e => e.1 == 57) = some (57, .iconst 0, 0, 0) := rfl
theorem te_341_58 : (pT M_341).find? (fun e => e.1 == 58) = some (58, .ireturn, 0, 0) := rfl
theorem te_342_0 : (pT M_342).find? (fun e => e.1 == 0) = some (0, .aload_n 0, 0, 0) := rfl
theorem te_342_1 : (pT M_342).find? (fun e => e.1 == 1) = some (1, .aload_n 0, 0, 0) := rfl
theorem te_342_2 : (pT M_342).find? (fun e => e.1 == 2) = some (2, .iload_n 1, 0, 0) := rfl
theorem te_342_3 : (pT M_342).find? (fun e => e.1 == 3) = some (3, .invokevirtual 122, 235, 0) := rfl
theorem te_342_6 : (pT M_342).find? (fun e => e.1 == 6) = some (6, .ifCond .ne 7, 0, 0) := rfl
theorem te_342_9 : (pT M_342).find? (fun e => e.1 == 9) = some (9, .iconst 1, 0, 0) := rfl
theorem te_342_10 : (pT M_342).find? (fun e => e.1 == 10) = some (10, .goto 37, 0, 0) := rfl
theorem te_342_13 : (pT M_342).find? (fun e => e.1 == 13) = some (13, .iload_n 2, 0, 0) := rfl
theorem te_342_14 : (pT M_342).find? (fun e => e.1 == 14) = some (14, .invokestatic 202, 253, 2) := rfl
theorem te_342_17 : (pT M_342).find? (fun e => e.1 == 17) = some (17, .ifCond .eq 13, 0, 0) := rfl
theorem te_342_20 : (pT M_342).find? (fun e => e.1 == 20) = some (20, .iload_n 3, 0, 0) := rfl
theorem te_342_21 : (pT M_342).find? (fun e => e.1 == 21) = some (21, .iconst 1, 0, 0) := rfl
theorem te_342_22 : (pT M_342).find? (fun e => e.1 == 22) = some (22, .bipush 40, 0, 0) := rfl
theorem te_342_24 : (pT M_342).find? (fun e => e.1 == 24) = some (24, .invokestatic 104, 227, 2) := rfl
theorem te_342_27 : (pT M_342).find? (fun e => e.1 == 27) = some (27, .ifCond .ne 7, 0, 0) := rfl
theorem te_342_30 : (pT M_342).find? (fun e => e.1 == 30) = some (30, .iconst 2, 0, 0) := rfl
theorem te_342_31 : (pT M_342).find? (fun e => e.1 == 31) = some (31, .goto 16, 0, 0) := rfl
theorem te_342_34 : (pT M_342).find? (fun e => e.1 == 34) = some (34, .aload_n 0, 0, 0) := rfl
theorem te_342_35 : (pT M_342).find? (fun e => e.1 == 35) = some (35, .iload_n 2, 0, 0) := rfl
theorem te_342_36 : (pT M_342).find? (fun e => e.1 == 36) = some (36, .invokevirtual 232, 268, 0) := rfl
theorem te_342_39 : (pT M_342).find? (fun e => e.1 == 39) = some (39, .ifCond .ne 7, 0, 0) := rfl
theorem te_342_42 : (pT M_342).find? (fun e => e.1 == 42) = some (42, .iconst 3, 0, 0) := rfl
theorem te_342_43 : (pT M_342).find? (fun e => e.1 == 43) = some (43, .goto 4, 0, 0) := rfl
theorem te_342_46 : (pT M_342).find? (fun e => e.1 == 46) = some (46, .iconst 0, 0, 0) := rfl
theorem te_342_47 : (pT M_342).find? (fun e => e.1 == 47) = some (47, .putfield 101, 10, 0) := rfl
theorem te_342_50 : (pT M_342).find? (fun e => e.1 == 50) = some (50, .aload_n 0, 0, 0) := rfl
theorem te_342_51 : (pT M_342).find? (fun e => e.1 == 51) = some (51, .getfield 101, 10, 0) := rfl
theorem te_342_54 : (pT M_342).find? (fun e => e.1 == 54) = some (54, .ifCond .le 5, 0, 0) := rfl
theorem te_342_57 : (pT M_342).find? (fun e => e.1 == 57) = some (57, .iconst 0, 0, 0) := rfl
theorem te_342_58 : (pT M_342).find? (fun e => e.1 == 58) = some (58, .ireturn, 0, 0) := rfl
theorem te_342_59 : (pT M_342).find? (fun e => e.1 == 59) = some (59, .iload_n 1, 0, 0) := rfl
theorem te_342_60 : (pT M_342).find? (fun e => e.1 == 60) = some (60, .aload_n 0, 0, 0) := rfl
theorem te_342_61 : (pT M_342).find? (fun e => e.1 == 61) = some (61, .iload_n 2, 0, 0) := rfl
theorem te_342_62 : (pT M_342).find? (fun e => e.1 == 62) = some (62, .iload_n 3, 0, 0) := rfl
theorem te_342_63 : (pT M_342).find? (fun e => e.1 == 63) = some (63, .invokevirtual 375, 338, 0) := rfl
theorem te_342_66 : (pT M_342).find? (fun e => e.1 == 66) = some (66, .if_icmp .ge 12, 0, 0) := rfl
theorem te_342_69 : (pT M_342).find? (fun e => e.1 == 69) = some (69, .aload_n 0, 0, 0) := rfl
theorem te_342_70 : (pT M_342).find? (fun e => e.1 == 70) = some (70, .getfield 89, 10, 30) := rfl
theorem te_342_73 : (pT M_342).find? (fun e => e.1 == 73) = some (73, .iload_n 1, 0, 0) := rfl
theorem te_342_74 : (pT M_342).find? (fun e => e.1 == 74) = some (74, .iaload, 0, 0) := rfl
theorem te_342_75 : (pT M_342).find? (fun e => e.1 == 75) = some (75, .goto 4, 0, 0) := rfl
theorem te_342_78 : (pT M_342).find? (fun e => e.1 == 78) = some (78, .iconst (-1), 0, 0) := rfl
theorem te_342_79 : (pT M_342).find? (fun e => e.1 == 79) = some (79, .ireturn, 0, 0) := rfl
theorem w_280_0 {C : CXW} (hC : Cmono C) {S : Nat × (Nat → Int32)} {K : WK} {mem : MM} {x1 x2 : Int} (H : (CWI C 235 [.inr 143, .inl x1] mem fun r2 m1 => InI r2 → ((¬ r2 = 0 → (CWI C 253 [.inl x2] m1 fun r4 m3 => InI r4 → ((¬ r4 = 0 → (CWI C 254 [.inr 143, .inl x2] m3 fun r6 m5 => InI r6 → ((r6 = 0 → (CWI C 281 [.inr 143, .inl x2] (upm m5 143 0 0) fun r9 m8 => InI r9 → ((r9 = 0 → (InI (-1) → K (some (-1)) m8)) ∧ (¬ (r9 = 0) → ((0 : Int) ≤ x1 ∧ (x1 : Int) < 8) ∧ ∀ v10 : Int, v10 = m8 163 (Int.toNat x1) → InI v10 → (InI v10 → K (some v10) m8))))) ∧ (¬ (r6 = 0) → (InI 0 → K (some 0) (upm m5 143 0 3)))))) ∧ (¬ (¬ r4 = 0) → (InI 0 → K (some 0) (upm m3 143 0 2)))))) ∧ (¬ (¬ r2 = 0) → (InI 0 → K (some 0) (upm m1 143 0 1)))))) : Wx C S M_280 K 0 [some (.inr 143), some (.inl x1), some (.inl x2)] [] mem := by
  refine Wx.aload_n hC te_280_0 rfl ?_
  refine Wx.aload_n hC te_280_1 rfl ?_
  refine Wx.iload_n hC te_280_2 rfl ?_
  refine Wx.virtI hC te_280_3 mt_235 (args := [.inr 143, .inl x1]) (rest := [.inr 143]) rfl rfl rfl rfl rfl rfl rfl rfl ?_
  refine CWI.mono hC (fun r2 m1 H hy => ?_) H
  replace H := H hy
  refine Wx.ifc hC (t := 13) te_280_6 (by decide) (fun q => ?_) (fun q => ?_)
  · replace H := H.1 q
    refine Wx.iload_n hC te_280_13 rfl ?_
    refine Wx.statI hC te_280_14 (by decide) mt_253 (args := [.inl x2]) (rest := [.inr 143]) rfl rfl rfl rfl rfl ?_
    refine CWI.mono hC (fun r4 m3 H hy => ?_) H
    replace H := H hy
    refine Wx.ifc hC (t := 24) te_280_17 (by decide) (fun q => ?_) (fun q => ?_)
    · replace H := H.1 q
      refine Wx.aload_n hC te_280_24 rfl ?_
      refine Wx.iload_n hC te_280_25 rfl ?_
      refine Wx.virtI hC te_280_26 mt_254 (args := [.inr 143, .inl x2]) (rest := [.inr 143]) rfl rfl rfl rfl rfl rfl rfl rfl ?_
      refine CWI.mono hC (fun r6 m5 H hy => ?_) H
      replace H := H hy
      refine Wx.ifc hC (t := 36) te_280_29 (by decide) (fun q => ?_) (fun q => ?_)
      · replace H := H.1 q
        refine Wx.iconst hC te_280_36 rfl ?_
        refine Wx.putI hC te_280_37 rfl rfl rfl rfl ?_
        refine Wx.aload_n hC te_280_40 rfl ?_
        refine Wx.getI hC te_280_41 rfl rfl rfl (fun c7 e1 e2 => ?_)
        rw [upm_eq] at e1
        subst e1
        refine Wx.ifc hC (t := 51) te_280_44 (by decide) (fun q => ?_) (fun q => absurd (show (0 : Int) ≤ 0 by decide) q)
        refine Wx.aload_n hC te_280_51 rfl ?_
        refine Wx.iload_n hC te_280_52 rfl ?_
        refine Wx.virtI hC te_280_53 mt_281 (args := [.inr 143, .inl x2]) (rest := []) rfl rfl rfl rfl rfl rfl rfl rfl ?_
        refine CWI.mono hC (fun r9 m8 H hy => ?_) H
        replace H := H hy
        refine Wx.ifc hC (t := 68) te_280_56 (by decide) (fun q => ?_) (fun q => ?_)
        · replace H := H.1 q
          refine Wx.iconst hC te_280_68 rfl ?_
          exact Wx.ireturn hC te_280_69 rfl H
        · replace H := H.2 q
          refine Wx.aload_n hC te_280_59 rfl ?_
          refine Wx.getR hC te_280_60 rfl rfl rfl ?_
          refine Wx.iload_n hC te_280_63 rfl ?_
          refine Wx.iald hC te_280_64 rfl H.1 (fun v10 e1 e2 => ?_)
          replace H := H.2 v10 e1 e2
          refine Wx.goto hC (t := 69) te_280_65 (by decide) ?_
          exact Wx.ireturn hC te_280_69 rfl H
      · replace H := H.2 q
        refine Wx.iconst hC te_280_32 rfl ?_
        refine Wx.goto hC (t := 37) te_280_33 (by decide) ?_
        refine Wx.putI hC te_280_37 rfl rfl rfl rfl ?_
        refine Wx.aload_n hC te_280_40 rfl ?_
        refine Wx.getI hC te_280_41 rfl rfl rfl (fun c11 e1 e2 => ?_)
        rw [upm_eq] at e1
        subst e1
        refine Wx.ifc hC (t := 51) te_280_44 (by decide) (fun q => absurd q (show ¬ ((3 : Int) ≤ 0) by decide)) (fun q => ?_)
        refine Wx.iconst hC te_280_47 rfl ?_
        refine Wx.goto hC (t := 69) te_280_48 (by decide) ?_
        exact Wx.ireturn hC te_280_69 rfl H
    · replace H := H.2 q
      refine Wx.iconst hC te_280_20 rfl ?_
      refine Wx.goto hC (t := 37) te_280_21 (by decide) ?_
      refine Wx.putI hC te_280_37 rfl rfl rfl rfl ?_
      refine Wx.aload_n hC te_280_40 rfl ?_
      refine Wx.getI hC te_280_41 rfl rfl rfl (fun c12 e1 e2 => ?_)
      rw [upm_eq] at e1
      subst e1
      refine Wx.ifc hC (t := 51) te_280_44 (by decide) (fun q => absurd q (show ¬ ((2 : Int) ≤ 0) by decide)) (fun q => ?_)
      refine Wx.iconst hC te_280_47 rfl ?_
      refine Wx.goto hC (t := 69) te_280_48 (by decide) ?_
      exact Wx.ireturn hC te_280_69 rfl H
  · replace H := H.2 q
    refine Wx.iconst hC te_280_9 rfl ?_
    refine Wx.goto hC (t := 37) te_280_10 (by decide) ?_
    refine Wx.putI hC te_280_37 rfl rfl rfl rfl ?_
    refine Wx.aload_n hC te_280_40 rfl ?_
    refine Wx.getI hC te_280_41 rfl rfl rfl (fun c13 e1 e2 => ?_)
    rw [upm_eq] at e1
    subst e1
    refine Wx.ifc hC (t := 51) te_280_44 (by decide) (fun q => absurd q (show ¬ ((1 : Int) ≤ 0) by decide)) (fun q => ?_)
    refine Wx.iconst hC te_280_47 rfl ?_
    refine Wx.goto hC (t := 69) te_280_48 (by decide) ?_
    exact Wx.ireturn hC te_280_69 rfl H
theorem w_281_0 {C : CXW} (hC : Cmono C) {S : Nat × (Nat → Int32)} {K : WK} {mem : MM} {x1 : Int} (H : (CWV C 256 [.inr 143, .inl x1] mem fun m1 => (CWI C 282 [.inr 143, .inl x1] m1 fun r3 m2 => InI r3 → ((r3 = 0 ∨ r3 = 1) ∧ K (some r3) m2)))) : Wx C S M_281 K 0 [some (.inr 143), some (.inl x1)] [] mem := by
  refine Wx.aload_n hC te_281_0 rfl ?_
  refine Wx.iload_n hC te_281_1 rfl ?_
  refine Wx.virtV hC te_281_2 mt_256 (args := [.inr 143, .inl x1]) (rest := []) rfl rfl rfl rfl rfl rfl rfl rfl ?_
  refine CWV.mono hC (fun m1 H => ?_) H
  refine Wx.aload_n hC te_281_5 rfl ?_
  refine Wx.iload_n hC te_281_6 rfl ?_
  refine Wx.virtI hC te_281_7 mt_282 (args := [.inr 143, .inl x1]) (rest := []) rfl rfl rfl rfl rfl rfl rfl rfl ?_
  refine CWI.mono hC (fun r3 m2 H hy => ?_) H
  replace H := H hy
  exact Wx.bret hC te_281_10 rfl H.1 H.2
theorem w_282_0 {C : CXW} (hC : Cmono C) {S : Nat × (Nat → Int32)} {K : WK} {mem : MM} {x1 : Int} (H : (Wx C S M_282 K 2 [some (.inr 143), some (.inl x1), some (.inl 0)] [] mem)) : Wx C S M_282 K 0 [some (.inr 143), some (.inl x1), none] [] mem := by
  refine Wx.iconst hC te_282_0 rfl ?_
  refine Wx.istore_n hC te_282_1 rfl ?_
  exact H
theorem w_282_2 {C : CXW} (hC : Cmono C) {S : Nat × (Nat → Int32)} {K : WK} {mem : MM} {x1 x2 : Int} (H : ∀ v1 : Int, v1 = mem 143 1 → InI v1 → ((v1 ≤ x2 → (CWV C 270 [.inr 143] mem fun m2 => (Wx C S M_282 K 38 [some (.inr 143), some (.inl x1), some (.inl 0)] [] (upm m2 143 25 0)))) ∧ (¬ (v1 ≤ x2) → (CWI C 283 [.inr 143, .inl x2, .inl x1] mem fun r4 m3 => InI r4 → ((¬ r4 = 0 → (InI (x2 + 1)) ∧ (Wx C S M_282 K 2 [some (.inr 143), some (.inl x1), some (.inl (x2 + 1))] [] m3)) ∧ (¬ (¬ r4 = 0) → (K (some 0) m3))))))) : Wx C S M_282 K 2 [some (.inr 143), some (.inl x1), some (.inl x2)] [] mem := by
  refine Wx.iload_n hC te_282_2 rfl ?_
  refine Wx.aload_n hC te_282_3 rfl ?_
  refine Wx.getI hC te_282_4 rfl rfl rfl (fun v1 e1 e2 => ?_)
  replace H := H v1 e1 e2
  refine Wx.icmp hC (t := 27) te_282_7 (by decide) (fun q => ?_) (fun q => ?_)
  · replace H := H.1 q
    refine Wx.aload_n hC te_282_27 rfl ?_
    refine Wx.virtV hC te_282_28 mt_270 (args := [.inr 143]) (rest := []) rfl rfl rfl rfl rfl rfl rfl rfl ?_
    refine CWV.mono hC (fun m2 H => ?_) H
    refine Wx.aload_n hC te_282_31 rfl ?_
    refine Wx.iconst hC te_282_32 rfl ?_
    refine Wx.putI hC te_282_33 rfl rfl rfl rfl ?_
    refine Wx.iconst hC te_282_36 rfl ?_
    refine Wx.istore_n hC te_282_37 rfl ?_
    exact H
  · replace H := H.2 q
    refine Wx.aload_n hC te_282_10 rfl ?_
    refine Wx.iload_n hC te_282_11 rfl ?_
    refine Wx.iload_n hC te_282_12 rfl ?_
    refine Wx.virtI hC te_282_13 mt_283 (args := [.inr 143, .inl x2, .inl x1]) (rest := []) rfl rfl rfl rfl rfl rfl rfl rfl ?_
    refine CWI.mono hC (fun r4 m3 H hy => ?_) H
    replace H := H hy
    refine Wx.ifc hC (t := 21) te_282_16 (by decide) (fun q => ?_) (fun q => ?_)
    · replace H := H.1 q
      refine Wx.iinc hC te_282_21 rfl rfl H.1 ?_
      replace H := H.2
      refine Wx.goto hC (t := 2) te_282_24 (by decide) ?_
      exact H
    · replace H := H.2 q
      refine Wx.iconst hC te_282_19 rfl ?_
      exact Wx.bret hC te_282_20 rfl (Or.inl rfl) H
theorem w_282_38 {C : CXW} (hC : Cmono C) {S : Nat × (Nat → Int32)} {K : WK} {mem : MM} {x1 x2 : Int} (H : ∀ v1 : Int, v1 = mem 143 1 → InI v1 → ((v1 ≤ x2 → (CWI C 284 [.inr 143] mem fun r3 m2 => InI r3 → (Wx C S M_282 K 71 [some (.inr 143), some (.inl x1), some (.inl r3)] [] m2))) ∧ (¬ (v1 ≤ x2) → ((0 : Int) ≤ x2 ∧ (x2 : Int) < 8) ∧ ((0 : Int) ≤ x2 ∧ (x2 : Int) < 8) ∧ (InI (x2 + 1)) ∧ (Wx C S M_282 K 38 [some (.inr 143), some (.inl x1), some (.inl (x2 + 1))] [] (upm (upm mem 163 (Int.toNat x2) (-1)) 164 (Int.toNat x2) (-1)))))) : Wx C S M_282 K 38 [some (.inr 143), some (.inl x1), some (.inl x2)] [] mem := by
  refine Wx.iload_n hC te_282_38 rfl ?_
  refine Wx.aload_n hC te_282_39 rfl ?_
  refine Wx.getI hC te_282_40 rfl rfl rfl (fun v1 e1 e2 => ?_)
  replace H := H v1 e1 e2
  refine Wx.icmp hC (t := 66) te_282_43 (by decide) (fun q => ?_) (fun q => ?_)
  · replace H := H.1 q
    refine Wx.aload_n hC te_282_66 rfl ?_
    refine Wx.virtI hC te_282_67 mt_284 (args := [.inr 143]) (rest := []) rfl rfl rfl rfl rfl rfl rfl rfl ?_
    refine CWI.mono hC (fun r3 m2 H hy => ?_) H
    replace H := H hy
    refine Wx.istore_n hC te_282_70 rfl ?_
    exact H
  · replace H := H.2 q
    refine Wx.aload_n hC te_282_46 rfl ?_
    refine Wx.getR hC te_282_47 rfl rfl rfl ?_
    refine Wx.iload_n hC te_282_50 rfl ?_
    refine Wx.iconst hC te_282_51 rfl ?_
    refine Wx.iast hC te_282_52 rfl H.1 ?_
    replace H := H.2
    refine Wx.aload_n hC te_282_53 rfl ?_
    refine Wx.getR hC te_282_54 rfl rfl rfl ?_
    refine Wx.iload_n hC te_282_57 rfl ?_
    refine Wx.iconst hC te_282_58 rfl ?_
    refine Wx.iast hC te_282_59 rfl H.1 ?_
    replace H := H.2
    refine Wx.iinc hC te_282_60 rfl rfl H.1 ?_
    replace H := H.2
    refine Wx.goto hC (t := 38) te_282_63 (by decide) ?_
    exact H
theorem w_282_71 {C : CXW} (hC : Cmono C) {S : Nat × (Nat → Int32)} {K : WK} {mem : MM} {x1 x2 : Int} (H : ((x2 = (-1) → ((¬ x2 = (-1) → (K (some 0) mem)) ∧ (¬ (¬ x2 = (-1)) → (K (some 1) mem)))) ∧ (¬ (x2 = (-1)) → ∀ v1 : Int, v1 = mem 143 25 → InI v1 → ∀ v2 : Int, v2 = mem 143 1 → InI v2 → (InI (6 * v2)) ∧ (((6 * v2) ≤ v1 → ((¬ x2 = (-1) → (K (some 0) mem)) ∧ (¬ (¬ x2 = (-1)) → (K (some 1) mem)))) ∧ (¬ ((6 * v2) ≤ v1) → (CWV C 285 [.inr 143, .inl x2, .inl x1] mem fun m3 => ∀ v4 : Int, v4 = m3 143 25 → InI v4 → (InI (v4 + 1)) ∧ (CWI C 284 [.inr 143] (upm m3 143 25 (v4 + 1)) fun r6 m5 => InI r6 → (Wx C S M_282 K 71 [some (.inr 143), some (.inl x1), some (.inl r6)] [] m5)))))))) : Wx C S M_282 K 71 [some (.inr 143), some (.inl x1), some (.inl x2)] [] mem := by
  refine Wx.iload_n hC te_282_71 rfl ?_
  refine Wx.iconst hC te_282_72 rfl ?_
  refine Wx.icmp hC (t := 114) te_282_73 (by decide) (fun q => ?_) (fun q => ?_)
  · replace H := H.1 q
    refine Wx.iload_n hC te_282_114 rfl ?_
    refine Wx.iconst hC te_282_115 rfl ?_
    refine Wx.icmp hC (t := 123) te_282_116 (by decide) (fun q => ?_) (fun q => ?_)
    · replace H := H.1 q
      refine Wx.iconst hC te_282_123 rfl ?_
      exact Wx.bret hC te_282_124 rfl (Or.inl rfl) H
    · replace H := H.2 q
      refine Wx.iconst hC te_282_119 rfl ?_
      refine Wx.goto hC (t := 124) te_282_120 (by decide) ?_
      exact Wx.bret hC te_282_124 rfl (Or.inr rfl) H
  · replace H := H.2 q
    refine Wx.aload_n hC te_282_76 rfl ?_
    refine Wx.getI hC te_282_77 rfl rfl rfl (fun v1 e1 e2 => ?_)
    replace H := H v1 e1 e2
    refine Wx.bipush hC te_282_80 rfl rfl ?_
    refine Wx.aload_n hC te_282_82 rfl ?_
    refine Wx.getI hC te_282_83 rfl rfl rfl (fun v2 e1 e2 => ?_)
    replace H := H v2 e1 e2
    refine Wx.imul hC te_282_86 H.1 ?_
    replace H := H.2
    refine Wx.icmp hC (t := 114) te_282_87 (by decide) (fun q => ?_) (fun q => ?_)
    · replace H := H.1 q
      refine Wx.iload_n hC te_282_114 rfl ?_
      refine Wx.iconst hC te_282_115 rfl ?_
      refine Wx.icmp hC (t := 123) te_282_116 (by decide) (fun q => ?_) (fun q => ?_)
      · replace H := H.1 q
        refine Wx.iconst hC te_282_123 rfl ?_
        exact Wx.bret hC te_282_124 rfl (Or.inl rfl) H
      · replace H := H.2 q
        refine Wx.iconst hC te_282_119 rfl ?_
        refine Wx.goto hC (t := 124) te_282_120 (by decide) ?_
        exact Wx.bret hC te_282_124 rfl (Or.inr rfl) H
    · replace H := H.2 q
      refine Wx.aload_n hC te_282_90 rfl ?_
      refine Wx.iload_n hC te_282_91 rfl ?_
      refine Wx.iload_n hC te_282_92 rfl ?_
      refine Wx.virtV hC te_282_93 mt_285 (args := [.inr 143, .inl x2, .inl x1]) (rest := []) rfl rfl rfl rfl rfl rfl rfl rfl ?_
      refine CWV.mono hC (fun m3 H => ?_) H
      refine Wx.aload_n hC te_282_96 rfl ?_
      refine Wx.dup hC te_282_97 ?_
      refine Wx.getI hC te_282_98 rfl rfl rfl (fun v4 e1 e2 => ?_)
      replace H := H v4 e1 e2
      refine Wx.iconst hC te_282_101 rfl ?_
      refine Wx.iadd hC te_282_102 H.1 ?_
      replace H := H.2
      refine Wx.putI hC te_282_103 rfl rfl rfl rfl ?_
      refine Wx.aload_n hC te_282_106 rfl ?_
      refine Wx.virtI hC te_282_107 mt_284 (args := [.inr 143]) (rest := []) rfl rfl rfl rfl rfl rfl rfl rfl ?_
      refine CWI.mono hC (fun r6 m5 H hy => ?_) H
      replace H := H hy
      refine Wx.istore_n hC te_282_110 rfl ?_
      refine Wx.goto hC (t := 71) te_282_111 (by decide) ?_
      exact H
theorem w_283_0 {C : CXW} (hC : Cmono C) {S : Nat × (Nat → Int32)} {K : WK} {mem : MM} {x1 x2 : Int} (H : (Wx C S M_283 K 2 [some (.inr 143), some (.inl x1), some (.inl x2), some (.inl 0)] [] mem)) : Wx C S M_283 K 0 [some (.inr 143), some (.inl x1), some (.inl x2), none] [] mem := by
  refine Wx.iconst hC te_283_0 rfl ?_
  refine Wx.istore_n hC te_283_1 rfl ?_
  exact H
theorem w_283_2 {C : CXW} (hC : Cmono C) {S : Nat × (Nat → Int32)} {K : WK} {mem : MM} {x1 x2 x3 : Int} (H : ∀ v1 : Int, v1 = mem 143 12 → InI v1 → ((v1 ≤ x3 → (CWV C 270 [.inr 143] mem fun m2 => (CWV C 271 [.inr 143, .inl x1, .inl 0, .inl x2, .inl 1] m2 fun m3 => (CWI C 264 [.inr 143, .inl x1] m3 fun r5 m4 => InI r5 → (CWI C 273 [.inr 143, .inl r5, .inl x2] m4 fun r7 m6 => InI r7 → ((¬ r7 = 0 → (K (some 0) m6)) ∧ (¬ (¬ r7 = 0) → (K (some 1) m6)))))))) ∧ (¬ (v1 ≤ x3) → ((0 : Int) ≤ x3 ∧ (x3 : Int) < 48) ∧ ∀ v8 : Int, v8 = mem 154 (Int.toNat x3) → InI v8 → ((¬ v8 = x1 → (InI (x3 + 1)) ∧ (Wx C S M_283 K 2 [some (.inr 143), some (.inl x1), some (.inl x2), some (.inl (x3 + 1))] [] mem)) ∧ (¬ (¬ v8 = x1) → ((0 : Int) ≤ x3 ∧ (x3 : Int) < 48) ∧ ∀ v9 : Int, v9 = mem 155 (Int.toNat x3) → InI v9 → ((¬ v9 = x1 → (InI (x3 + 1)) ∧ (Wx C S M_283 K 2 [some (.inr 143), some (.inl x1), some (.inl x2), some (.inl (x3 + 1))] [] mem)) ∧ (¬ (¬ v9 = x1) → ((0 : Int) ≤ x3 ∧ (x3 : Int) < 48) ∧ ∀ v10 : Int, v10 = mem 157 (Int.toNat x3) → InI v10 → ((0 : Int) ≤ x3 ∧ (x3 : Int) < 48) ∧ ∀ v11 : Int, v11 = mem 156 (Int.toNat x3) → InI v11 → (InI (x2 * v11)) ∧ ((v10 ≤ (x2 * v11) → (InI (x3 + 1)) ∧ (Wx C S M_283 K 2 [some (.inr 143), some (.inl x1), some (.inl x2), some (.inl (x3 + 1))] [] mem)) ∧ (¬ (v10 ≤ (x2 * v11)) → (K (some 0) mem)))))))))) : Wx C S M_283 K 2 [some (.inr 143), some (.inl x1), some (.inl x2), some (.inl x3)] [] mem := by
  refine Wx.iload_n hC te_283_2 rfl ?_
  refine Wx.aload_n hC te_283_3 rfl ?_
  refine Wx.getI hC te_283_4 rfl rfl rfl (fun v1 e1 e2 => ?_)
  replace H := H v1 e1 e2
  refine Wx.icmp hC (t := 55) te_283_7 (by decide) (fun q => ?_) (fun q => ?_)
  · replace H := H.1 q
    refine Wx.aload_n hC te_283_55 rfl ?_
    refine Wx.virtV hC te_283_56 mt_270 (args := [.inr 143]) (rest := []) rfl rfl rfl rfl rfl rfl rfl rfl ?_
    refine CWV.mono hC (fun m2 H => ?_) H
    refine Wx.aload_n hC te_283_59 rfl ?_
    refine Wx.iload_n hC te_283_60 rfl ?_
    refine Wx.iconst hC te_283_61 rfl ?_
    refine Wx.iload_n hC te_283_62 rfl ?_
    refine Wx.iconst hC te_283_63 rfl ?_
    refine Wx.virtV hC te_283_64 mt_271 (args := [.inr 143, .inl x1, .inl 0, .inl x2, .inl 1]) (rest := []) rfl rfl rfl rfl rfl rfl rfl rfl ?_
    refine CWV.mono hC (fun m3 H => ?_) H
    refine Wx.aload_n hC te_283_67 rfl ?_
    refine Wx.aload_n hC te_283_68 rfl ?_
    refine Wx.iload_n hC te_283_69 rfl ?_
    refine Wx.virtI hC te_283_70 mt_264 (args := [.inr 143, .inl x1]) (rest := [.inr 143]) rfl rfl rfl rfl rfl rfl rfl rfl ?_
    refine CWI.mono hC (fun r5 m4 H hy => ?_) H
    replace H := H hy
    refine Wx.iload_n hC te_283_73 rfl ?_
    refine Wx.virtI hC te_283_74 mt_273 (args := [.inr 143, .inl r5, .inl x2]) (rest := []) rfl rfl rfl rfl rfl rfl rfl rfl ?_
    refine CWI.mono hC (fun r7 m6 H hy => ?_) H
    replace H := H hy
    refine Wx.ifc hC (t := 84) te_283_77 (by decide) (fun q => ?_) (fun q => ?_)
    · replace H := H.1 q
      refine Wx.iconst hC te_283_84 rfl ?_
      exact Wx.bret hC te_283_85 rfl (Or.inl rfl) H
    · replace H := H.2 q
      refine Wx.iconst hC te_283_80 rfl ?_
      refine Wx.goto hC (t := 85) te_283_81 (by decide) ?_
      exact Wx.bret hC te_283_85 rfl (Or.inr rfl) H
  · replace H := H.2 q
    refine Wx.aload_n hC te_283_10 rfl ?_
    refine Wx.getR hC te_283_11 rfl rfl rfl ?_
    refine Wx.iload_n hC te_283_14 rfl ?_
    refine Wx.iald hC te_283_15 rfl H.1 (fun v8 e1 e2 => ?_)
    replace H := H.2 v8 e1 e2
    refine Wx.iload_n hC te_283_16 rfl ?_
    refine Wx.icmp hC (t := 49) te_283_17 (by decide) (fun q => ?_) (fun q => ?_)
    · replace H := H.1 q
      refine Wx.iinc hC te_283_49 rfl rfl H.1 ?_
      replace H := H.2
      refine Wx.goto hC (t := 2) te_283_52 (by decide) ?_
      exact H
    · replace H := H.2 q
      refine Wx.aload_n hC te_283_20 rfl ?_
      refine Wx.getR hC te_283_21 rfl rfl rfl ?_
      refine Wx.iload_n hC te_283_24 rfl ?_
      refine Wx.iald hC te_283_25 rfl H.1 (fun v9 e1 e2 => ?_)
      replace H := H.2 v9 e1 e2
      refine Wx.iload_n hC te_283_26 rfl ?_
      refine Wx.icmp hC (t := 49) te_283_27 (by decide) (fun q => ?_) (fun q => ?_)
      · replace H := H.1 q
        refine Wx.iinc hC te_283_49 rfl rfl H.1 ?_
        replace H := H.2
        refine Wx.goto hC (t := 2) te_283_52 (by decide) ?_
        exact H
      · replace H := H.2 q
        refine Wx.aload_n hC te_283_30 rfl ?_
        refine Wx.getR hC te_283_31 rfl rfl rfl ?_
        refine Wx.iload_n hC te_283_34 rfl ?_
        refine Wx.iald hC te_283_35 rfl H.1 (fun v10 e1 e2 => ?_)
        replace H := H.2 v10 e1 e2
        refine Wx.iload_n hC te_283_36 rfl ?_
        refine Wx.aload_n hC te_283_37 rfl ?_
        refine Wx.getR hC te_283_38 rfl rfl rfl ?_
        refine Wx.iload_n hC te_283_41 rfl ?_
        refine Wx.iald hC te_283_42 rfl H.1 (fun v11 e1 e2 => ?_)
        replace H := H.2 v11 e1 e2
        refine Wx.imul hC te_283_43 H.1 ?_
        replace H := H.2
        refine Wx.icmp hC (t := 49) te_283_44 (by decide) (fun q => ?_) (fun q => ?_)
        · replace H := H.1 q
          refine Wx.iinc hC te_283_49 rfl rfl H.1 ?_
          replace H := H.2
          refine Wx.goto hC (t := 2) te_283_52 (by decide) ?_
          exact H
        · replace H := H.2 q
          refine Wx.iconst hC te_283_47 rfl ?_
          exact Wx.bret hC te_283_48 rfl (Or.inl rfl) H
theorem w_284_0 {C : CXW} (hC : Cmono C) {S : Nat × (Nat → Int32)} {K : WK} {mem : MM} (H : (Wx C S M_284 K 4 [some (.inr 143), some (.inl (-1)), some (.inl 0)] [] mem)) : Wx C S M_284 K 0 [some (.inr 143), none, none] [] mem := by
  refine Wx.iconst hC te_284_0 rfl ?_
  refine Wx.istore_n hC te_284_1 rfl ?_
  refine Wx.iconst hC te_284_2 rfl ?_
  refine Wx.istore_n hC te_284_3 rfl ?_
  exact H
theorem w_284_4 {C : CXW} (hC : Cmono C) {S : Nat × (Nat → Int32)} {K : WK} {mem : MM} {x1 x2 : Int} (H : ∀ v1 : Int, v1 = mem 143 1 → InI v1 → ((v1 ≤ x2 → (InI x1 → K (some x1) mem)) ∧ (¬ (v1 ≤ x2) → ((0 : Int) ≤ x2 ∧ (x2 : Int) < 8) ∧ ∀ v2 : Int, v2 = mem 163 (Int.toNat x2) → InI v2 → ((¬ v2 = (-1) → (InI (x2 + 1)) ∧ (Wx C S M_284 K 4 [some (.inr 143), some (.inl x1), some (.inl (x2 + 1))] [] mem)) ∧ (¬ (¬ v2 = (-1)) → ((x1 = (-1) → (InI (x2 + 1)) ∧ (Wx C S M_284 K 4 [some (.inr 143), some (.inl x2), some (.inl (x2 + 1))] [] mem)) ∧ (¬ (x1 = (-1)) → (CWI C 261 [.inr 143, .inl x2] mem fun r4 m3 => InI r4 → (CWI C 261 [.inr 143, .inl x1] m3 fun r6 m5 => InI r6 → ((r4 ≤ r6 → (InI (x2 + 1)) ∧ (Wx C S M_284 K 4 [some (.inr 143), some (.inl x1), some (.inl (x2 + 1))] [] m5)) ∧ (¬ (r4 ≤ r6) → (InI (x2 + 1)) ∧ (Wx C S M_284 K 4 [some (.inr 143), some (.inl x2), some (.inl (x2 + 1))] [] m5)))))))))))) : Wx C S M_284 K 4 [some (.inr 143), some (.inl x1), some (.inl x2)] [] mem := by
  refine Wx.iload_n hC te_284_4 rfl ?_
  refine Wx.aload_n hC te_284_5 rfl ?_
  refine Wx.getI hC te_284_6 rfl rfl rfl (fun v1 e1 e2 => ?_)
  replace H := H v1 e1 e2
  refine Wx.icmp hC (t := 48) te_284_9 (by decide) (fun q => ?_) (fun q => ?_)
  · replace H := H.1 q
    refine Wx.iload_n hC te_284_48 rfl ?_
    exact Wx.ireturn hC te_284_49 rfl H
  · replace H := H.2 q
    refine Wx.aload_n hC te_284_12 rfl ?_
    refine Wx.getR hC te_284_13 rfl rfl rfl ?_
    refine Wx.iload_n hC te_284_16 rfl ?_
    refine Wx.iald hC te_284_17 rfl H.1 (fun v2 e1 e2 => ?_)
    replace H := H.2 v2 e1 e2
    refine Wx.iconst hC te_284_18 rfl ?_
    refine Wx.icmp hC (t := 42) te_284_19 (by decide) (fun q => ?_) (fun q => ?_)
    · replace H := H.1 q
      refine Wx.iinc hC te_284_42 rfl rfl H.1 ?_
      replace H := H.2
      refine Wx.goto hC (t := 4) te_284_45 (by decide) ?_
      exact H
    · replace H := H.2 q
      refine Wx.iload_n hC te_284_22 rfl ?_
      refine Wx.iconst hC te_284_23 rfl ?_
      refine Wx.icmp hC (t := 40) te_284_24 (by decide) (fun q => ?_) (fun q => ?_)
      · replace H := H.1 q
        refine Wx.iload_n hC te_284_40 rfl ?_
        refine Wx.istore_n hC te_284_41 rfl ?_
        refine Wx.iinc hC te_284_42 rfl rfl H.1 ?_
        replace H := H.2
        refine Wx.goto hC (t := 4) te_284_45 (by decide) ?_
        exact H
      · replace H := H.2 q
        refine Wx.aload_n hC te_284_27 rfl ?_
        refine Wx.iload_n hC te_284_28 rfl ?_
        refine Wx.virtI hC te_284_29 mt_261 (args := [.inr 143, .inl x2]) (rest := []) rfl rfl rfl rfl rfl rfl rfl rfl ?_
        refine CWI.mono hC (fun r4 m3 H hy => ?_) H
        replace H := H hy
        refine Wx.aload_n hC te_284_32 rfl ?_
        refine Wx.iload_n hC te_284_33 rfl ?_
        refine Wx.virtI hC te_284_34 mt_261 (args := [.inr 143, .inl x1]) (rest := [.inl r4]) rfl rfl rfl rfl rfl rfl rfl rfl ?_
        refine CWI.mono hC (fun r6 m5 H hy => ?_) H
        replace H := H hy
        refine Wx.icmp hC (t := 42) te_284_37 (by decide) (fun q => ?_) (fun q => ?_)
        · replace H := H.1 q
          refine Wx.iinc hC te_284_42 rfl rfl H.1 ?_
          replace H := H.2
          refine Wx.goto hC (t := 4) te_284_45 (by decide) ?_
          exact H
        · replace H := H.2 q
          refine Wx.iload_n hC te_284_40 rfl ?_
          refine Wx.istore_n hC te_284_41 rfl ?_
          refine Wx.iinc hC te_284_42 rfl rfl H.1 ?_
          replace H := H.2
          refine Wx.goto hC (t := 4) te_284_45 (by decide) ?_
          exact H
theorem w_285_0 {C : CXW} (hC : Cmono C) {S : Nat × (Nat → Int32)} {K : WK} {mem : MM} {x1 x2 : Int} (H : (CWI C 286 [.inr 143, .inl x1, .inl x2] mem fun r2 m1 => InI r2 → (Wx C S M_285 K 10 [some (.inr 143), some (.inl x1), some (.inl x2), some (.inl r2), some (.inl r2), none, none, none] [] m1))) : Wx C S M_285 K 0 [some (.inr 143), some (.inl x1), some (.inl x2), none, none, none, none, none] [] mem := by
  refine Wx.aload_n hC te_285_0 rfl ?_
  refine Wx.iload_n hC te_285_1 rfl ?_
  refine Wx.iload_n hC te_285_2 rfl ?_
  refine Wx.virtI hC te_285_3 mt_286 (args := [.inr 143, .inl x1, .inl x2]) (rest := []) rfl rfl rfl rfl rfl rfl rfl rfl ?_
  refine CWI.mono hC (fun r2 m1 H hy => ?_) H
  replace H := H hy
  refine Wx.istore_n hC te_285_6 rfl ?_
  refine Wx.iload_n hC te_285_7 rfl ?_
  refine Wx.istore hC te_285_8 rfl ?_
  exact H
theorem w_285_10 {C : CXW} (hC : Cmono C) {S : Nat × (Nat → Int32)} {K : WK} {mem : MM} {x1 x2 x3 x4 : Int} (H : (InI (x3 + x2)) ∧ (((x3 + x2) ≤ x4 → (Wx C S M_285 K 35 [some (.inr 143), some (.inl x1), some (.inl x2), some (.inl x3), some (.inl x4), none, none, none] [] mem)) ∧ (¬ ((x3 + x2) ≤ x4) → (CWI C 287 [.inr 143, .inl x1, .inl x4, .inl x2] mem fun r2 m1 => InI r2 → ((¬ r2 = 0 → (Wx C S M_285 K 35 [some (.inr 143), some (.inl x1), some (.inl x2), some (.inl x3), some (.inl x4), none, none, none] [] m1)) ∧ (¬ (¬ r2 = 0) → (InI (x4 + 1)) ∧ (Wx C S M_285 K 10 [some (.inr 143), some (.inl x1), some (.inl x2), some (.inl x3), some (.inl (x4 + 1)), none, none, none] [] m1))))))) : Wx C S M_285 K 10 [some (.inr 143), some (.inl x1), some (.inl x2), some (.inl x3), some (.inl x4), none, none, none] [] mem := by
  refine Wx.iload hC te_285_10 rfl ?_
  refine Wx.iload_n hC te_285_12 rfl ?_
  refine Wx.iload_n hC te_285_13 rfl ?_
  refine Wx.iadd hC te_285_14 H.1 ?_
  replace H := H.2
  refine Wx.icmp hC (t := 35) te_285_15 (by decide) (fun q => ?_) (fun q => ?_)
  · replace H := H.1 q
    exact H
  · replace H := H.2 q
    refine Wx.aload_n hC te_285_18 rfl ?_
    refine Wx.iload_n hC te_285_19 rfl ?_
    refine Wx.iload hC te_285_20 rfl ?_
    refine Wx.iload_n hC te_285_22 rfl ?_
    refine Wx.virtI hC te_285_23 mt_287 (args := [.inr 143, .inl x1, .inl x4, .inl x2]) (rest := []) rfl rfl rfl rfl rfl rfl rfl rfl ?_
    refine CWI.mono hC (fun r2 m1 H hy => ?_) H
    replace H := H hy
    refine Wx.ifc hC (t := 35) te_285_26 (by decide) (fun q => ?_) (fun q => ?_)
    · replace H := H.1 q
      exact H
    · replace H := H.2 q
      refine Wx.iinc hC te_285_29 rfl rfl H.1 ?_
      replace H := H.2
      refine Wx.goto hC (t := 10) te_285_32 (by decide) ?_
      exact H
theorem w_285_35 {C : CXW} (hC : Cmono C) {S : Nat × (Nat → Int32)} {K : WK} {mem : MM} {x1 x2 x3 x4 : Int} (H : (InI (x3 + x2)) ∧ ((¬ x4 = (x3 + x2) → (Wx C S M_285 K 71 [some (.inr 143), some (.inl x1), some (.inl x2), some (.inl x3), some (.inl x4), none, none, none] [] mem)) ∧ (¬ (¬ x4 = (x3 + x2)) → ((0 : Int) ≤ x1 ∧ (x1 : Int) < 8) ∧ ∀ v1 : Int, v1 = mem 164 (Int.toNat x1) → InI v1 → ((¬ v1 = (-1) → ((0 : Int) ≤ x1 ∧ (x1 : Int) < 8) ∧ ∀ v2 : Int, v2 = mem 164 (Int.toNat x1) → InI v2 → (InI (v2 + 1)) ∧ (CWI C 257 [.inl x3, .inl (v2 + 1)] mem fun r4 m3 => InI r4 → (Wx C S M_285 K 71 [some (.inr 143), some (.inl x1), some (.inl x2), some (.inl x3), some (.inl r4), none, none, none] [] m3))) ∧ (¬ (¬ v1 = (-1)) → (Wx C S M_285 K 71 [some (.inr 143), some (.inl x1), some (.inl x2), some (.inl x3), some (.inl x3), none, none, none] [] mem)))))) : Wx C S M_285 K 35 [some (.inr 143), some (.inl x1), some (.inl x2), some (.inl x3), some (.inl x4), none, none, none] [] mem := by
  refine Wx.iload hC te_285_35 rfl ?_
  refine Wx.iload_n hC te_285_37 rfl ?_
  refine Wx.iload_n hC te_285_38 rfl ?_
  refine Wx.iadd hC te_285_39 H.1 ?_
  replace H := H.2
  refine Wx.icmp hC (t := 71) te_285_40 (by decide) (fun q => ?_) (fun q => ?_)
  · replace H := H.1 q
    exact H
  · replace H := H.2 q
    refine Wx.aload_n hC te_285_43 rfl ?_
    refine Wx.getR hC te_285_44 rfl rfl rfl ?_
    refine Wx.iload_n hC te_285_47 rfl ?_
    refine Wx.iald hC te_285_48 rfl H.1 (fun v1 e1 e2 => ?_)
    replace H := H.2 v1 e1 e2
    refine Wx.iconst hC te_285_49 rfl ?_
    refine Wx.icmp hC (t := 57) te_285_50 (by decide) (fun q => ?_) (fun q => ?_)
    · replace H := H.1 q
      refine Wx.iload_n hC te_285_57 rfl ?_
      refine Wx.aload_n hC te_285_58 rfl ?_
      refine Wx.getR hC te_285_59 rfl rfl rfl ?_
      refine Wx.iload_n hC te_285_62 rfl ?_
      refine Wx.iald hC te_285_63 rfl H.1 (fun v2 e1 e2 => ?_)
      replace H := H.2 v2 e1 e2
      refine Wx.iconst hC te_285_64 rfl ?_
      refine Wx.iadd hC te_285_65 H.1 ?_
      replace H := H.2
      refine Wx.statI hC te_285_66 (by decide) mt_257 (args := [.inl x3, .inl (v2 + 1)]) (rest := []) rfl rfl rfl rfl rfl ?_
      refine CWI.mono hC (fun r4 m3 H hy => ?_) H
      replace H := H hy
      refine Wx.istore hC te_285_69 rfl ?_
      exact H
    · replace H := H.2 q
      refine Wx.iload_n hC te_285_53 rfl ?_
      refine Wx.goto hC (t := 69) te_285_54 (by decide) ?_
      refine Wx.istore hC te_285_69 rfl ?_
      exact H
theorem w_285_71 {C : CXW} (hC : Cmono C) {S : Nat × (Nat → Int32)} {K : WK} {mem : MM} {x1 x2 x3 x4 : Int} (H : ((0 : Int) ≤ x1 ∧ (x1 : Int) < 8) ∧ ((0 : Int) ≤ x1 ∧ (x1 : Int) < 8) ∧ (CWV C 271 [.inr 143, .inl x1, .inl x4, .inl x2, .inl 1] (upm (upm mem 163 (Int.toNat x1) x4) 164 (Int.toNat x1) x4) fun m1 => (Wx C S M_285 K 99 [some (.inr 143), some (.inl x1), some (.inl x2), some (.inl x3), some (.inl x4), some (.inl 0), none, none] [] m1))) : Wx C S M_285 K 71 [some (.inr 143), some (.inl x1), some (.inl x2), some (.inl x3), some (.inl x4), none, none, none] [] mem := by
  refine Wx.aload_n hC te_285_71 rfl ?_
  refine Wx.getR hC te_285_72 rfl rfl rfl ?_
  refine Wx.iload_n hC te_285_75 rfl ?_
  refine Wx.iload hC te_285_76 rfl ?_
  refine Wx.iast hC te_285_78 rfl H.1 ?_
  replace H := H.2
  refine Wx.aload_n hC te_285_79 rfl ?_
  refine Wx.getR hC te_285_80 rfl rfl rfl ?_
  refine Wx.iload_n hC te_285_83 rfl ?_
  refine Wx.iload hC te_285_84 rfl ?_
  refine Wx.iast hC te_285_86 rfl H.1 ?_
  replace H := H.2
  refine Wx.aload_n hC te_285_87 rfl ?_
  refine Wx.iload_n hC te_285_88 rfl ?_
  refine Wx.iload hC te_285_89 rfl ?_
  refine Wx.iload_n hC te_285_91 rfl ?_
  refine Wx.iconst hC te_285_92 rfl ?_
  refine Wx.virtV hC te_285_93 mt_271 (args := [.inr 143, .inl x1, .inl x4, .inl x2, .inl 1]) (rest := []) rfl rfl rfl rfl rfl rfl rfl rfl ?_
  refine CWV.mono hC (fun m1 H => ?_) H
  refine Wx.iconst hC te_285_96 rfl ?_
  refine Wx.istore hC te_285_97 rfl ?_
  exact H
theorem w_285_99 {C : CXW} (hC : Cmono C) {S : Nat × (Nat → Int32)} {K : WK} {mem : MM} {x1 x2 x3 x4 x5 : Int} (H : ∀ v1 : Int, v1 = mem 143 1 → InI v1 → ((v1 ≤ x5 → (Wx C S M_285 K 155 [some (.inr 143), some (.inl x1), some (.inl x2), some (.inl x3), some (.inl x4), some (.inl 0), some (.inl 0), none] [] mem)) ∧ (¬ (v1 ≤ x5) → ((x5 = x1 → (InI (x5 + 1)) ∧ (Wx C S M_285 K 99 [some (.inr 143), some (.inl x1), some (.inl x2), some (.inl x3), some (.inl x4), some (.inl (x5 + 1)), none, none] [] mem)) ∧ (¬ (x5 = x1) → ((0 : Int) ≤ x5 ∧ (x5 : Int) < 8) ∧ ∀ v2 : Int, v2 = mem 163 (Int.toNat x5) → InI v2 → ((v2 = (-1) → (InI (x5 + 1)) ∧ (Wx C S M_285 K 99 [some (.inr 143), some (.inl x1), some (.inl x2), some (.inl x3), some (.inl x4), some (.inl (x5 + 1)), none, none] [] mem)) ∧ (¬ (v2 = (-1)) → (CWI C 288 [.inr 143, .inl x1, .inl x5, .inl x2] mem fun r4 m3 => InI r4 → ((r4 = 0 → (InI (x5 + 1)) ∧ (Wx C S M_285 K 99 [some (.inr 143), some (.inl x1), some (.inl x2), some (.inl x3), some (.inl x4), some (.inl (x5 + 1)), none, none] [] m3)) ∧ (¬ (r4 = 0) → (CWV C 290 [.inr 143, .inl x5, .inl x2] m3 fun m5 => (InI (x5 + 1)) ∧ (Wx C S M_285 K 99 [some (.inr 143), some (.inl x1), some (.inl x2), some (.inl x3), some (.inl x4), some (.inl (x5 + 1)), none, none] [] m5)))))))))))) : Wx C S M_285 K 99 [some (.inr 143), some (.inl x1), some (.inl x2), some (.inl x3), some (.inl x4), some (.inl x5), none, none] [] mem := by
  refine Wx.iload hC te_285_99 rfl ?_
  refine Wx.aload_n hC te_285_101 rfl ?_
  refine Wx.getI hC te_285_102 rfl rfl rfl (fun v1 e1 e2 => ?_)
  replace H := H v1 e1 e2
  refine Wx.icmp hC (t := 149) te_285_105 (by decide) (fun q => ?_) (fun q => ?_)
  · replace H := H.1 q
    refine Wx.iconst hC te_285_149 rfl ?_
    refine Wx.istore hC te_285_150 rfl ?_
    refine Wx.iconst hC te_285_152 rfl ?_
    refine Wx.istore hC te_285_153 rfl ?_
    exact H
  · replace H := H.2 q
    refine Wx.iload hC te_285_108 rfl ?_
    refine Wx.iload_n hC te_285_110 rfl ?_
    refine Wx.icmp hC (t := 143) te_285_111 (by decide) (fun q => ?_) (fun q => ?_)
    · replace H := H.1 q
      refine Wx.iinc hC te_285_143 rfl rfl H.1 ?_
      replace H := H.2
      refine Wx.goto hC (t := 99) te_285_146 (by decide) ?_
      exact H
    · replace H := H.2 q
      refine Wx.aload_n hC te_285_114 rfl ?_
      refine Wx.getR hC te_285_115 rfl rfl rfl ?_
      refine Wx.iload hC te_285_118 rfl ?_
      refine Wx.iald hC te_285_120 rfl H.1 (fun v2 e1 e2 => ?_)
      replace H := H.2 v2 e1 e2
      refine Wx.iconst hC te_285_121 rfl ?_
      refine Wx.icmp hC (t := 143) te_285_122 (by decide) (fun q => ?_) (fun q => ?_)
      · replace H := H.1 q
        refine Wx.iinc hC te_285_143 rfl rfl H.1 ?_
        replace H := H.2
        refine Wx.goto hC (t := 99) te_285_146 (by decide) ?_
        exact H
      · replace H := H.2 q
        refine Wx.aload_n hC te_285_125 rfl ?_
        refine Wx.iload_n hC te_285_126 rfl ?_
        refine Wx.iload hC te_285_127 rfl ?_
        refine Wx.iload_n hC te_285_129 rfl ?_
        refine Wx.virtI hC te_285_130 mt_288 (args := [.inr 143, .inl x1, .inl x5, .inl x2]) (rest := []) rfl rfl rfl rfl rfl rfl rfl rfl ?_
        refine CWI.mono hC (fun r4 m3 H hy => ?_) H
        replace H := H hy
        refine Wx.ifc hC (t := 143) te_285_133 (by decide) (fun q => ?_) (fun q => ?_)
        · replace H := H.1 q
          refine Wx.iinc hC te_285_143 rfl rfl H.1 ?_
          replace H := H.2
          refine Wx.goto hC (t := 99) te_285_146 (by decide) ?_
          exact H
        · replace H := H.2 q
          refine Wx.aload_n hC te_285_136 rfl ?_
          refine Wx.iload hC te_285_137 rfl ?_
          refine Wx.iload_n hC te_285_139 rfl ?_
          refine Wx.virtV hC te_285_140 mt_290 (args := [.inr 143, .inl x5, .inl x2]) (rest := []) rfl rfl rfl rfl rfl rfl rfl rfl ?_
          refine CWV.mono hC (fun m5 H => ?_) H
          refine Wx.iinc hC te_285_143 rfl rfl H.1 ?_
          replace H := H.2
          refine Wx.goto hC (t := 99) te_285_146 (by decide) ?_
          exact H
theorem w_285_155 {C : CXW} (hC : Cmono C) {S : Nat × (Nat → Int32)} {K : WK} {mem : MM} {x1 x2 x3 x4 x5 x6 : Int} (H : ∀ v1 : Int, v1 = mem 143 12 → InI v1 → ((v1 ≤ x6 → (Wx C S M_285 K 254 [some (.inr 143), some (.inl x1), some (.inl x2), some (.inl x3), some (.inl x4), some (.inl x5), some (.inl 0), none] [] mem)) ∧ (¬ (v1 ≤ x6) → ((0 : Int) ≤ x6 ∧ (x6 : Int) < 48) ∧ ∀ v2 : Int, v2 = mem 154 (Int.toNat x6) → InI v2 → ((¬ v2 = x1 → ((0 : Int) ≤ x6 ∧ (x6 : Int) < 48) ∧ ∀ v3 : Int, v3 = mem 155 (Int.toNat x6) → InI v3 → ((¬ v3 = x1 → ((x1 = x1 → (InI (x6 + 1)) ∧ (Wx C S M_285 K 155 [some (.inr 143), some (.inl x1), some (.inl x2), some (.inl x3), some (.inl x4), some (.inl x5), some (.inl (x6 + 1)), none] [] mem)) ∧ (¬ (x1 = x1) → ((0 : Int) ≤ x1 ∧ (x1 : Int) < 8) ∧ ∀ v4 : Int, v4 = mem 163 (Int.toNat x1) → InI v4 → ((v4 = (-1) → (InI (x6 + 1)) ∧ (Wx C S M_285 K 155 [some (.inr 143), some (.inl x1), some (.inl x2), some (.inl x3), some (.inl x4), some (.inl x5), some (.inl (x6 + 1)), none] [] mem)) ∧ (¬ (v4 = (-1)) → (CWI C 291 [.inr 143, .inl x6, .inl x2] mem fun r6 m5 => InI r6 → ((¬ r6 = 0 → (InI (x6 + 1)) ∧ (Wx C S M_285 K 155 [some (.inr 143), some (.inl x1), some (.inl x2), some (.inl x3), some (.inl x4), some (.inl x5), some (.inl (x6 + 1)), none] [] m5)) ∧ (¬ (¬ r6 = 0) → ∀ b7 : Int, b7 = ((fun (x y : Int32) => x <<< (y &&& 31)) (Int32.ofInt 1) (Int32.ofInt x1)).toInt → InI b7 → ∀ b8 : Int, b8 = ((fun (x y : Int32) => x ||| y) (Int32.ofInt x5) (Int32.ofInt b7)).toInt → InI b8 → (InI (x6 + 1)) ∧ (Wx C S M_285 K 155 [some (.inr 143), some (.inl x1), some (.inl x2), some (.inl x3), some (.inl x4), some (.inl b8), some (.inl (x6 + 1)), none] [] m5))))))))) ∧ (¬ (¬ v3 = x1) → ((0 : Int) ≤ x6 ∧ (x6 : Int) < 48) ∧ ∀ v9 : Int, v9 = mem 154 (Int.toNat x6) → InI v9 → ((v9 = x1 → (InI (x6 + 1)) ∧ (Wx C S M_285 K 155 [some (.inr 143), some (.inl x1), some (.inl x2), some (.inl x3), some (.inl x4), some (.inl x5), some (.inl (x6 + 1)), none] [] mem)) ∧ (¬ (v9 = x1) → ((0 : Int) ≤ v9 ∧ (v9 : Int) < 8) ∧ ∀ v10 : Int, v10 = mem 163 (Int.toNat v9) → InI v10 → ((v10 = (-1) → (InI (x6 + 1)) ∧ (Wx C S M_285 K 155 [some (.inr 143), some (.inl x1), some (.inl x2), some (.inl x3), some (.inl x4), some (.inl x5), some (.inl (x6 + 1)), none] [] mem)) ∧ (¬ (v10 = (-1)) → (CWI C 291 [.inr 143, .inl x6, .inl x2] mem fun r12 m11 => InI r12 → ((¬ r12 = 0 → (InI (x6 + 1)) ∧ (Wx C S M_285 K 155 [some (.inr 143), some (.inl x1), some (.inl x2), some (.inl x3), some (.inl x4), some (.inl x5), some (.inl (x6 + 1)), none] [] m11)) ∧ (¬ (¬ r12 = 0) → ∀ b13 : Int, b13 = ((fun (x y : Int32) => x <<< (y &&& 31)) (Int32.ofInt 1) (Int32.ofInt v9)).toInt → InI b13 → ∀ b14 : Int, b14 = ((fun (x y : Int32) => x ||| y) (Int32.ofInt x5) (Int32.ofInt b13)).toInt → InI b14 → (InI (x6 + 1)) ∧ (Wx C S M_285 K 155 [some (.inr 143), some (.inl x1), some (.inl x2), some (.inl x3), some (.inl x4), some (.inl b14), some (.inl (x6 + 1)), none] [] m11))))))))))) ∧ (¬ (¬ v2 = x1) → ((0 : Int) ≤ x6 ∧ (x6 : Int) < 48) ∧ ∀ v15 : Int, v15 = mem 155 (Int.toNat x6) → InI v15 → ((v15 = x1 → (InI (x6 + 1)) ∧ (Wx C S M_285 K 155 [some (.inr 143), some (.inl x1), some (.inl x2), some (.inl x3), some (.inl x4), some (.inl x5), some (.inl (x6 + 1)), none] [] mem)) ∧ (¬ (v15 = x1) → ((0 : Int) ≤ v15 ∧ (v15 : Int) < 8) ∧ ∀ v16 : Int, v16 = mem 163 (Int.toNat v15) → InI v16 → ((v16 = (-1) → (InI (x6 + 1)) ∧ (Wx C S M_285 K 155 [some (.inr 143), some (.inl x1), some (.inl x2), some (.inl x3), some (.inl x4), some (.inl x5), some (.inl (x6 + 1)), none] [] mem)) ∧ (¬ (v16 = (-1)) → (CWI C 291 [.inr 143, .inl x6, .inl x2] mem fun r18 m17 => InI r18 → ((¬ r18 = 0 → (InI (x6 + 1)) ∧ (Wx C S M_285 K 155 [some (.inr 143), some (.inl x1), some (.inl x2), some (.inl x3), some (.inl x4), some (.inl x5), some (.inl (x6 + 1)), none] [] m17)) ∧ (¬ (¬ r18 = 0) → ∀ b19 : Int, b19 = ((fun (x y : Int32) => x <<< (y &&& 31)) (Int32.ofInt 1) (Int32.ofInt v15)).toInt → InI b19 → ∀ b20 : Int, b20 = ((fun (x y : Int32) => x ||| y) (Int32.ofInt x5) (Int32.ofInt b19)).toInt → InI b20 → (InI (x6 + 1)) ∧ (Wx C S M_285 K 155 [some (.inr 143), some (.inl x1), some (.inl x2), some (.inl x3), some (.inl x4), some (.inl b20), some (.inl (x6 + 1)), none] [] m17))))))))))))) : Wx C S M_285 K 155 [some (.inr 143), some (.inl x1), some (.inl x2), some (.inl x3), some (.inl x4), some (.inl x5), some (.inl x6), none] [] mem := by
  refine Wx.iload hC te_285_155 rfl ?_
  refine Wx.aload_n hC te_285_157 rfl ?_
  refine Wx.getI hC te_285_158 rfl rfl rfl (fun v1 e1 e2 => ?_)
  replace H := H v1 e1 e2
  refine Wx.icmp hC (t := 251) te_285_161 (by decide) (fun q => ?_) (fun q => ?_)
  · replace H := H.1 q
    refine Wx.iconst hC te_285_251 rfl ?_
    refine Wx.istore hC te_285_252 rfl ?_
    exact H
  · replace H := H.2 q
    refine Wx.aload_n hC te_285_164 rfl ?_
    refine Wx.getR hC te_285_165 rfl rfl rfl ?_
    refine Wx.iload hC te_285_168 rfl ?_
    refine Wx.iald hC te_285_170 rfl H.1 (fun v2 e1 e2 => ?_)
    replace H := H.2 v2 e1 e2
    refine Wx.iload_n hC te_285_171 rfl ?_
    refine Wx.icmp hC (t := 185) te_285_172 (by decide) (fun q => ?_) (fun q => ?_)
    · replace H := H.1 q
      refine Wx.aload_n hC te_285_185 rfl ?_
      refine Wx.getR hC te_285_186 rfl rfl rfl ?_
      refine Wx.iload hC te_285_189 rfl ?_
      refine Wx.iald hC te_285_191 rfl H.1 (fun v3 e1 e2 => ?_)
      replace H := H.2 v3 e1 e2
      refine Wx.iload_n hC te_285_192 rfl ?_
      refine Wx.icmp hC (t := 206) te_285_193 (by decide) (fun q => ?_) (fun q => ?_)
      · replace H := H.1 q
        refine Wx.iload_n hC te_285_206 rfl ?_
        refine Wx.istore hC te_285_207 rfl ?_
        refine Wx.iload hC te_285_209 rfl ?_
        refine Wx.iload_n hC te_285_211 rfl ?_
        refine Wx.icmp hC (t := 245) te_285_212 (by decide) (fun q => ?_) (fun q => ?_)
        · replace H := H.1 q
          refine Wx.iinc hC te_285_245 rfl rfl H.1 ?_
          replace H := H.2
          refine Wx.goto hC (t := 155) te_285_248 (by decide) ?_
          exact Wx.weak (by repeat' (first | exact trivial | exact rfl | constructor)) H
        · replace H := H.2 q
          refine Wx.aload_n hC te_285_215 rfl ?_
          refine Wx.getR hC te_285_216 rfl rfl rfl ?_
          refine Wx.iload hC te_285_219 rfl ?_
          refine Wx.iald hC te_285_221 rfl H.1 (fun v4 e1 e2 => ?_)
          replace H := H.2 v4 e1 e2
          refine Wx.iconst hC te_285_222 rfl ?_
          refine Wx.icmp hC (t := 245) te_285_223 (by decide) (fun q => ?_) (fun q => ?_)
          · replace H := H.1 q
            refine Wx.iinc hC te_285_245 rfl rfl H.1 ?_
            replace H := H.2
            refine Wx.goto hC (t := 155) te_285_248 (by decide) ?_
            exact Wx.weak (by repeat' (first | exact trivial | exact rfl | constructor)) H
          · replace H := H.2 q
            refine Wx.aload_n hC te_285_226 rfl ?_
            refine Wx.iload hC te_285_227 rfl ?_
            refine Wx.iload_n hC te_285_229 rfl ?_
            refine Wx.virtI hC te_285_230 mt_291 (args := [.inr 143, .inl x6, .inl x2]) (rest := []) rfl rfl rfl rfl rfl rfl rfl rfl ?_
            refine CWI.mono hC (fun r6 m5 H hy => ?_) H
            replace H := H hy
            refine Wx.ifc hC (t := 245) te_285_233 (by decide) (fun q => ?_) (fun q => ?_)
            · replace H := H.1 q
              refine Wx.iinc hC te_285_245 rfl rfl H.1 ?_
              replace H := H.2
              refine Wx.goto hC (t := 155) te_285_248 (by decide) ?_
              exact Wx.weak (by repeat' (first | exact trivial | exact rfl | constructor)) H
            · replace H := H.2 q
              refine Wx.iload hC te_285_236 rfl ?_
              refine Wx.iconst hC te_285_238 rfl ?_
              refine Wx.iload hC te_285_239 rfl ?_
              refine Wx.bits hC (f := (fun (x y : Int32) => x <<< (y &&& 31))) te_285_241 (fun _ _ _ _ => Iff.rfl) (fun b7 e1 e2 => ?_)
              replace H := H b7 e1 e2
              refine Wx.bits hC (f := (fun (x y : Int32) => x ||| y)) te_285_242 (fun _ _ _ _ => Iff.rfl) (fun b8 e1 e2 => ?_)
              replace H := H b8 e1 e2
              refine Wx.istore hC te_285_243 rfl ?_
              refine Wx.iinc hC te_285_245 rfl rfl H.1 ?_
              replace H := H.2
              refine Wx.goto hC (t := 155) te_285_248 (by decide) ?_
              exact Wx.weak (by repeat' (first | exact trivial | exact rfl | constructor)) H
      · replace H := H.2 q
        refine Wx.aload_n hC te_285_196 rfl ?_
        refine Wx.getR hC te_285_197 rfl rfl rfl ?_
        refine Wx.iload hC te_285_200 rfl ?_
        refine Wx.iald hC te_285_202 rfl H.1 (fun v9 e1 e2 => ?_)
        replace H := H.2 v9 e1 e2
        refine Wx.goto hC (t := 207) te_285_203 (by decide) ?_
        refine Wx.istore hC te_285_207 rfl ?_
        refine Wx.iload hC te_285_209 rfl ?_
        refine Wx.iload_n hC te_285_211 rfl ?_
        refine Wx.icmp hC (t := 245) te_285_212 (by decide) (fun q => ?_) (fun q => ?_)
        · replace H := H.1 q
          refine Wx.iinc hC te_285_245 rfl rfl H.1 ?_
          replace H := H.2
          refine Wx.goto hC (t := 155) te_285_248 (by decide) ?_
          exact Wx.weak (by repeat' (first | exact trivial | exact rfl | constructor)) H
        · replace H := H.2 q
          refine Wx.aload_n hC te_285_215 rfl ?_
          refine Wx.getR hC te_285_216 rfl rfl rfl ?_
          refine Wx.iload hC te_285_219 rfl ?_
          refine Wx.iald hC te_285_221 rfl H.1 (fun v10 e1 e2 => ?_)
          replace H := H.2 v10 e1 e2
          refine Wx.iconst hC te_285_222 rfl ?_
          refine Wx.icmp hC (t := 245) te_285_223 (by decide) (fun q => ?_) (fun q => ?_)
          · replace H := H.1 q
            refine Wx.iinc hC te_285_245 rfl rfl H.1 ?_
            replace H := H.2
            refine Wx.goto hC (t := 155) te_285_248 (by decide) ?_
            exact Wx.weak (by repeat' (first | exact trivial | exact rfl | constructor)) H
          · replace H := H.2 q
            refine Wx.aload_n hC te_285_226 rfl ?_
            refine Wx.iload hC te_285_227 rfl ?_
            refine Wx.iload_n hC te_285_229 rfl ?_
            refine Wx.virtI hC te_285_230 mt_291 (args := [.inr 143, .inl x6, .inl x2]) (rest := []) rfl rfl rfl rfl rfl rfl rfl rfl ?_
            refine CWI.mono hC (fun r12 m11 H hy => ?_) H
            replace H := H hy
            refine Wx.ifc hC (t := 245) te_285_233 (by decide) (fun q => ?_) (fun q => ?_)
            · replace H := H.1 q
              refine Wx.iinc hC te_285_245 rfl rfl H.1 ?_
              replace H := H.2
              refine Wx.goto hC (t := 155) te_285_248 (by decide) ?_
              exact Wx.weak (by repeat' (first | exact trivial | exact rfl | constructor)) H
            · replace H := H.2 q
              refine Wx.iload hC te_285_236 rfl ?_
              refine Wx.iconst hC te_285_238 rfl ?_
              refine Wx.iload hC te_285_239 rfl ?_
              refine Wx.bits hC (f := (fun (x y : Int32) => x <<< (y &&& 31))) te_285_241 (fun _ _ _ _ => Iff.rfl) (fun b13 e1 e2 => ?_)
              replace H := H b13 e1 e2
              refine Wx.bits hC (f := (fun (x y : Int32) => x ||| y)) te_285_242 (fun _ _ _ _ => Iff.rfl) (fun b14 e1 e2 => ?_)
              replace H := H b14 e1 e2
              refine Wx.istore hC te_285_243 rfl ?_
              refine Wx.iinc hC te_285_245 rfl rfl H.1 ?_
              replace H := H.2
              refine Wx.goto hC (t := 155) te_285_248 (by decide) ?_
              exact Wx.weak (by repeat' (first | exact trivial | exact rfl | constructor)) H
    · replace H := H.2 q
      refine Wx.aload_n hC te_285_175 rfl ?_
      refine Wx.getR hC te_285_176 rfl rfl rfl ?_
      refine Wx.iload hC te_285_179 rfl ?_
      refine Wx.iald hC te_285_181 rfl H.1 (fun v15 e1 e2 => ?_)
      replace H := H.2 v15 e1 e2
      refine Wx.goto hC (t := 207) te_285_182 (by decide) ?_
      refine Wx.istore hC te_285_207 rfl ?_
      refine Wx.iload hC te_285_209 rfl ?_
      refine Wx.iload_n hC te_285_211 rfl ?_
      refine Wx.icmp hC (t := 245) te_285_212 (by decide) (fun q => ?_) (fun q => ?_)
      · replace H := H.1 q
        refine Wx.iinc hC te_285_245 rfl rfl H.1 ?_
        replace H := H.2
        refine Wx.goto hC (t := 155) te_285_248 (by decide) ?_
        exact Wx.weak (by repeat' (first | exact trivial | exact rfl | constructor)) H
      · replace H := H.2 q
        refine Wx.aload_n hC te_285_215 rfl ?_
        refine Wx.getR hC te_285_216 rfl rfl rfl ?_
        refine Wx.iload hC te_285_219 rfl ?_
        refine Wx.iald hC te_285_221 rfl H.1 (fun v16 e1 e2 => ?_)
        replace H := H.2 v16 e1 e2
        refine Wx.iconst hC te_285_222 rfl ?_
        refine Wx.icmp hC (t := 245) te_285_223 (by decide) (fun q => ?_) (fun q => ?_)
        · replace H := H.1 q
          refine Wx.iinc hC te_285_245 rfl rfl H.1 ?_
          replace H := H.2
          refine Wx.goto hC (t := 155) te_285_248 (by decide) ?_
          exact Wx.weak (by repeat' (first | exact trivial | exact rfl | constructor)) H
        · replace H := H.2 q
          refine Wx.aload_n hC te_285_226 rfl ?_
          refine Wx.iload hC te_285_227 rfl ?_
          refine Wx.iload_n hC te_285_229 rfl ?_
          refine Wx.virtI hC te_285_230 mt_291 (args := [.inr 143, .inl x6, .inl x2]) (rest := []) rfl rfl rfl rfl rfl rfl rfl rfl ?_
          refine CWI.mono hC (fun r18 m17 H hy => ?_) H
          replace H := H hy
          refine Wx.ifc hC (t := 245) te_285_233 (by decide) (fun q => ?_) (fun q => ?_)
          · replace H := H.1 q
            refine Wx.iinc hC te_285_245 rfl rfl H.1 ?_
            replace H := H.2
            refine Wx.goto hC (t := 155) te_285_248 (by decide) ?_
            exact Wx.weak (by repeat' (first | exact trivial | exact rfl | constructor)) H
          · replace H := H.2 q
            refine Wx.iload hC te_285_236 rfl ?_
            refine Wx.iconst hC te_285_238 rfl ?_
            refine Wx.iload hC te_285_239 rfl ?_
            refine Wx.bits hC (f := (fun (x y : Int32) => x <<< (y &&& 31))) te_285_241 (fun _ _ _ _ => Iff.rfl) (fun b19 e1 e2 => ?_)
            replace H := H b19 e1 e2
            refine Wx.bits hC (f := (fun (x y : Int32) => x ||| y)) te_285_242 (fun _ _ _ _ => Iff.rfl) (fun b20 e1 e2 => ?_)
            replace H := H b20 e1 e2
            refine Wx.istore hC te_285_243 rfl ?_
            refine Wx.iinc hC te_285_245 rfl rfl H.1 ?_
            replace H := H.2
            refine Wx.goto hC (t := 155) te_285_248 (by decide) ?_
            exact Wx.weak (by repeat' (first | exact trivial | exact rfl | constructor)) H
theorem w_285_254 {C : CXW} (hC : Cmono C) {S : Nat × (Nat → Int32)} {K : WK} {mem : MM} {x1 x2 x3 x4 x5 x6 : Int} (H : ∀ v1 : Int, v1 = mem 143 1 → InI v1 → ((v1 ≤ x6 → (K none mem)) ∧ (¬ (v1 ≤ x6) → ∀ b2 : Int, b2 = ((fun (x y : Int32) => x >>> (y &&& 31)) (Int32.ofInt x5) (Int32.ofInt x6)).toInt → InI b2 → ∀ b3 : Int, b3 = ((fun (x y : Int32) => x &&& y) (Int32.ofInt b2) (Int32.ofInt 1)).toInt → InI b3 → ((¬ b3 = 1 → (InI (x6 + 1)) ∧ (Wx C S M_285 K 254 [some (.inr 143), some (.inl x1), some (.inl x2), some (.inl x3), some (.inl x4), some (.inl x5), some (.inl (x6 + 1)), none] [] mem)) ∧ (¬ (¬ b3 = 1) → (CWV C 290 [.inr 143, .inl x6, .inl x2] mem fun m4 => (InI (x6 + 1)) ∧ (Wx C S M_285 K 254 [some (.inr 143), some (.inl x1), some (.inl x2), some (.inl x3), some (.inl x4), some (.inl x5), some (.inl (x6 + 1)), none] [] m4))))))) : Wx C S M_285 K 254 [some (.inr 143), some (.inl x1), some (.inl x2), some (.inl x3), some (.inl x4), some (.inl x5), some (.inl x6), none] [] mem := by
  refine Wx.iload hC te_285_254 rfl ?_
  refine Wx.aload_n hC te_285_256 rfl ?_
  refine Wx.getI hC te_285_257 rfl rfl rfl (fun v1 e1 e2 => ?_)
  replace H := H v1 e1 e2
  refine Wx.icmp hC (t := 287) te_285_260 (by decide) (fun q => ?_) (fun q => ?_)
  · replace H := H.1 q
    exact Wx.vret hC te_285_287 rfl H
  · replace H := H.2 q
    refine Wx.iload hC te_285_263 rfl ?_
    refine Wx.iload hC te_285_265 rfl ?_
    refine Wx.bits hC (f := (fun (x y : Int32) => x >>> (y &&& 31))) te_285_267 (fun _ _ _ _ => Iff.rfl) (fun b2 e1 e2 => ?_)
    replace H := H b2 e1 e2
    refine Wx.iconst hC te_285_268 rfl ?_
    refine Wx.bits hC (f := (fun (x y : Int32) => x &&& y)) te_285_269 (fun _ _ _ _ => Iff.rfl) (fun b3 e1 e2 => ?_)
    replace H := H b3 e1 e2
    refine Wx.iconst hC te_285_270 rfl ?_
    refine Wx.icmp hC (t := 281) te_285_271 (by decide) (fun q => ?_) (fun q => ?_)
    · replace H := H.1 q
      refine Wx.iinc hC te_285_281 rfl rfl H.1 ?_
      replace H := H.2
      refine Wx.goto hC (t := 254) te_285_284 (by decide) ?_
      exact H
    · replace H := H.2 q
      refine Wx.aload_n hC te_285_274 rfl ?_
      refine Wx.iload hC te_285_275 rfl ?_
      refine Wx.iload_n hC te_285_277 rfl ?_
      refine Wx.virtV hC te_285_278 mt_290 (args := [.inr 143, .inl x6, .inl x2]) (rest := []) rfl rfl rfl rfl rfl rfl rfl rfl ?_
      refine CWV.mono hC (fun m4 H => ?_) H
      refine Wx.iinc hC te_285_281 rfl rfl H.1 ?_
      replace H := H.2
      refine Wx.goto hC (t := 254) te_285_284 (by decide) ?_
      exact H
theorem w_286_0 {C : CXW} (hC : Cmono C) {S : Nat × (Nat → Int32)} {K : WK} {mem : MM} {x1 x2 : Int} (H : (Wx C S M_286 K 5 [some (.inr 143), some (.inl x1), some (.inl x2), some (.inl 0), some (.inl 0)] [] mem)) : Wx C S M_286 K 0 [some (.inr 143), some (.inl x1), some (.inl x2), none, none] [] mem := by
  refine Wx.iconst hC te_286_0 rfl ?_
  refine Wx.istore_n hC te_286_1 rfl ?_
  refine Wx.iconst hC te_286_2 rfl ?_
  refine Wx.istore hC te_286_3 rfl ?_
  exact H
theorem w_286_5 {C : CXW} (hC : Cmono C) {S : Nat × (Nat → Int32)} {K : WK} {mem : MM} {x1 x2 x3 x4 : Int} (H : ∀ v1 : Int, v1 = mem 143 12 → InI v1 → ((v1 ≤ x4 → (InI x3 → K (some x3) mem)) ∧ (¬ (v1 ≤ x4) → ((0 : Int) ≤ x4 ∧ (x4 : Int) < 48) ∧ ∀ v2 : Int, v2 = mem 155 (Int.toNat x4) → InI v2 → ((¬ v2 = x1 → (InI (x4 + 1)) ∧ (Wx C S M_286 K 5 [some (.inr 143), some (.inl x1), some (.inl x2), some (.inl x3), some (.inl (x4 + 1))] [] mem)) ∧ (¬ (¬ v2 = x1) → ((0 : Int) ≤ x4 ∧ (x4 : Int) < 48) ∧ ∀ v3 : Int, v3 = mem 154 (Int.toNat x4) → InI v3 → ((v3 = x1 → (InI (x4 + 1)) ∧ (Wx C S M_286 K 5 [some (.inr 143), some (.inl x1), some (.inl x2), some (.inl x3), some (.inl (x4 + 1))] [] mem)) ∧ (¬ (v3 = x1) → ((0 : Int) ≤ x4 ∧ (x4 : Int) < 48) ∧ ∀ v4 : Int, v4 = mem 154 (Int.toNat x4) → InI v4 → ((0 : Int) ≤ v4 ∧ (v4 : Int) < 8) ∧ ∀ v5 : Int, v5 = mem 163 (Int.toNat v4) → InI v5 → ((v5 = (-1) → (InI (x4 + 1)) ∧ (Wx C S M_286 K 5 [some (.inr 143), some (.inl x1), some (.inl x2), some (.inl x3), some (.inl (x4 + 1))] [] mem)) ∧ (¬ (v5 = (-1)) → ((0 : Int) ≤ x4 ∧ (x4 : Int) < 48) ∧ ∀ v6 : Int, v6 = mem 154 (Int.toNat x4) → InI v6 → ((0 : Int) ≤ v6 ∧ (v6 : Int) < 8) ∧ ∀ v7 : Int, v7 = mem 163 (Int.toNat v6) → InI v7 → ((0 : Int) ≤ x4 ∧ (x4 : Int) < 48) ∧ ∀ v8 : Int, v8 = mem 157 (Int.toNat x4) → InI v8 → (InI (v7 + v8)) ∧ ((0 : Int) ≤ x4 ∧ (x4 : Int) < 48) ∧ ∀ v9 : Int, v9 = mem 156 (Int.toNat x4) → InI v9 → (InI (x2 * v9)) ∧ (InI ((v7 + v8) - (x2 * v9))) ∧ (CWI C 257 [.inl x3, .inl ((v7 + v8) - (x2 * v9))] mem fun r11 m10 => InI r11 → (InI (x4 + 1)) ∧ (Wx C S M_286 K 5 [some (.inr 143), some (.inl x1), some (.inl x2), some (.inl r11), some (.inl (x4 + 1))] [] m10))))))))))) : Wx C S M_286 K 5 [some (.inr 143), some (.inl x1), some (.inl x2), some (.inl x3), some (.inl x4)] [] mem := by
  refine Wx.iload hC te_286_5 rfl ?_
  refine Wx.aload_n hC te_286_7 rfl ?_
  refine Wx.getI hC te_286_8 rfl rfl rfl (fun v1 e1 e2 => ?_)
  replace H := H v1 e1 e2
  refine Wx.icmp hC (t := 93) te_286_11 (by decide) (fun q => ?_) (fun q => ?_)
  · replace H := H.1 q
    refine Wx.iload_n hC te_286_93 rfl ?_
    exact Wx.ireturn hC te_286_94 rfl H
  · replace H := H.2 q
    refine Wx.aload_n hC te_286_14 rfl ?_
    refine Wx.getR hC te_286_15 rfl rfl rfl ?_
    refine Wx.iload hC te_286_18 rfl ?_
    refine Wx.iald hC te_286_20 rfl H.1 (fun v2 e1 e2 => ?_)
    replace H := H.2 v2 e1 e2
    refine Wx.iload_n hC te_286_21 rfl ?_
    refine Wx.icmp hC (t := 87) te_286_22 (by decide) (fun q => ?_) (fun q => ?_)
    · replace H := H.1 q
      refine Wx.iinc hC te_286_87 rfl rfl H.1 ?_
      replace H := H.2
      refine Wx.goto hC (t := 5) te_286_90 (by decide) ?_
      exact H
    · replace H := H.2 q
      refine Wx.aload_n hC te_286_25 rfl ?_
      refine Wx.getR hC te_286_26 rfl rfl rfl ?_
      refine Wx.iload hC te_286_29 rfl ?_
      refine Wx.iald hC te_286_31 rfl H.1 (fun v3 e1 e2 => ?_)
      replace H := H.2 v3 e1 e2
      refine Wx.iload_n hC te_286_32 rfl ?_
      refine Wx.icmp hC (t := 87) te_286_33 (by decide) (fun q => ?_) (fun q => ?_)
      · replace H := H.1 q
        refine Wx.iinc hC te_286_87 rfl rfl H.1 ?_
        replace H := H.2
        refine Wx.goto hC (t := 5) te_286_90 (by decide) ?_
        exact H
      · replace H := H.2 q
        refine Wx.aload_n hC te_286_36 rfl ?_
        refine Wx.getR hC te_286_37 rfl rfl rfl ?_
        refine Wx.aload_n hC te_286_40 rfl ?_
        refine Wx.getR hC te_286_41 rfl rfl rfl ?_
        refine Wx.iload hC te_286_44 rfl ?_
        refine Wx.iald hC te_286_46 rfl H.1 (fun v4 e1 e2 => ?_)
        replace H := H.2 v4 e1 e2
        refine Wx.iald hC te_286_47 rfl H.1 (fun v5 e1 e2 => ?_)
        replace H := H.2 v5 e1 e2
        refine Wx.iconst hC te_286_48 rfl ?_
        refine Wx.icmp hC (t := 87) te_286_49 (by decide) (fun q => ?_) (fun q => ?_)
        · replace H := H.1 q
          refine Wx.iinc hC te_286_87 rfl rfl H.1 ?_
          replace H := H.2
          refine Wx.goto hC (t := 5) te_286_90 (by decide) ?_
          exact H
        · replace H := H.2 q
          refine Wx.iload_n hC te_286_52 rfl ?_
          refine Wx.aload_n hC te_286_53 rfl ?_
          refine Wx.getR hC te_286_54 rfl rfl rfl ?_
          refine Wx.aload_n hC te_286_57 rfl ?_
          refine Wx.getR hC te_286_58 rfl rfl rfl ?_
          refine Wx.iload hC te_286_61 rfl ?_
          refine Wx.iald hC te_286_63 rfl H.1 (fun v6 e1 e2 => ?_)
          replace H := H.2 v6 e1 e2
          refine Wx.iald hC te_286_64 rfl H.1 (fun v7 e1 e2 => ?_)
          replace H := H.2 v7 e1 e2
          refine Wx.aload_n hC te_286_65 rfl ?_
          refine Wx.getR hC te_286_66 rfl rfl rfl ?_
          refine Wx.iload hC te_286_69 rfl ?_
          refine Wx.iald hC te_286_71 rfl H.1 (fun v8 e1 e2 => ?_)
          replace H := H.2 v8 e1 e2
          refine Wx.iadd hC te_286_72 H.1 ?_
          replace H := H.2
          refine Wx.iload_n hC te_286_73 rfl ?_
          refine Wx.aload_n hC te_286_74 rfl ?_
          refine Wx.getR hC te_286_75 rfl rfl rfl ?_
          refine Wx.iload hC te_286_78 rfl ?_
          refine Wx.iald hC te_286_80 rfl H.1 (fun v9 e1 e2 => ?_)
          replace H := H.2 v9 e1 e2
          refine Wx.imul hC te_286_81 H.1 ?_
          replace H := H.2
          refine Wx.isub hC te_286_82 H.1 ?_
          replace H := H.2
          refine Wx.statI hC te_286_83 (by decide) mt_257 (args := [.inl x3, .inl ((v7 + v8) - (x2 * v9))]) (rest := []) rfl rfl rfl rfl rfl ?_
          refine CWI.mono hC (fun r11 m10 H hy => ?_) H
          replace H := H hy
          refine Wx.istore_n hC te_286_86 rfl ?_
          refine Wx.iinc hC te_286_87 rfl rfl H.1 ?_
          replace H := H.2
          refine Wx.goto hC (t := 5) te_286_90 (by decide) ?_
          exact H
theorem w_287_0 {C : CXW} (hC : Cmono C) {S : Nat × (Nat → Int32)} {K : WK} {mem : MM} {x1 x2 x3 : Int} (H : (CWV C 271 [.inr 143, .inl x1, .inl x2, .inl x3, .inl 1] mem fun m1 => (CWI C 264 [.inr 143, .inl x1] m1 fun r3 m2 => InI r3 → (CWI C 273 [.inr 143, .inl r3, .inl x3] m2 fun r5 m4 => InI r5 → ((¬ r5 = 0 → (CWV C 271 [.inr 143, .inl x1, .inl x2, .inl x3, .inl (-1)] m4 fun m6 => (K (some 0) m6))) ∧ (¬ (¬ r5 = 0) → (CWV C 271 [.inr 143, .inl x1, .inl x2, .inl x3, .inl (-1)] m4 fun m7 => (K (some 1) m7)))))))) : Wx C S M_287 K 0 [some (.inr 143), some (.inl x1), some (.inl x2), some (.inl x3), none] [] mem := by
  refine Wx.aload_n hC te_287_0 rfl ?_
  refine Wx.iload_n hC te_287_1 rfl ?_
  refine Wx.iload_n hC te_287_2 rfl ?_
  refine Wx.iload_n hC te_287_3 rfl ?_
  refine Wx.iconst hC te_287_4 rfl ?_
  refine Wx.virtV hC te_287_5 mt_271 (args := [.inr 143, .inl x1, .inl x2, .inl x3, .inl 1]) (rest := []) rfl rfl rfl rfl rfl rfl rfl rfl ?_
  refine CWV.mono hC (fun m1 H => ?_) H
  refine Wx.aload_n hC te_287_8 rfl ?_
  refine Wx.aload_n hC te_287_9 rfl ?_
  refine Wx.iload_n hC te_287_10 rfl ?_
  refine Wx.virtI hC te_287_11 mt_264 (args := [.inr 143, .inl x1]) (rest := [.inr 143]) rfl rfl rfl rfl rfl rfl rfl rfl ?_
  refine CWI.mono hC (fun r3 m2 H hy => ?_) H
  replace H := H hy
  refine Wx.iload_n hC te_287_14 rfl ?_
  refine Wx.virtI hC te_287_15 mt_273 (args := [.inr 143, .inl r3, .inl x3]) (rest := []) rfl rfl rfl rfl rfl rfl rfl rfl ?_
  refine CWI.mono hC (fun r5 m4 H hy => ?_) H
  replace H := H hy
  refine Wx.ifc hC (t := 25) te_287_18 (by decide) (fun q => ?_) (fun q => ?_)
  · replace H := H.1 q
    refine Wx.iconst hC te_287_25 rfl ?_
    refine Wx.istore hC te_287_26 rfl ?_
    refine Wx.aload_n hC te_287_28 rfl ?_
    refine Wx.iload_n hC te_287_29 rfl ?_
    refine Wx.iload_n hC te_287_30 rfl ?_
    refine Wx.iload_n hC te_287_31 rfl ?_
    refine Wx.iconst hC te_287_32 rfl ?_
    refine Wx.virtV hC te_287_33 mt_271 (args := [.inr 143, .inl x1, .inl x2, .inl x3, .inl (-1)]) (rest := []) rfl rfl rfl rfl rfl rfl rfl rfl ?_
    refine CWV.mono hC (fun m6 H => ?_) H
    refine Wx.iload hC te_287_36 rfl ?_
    exact Wx.bret hC te_287_38 rfl (Or.inl rfl) H
  · replace H := H.2 q
    refine Wx.iconst hC te_287_21 rfl ?_
    refine Wx.goto hC (t := 26) te_287_22 (by decide) ?_
    refine Wx.istore hC te_287_26 rfl ?_
    refine Wx.aload_n hC te_287_28 rfl ?_
    refine Wx.iload_n hC te_287_29 rfl ?_
    refine Wx.iload_n hC te_287_30 rfl ?_
    refine Wx.iload_n hC te_287_31 rfl ?_
    refine Wx.iconst hC te_287_32 rfl ?_
    refine Wx.virtV hC te_287_33 mt_271 (args := [.inr 143, .inl x1, .inl x2, .inl x3, .inl (-1)]) (rest := []) rfl rfl rfl rfl rfl rfl rfl rfl ?_
    refine CWV.mono hC (fun m7 H => ?_) H
    refine Wx.iload hC te_287_36 rfl ?_
    exact Wx.bret hC te_287_38 rfl (Or.inr rfl) H
theorem w_288_0 {C : CXW} (hC : Cmono C) {S : Nat × (Nat → Int32)} {K : WK} {mem : MM} {x1 x2 x3 : Int} (H : (CWI C 264 [.inr 143, .inl x1] mem fun r2 m1 => InI r2 → (CWI C 264 [.inr 143, .inl x2] m1 fun r4 m3 => InI r4 → ((r2 = r4 → (Wx C S M_288 K 18 [some (.inr 143), some (.inl x1), some (.inl x2), some (.inl x3), some (.inl 0)] [] m3)) ∧ (¬ (r2 = r4) → (K (some 0) m3)))))) : Wx C S M_288 K 0 [some (.inr 143), some (.inl x1), some (.inl x2), some (.inl x3), none] [] mem := by
  refine Wx.aload_n hC te_288_0 rfl ?_
  refine Wx.iload_n hC te_288_1 rfl ?_
  refine Wx.virtI hC te_288_2 mt_264 (args := [.inr 143, .inl x1]) (rest := []) rfl rfl rfl rfl rfl rfl rfl rfl ?_
  refine CWI.mono hC (fun r2 m1 H hy => ?_) H
  replace H := H hy
  refine Wx.aload_n hC te_288_5 rfl ?_
  refine Wx.iload_n hC te_288_6 rfl ?_
  refine Wx.virtI hC te_288_7 mt_264 (args := [.inr 143, .inl x2]) (rest := [.inl r2]) rfl rfl rfl rfl rfl rfl rfl rfl ?_
  refine CWI.mono hC (fun r4 m3 H hy => ?_) H
  replace H := H hy
  refine Wx.icmp hC (t := 15) te_288_10 (by decide) (fun q => ?_) (fun q => ?_)
  · replace H := H.1 q
    refine Wx.iconst hC te_288_15 rfl ?_
    refine Wx.istore hC te_288_16 rfl ?_
    exact H
  · replace H := H.2 q
    refine Wx.iconst hC te_288_13 rfl ?_
    exact Wx.bret hC te_288_14 rfl (Or.inl rfl) H
theorem w_288_18 {C : CXW} (hC : Cmono C) {S : Nat × (Nat → Int32)} {K : WK} {mem : MM} {x1 x2 x3 x4 : Int} (H : ((x3 ≤ x4 → (K (some 0) mem)) ∧ (¬ (x3 ≤ x4) → (CWI C 264 [.inr 143, .inl x1] mem fun r2 m1 => InI r2 → (InI (12 * r2)) ∧ (InI ((12 * r2) + x4)) ∧ ((0 : Int) ≤ ((12 * r2) + x4) ∧ (((12 * r2) + x4) : Int) < 36) ∧ ∀ v3 : Int, v3 = m1 159 (Int.toNat ((12 * r2) + x4)) → InI v3 → (CWI C 264 [.inr 143, .inl x1] m1 fun r5 m4 => InI r5 → ((0 : Int) ≤ r5 ∧ (r5 : Int) < 3) ∧ ∀ v6 : Int, v6 = m4 153 (Int.toNat r5) → InI v6 → ((v3 ≤ v6 → (InI (x4 + 1)) ∧ (Wx C S M_288 K 18 [some (.inr 143), some (.inl x1), some (.inl x2), some (.inl x3), some (.inl (x4 + 1))] [] m4)) ∧ (¬ (v3 ≤ v6) → (CWI C 289 [.inr 143, .inl x1, .inl x4, .inl x3] m4 fun r8 m7 => InI r8 → ((r8 = 0 → (InI (x4 + 1)) ∧ (Wx C S M_288 K 18 [some (.inr 143), some (.inl x1), some (.inl x2), some (.inl x3), some (.inl (x4 + 1))] [] m7)) ∧ (¬ (r8 = 0) → (CWI C 289 [.inr 143, .inl x2, .inl x4, .inl x3] m7 fun r10 m9 => InI r10 → ((r10 = 0 → (InI (x4 + 1)) ∧ (Wx C S M_288 K 18 [some (.inr 143), some (.inl x1), some (.inl x2), some (.inl x3), some (.inl (x4 + 1))] [] m9)) ∧ (¬ (r10 = 0) → (K (some 1) m9)))))))))))))) : Wx C S M_288 K 18 [some (.inr 143), some (.inl x1), some (.inl x2), some (.inl x3), some (.inl x4)] [] mem := by
  refine Wx.iload hC te_288_18 rfl ?_
  refine Wx.iload_n hC te_288_20 rfl ?_
  refine Wx.icmp hC (t := 83) te_288_21 (by decide) (fun q => ?_) (fun q => ?_)
  · replace H := H.1 q
    refine Wx.iconst hC te_288_83 rfl ?_
    exact Wx.bret hC te_288_84 rfl (Or.inl rfl) H
  · replace H := H.2 q
    refine Wx.aload_n hC te_288_24 rfl ?_
    refine Wx.getR hC te_288_25 rfl rfl rfl ?_
    refine Wx.bipush hC te_288_28 rfl rfl ?_
    refine Wx.aload_n hC te_288_30 rfl ?_
    refine Wx.iload_n hC te_288_31 rfl ?_
    refine Wx.virtI hC te_288_32 mt_264 (args := [.inr 143, .inl x1]) (rest := [.inl 12, .inr 159]) rfl rfl rfl rfl rfl rfl rfl rfl ?_
    refine CWI.mono hC (fun r2 m1 H hy => ?_) H
    replace H := H hy
    refine Wx.imul hC te_288_35 H.1 ?_
    replace H := H.2
    refine Wx.iload hC te_288_36 rfl ?_
    refine Wx.iadd hC te_288_38 H.1 ?_
    replace H := H.2
    refine Wx.iald hC te_288_39 rfl H.1 (fun v3 e1 e2 => ?_)
    replace H := H.2 v3 e1 e2
    refine Wx.aload_n hC te_288_40 rfl ?_
    refine Wx.getR hC te_288_41 rfl rfl rfl ?_
    refine Wx.aload_n hC te_288_44 rfl ?_
    refine Wx.iload_n hC te_288_45 rfl ?_
    refine Wx.virtI hC te_288_46 mt_264 (args := [.inr 143, .inl x1]) (rest := [.inr 153, .inl v3]) rfl rfl rfl rfl rfl rfl rfl rfl ?_
    refine CWI.mono hC (fun r5 m4 H hy => ?_) H
    replace H := H hy
    refine Wx.iald hC te_288_49 rfl H.1 (fun v6 e1 e2 => ?_)
    replace H := H.2 v6 e1 e2
    refine Wx.icmp hC (t := 77) te_288_50 (by decide) (fun q => ?_) (fun q => ?_)
    · replace H := H.1 q
      refine Wx.iinc hC te_288_77 rfl rfl H.1 ?_
      replace H := H.2
      refine Wx.goto hC (t := 18) te_288_80 (by decide) ?_
      exact H
    · replace H := H.2 q
      refine Wx.aload_n hC te_288_53 rfl ?_
      refine Wx.iload_n hC te_288_54 rfl ?_
      refine Wx.iload hC te_288_55 rfl ?_
      refine Wx.iload_n hC te_288_57 rfl ?_
      refine Wx.virtI hC te_288_58 mt_289 (args := [.inr 143, .inl x1, .inl x4, .inl x3]) (rest := []) rfl rfl rfl rfl rfl rfl rfl rfl ?_
      refine CWI.mono hC (fun r8 m7 H hy => ?_) H
      replace H := H hy
      refine Wx.ifc hC (t := 77) te_288_61 (by decide) (fun q => ?_) (fun q => ?_)
      · replace H := H.1 q
        refine Wx.iinc hC te_288_77 rfl rfl H.1 ?_
        replace H := H.2
        refine Wx.goto hC (t := 18) te_288_80 (by decide) ?_
        exact H
      · replace H := H.2 q
        refine Wx.aload_n hC te_288_64 rfl ?_
        refine Wx.iload_n hC te_288_65 rfl ?_
        refine Wx.iload hC te_288_66 rfl ?_
        refine Wx.iload_n hC te_288_68 rfl ?_
        refine Wx.virtI hC te_288_69 mt_289 (args := [.inr 143, .inl x2, .inl x4, .inl x3]) (rest := []) rfl rfl rfl rfl rfl rfl rfl rfl ?_
        refine CWI.mono hC (fun r10 m9 H hy => ?_) H
        replace H := H hy
        refine Wx.ifc hC (t := 77) te_288_72 (by decide) (fun q => ?_) (fun q => ?_)
        · replace H := H.1 q
          refine Wx.iinc hC te_288_77 rfl rfl H.1 ?_
          replace H := H.2
          refine Wx.goto hC (t := 18) te_288_80 (by decide) ?_
          exact H
        · replace H := H.2 q
          refine Wx.iconst hC te_288_75 rfl ?_
          exact Wx.bret hC te_288_76 rfl (Or.inr rfl) H
theorem w_289_0 {C : CXW} (hC : Cmono C) {S : Nat × (Nat → Int32)} {K : WK} {mem : MM} {x1 x2 x3 : Int} (H : (Wx C S M_289 K 3 [some (.inr 143), some (.inl x1), some (.inl x2), some (.inl x3), some (.inl 0)] [] mem)) : Wx C S M_289 K 0 [some (.inr 143), some (.inl x1), some (.inl x2), some (.inl x3), none] [] mem := by
  refine Wx.iconst hC te_289_0 rfl ?_
  refine Wx.istore hC te_289_1 rfl ?_
  exact H
theorem w_289_3 {C : CXW} (hC : Cmono C) {S : Nat × (Nat → Int32)} {K : WK} {mem : MM} {x1 x2 x3 x4 : Int} (H : ((4 ≤ x4 → (K (some 0) mem)) ∧ (¬ (4 ≤ x4) → (CWI C 265 [.inr 143, .inl x1] mem fun r2 m1 => InI r2 → ∀ b3 : Int, b3 = ((fun (x y : Int32) => x >>> (y &&& 31)) (Int32.ofInt r2) (Int32.ofInt x4)).toInt → InI b3 → ∀ b4 : Int, b4 = ((fun (x y : Int32) => x &&& y) (Int32.ofInt b3) (Int32.ofInt 1)).toInt → InI b4 → ((¬ b4 = 1 → (InI (x4 + 1)) ∧ (Wx C S M_289 K 3 [some (.inr 143), some (.inl x1), some (.inl x2), some (.inl x3), some (.inl (x4 + 1))] [] m1)) ∧ (¬ (¬ b4 = 1) → ((0 : Int) ≤ x1 ∧ (x1 : Int) < 8) ∧ ∀ v5 : Int, v5 = m1 163 (Int.toNat x1) → InI v5 → (InI (v5 + x4)) ∧ (CWI C 272 [.inl (v5 + x4), .inl x3] m1 fun r7 m6 => InI r7 → ((¬ r7 = x2 → (InI (x4 + 1)) ∧ (Wx C S M_289 K 3 [some (.inr 143), some (.inl x1), some (.inl x2), some (.inl x3), some (.inl (x4 + 1))] [] m6)) ∧ (¬ (¬ r7 = x2) → (K (some 1) m6)))))))))) : Wx C S M_289 K 3 [some (.inr 143), some (.inl x1), some (.inl x2), some (.inl x3), some (.inl x4)] [] mem := by
  refine Wx.iload hC te_289_3 rfl ?_
  refine Wx.iconst hC te_289_5 rfl ?_
  refine Wx.icmp hC (t := 48) te_289_6 (by decide) (fun q => ?_) (fun q => ?_)
  · replace H := H.1 q
    refine Wx.iconst hC te_289_48 rfl ?_
    exact Wx.bret hC te_289_49 rfl (Or.inl rfl) H
  · replace H := H.2 q
    refine Wx.aload_n hC te_289_9 rfl ?_
    refine Wx.iload_n hC te_289_10 rfl ?_
    refine Wx.virtI hC te_289_11 mt_265 (args := [.inr 143, .inl x1]) (rest := []) rfl rfl rfl rfl rfl rfl rfl rfl ?_
    refine CWI.mono hC (fun r2 m1 H hy => ?_) H
    replace H := H hy
    refine Wx.iload hC te_289_14 rfl ?_
    refine Wx.bits hC (f := (fun (x y : Int32) => x >>> (y &&& 31))) te_289_16 (fun _ _ _ _ => Iff.rfl) (fun b3 e1 e2 => ?_)
    replace H := H b3 e1 e2
    refine Wx.iconst hC te_289_17 rfl ?_
    refine Wx.bits hC (f := (fun (x y : Int32) => x &&& y)) te_289_18 (fun _ _ _ _ => Iff.rfl) (fun b4 e1 e2 => ?_)
    replace H := H b4 e1 e2
    refine Wx.iconst hC te_289_19 rfl ?_
    refine Wx.icmp hC (t := 42) te_289_20 (by decide) (fun q => ?_) (fun q => ?_)
    · replace H := H.1 q
      refine Wx.iinc hC te_289_42 rfl rfl H.1 ?_
      replace H := H.2
      refine Wx.goto hC (t := 3) te_289_45 (by decide) ?_
      exact H
    · replace H := H.2 q
      refine Wx.aload_n hC te_289_23 rfl ?_
      refine Wx.getR hC te_289_24 rfl rfl rfl ?_
      refine Wx.iload_n hC te_289_27 rfl ?_
      refine Wx.iald hC te_289_28 rfl H.1 (fun v5 e1 e2 => ?_)
      replace H := H.2 v5 e1 e2
      refine Wx.iload hC te_289_29 rfl ?_
      refine Wx.iadd hC te_289_31 H.1 ?_
      replace H := H.2
      refine Wx.iload_n hC te_289_32 rfl ?_
      refine Wx.statI hC te_289_33 (by decide) mt_272 (args := [.inl (v5 + x4), .inl x3]) (rest := []) rfl rfl rfl rfl rfl ?_
      refine CWI.mono hC (fun r7 m6 H hy => ?_) H
      replace H := H hy
      refine Wx.iload_n hC te_289_36 rfl ?_
      refine Wx.icmp hC (t := 42) te_289_37 (by decide) (fun q => ?_) (fun q => ?_)
      · replace H := H.1 q
        refine Wx.iinc hC te_289_42 rfl rfl H.1 ?_
        replace H := H.2
        refine Wx.goto hC (t := 3) te_289_45 (by decide) ?_
        exact H
      · replace H := H.2 q
        refine Wx.iconst hC te_289_40 rfl ?_
        exact Wx.bret hC te_289_41 rfl (Or.inr rfl) H
theorem w_290_0 {C : CXW} (hC : Cmono C) {S : Nat × (Nat → Int32)} {K : WK} {mem : MM} {x1 x2 : Int} (H : ((0 : Int) ≤ x1 ∧ (x1 : Int) < 8) ∧ ∀ v1 : Int, v1 = mem 163 (Int.toNat x1) → InI v1 → (CWV C 271 [.inr 143, .inl x1, .inl v1, .inl x2, .inl (-1)] mem fun m2 => ((0 : Int) ≤ x1 ∧ (x1 : Int) < 8) ∧ (K none (upm m2 163 (Int.toNat x1) (-1))))) : Wx C S M_290 K 0 [some (.inr 143), some (.inl x1), some (.inl x2)] [] mem := by
  refine Wx.aload_n hC te_290_0 rfl ?_
  refine Wx.iload_n hC te_290_1 rfl ?_
  refine Wx.aload_n hC te_290_2 rfl ?_
  refine Wx.getR hC te_290_3 rfl rfl rfl ?_
  refine Wx.iload_n hC te_290_6 rfl ?_
  refine Wx.iald hC te_290_7 rfl H.1 (fun v1 e1 e2 => ?_)
  replace H := H.2 v1 e1 e2
  refine Wx.iload_n hC te_290_8 rfl ?_
  refine Wx.iconst hC te_290_9 rfl ?_
  refine Wx.virtV hC te_290_10 mt_271 (args := [.inr 143, .inl x1, .inl v1, .inl x2, .inl (-1)]) (rest := []) rfl rfl rfl rfl rfl rfl rfl rfl ?_
  refine CWV.mono hC (fun m2 H => ?_) H
  refine Wx.aload_n hC te_290_13 rfl ?_
  refine Wx.getR hC te_290_14 rfl rfl rfl ?_
  refine Wx.iload_n hC te_290_17 rfl ?_
  refine Wx.iconst hC te_290_18 rfl ?_
  refine Wx.iast hC te_290_19 rfl H.1 ?_
  replace H := H.2
  exact Wx.vret hC te_290_20 rfl H
theorem w_291_0 {C : CXW} (hC : Cmono C) {S : Nat × (Nat → Int32)} {K : WK} {mem : MM} {x1 x2 : Int} (H : ((0 : Int) ≤ x1 ∧ (x1 : Int) < 48) ∧ ∀ v1 : Int, v1 = mem 155 (Int.toNat x1) → InI v1 → ((0 : Int) ≤ v1 ∧ (v1 : Int) < 8) ∧ ∀ v2 : Int, v2 = mem 163 (Int.toNat v1) → InI v2 → ((0 : Int) ≤ x1 ∧ (x1 : Int) < 48) ∧ ∀ v3 : Int, v3 = mem 154 (Int.toNat x1) → InI v3 → ((0 : Int) ≤ v3 ∧ (v3 : Int) < 8) ∧ ∀ v4 : Int, v4 = mem 163 (Int.toNat v3) → InI v4 → ((0 : Int) ≤ x1 ∧ (x1 : Int) < 48) ∧ ∀ v5 : Int, v5 = mem 157 (Int.toNat x1) → InI v5 → (InI (v4 + v5)) ∧ ((0 : Int) ≤ x1 ∧ (x1 : Int) < 48) ∧ ∀ v6 : Int, v6 = mem 156 (Int.toNat x1) → InI v6 → (InI (x2 * v6)) ∧ (InI ((v4 + v5) - (x2 * v6))) ∧ ((v2 < ((v4 + v5) - (x2 * v6)) → (K (some 0) mem)) ∧ (¬ (v2 < ((v4 + v5) - (x2 * v6))) → (K (some 1) mem)))) : Wx C S M_291 K 0 [some (.inr 143), some (.inl x1), some (.inl x2)] [] mem := by
  refine Wx.aload_n hC te_291_0 rfl ?_
  refine Wx.getR hC te_291_1 rfl rfl rfl ?_
  refine Wx.aload_n hC te_291_4 rfl ?_
  refine Wx.getR hC te_291_5 rfl rfl rfl ?_
  refine Wx.iload_n hC te_291_8 rfl ?_
  refine Wx.iald hC te_291_9 rfl H.1 (fun v1 e1 e2 => ?_)
  replace H := H.2 v1 e1 e2
  refine Wx.iald hC te_291_10 rfl H.1 (fun v2 e1 e2 => ?_)
  replace H := H.2 v2 e1 e2
  refine Wx.aload_n hC te_291_11 rfl ?_
  refine Wx.getR hC te_291_12 rfl rfl rfl ?_
  refine Wx.aload_n hC te_291_15 rfl ?_
  refine Wx.getR hC te_291_16 rfl rfl rfl ?_
  refine Wx.iload_n hC te_291_19 rfl ?_
  refine Wx.iald hC te_291_20 rfl H.1 (fun v3 e1 e2 => ?_)
  replace H := H.2 v3 e1 e2
  refine Wx.iald hC te_291_21 rfl H.1 (fun v4 e1 e2 => ?_)
  replace H := H.2 v4 e1 e2
  refine Wx.aload_n hC te_291_22 rfl ?_
  refine Wx.getR hC te_291_23 rfl rfl rfl ?_
  refine Wx.iload_n hC te_291_26 rfl ?_
  refine Wx.iald hC te_291_27 rfl H.1 (fun v5 e1 e2 => ?_)
  replace H := H.2 v5 e1 e2
  refine Wx.iadd hC te_291_28 H.1 ?_
  replace H := H.2
  refine Wx.iload_n hC te_291_29 rfl ?_
  refine Wx.aload_n hC te_291_30 rfl ?_
  refine Wx.getR hC te_291_31 rfl rfl rfl ?_
  refine Wx.iload_n hC te_291_34 rfl ?_
  refine Wx.iald hC te_291_35 rfl H.1 (fun v6 e1 e2 => ?_)
  replace H := H.2 v6 e1 e2
  refine Wx.imul hC te_291_36 H.1 ?_
  replace H := H.2
  refine Wx.isub hC te_291_37 H.1 ?_
  replace H := H.2
  refine Wx.icmp hC (t := 45) te_291_38 (by decide) (fun q => ?_) (fun q => ?_)
  · replace H := H.1 q
    refine Wx.iconst hC te_291_45 rfl ?_
    exact Wx.bret hC te_291_46 rfl (Or.inl rfl) H
  · replace H := H.2 q
    refine Wx.iconst hC te_291_41 rfl ?_
    refine Wx.goto hC (t := 46) te_291_42 (by decide) ?_
    exact Wx.bret hC te_291_46 rfl (Or.inr rfl) H
theorem w_292_0 {C : CXW} (hC : Cmono C) {S : Nat × (Nat → Int32)} {K : WK} {mem : MM} {x1 : Int} (H : (CWI C 253 [.inl x1] mem fun r2 m1 => InI r2 → ((¬ r2 = 0 → (CWI C 254 [.inr 143, .inl x1] m1 fun r4 m3 => InI r4 → ((r4 = 0 → (CWI C 281 [.inr 143, .inl x1] (upm m3 143 0 0) fun r7 m6 => InI r7 → ((r7 = 0 → (InI (-1) → K (some (-1)) m6)) ∧ (¬ (r7 = 0) → ∀ v8 : Int, v8 = m6 143 25 → InI v8 → (InI v8 → K (some v8) m6))))) ∧ (¬ (r4 = 0) → (InI 0 → K (some 0) (upm m3 143 0 2)))))) ∧ (¬ (¬ r2 = 0) → (InI 0 → K (some 0) (upm m1 143 0 1)))))) : Wx C S M_292 K 0 [some (.inr 143), some (.inl x1)] [] mem := by
  refine Wx.aload_n hC te_292_0 rfl ?_
  refine Wx.iload_n hC te_292_1 rfl ?_
  refine Wx.statI hC te_292_2 (by decide) mt_253 (args := [.inl x1]) (rest := [.inr 143]) rfl rfl rfl rfl rfl ?_
  refine CWI.mono hC (fun r2 m1 H hy => ?_) H
  replace H := H hy
  refine Wx.ifc hC (t := 12) te_292_5 (by decide) (fun q => ?_) (fun q => ?_)
  · replace H := H.1 q
    refine Wx.aload_n hC te_292_12 rfl ?_
    refine Wx.iload_n hC te_292_13 rfl ?_
    refine Wx.virtI hC te_292_14 mt_254 (args := [.inr 143, .inl x1]) (rest := [.inr 143]) rfl rfl rfl rfl rfl rfl rfl rfl ?_
    refine CWI.mono hC (fun r4 m3 H hy => ?_) H
    replace H := H hy
    refine Wx.ifc hC (t := 24) te_292_17 (by decide) (fun q => ?_) (fun q => ?_)
    · replace H := H.1 q
      refine Wx.iconst hC te_292_24 rfl ?_
      refine Wx.putI hC te_292_25 rfl rfl rfl rfl ?_
      refine Wx.aload_n hC te_292_28 rfl ?_
      refine Wx.getI hC te_292_29 rfl rfl rfl (fun c5 e1 e2 => ?_)
      rw [upm_eq] at e1
      subst e1
      refine Wx.ifc hC (t := 39) te_292_32 (by decide) (fun q => ?_) (fun q => absurd (show (0 : Int) ≤ 0 by decide) q)
      refine Wx.aload_n hC te_292_39 rfl ?_
      refine Wx.iload_n hC te_292_40 rfl ?_
      refine Wx.virtI hC te_292_41 mt_281 (args := [.inr 143, .inl x1]) (rest := []) rfl rfl rfl rfl rfl rfl rfl rfl ?_
      refine CWI.mono hC (fun r7 m6 H hy => ?_) H
      replace H := H hy
      refine Wx.ifc hC (t := 54) te_292_44 (by decide) (fun q => ?_) (fun q => ?_)
      · replace H := H.1 q
        refine Wx.iconst hC te_292_54 rfl ?_
        exact Wx.ireturn hC te_292_55 rfl H
      · replace H := H.2 q
        refine Wx.aload_n hC te_292_47 rfl ?_
        refine Wx.getI hC te_292_48 rfl rfl rfl (fun v8 e1 e2 => ?_)
        replace H := H v8 e1 e2
        refine Wx.goto hC (t := 55) te_292_51 (by decide) ?_
        exact Wx.ireturn hC te_292_55 rfl H
    · replace H := H.2 q
      refine Wx.iconst hC te_292_20 rfl ?_
      refine Wx.goto hC (t := 25) te_292_21 (by decide) ?_
      refine Wx.putI hC te_292_25 rfl rfl rfl rfl ?_
      refine Wx.aload_n hC te_292_28 rfl ?_
      refine Wx.getI hC te_292_29 rfl rfl rfl (fun c9 e1 e2 => ?_)
      rw [upm_eq] at e1
      subst e1
      refine Wx.ifc hC (t := 39) te_292_32 (by decide) (fun q => absurd q (show ¬ ((2 : Int) ≤ 0) by decide)) (fun q => ?_)
      refine Wx.iconst hC te_292_35 rfl ?_
      refine Wx.goto hC (t := 55) te_292_36 (by decide) ?_
      exact Wx.ireturn hC te_292_55 rfl H
  · replace H := H.2 q
    refine Wx.iconst hC te_292_8 rfl ?_
    refine Wx.goto hC (t := 25) te_292_9 (by decide) ?_
    refine Wx.putI hC te_292_25 rfl rfl rfl rfl ?_
    refine Wx.aload_n hC te_292_28 rfl ?_
    refine Wx.getI hC te_292_29 rfl rfl rfl (fun c10 e1 e2 => ?_)
    rw [upm_eq] at e1
    subst e1
    refine Wx.ifc hC (t := 39) te_292_32 (by decide) (fun q => absurd q (show ¬ ((1 : Int) ≤ 0) by decide)) (fun q => ?_)
    refine Wx.iconst hC te_292_35 rfl ?_
    refine Wx.goto hC (t := 55) te_292_36 (by decide) ?_
    exact Wx.ireturn hC te_292_55 rfl H
theorem w_293_0 {C : CXW} (hC : Cmono C) {S : Nat × (Nat → Int32)} {K : WK} {mem : MM} (H : (CWI C 240 [.inr 143] mem fun r2 m1 => InI r2 → ((r2 = 0 → (InI 0 → K (some 0) (upm m1 143 0 1))) ∧ (¬ (r2 = 0) → (Wx C S M_293 K 27 [some (.inr 143), some (.inl 1)] [] (upm m1 143 0 0)))))) : Wx C S M_293 K 0 [some (.inr 143), none] [] mem := by
  refine Wx.aload_n hC te_293_0 rfl ?_
  refine Wx.aload_n hC te_293_1 rfl ?_
  refine Wx.virtI hC te_293_2 mt_240 (args := [.inr 143]) (rest := [.inr 143]) rfl rfl rfl rfl rfl rfl rfl rfl ?_
  refine CWI.mono hC (fun r2 m1 H hy => ?_) H
  replace H := H hy
  refine Wx.ifc hC (t := 12) te_293_5 (by decide) (fun q => ?_) (fun q => ?_)
  · replace H := H.1 q
    refine Wx.iconst hC te_293_12 rfl ?_
    refine Wx.putI hC te_293_13 rfl rfl rfl rfl ?_
    refine Wx.aload_n hC te_293_16 rfl ?_
    refine Wx.getI hC te_293_17 rfl rfl rfl (fun c3 e1 e2 => ?_)
    rw [upm_eq] at e1
    subst e1
    refine Wx.ifc hC (t := 25) te_293_20 (by decide) (fun q => absurd q (show ¬ ((1 : Int) ≤ 0) by decide)) (fun q => ?_)
    refine Wx.iconst hC te_293_23 rfl ?_
    exact Wx.ireturn hC te_293_24 rfl H
  · replace H := H.2 q
    refine Wx.iconst hC te_293_8 rfl ?_
    refine Wx.goto hC (t := 13) te_293_9 (by decide) ?_
    refine Wx.putI hC te_293_13 rfl rfl rfl rfl ?_
    refine Wx.aload_n hC te_293_16 rfl ?_
    refine Wx.getI hC te_293_17 rfl rfl rfl (fun c4 e1 e2 => ?_)
    rw [upm_eq] at e1
    subst e1
    refine Wx.ifc hC (t := 25) te_293_20 (by decide) (fun q => ?_) (fun q => absurd (show (0 : Int) ≤ 0 by decide) q)
    refine Wx.iconst hC te_293_25 rfl ?_
    refine Wx.istore_n hC te_293_26 rfl ?_
    exact H
theorem w_293_27 {C : CXW} (hC : Cmono C) {S : Nat × (Nat → Int32)} {K : WK} {mem : MM} {x1 : Int} (H : ((12 < x1 → (InI (-1) → K (some (-1)) mem)) ∧ (¬ (12 < x1) → (CWI C 254 [.inr 143, .inl x1] mem fun r2 m1 => InI r2 → ((¬ r2 = 0 → (InI (x1 + 1)) ∧ (Wx C S M_293 K 27 [some (.inr 143), some (.inl (x1 + 1))] [] m1)) ∧ (¬ (¬ r2 = 0) → (CWI C 281 [.inr 143, .inl x1] m1 fun r4 m3 => InI r4 → ((r4 = 0 → (InI (x1 + 1)) ∧ (Wx C S M_293 K 27 [some (.inr 143), some (.inl (x1 + 1))] [] m3)) ∧ (¬ (r4 = 0) → (InI x1 → K (some x1) m3)))))))))) : Wx C S M_293 K 27 [some (.inr 143), some (.inl x1)] [] mem := by
  refine Wx.iload_n hC te_293_27 rfl ?_
  refine Wx.bipush hC te_293_28 rfl rfl ?_
  refine Wx.icmp hC (t := 57) te_293_30 (by decide) (fun q => ?_) (fun q => ?_)
  · replace H := H.1 q
    refine Wx.iconst hC te_293_57 rfl ?_
    exact Wx.ireturn hC te_293_58 rfl H
  · replace H := H.2 q
    refine Wx.aload_n hC te_293_33 rfl ?_
    refine Wx.iload_n hC te_293_34 rfl ?_
    refine Wx.virtI hC te_293_35 mt_254 (args := [.inr 143, .inl x1]) (rest := []) rfl rfl rfl rfl rfl rfl rfl rfl ?_
    refine CWI.mono hC (fun r2 m1 H hy => ?_) H
    replace H := H hy
    refine Wx.ifc hC (t := 51) te_293_38 (by decide) (fun q => ?_) (fun q => ?_)
    · replace H := H.1 q
      refine Wx.iinc hC te_293_51 rfl rfl H.1 ?_
      replace H := H.2
      refine Wx.goto hC (t := 27) te_293_54 (by decide) ?_
      exact H
    · replace H := H.2 q
      refine Wx.aload_n hC te_293_41 rfl ?_
      refine Wx.iload_n hC te_293_42 rfl ?_
      refine Wx.virtI hC te_293_43 mt_281 (args := [.inr 143, .inl x1]) (rest := []) rfl rfl rfl rfl rfl rfl rfl rfl ?_
      refine CWI.mono hC (fun r4 m3 H hy => ?_) H
      replace H := H hy
      refine Wx.ifc hC (t := 51) te_293_46 (by decide) (fun q => ?_) (fun q => ?_)
      · replace H := H.1 q
        refine Wx.iinc hC te_293_51 rfl rfl H.1 ?_
        replace H := H.2
        refine Wx.goto hC (t := 27) te_293_54 (by decide) ?_
        exact H
      · replace H := H.2 q
        refine Wx.iload_n hC te_293_49 rfl ?_
        exact Wx.ireturn hC te_293_50 rfl H
theorem w_337_0 {C : CXW} (hC : Cmono C) {S : Nat × (Nat → Int32)} {K : WK} {mem : MM} {x1 : Int} (H : (CWI C 253 [.inl x1] mem fun r2 m1 => InI r2 → ((¬ r2 = 0 → (CWI C 268 [.inr 143, .inl x1] m1 fun r4 m3 => InI r4 → ((¬ r4 = 0 → (Wx C S M_337 K 39 [some (.inr 143), some (.inl x1), some (.inl 1)] [] (upm m3 143 0 0))) ∧ (¬ (¬ r4 = 0) → (InI 0 → K (some 0) (upm m3 143 0 2)))))) ∧ (¬ (¬ r2 = 0) → (InI 0 → K (some 0) (upm m1 143 0 1)))))) : Wx C S M_337 K 0 [some (.inr 143), some (.inl x1), none] [] mem := by
  refine Wx.aload_n hC te_337_0 rfl ?_
  refine Wx.iload_n hC te_337_1 rfl ?_
  refine Wx.statI hC te_337_2 (by decide) mt_253 (args := [.inl x1]) (rest := [.inr 143]) rfl rfl rfl rfl rfl ?_
  refine CWI.mono hC (fun r2 m1 H hy => ?_) H
  replace H := H hy
  refine Wx.ifc hC (t := 12) te_337_5 (by decide) (fun q => ?_) (fun q => ?_)
  · replace H := H.1 q
    refine Wx.aload_n hC te_337_12 rfl ?_
    refine Wx.iload_n hC te_337_13 rfl ?_
    refine Wx.virtI hC te_337_14 mt_268 (args := [.inr 143, .inl x1]) (rest := [.inr 143]) rfl rfl rfl rfl rfl rfl rfl rfl ?_
    refine CWI.mono hC (fun r4 m3 H hy => ?_) H
    replace H := H hy
    refine Wx.ifc hC (t := 24) te_337_17 (by decide) (fun q => ?_) (fun q => ?_)
    · replace H := H.1 q
      refine Wx.iconst hC te_337_24 rfl ?_
      refine Wx.putI hC te_337_25 rfl rfl rfl rfl ?_
      refine Wx.aload_n hC te_337_28 rfl ?_
      refine Wx.getI hC te_337_29 rfl rfl rfl (fun c5 e1 e2 => ?_)
      rw [upm_eq] at e1
      subst e1
      refine Wx.ifc hC (t := 37) te_337_32 (by decide) (fun q => ?_) (fun q => absurd (show (0 : Int) ≤ 0 by decide) q)
      refine Wx.iconst hC te_337_37 rfl ?_
      refine Wx.istore_n hC te_337_38 rfl ?_
      exact H
    · replace H := H.2 q
      refine Wx.iconst hC te_337_20 rfl ?_
      refine Wx.goto hC (t := 25) te_337_21 (by decide) ?_
      refine Wx.putI hC te_337_25 rfl rfl rfl rfl ?_
      refine Wx.aload_n hC te_337_28 rfl ?_
      refine Wx.getI hC te_337_29 rfl rfl rfl (fun c6 e1 e2 => ?_)
      rw [upm_eq] at e1
      subst e1
      refine Wx.ifc hC (t := 37) te_337_32 (by decide) (fun q => absurd q (show ¬ ((2 : Int) ≤ 0) by decide)) (fun q => ?_)
      refine Wx.iconst hC te_337_35 rfl ?_
      exact Wx.ireturn hC te_337_36 rfl H
  · replace H := H.2 q
    refine Wx.iconst hC te_337_8 rfl ?_
    refine Wx.goto hC (t := 25) te_337_9 (by decide) ?_
    refine Wx.putI hC te_337_25 rfl rfl rfl rfl ?_
    refine Wx.aload_n hC te_337_28 rfl ?_
    refine Wx.getI hC te_337_29 rfl rfl rfl (fun c7 e1 e2 => ?_)
    rw [upm_eq] at e1
    subst e1
    refine Wx.ifc hC (t := 37) te_337_32 (by decide) (fun q => absurd q (show ¬ ((1 : Int) ≤ 0) by decide)) (fun q => ?_)
    refine Wx.iconst hC te_337_35 rfl ?_
    exact Wx.ireturn hC te_337_36 rfl H
theorem w_337_39 {C : CXW} (hC : Cmono C) {S : Nat × (Nat → Int32)} {K : WK} {mem : MM} {x1 x2 : Int} (H : ((40 < x2 → (InI (-1) → K (some (-1)) mem)) ∧ (¬ (40 < x2) → (CWI C 338 [.inr 143, .inl x1, .inl x2] mem fun r2 m1 => InI r2 → ∀ v3 : Int, v3 = m1 143 1 → InI v3 → ((¬ r2 = v3 → (InI (x2 + 1)) ∧ (Wx C S M_337 K 39 [some (.inr 143), some (.inl x1), some (.inl (x2 + 1))] [] m1)) ∧ (¬ (¬ r2 = v3) → (InI x2 → K (some x2) m1))))))) : Wx C S M_337 K 39 [some (.inr 143), some (.inl x1), some (.inl x2)] [] mem := by
  refine Wx.iload_n hC te_337_39 rfl ?_
  refine Wx.bipush hC te_337_40 rfl rfl ?_
  refine Wx.icmp hC (t := 66) te_337_42 (by decide) (fun q => ?_) (fun q => ?_)
  · replace H := H.1 q
    refine Wx.iconst hC te_337_66 rfl ?_
    exact Wx.ireturn hC te_337_67 rfl H
  · replace H := H.2 q
    refine Wx.aload_n hC te_337_45 rfl ?_
    refine Wx.iload_n hC te_337_46 rfl ?_
    refine Wx.iload_n hC te_337_47 rfl ?_
    refine Wx.virtI hC te_337_48 mt_338 (args := [.inr 143, .inl x1, .inl x2]) (rest := []) rfl rfl rfl rfl rfl rfl rfl rfl ?_
    refine CWI.mono hC (fun r2 m1 H hy => ?_) H
    replace H := H hy
    refine Wx.aload_n hC te_337_51 rfl ?_
    refine Wx.getI hC te_337_52 rfl rfl rfl (fun v3 e1 e2 => ?_)
    replace H := H v3 e1 e2
    refine Wx.icmp hC (t := 60) te_337_55 (by decide) (fun q => ?_) (fun q => ?_)
    · replace H := H.1 q
      refine Wx.iinc hC te_337_60 rfl rfl H.1 ?_
      replace H := H.2
      refine Wx.goto hC (t := 39) te_337_63 (by decide) ?_
      exact H
    · replace H := H.2 q
      refine Wx.iload_n hC te_337_58 rfl ?_
      exact Wx.ireturn hC te_337_59 rfl H
theorem w_338_0 {C : CXW} (hC : Cmono C) {S : Nat × (Nat → Int32)} {K : WK} {mem : MM} {x1 x2 : Int} (H : (Wx C S M_338 K 2 [some (.inr 143), some (.inl x1), some (.inl x2), some (.inl 0), none] [] mem)) : Wx C S M_338 K 0 [some (.inr 143), some (.inl x1), some (.inl x2), none, none] [] mem := by
  refine Wx.iconst hC te_338_0 rfl ?_
  refine Wx.istore_n hC te_338_1 rfl ?_
  exact H
theorem w_338_2 {C : CXW} (hC : Cmono C) {S : Nat × (Nat → Int32)} {K : WK} {mem : MM} {x1 x2 x3 : Int} (H : ∀ v1 : Int, v1 = mem 143 1 → InI v1 → ((v1 ≤ x3 → ∀ v2 : Int, v2 = mem 143 1 → InI v2 → (InI v2 → K (some v2) mem)) ∧ (¬ (v1 ≤ x3) → ((0 : Int) ≤ x3 ∧ (x3 : Int) < 8) ∧ (CWI C 298 [.inr 143, .inl x3, .inl x1] (upm mem 169 (Int.toNat x3) (-1)) fun r4 m3 => InI r4 → ((¬ r4 = 0 → (Wx C S M_338 K 32 [some (.inr 143), some (.inl x1), some (.inl x2), some (.inl x3), some (.inl 0)] [] m3)) ∧ (¬ (¬ r4 = 0) → (InI (x3 + 1)) ∧ (Wx C S M_338 K 2 [some (.inr 143), some (.inl x1), some (.inl x2), some (.inl (x3 + 1)), none] [] m3))))))) : Wx C S M_338 K 2 [some (.inr 143), some (.inl x1), some (.inl x2), some (.inl x3), none] [] mem := by
  refine Wx.iload_n hC te_338_2 rfl ?_
  refine Wx.aload_n hC te_338_3 rfl ?_
  refine Wx.getI hC te_338_4 rfl rfl rfl (fun v1 e1 e2 => ?_)
  replace H := H v1 e1 e2
  refine Wx.icmp hC (t := 85) te_338_7 (by decide) (fun q => ?_) (fun q => ?_)
  · replace H := H.1 q
    refine Wx.aload_n hC te_338_85 rfl ?_
    refine Wx.getI hC te_338_86 rfl rfl rfl (fun v2 e1 e2 => ?_)
    replace H := H v2 e1 e2
    exact Wx.ireturn hC te_338_89 rfl H
  · replace H := H.2 q
    refine Wx.aload_n hC te_338_10 rfl ?_
    refine Wx.getR hC te_338_11 rfl rfl rfl ?_
    refine Wx.iload_n hC te_338_14 rfl ?_
    refine Wx.iconst hC te_338_15 rfl ?_
    refine Wx.iast hC te_338_16 rfl H.1 ?_
    replace H := H.2
    refine Wx.aload_n hC te_338_17 rfl ?_
    refine Wx.iload_n hC te_338_18 rfl ?_
    refine Wx.iload_n hC te_338_19 rfl ?_
    refine Wx.virtI hC te_338_20 mt_298 (args := [.inr 143, .inl x3, .inl x1]) (rest := []) rfl rfl rfl rfl rfl rfl rfl rfl ?_
    refine CWI.mono hC (fun r4 m3 H hy => ?_) H
    replace H := H hy
    refine Wx.ifc hC (t := 29) te_338_23 (by decide) (fun q => ?_) (fun q => ?_)
    · replace H := H.1 q
      refine Wx.iconst hC te_338_29 rfl ?_
      refine Wx.istore hC te_338_30 rfl ?_
      exact H
    · replace H := H.2 q
      refine Wx.goto hC (t := 79) te_338_26 (by decide) ?_
      refine Wx.iinc hC te_338_79 rfl rfl H.1 ?_
      replace H := H.2
      refine Wx.goto hC (t := 2) te_338_82 (by decide) ?_
      exact H
theorem w_338_32 {C : CXW} (hC : Cmono C) {S : Nat × (Nat → Int32)} {K : WK} {mem : MM} {x1 x2 x3 x4 : Int} (H : ((x2 ≤ x4 → ((¬ x4 = x2 → ((0 : Int) ≤ x3 ∧ (x3 : Int) < 8) ∧ (InI (x3 + 1)) ∧ (Wx C S M_338 K 2 [some (.inr 143), some (.inl x1), some (.inl x2), some (.inl (x3 + 1)), none] [] (upm mem 169 (Int.toNat x3) x4))) ∧ (¬ (¬ x4 = x2) → ((0 : Int) ≤ x3 ∧ (x3 : Int) < 8) ∧ (InI x3 → K (some x3) (upm mem 169 (Int.toNat x3) (-1)))))) ∧ (¬ (x2 ≤ x4) → (CWI C 339 [.inr 143, .inl x3, .inl x4, .inl x1, .inl x2] mem fun r2 m1 => InI r2 → ((¬ r2 = 0 → ((¬ x4 = x2 → ((0 : Int) ≤ x3 ∧ (x3 : Int) < 8) ∧ (InI (x3 + 1)) ∧ (Wx C S M_338 K 2 [some (.inr 143), some (.inl x1), some (.inl x2), some (.inl (x3 + 1)), none] [] (upm m1 169 (Int.toNat x3) x4))) ∧ (¬ (¬ x4 = x2) → ((0 : Int) ≤ x3 ∧ (x3 : Int) < 8) ∧ (InI x3 → K (some x3) (upm m1 169 (Int.toNat x3) (-1)))))) ∧ (¬ (¬ r2 = 0) → (InI (x4 + 1)) ∧ (Wx C S M_338 K 32 [some (.inr 143), some (.inl x1), some (.inl x2), some (.inl x3), some (.inl (x4 + 1))] [] m1))))))) : Wx C S M_338 K 32 [some (.inr 143), some (.inl x1), some (.inl x2), some (.inl x3), some (.inl x4)] [] mem := by
  refine Wx.iload hC te_338_32 rfl ?_
  refine Wx.iload_n hC te_338_34 rfl ?_
  refine Wx.icmp hC (t := 56) te_338_35 (by decide) (fun q => ?_) (fun q => ?_)
  · replace H := H.1 q
    refine Wx.iload hC te_338_56 rfl ?_
    refine Wx.iload_n hC te_338_58 rfl ?_
    refine Wx.icmp hC (t := 71) te_338_59 (by decide) (fun q => ?_) (fun q => ?_)
    · replace H := H.1 q
      refine Wx.aload_n hC te_338_71 rfl ?_
      refine Wx.getR hC te_338_72 rfl rfl rfl ?_
      refine Wx.iload_n hC te_338_75 rfl ?_
      refine Wx.iload hC te_338_76 rfl ?_
      refine Wx.iast hC te_338_78 rfl H.1 ?_
      replace H := H.2
      refine Wx.iinc hC te_338_79 rfl rfl H.1 ?_
      replace H := H.2
      refine Wx.goto hC (t := 2) te_338_82 (by decide) ?_
      exact Wx.weak (by repeat' (first | exact trivial | exact rfl | constructor)) H
    · replace H := H.2 q
      refine Wx.aload_n hC te_338_62 rfl ?_
      refine Wx.getR hC te_338_63 rfl rfl rfl ?_
      refine Wx.iload_n hC te_338_66 rfl ?_
      refine Wx.iconst hC te_338_67 rfl ?_
      refine Wx.iast hC te_338_68 rfl H.1 ?_
      replace H := H.2
      refine Wx.iload_n hC te_338_69 rfl ?_
      exact Wx.ireturn hC te_338_70 rfl H
  · replace H := H.2 q
    refine Wx.aload_n hC te_338_38 rfl ?_
    refine Wx.iload_n hC te_338_39 rfl ?_
    refine Wx.iload hC te_338_40 rfl ?_
    refine Wx.iload_n hC te_338_42 rfl ?_
    refine Wx.iload_n hC te_338_43 rfl ?_
    refine Wx.virtI hC te_338_44 mt_339 (args := [.inr 143, .inl x3, .inl x4, .inl x1, .inl x2]) (rest := []) rfl rfl rfl rfl rfl rfl rfl rfl ?_
    refine CWI.mono hC (fun r2 m1 H hy => ?_) H
    replace H := H hy
    refine Wx.ifc hC (t := 56) te_338_47 (by decide) (fun q => ?_) (fun q => ?_)
    · replace H := H.1 q
      refine Wx.iload hC te_338_56 rfl ?_
      refine Wx.iload_n hC te_338_58 rfl ?_
      refine Wx.icmp hC (t := 71) te_338_59 (by decide) (fun q => ?_) (fun q => ?_)
      · replace H := H.1 q
        refine Wx.aload_n hC te_338_71 rfl ?_
        refine Wx.getR hC te_338_72 rfl rfl rfl ?_
        refine Wx.iload_n hC te_338_75 rfl ?_
        refine Wx.iload hC te_338_76 rfl ?_
        refine Wx.iast hC te_338_78 rfl H.1 ?_
        replace H := H.2
        refine Wx.iinc hC te_338_79 rfl rfl H.1 ?_
        replace H := H.2
        refine Wx.goto hC (t := 2) te_338_82 (by decide) ?_
        exact Wx.weak (by repeat' (first | exact trivial | exact rfl | constructor)) H
      · replace H := H.2 q
        refine Wx.aload_n hC te_338_62 rfl ?_
        refine Wx.getR hC te_338_63 rfl rfl rfl ?_
        refine Wx.iload_n hC te_338_66 rfl ?_
        refine Wx.iconst hC te_338_67 rfl ?_
        refine Wx.iast hC te_338_68 rfl H.1 ?_
        replace H := H.2
        refine Wx.iload_n hC te_338_69 rfl ?_
        exact Wx.ireturn hC te_338_70 rfl H
    · replace H := H.2 q
      refine Wx.iinc hC te_338_50 rfl rfl H.1 ?_
      replace H := H.2
      refine Wx.goto hC (t := 32) te_338_53 (by decide) ?_
      exact H
theorem w_339_0 {C : CXW} (hC : Cmono C) {S : Nat × (Nat → Int32)} {K : WK} {mem : MM} {x1 x2 x3 x4 : Int} (H : ((0 : Int) ≤ x1 ∧ (x1 : Int) < 8) ∧ (CWI C 340 [.inr 143, .inl x1, .inl x1, .inl x3, .inl x4] (upm mem 169 (Int.toNat x1) x2) fun r2 m1 => InI r2 → ((r2 = 0 → (Wx C S M_339 K 24 [some (.inr 143), some (.inl x1), some (.inl x2), some (.inl x3), some (.inl x4), some (.inl 0)] [] m1)) ∧ (¬ (r2 = 0) → (K (some 0) m1))))) : Wx C S M_339 K 0 [some (.inr 143), some (.inl x1), some (.inl x2), some (.inl x3), some (.inl x4), none] [] mem := by
  refine Wx.aload_n hC te_339_0 rfl ?_
  refine Wx.getR hC te_339_1 rfl rfl rfl ?_
  refine Wx.iload_n hC te_339_4 rfl ?_
  refine Wx.iload_n hC te_339_5 rfl ?_
  refine Wx.iast hC te_339_6 rfl H.1 ?_
  replace H := H.2
  refine Wx.aload_n hC te_339_7 rfl ?_
  refine Wx.iload_n hC te_339_8 rfl ?_
  refine Wx.iload_n hC te_339_9 rfl ?_
  refine Wx.iload_n hC te_339_10 rfl ?_
  refine Wx.iload hC te_339_11 rfl ?_
  refine Wx.virtI hC te_339_13 mt_340 (args := [.inr 143, .inl x1, .inl x1, .inl x3, .inl x4]) (rest := []) rfl rfl rfl rfl rfl rfl rfl rfl ?_
  refine CWI.mono hC (fun r2 m1 H hy => ?_) H
  replace H := H hy
  refine Wx.ifc hC (t := 21) te_339_16 (by decide) (fun q => ?_) (fun q => ?_)
  · replace H := H.1 q
    refine Wx.iconst hC te_339_21 rfl ?_
    refine Wx.istore hC te_339_22 rfl ?_
    exact H
  · replace H := H.2 q
    refine Wx.iconst hC te_339_19 rfl ?_
    exact Wx.bret hC te_339_20 rfl (Or.inl rfl) H
theorem w_339_24 {C : CXW} (hC : Cmono C) {S : Nat × (Nat → Int32)} {K : WK} {mem : MM} {x1 x2 x3 x4 x5 : Int} (H : ((x1 ≤ x5 → (K (some 1) mem)) ∧ (¬ (x1 ≤ x5) → (CWI C 298 [.inr 143, .inl x5, .inl x3] mem fun r2 m1 => InI r2 → ((r2 ≤ 0 → (InI (x5 + 1)) ∧ (Wx C S M_339 K 24 [some (.inr 143), some (.inl x1), some (.inl x2), some (.inl x3), some (.inl x4), some (.inl (x5 + 1))] [] m1)) ∧ (¬ (r2 ≤ 0) → (CWI C 340 [.inr 143, .inl x5, .inl x1, .inl x3, .inl x4] m1 fun r4 m3 => InI r4 → ((r4 = 0 → (InI (x5 + 1)) ∧ (Wx C S M_339 K 24 [some (.inr 143), some (.inl x1), some (.inl x2), some (.inl x3), some (.inl x4), some (.inl (x5 + 1))] [] m3)) ∧ (¬ (r4 = 0) → (K (some 0) m3)))))))))) : Wx C S M_339 K 24 [some (.inr 143), some (.inl x1), some (.inl x2), some (.inl x3), some (.inl x4), some (.inl x5)] [] mem := by
  refine Wx.iload hC te_339_24 rfl ?_
  refine Wx.iload_n hC te_339_26 rfl ?_
  refine Wx.icmp hC (t := 61) te_339_27 (by decide) (fun q => ?_) (fun q => ?_)
  · replace H := H.1 q
    refine Wx.iconst hC te_339_61 rfl ?_
    exact Wx.bret hC te_339_62 rfl (Or.inr rfl) H
  · replace H := H.2 q
    refine Wx.aload_n hC te_339_30 rfl ?_
    refine Wx.iload hC te_339_31 rfl ?_
    refine Wx.iload_n hC te_339_33 rfl ?_
    refine Wx.virtI hC te_339_34 mt_298 (args := [.inr 143, .inl x5, .inl x3]) (rest := []) rfl rfl rfl rfl rfl rfl rfl rfl ?_
    refine CWI.mono hC (fun r2 m1 H hy => ?_) H
    replace H := H hy
    refine Wx.ifc hC (t := 55) te_339_37 (by decide) (fun q => ?_) (fun q => ?_)
    · replace H := H.1 q
      refine Wx.iinc hC te_339_55 rfl rfl H.1 ?_
      replace H := H.2
      refine Wx.goto hC (t := 24) te_339_58 (by decide) ?_
      exact H
    · replace H := H.2 q
      refine Wx.aload_n hC te_339_40 rfl ?_
      refine Wx.iload hC te_339_41 rfl ?_
      refine Wx.iload_n hC te_339_43 rfl ?_
      refine Wx.iload_n hC te_339_44 rfl ?_
      refine Wx.iload hC te_339_45 rfl ?_
      refine Wx.virtI hC te_339_47 mt_340 (args := [.inr 143, .inl x5, .inl x1, .inl x3, .inl x4]) (rest := []) rfl rfl rfl rfl rfl rfl rfl rfl ?_
      refine CWI.mono hC (fun r4 m3 H hy => ?_) H
      replace H := H hy
      refine Wx.ifc hC (t := 55) te_339_50 (by decide) (fun q => ?_) (fun q => ?_)
      · replace H := H.1 q
        refine Wx.iinc hC te_339_55 rfl rfl H.1 ?_
        replace H := H.2
        refine Wx.goto hC (t := 24) te_339_58 (by decide) ?_
        exact H
      · replace H := H.2 q
        refine Wx.iconst hC te_339_53 rfl ?_
        exact Wx.bret hC te_339_54 rfl (Or.inl rfl) H
theorem w_340_0 {C : CXW} (hC : Cmono C) {S : Nat × (Nat → Int32)} {K : WK} {mem : MM} {x1 x2 x3 x4 : Int} (H : ((0 : Int) ≤ x2 ∧ (x2 : Int) < 8) ∧ ∀ v1 : Int, v1 = mem 169 (Int.toNat x2) → InI v1 → ((0 : Int) ≤ x1 ∧ (x1 : Int) < 8) ∧ ∀ v2 : Int, v2 = mem 169 (Int.toNat x1) → InI v2 → (InI (v1 - v2)) ∧ (CWI C 272 [.inl (v1 - v2), .inl x4] mem fun r4 m3 => InI r4 → (0 < x4) ∧ (InI (((400 : Int).tdiv x4) * x4)) ∧ (InI (r4 - (((400 : Int).tdiv x4) * x4))) ∧ (InI ((r4 - (((400 : Int).tdiv x4) * x4)) - x4)) ∧ (Wx C S M_340 K 37 [some (.inr 143), some (.inl x1), some (.inl x2), some (.inl x3), some (.inl x4), some (.inl r4), some (.inl ((r4 - (((400 : Int).tdiv x4) * x4)) - x4))] [] m3))) : Wx C S M_340 K 0 [some (.inr 143), some (.inl x1), some (.inl x2), some (.inl x3), some (.inl x4), none, none] [] mem := by
  refine Wx.aload_n hC te_340_0 rfl ?_
  refine Wx.getR hC te_340_1 rfl rfl rfl ?_
  refine Wx.iload_n hC te_340_4 rfl ?_
  refine Wx.iald hC te_340_5 rfl H.1 (fun v1 e1 e2 => ?_)
  replace H := H.2 v1 e1 e2
  refine Wx.aload_n hC te_340_6 rfl ?_
  refine Wx.getR hC te_340_7 rfl rfl rfl ?_
  refine Wx.iload_n hC te_340_10 rfl ?_
  refine Wx.iald hC te_340_11 rfl H.1 (fun v2 e1 e2 => ?_)
  replace H := H.2 v2 e1 e2
  refine Wx.isub hC te_340_12 H.1 ?_
  replace H := H.2
  refine Wx.iload hC te_340_13 rfl ?_
  refine Wx.statI hC te_340_15 (by decide) mt_272 (args := [.inl (v1 - v2), .inl x4]) (rest := []) rfl rfl rfl rfl rfl ?_
  refine CWI.mono hC (fun r4 m3 H hy => ?_) H
  replace H := H hy
  refine Wx.istore hC te_340_18 rfl ?_
  refine Wx.iload hC te_340_20 rfl ?_
  refine Wx.sipush hC te_340_22 rfl rfl ?_
  refine Wx.iload hC te_340_25 rfl ?_
  refine Wx.idiv hC te_340_27 H.1 ?_
  replace H := H.2
  refine Wx.iload hC te_340_28 rfl ?_
  refine Wx.imul hC te_340_30 H.1 ?_
  replace H := H.2
  refine Wx.isub hC te_340_31 H.1 ?_
  replace H := H.2
  refine Wx.iload hC te_340_32 rfl ?_
  refine Wx.isub hC te_340_34 H.1 ?_
  replace H := H.2
  refine Wx.istore hC te_340_35 rfl ?_
  exact H
theorem w_340_37 {C : CXW} (hC : Cmono C) {S : Nat × (Nat → Int32)} {K : WK} {mem : MM} {x1 x2 x3 x4 x5 x6 : Int} (H : ((400 < x6 → (K (some 0) mem)) ∧ (¬ (400 < x6) → ((¬ x1 = x2 → (CWI C 341 [.inr 143, .inl x1, .inl x2, .inl x6, .inl x3] mem fun r2 m1 => InI r2 → ((r2 = 0 → (InI (x6 + x4)) ∧ (Wx C S M_340 K 37 [some (.inr 143), some (.inl x1), some (.inl x2), some (.inl x3), some (.inl x4), some (.inl x5), some (.inl (x6 + x4))] [] m1)) ∧ (¬ (r2 = 0) → (K (some 1) m1))))) ∧ (¬ (¬ x1 = x2) → ((x6 = 0 → (InI (x6 + x4)) ∧ (Wx C S M_340 K 37 [some (.inr 143), some (.inl x1), some (.inl x2), some (.inl x3), some (.inl x4), some (.inl x5), some (.inl (x6 + x4))] [] mem)) ∧ (¬ (x6 = 0) → (CWI C 341 [.inr 143, .inl x1, .inl x2, .inl x6, .inl x3] mem fun r4 m3 => InI r4 → ((r4 = 0 → (InI (x6 + x4)) ∧ (Wx C S M_340 K 37 [some (.inr 143), some (.inl x1), some (.inl x2), some (.inl x3), some (.inl x4), some (.inl x5), some (.inl (x6 + x4))] [] m3)) ∧ (¬ (r4 = 0) → (K (some 1) m3))))))))))) : Wx C S M_340 K 37 [some (.inr 143), some (.inl x1), some (.inl x2), some (.inl x3), some (.inl x4), some (.inl x5), some (.inl x6)] [] mem := by
  refine Wx.iload hC te_340_37 rfl ?_
  refine Wx.sipush hC te_340_39 rfl rfl ?_
  refine Wx.icmp hC (t := 79) te_340_42 (by decide) (fun q => ?_) (fun q => ?_)
  · replace H := H.1 q
    refine Wx.iconst hC te_340_79 rfl ?_
    exact Wx.bret hC te_340_80 rfl (Or.inl rfl) H
  · replace H := H.2 q
    refine Wx.iload_n hC te_340_45 rfl ?_
    refine Wx.iload_n hC te_340_46 rfl ?_
    refine Wx.icmp hC (t := 55) te_340_47 (by decide) (fun q => ?_) (fun q => ?_)
    · replace H := H.1 q
      refine Wx.aload_n hC te_340_55 rfl ?_
      refine Wx.iload_n hC te_340_56 rfl ?_
      refine Wx.iload_n hC te_340_57 rfl ?_
      refine Wx.iload hC te_340_58 rfl ?_
      refine Wx.iload_n hC te_340_60 rfl ?_
      refine Wx.virtI hC te_340_61 mt_341 (args := [.inr 143, .inl x1, .inl x2, .inl x6, .inl x3]) (rest := []) rfl rfl rfl rfl rfl rfl rfl rfl ?_
      refine CWI.mono hC (fun r2 m1 H hy => ?_) H
      replace H := H hy
      refine Wx.ifc hC (t := 69) te_340_64 (by decide) (fun q => ?_) (fun q => ?_)
      · replace H := H.1 q
        refine Wx.iload hC te_340_69 rfl ?_
        refine Wx.iload hC te_340_71 rfl ?_
        refine Wx.iadd hC te_340_73 H.1 ?_
        replace H := H.2
        refine Wx.istore hC te_340_74 rfl ?_
        refine Wx.goto hC (t := 37) te_340_76 (by decide) ?_
        exact H
      · replace H := H.2 q
        refine Wx.iconst hC te_340_67 rfl ?_
        exact Wx.bret hC te_340_68 rfl (Or.inr rfl) H
    · replace H := H.2 q
      refine Wx.iload hC te_340_50 rfl ?_
      refine Wx.ifc hC (t := 69) te_340_52 (by decide) (fun q => ?_) (fun q => ?_)
      · replace H := H.1 q
        refine Wx.iload hC te_340_69 rfl ?_
        refine Wx.iload hC te_340_71 rfl ?_
        refine Wx.iadd hC te_340_73 H.1 ?_
        replace H := H.2
        refine Wx.istore hC te_340_74 rfl ?_
        refine Wx.goto hC (t := 37) te_340_76 (by decide) ?_
        exact H
      · replace H := H.2 q
        refine Wx.aload_n hC te_340_55 rfl ?_
        refine Wx.iload_n hC te_340_56 rfl ?_
        refine Wx.iload_n hC te_340_57 rfl ?_
        refine Wx.iload hC te_340_58 rfl ?_
        refine Wx.iload_n hC te_340_60 rfl ?_
        refine Wx.virtI hC te_340_61 mt_341 (args := [.inr 143, .inl x1, .inl x2, .inl x6, .inl x3]) (rest := []) rfl rfl rfl rfl rfl rfl rfl rfl ?_
        refine CWI.mono hC (fun r4 m3 H hy => ?_) H
        replace H := H hy
        refine Wx.ifc hC (t := 69) te_340_64 (by decide) (fun q => ?_) (fun q => ?_)
        · replace H := H.1 q
          refine Wx.iload hC te_340_69 rfl ?_
          refine Wx.iload hC te_340_71 rfl ?_
          refine Wx.iadd hC te_340_73 H.1 ?_
          replace H := H.2
          refine Wx.istore hC te_340_74 rfl ?_
          refine Wx.goto hC (t := 37) te_340_76 (by decide) ?_
          exact H
        · replace H := H.2 q
          refine Wx.iconst hC te_340_67 rfl ?_
          exact Wx.bret hC te_340_68 rfl (Or.inr rfl) H
theorem w_341_0 {C : CXW} (hC : Cmono C) {S : Nat × (Nat → Int32)} {K : WK} {mem : MM} {x1 x2 x3 x4 : Int} (H : (CWI C 299 [.inr 143, .inl x1] mem fun r2 m1 => InI r2 → (CWI C 299 [.inr 143, .inl x2] m1 fun r4 m3 => InI r4 → (InI (x4 * x3)) ∧ (InI (r4 + (x4 * x3))) ∧ (CWI C 298 [.inr 143, .inl x1, .inl x4] m3 fun r6 m5 => InI r6 → (InI (r2 + r6)) ∧ (InI ((r2 + r6) - 1)) ∧ ((((r2 + r6) - 1) < (r4 + (x4 * x3)) → (K (some 0) m5)) ∧ (¬ (((r2 + r6) - 1) < (r4 + (x4 * x3))) → (CWI C 298 [.inr 143, .inl x2, .inl x4] m5 fun r8 m7 => InI r8 → (InI ((r4 + (x4 * x3)) + r8)) ∧ (InI (((r4 + (x4 * x3)) + r8) - 1)) ∧ (((((r4 + (x4 * x3)) + r8) - 1) < r2 → (K (some 0) m7)) ∧ (¬ ((((r4 + (x4 * x3)) + r8) - 1) < r2) → (K (some 1) m7)))))))))) : Wx C S M_341 K 0 [some (.inr 143), some (.inl x1), some (.inl x2), some (.inl x3), some (.inl x4), none, none] [] mem := by
  refine Wx.aload_n hC te_341_0 rfl ?_
  refine Wx.iload_n hC te_341_1 rfl ?_
  refine Wx.virtI hC te_341_2 mt_299 (args := [.inr 143, .inl x1]) (rest := []) rfl rfl rfl rfl rfl rfl rfl rfl ?_
  refine CWI.mono hC (fun r2 m1 H hy => ?_) H
  replace H := H hy
  refine Wx.istore hC te_341_5 rfl ?_
  refine Wx.aload_n hC te_341_7 rfl ?_
  refine Wx.iload_n hC te_341_8 rfl ?_
  refine Wx.virtI hC te_341_9 mt_299 (args := [.inr 143, .inl x2]) (rest := []) rfl rfl rfl rfl rfl rfl rfl rfl ?_
  refine CWI.mono hC (fun r4 m3 H hy => ?_) H
  replace H := H hy
  refine Wx.iload hC te_341_12 rfl ?_
  refine Wx.iload_n hC te_341_14 rfl ?_
  refine Wx.imul hC te_341_15 H.1 ?_
  replace H := H.2
  refine Wx.iadd hC te_341_16 H.1 ?_
  replace H := H.2
  refine Wx.istore hC te_341_17 rfl ?_
  refine Wx.iload hC te_341_19 rfl ?_
  refine Wx.iload hC te_341_21 rfl ?_
  refine Wx.aload_n hC te_341_23 rfl ?_
  refine Wx.iload_n hC te_341_24 rfl ?_
  refine Wx.iload hC te_341_25 rfl ?_
  refine Wx.virtI hC te_341_27 mt_298 (args := [.inr 143, .inl x1, .inl x4]) (rest := [.inl r2, .inl (r4 + (x4 * x3))]) rfl rfl rfl rfl rfl rfl rfl rfl ?_
  refine CWI.mono hC (fun r6 m5 H hy => ?_) H
  replace H := H hy
  refine Wx.iadd hC te_341_30 H.1 ?_
  replace H := H.2
  refine Wx.iconst hC te_341_31 rfl ?_
  refine Wx.isub hC te_341_32 H.1 ?_
  replace H := H.2
  refine Wx.icmp hC (t := 57) te_341_33 (by decide) (fun q => ?_) (fun q => ?_)
  · replace H := H.1 q
    refine Wx.iconst hC te_341_57 rfl ?_
    exact Wx.bret hC te_341_58 rfl (Or.inl rfl) H
  · replace H := H.2 q
    refine Wx.iload hC te_341_36 rfl ?_
    refine Wx.iload hC te_341_38 rfl ?_
    refine Wx.aload_n hC te_341_40 rfl ?_
    refine Wx.iload_n hC te_341_41 rfl ?_
    refine Wx.iload hC te_341_42 rfl ?_
    refine Wx.virtI hC te_341_44 mt_298 (args := [.inr 143, .inl x2, .inl x4]) (rest := [.inl (r4 + (x4 * x3)), .inl r2]) rfl rfl rfl rfl rfl rfl rfl rfl ?_
    refine CWI.mono hC (fun r8 m7 H hy => ?_) H
    replace H := H hy
    refine Wx.iadd hC te_341_47 H.1 ?_
    replace H := H.2
    refine Wx.iconst hC te_341_48 rfl ?_
    refine Wx.isub hC te_341_49 H.1 ?_
    replace H := H.2
    refine Wx.icmp hC (t := 57) te_341_50 (by decide) (fun q => ?_) (fun q => ?_)
    · replace H := H.1 q
      refine Wx.iconst hC te_341_57 rfl ?_
      exact Wx.bret hC te_341_58 rfl (Or.inl rfl) H
    · replace H := H.2 q
      refine Wx.iconst hC te_341_53 rfl ?_
      refine Wx.goto hC (t := 58) te_341_54 (by decide) ?_
      exact Wx.bret hC te_341_58 rfl (Or.inr rfl) H
theorem w_342_0 {C : CXW} (hC : Cmono C) {S : Nat × (Nat → Int32)} {K : WK} {mem : MM} {x1 x2 x3 : Int} (H : (CWI C 235 [.inr 143, .inl x1] mem fun r2 m1 => InI r2 → ((¬ r2 = 0 → (CWI C 253 [.inl x2] m1 fun r4 m3 => InI r4 → ((r4 = 0 → (InI 0 → K (some 0) (upm m3 143 0 2))) ∧ (¬ (r4 = 0) → (CWI C 227 [.inl x3, .inl 1, .inl 40] m3 fun r7 m6 => InI r7 → ((¬ r7 = 0 → (CWI C 268 [.inr 143, .inl x2] m6 fun r9 m8 => InI r9 → ((¬ r9 = 0 → (CWI C 338 [.inr 143, .inl x2, .inl x3] (upm m8 143 0 0) fun r12 m11 => InI r12 → ((r12 ≤ x1 → (InI (-1) → K (some (-1)) m11)) ∧ (¬ (r12 ≤ x1) → ((0 : Int) ≤ x1 ∧ (x1 : Int) < 8) ∧ ∀ v13 : Int, v13 = m11 169 (Int.toNat x1) → InI v13 → (InI v13 → K (some v13) m11))))) ∧ (¬ (¬ r9 = 0) → (InI 0 → K (some 0) (upm m8 143 0 3)))))) ∧ (¬ (¬ r7 = 0) → (InI 0 → K (some 0) (upm m6 143 0 2))))))))) ∧ (¬ (¬ r2 = 0) → (InI 0 → K (some 0) (upm m1 143 0 1)))))) : Wx C S M_342 K 0 [some (.inr 143), some (.inl x1), some (.inl x2), some (.inl x3)] [] mem := by
  refine Wx.aload_n hC te_342_0 rfl ?_
  refine Wx.aload_n hC te_342_1 rfl ?_
  refine Wx.iload_n hC te_342_2 rfl ?_
  refine Wx.virtI hC te_342_3 mt_235 (args := [.inr 143, .inl x1]) (rest := [.inr 143]) rfl rfl rfl rfl rfl rfl rfl rfl ?_
  refine CWI.mono hC (fun r2 m1 H hy => ?_) H
  replace H := H hy
  refine Wx.ifc hC (t := 13) te_342_6 (by decide) (fun q => ?_) (fun q => ?_)
  · replace H := H.1 q
    refine Wx.iload_n hC te_342_13 rfl ?_
    refine Wx.statI hC te_342_14 (by decide) mt_253 (args := [.inl x2]) (rest := [.inr 143]) rfl rfl rfl rfl rfl ?_
    refine CWI.mono hC (fun r4 m3 H hy => ?_) H
    replace H := H hy
    refine Wx.ifc hC (t := 30) te_342_17 (by decide) (fun q => ?_) (fun q => ?_)
    · replace H := H.1 q
      refine Wx.iconst hC te_342_30 rfl ?_
      refine Wx.goto hC (t := 47) te_342_31 (by decide) ?_
      refine Wx.putI hC te_342_47 rfl rfl rfl rfl ?_
      refine Wx.aload_n hC te_342_50 rfl ?_
      refine Wx.getI hC te_342_51 rfl rfl rfl (fun c5 e1 e2 => ?_)
      rw [upm_eq] at e1
      subst e1
      refine Wx.ifc hC (t := 59) te_342_54 (by decide) (fun q => absurd q (show ¬ ((2 : Int) ≤ 0) by decide)) (fun q => ?_)
      refine Wx.iconst hC te_342_57 rfl ?_
      exact Wx.ireturn hC te_342_58 rfl H
    · replace H := H.2 q
      refine Wx.iload_n hC te_342_20 rfl ?_
      refine Wx.iconst hC te_342_21 rfl ?_
      refine Wx.bipush hC te_342_22 rfl rfl ?_
      refine Wx.statI hC te_342_24 (by decide) mt_227 (args := [.inl x3, .inl 1, .inl 40]) (rest := [.inr 143]) rfl rfl rfl rfl rfl ?_
      refine CWI.mono hC (fun r7 m6 H hy => ?_) H
      replace H := H hy
      refine Wx.ifc hC (t := 34) te_342_27 (by decide) (fun q => ?_) (fun q => ?_)
      · replace H := H.1 q
        refine Wx.aload_n hC te_342_34 rfl ?_
        refine Wx.iload_n hC te_342_35 rfl ?_
        refine Wx.virtI hC te_342_36 mt_268 (args := [.inr 143, .inl x2]) (rest := [.inr 143]) rfl rfl rfl rfl rfl rfl rfl rfl ?_
        refine CWI.mono hC (fun r9 m8 H hy => ?_) H
        replace H := H hy
        refine Wx.ifc hC (t := 46) te_342_39 (by decide) (fun q => ?_) (fun q => ?_)
        · replace H := H.1 q
          refine Wx.iconst hC te_342_46 rfl ?_
          refine Wx.putI hC te_342_47 rfl rfl rfl rfl ?_
          refine Wx.aload_n hC te_342_50 rfl ?_
          refine Wx.getI hC te_342_51 rfl rfl rfl (fun c10 e1 e2 => ?_)
          rw [upm_eq] at e1
          subst e1
          refine Wx.ifc hC (t := 59) te_342_54 (by decide) (fun q => ?_) (fun q => absurd (show (0 : Int) ≤ 0 by decide) q)
          refine Wx.iload_n hC te_342_59 rfl ?_
          refine Wx.aload_n hC te_342_60 rfl ?_
          refine Wx.iload_n hC te_342_61 rfl ?_
          refine Wx.iload_n hC te_342_62 rfl ?_
          refine Wx.virtI hC te_342_63 mt_338 (args := [.inr 143, .inl x2, .inl x3]) (rest := [.inl x1]) rfl rfl rfl rfl rfl rfl rfl rfl ?_
          refine CWI.mono hC (fun r12 m11 H hy => ?_) H
          replace H := H hy
          refine Wx.icmp hC (t := 78) te_342_66 (by decide) (fun q => ?_) (fun q => ?_)
          · replace H := H.1 q
            refine Wx.iconst hC te_342_78 rfl ?_
            exact Wx.ireturn hC te_342_79 rfl H
          · replace H := H.2 q
            refine Wx.aload_n hC te_342_69 rfl ?_
            refine Wx.getR hC te_342_70 rfl rfl rfl ?_
            refine Wx.iload_n hC te_342_73 rfl ?_
            refine Wx.iald hC te_342_74 rfl H.1 (fun v13 e1 e2 => ?_)
            replace H := H.2 v13 e1 e2
            refine Wx.goto hC (t := 79) te_342_75 (by decide) ?_
            exact Wx.ireturn hC te_342_79 rfl H
        · replace H := H.2 q
          refine Wx.iconst hC te_342_42 rfl ?_
          refine Wx.goto hC (t := 47) te_342_43 (by decide) ?_
          refine Wx.putI hC te_342_47 rfl rfl rfl rfl ?_
          refine Wx.aload_n hC te_342_50 rfl ?_
          refine Wx.getI hC te_342_51 rfl rfl rfl (fun c14 e1 e2 => ?_)
          rw [upm_eq] at e1
          subst e1
          refine Wx.ifc hC (t := 59) te_342_54 (by decide) (fun q => absurd q (show ¬ ((3 : Int) ≤ 0) by decide)) (fun q => ?_)
          refine Wx.iconst hC te_342_57 rfl ?_
          exact Wx.ireturn hC te_342_58 rfl H
      · replace H := H.2 q
        refine Wx.iconst hC te_342_30 rfl ?_
        refine Wx.goto hC (t := 47) te_342_31 (by decide) ?_
        refine Wx.putI hC te_342_47 rfl rfl rfl rfl ?_
        refine Wx.aload_n hC te_342_50 rfl ?_
        refine Wx.getI hC te_342_51 rfl rfl rfl (fun c15 e1 e2 => ?_)
        rw [upm_eq] at e1
        subst e1
        refine Wx.ifc hC (t := 59) te_342_54 (by decide) (fun q => absurd q (show ¬ ((2 : Int) ≤ 0) by decide)) (fun q => ?_)
        refine Wx.iconst hC te_342_57 rfl ?_
        exact Wx.ireturn hC te_342_58 rfl H
  · replace H := H.2 q
    refine Wx.iconst hC te_342_9 rfl ?_
    refine Wx.goto hC (t := 47) te_342_10 (by decide) ?_
    refine Wx.putI hC te_342_47 rfl rfl rfl rfl ?_
    refine Wx.aload_n hC te_342_50 rfl ?_
    refine Wx.getI hC te_342_51 rfl rfl rfl (fun c16 e1 e2 => ?_)
    rw [upm_eq] at e1
    subst e1
    refine Wx.ifc hC (t := 59) te_342_54 (by decide) (fun q => absurd q (show ¬ ((1 : Int) ≤ 0) by decide)) (fun q => ?_)
    refine Wx.iconst hC te_342_57 rfl ?_
    exact Wx.ireturn hC te_342_58 rfl H
