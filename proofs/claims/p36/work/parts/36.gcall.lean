/-! the careful evaluator: calls, by what methods keep -/
/-- what a method keeps: its row; what holds at its start; what comes back: kind (0 nothing, 1 a number in a range, 2 a reference into a region, 3 a long) and two numbers; what it throws; what it may write; what holds when it comes back: key of an only cell, field, range -/
abbrev GC : Type := PM × GA × (Nat × Int × Int) × List Nat × WL × List (Nat × Nat × Int × Int)
def RxOK (rs : RS) (x : Nat × Int × Int) (v : Option Value) : Prop := match x.1 with
  | 0 => v = none
  | 1 => ∃ y : Int32, v = some (.int y) ∧ x.2.1 ≤ y.toInt ∧ y.toInt ≤ x.2.2
  | 2 => ∃ (q : List Nat × CS) (i A : Nat), rs[x.2.1.toNat]? = some q ∧ q.1[i]? = some A ∧ v = some (.ref A)
  | _ => ∃ y, v = some (.long y)
def PoOK (rs : RS) (l : List (Nat × Nat × Int × Int)) (h : PH) : Prop := ∀ x ∈ l, ∃ (q : List Nat × CS) (A : Nat) (y : Int32), rs[x.1 / 65536]? = some q ∧ isOne q.1 = true ∧ q.1[0]? = some A ∧ x.2.1 < 65536 ∧ cellAt h A x.2.1 (.int y) ∧ x.2.2.1 ≤ y.toInt ∧ y.toInt ≤ x.2.2.2
def CQ (rs : RS) (G : GC) (h : PH) : Rs → PH → Prop := fun r h2 => HW rs G.2.2.2.2.1 h h2 ∧ match r with
  | .inl v => RxOK rs G.2.2.1 v ∧ PoOK rs G.2.2.2.2.2 h2
  | .inr e => e ∈ G.2.2.2.1
/-- Iv: what is so of the heap whenever the method is called -/
def CtOK (Iv : PH → Prop) (rs : RS) (C : Nat → List Value → PH → (Rs → PH → Prop) → Prop) (μ : Nat) (G : GC) : Prop := MT[μ]? = some G.1 ∧ ∀ (θ : Nat → Int32) (args : List Value) (h : PH), eG θ G.2.1.1 → lG rs θ G.2.1.1.1 G.2.1.2.1 (lv_args 0 args) → (args.map Value.category).sum = pN G.1 → mG rs θ G.2.1.1.1 G.2.1.2.2.1 h → HOK rs h → Iv h → C μ args h (CQ rs G h)
noncomputable def gRecv (rs : RS) (virt : Bool) (o : Nat) (args : LW) : Bool := match virt with
  | false => true
  | true => (match args with
    | .inr (.inr (.retAddr e)) :: _ => (match kspec rs e with
      | some (_, .inr (.inr (.inr (cj, _)))) => Nat.beq cj o
      | _ => false)
    | _ => false)
def wKeep (wr : WL) (f : Nat × AV × AV) : Bool := wr.all fun x => !(Nat.beq x.1 (Nat.div f.1 65536)) || (!(Nat.beq x.2 0) && (match f.2.1 with
  | .inl j => !(bEq (j + 1) (.ofNat x.2))
  | _ => false))
noncomputable def mkeep (wr : WL) (m : MW) : (MW → Bool) → Bool := List.rec (fun k => k []) (fun f _ ih k => match wKeep wr f with
  | true => ih fun m => k (f :: m)
  | false => ih k) m
def wLe (wr2 wr : WL) : Bool := wr2.all fun x => wr.any fun y => Nat.beq y.1 x.1 && (Nat.beq y.2 0 || Nat.beq y.2 x.2)
noncomputable def gPost (l : List (Nat × Nat × Int × Int)) : EW → MW → (EW → MW → Bool) → Bool := List.rec (fun env m k => k env m) (fun x _ ih env m k => frs env x.2.2.1 x.2.2.2 fun env v => ih env ((x.1, .inl (.ofNat x.2.1), v) :: m) k) l
noncomputable def gRes (rs : RS) (x : Nat × Int × Int) (env : EW) (rst : LW) (k : EW → LW → Bool) : Bool := match x.1 with
  | 0 => k env rst
  | 1 => frs env x.2.1 x.2.2 fun env v => k env (v :: rst)
  | 2 => (match lget rs x.2.1.toNat with
    | some q => (match isOne q.1 with
      | true => natF (x.2.1.toNat * 65536 + 65535) fun e => k env (aC e :: rst)
      | false => (match Nat.blt env.1 65535 && Nat.blt q.1.length 2147483648 with
        | true => frs env 0 (.ofNat q.1.length) fun env2 _ => natF (x.2.1.toNat * 65536 + env.1) fun e => k env2 (aC e :: rst)
        | false => false))
    | none => false)
  | _ => k env (.inr (.inr (.double 0)) :: rst)
noncomputable def gFit (X : GX) (G : GC) (env : EW) (st : LW) (m : MW) (c s : Nat) (virt : Bool) : Bool := tkr (pN G.1) st [] fun args rst => match (args.all plain1 && Nat.ble (cats rst) 8) && ((Nat.ble (c + pC G.1) (pC X.1) && Nat.ble (s + pS G.1) (pS X.1)) && (wLe G.2.2.2.2.1 X.2.2.2 && gRecv X.2.2.1 virt (pO G.1) args)) with
  | true => sgA G.2.1 env args m fun _ => true
  | false => false
noncomputable def gDo (X : GX) (G : GC) (ret : GR) (pc : Nat) (env : EW) (st : LW) (m : MW) (c s : Nat) (go : EW → LW → MW → Nat → Nat → Bool) : Bool := tkr (pN G.1) st [] fun _ rst => mkeep G.2.2.2.2.1 m fun m => match G.2.2.2.1.all fun e => ret env (wBack X.2.1 pc e) m with
  | true => natF (c + pC G.1) fun c1 => natF (s + pS G.1) fun s1 => gPost G.2.2.2.2.2 env m fun env m => gRes X.2.2.1 G.2.2.1 env rst fun env st => go env st m c1 s1
  | false => false
noncomputable def gCall (X : GX) (cs : List (Nat × GC)) (ret : GR) (pc : Nat) (env : EW) (st : LW) (m : MW) (c s μ : Nat) (virt : Bool) (go : EW → LW → MW → Nat → Nat → Bool) : Bool := List.rec false (fun G _ ih => match Nat.beq G.1 μ && gFit X G.2 env st m c s virt with
  | true => gDo X G.2 ret pc env st m c s go
  | false => ih) cs
section GCALL
variable {rs : RS} {θ : Nat → Int32} {env : EW} {n : Nat} {wr wr2 : WL} {h0 h h2 : PH}
theorem wLe_ok (H : wLe wr2 wr = true) {k f : Nat} (h : wIn wr2 k f) : wIn wr k f := by
  obtain ⟨x, hx, h1, h2⟩ := h
  unfold wLe at H
  rw [List.all_eq_true] at H
  have := H x hx
  rw [List.any_eq_true] at this
  obtain ⟨y, hy, q⟩ := this
  rw [Bool.and_eq_true, Bool.or_eq_true, beq_iff, beq_iff, beq_iff] at q
  exact ⟨y, hy, q.1.trans h1, by omega⟩
theorem HW.tr (H : wLe wr2 wr = true) (a : HW rs wr h0 h) (b : HW rs wr2 h h2) : HW rs wr h0 h2 :=
  ⟨b.1, fun k q i A h1 h2 f w hw hc => b.2 k q i A h1 h2 f w (fun p => hw (wLe_ok H p)) (a.2 k q i A h1 h2 f w hw hc)⟩
theorem wKeep_ok {f : Nat × AV × AV} {j : Int32} (H : wKeep wr f = true) (hv : vG rs θ n f.2.1 (.int j)) (hj : 0 ≤ j.toInt) : ¬ wIn wr (f.1 / 65536) j.toInt.toNat := by
  rintro ⟨x, hx, h1, h2⟩
  unfold wKeep at H
  rw [List.all_eq_true] at H
  have q := H x hx
  rw [Bool.or_eq_true, Bool.and_eq_true, Bool.not_eq_true', Bool.not_eq_true'] at q
  rcases q with q | ⟨q1, q2⟩
  · rw [show Nat.beq x.1 (Nat.div f.1 65536) = true from beq_iff.mpr h1] at q; cases q
  · split at q2
    · rename_i z hz
      rw [hz] at hv
      obtain ⟨y, e1, e2⟩ := hv
      cases e1
      rcases h2 with h2 | h2
      · rw [show Nat.beq x.2 0 = true from beq_iff.mpr h2] at q1; cases q1
      · rw [Bool.not_eq_true'] at q2
        have : bEq (z + 1) (.ofNat x.2) = true := by
          rw [bEq_iff]
          show z + 1 = (x.2 : Int)
          omega
        rw [this] at q2; cases q2
    · cases q2
theorem mkeep_ok : ∀ {m : MW} {k : MW → Bool}, mkeep wr m k = true → ∃ m2, k m2 = true ∧ ∀ f ∈ m2, f ∈ m ∧ wKeep wr f = true
  | [], k, H => ⟨[], H, fun f hf => by cases hf⟩
  | g :: m, k, H => by
    have H : (match wKeep wr g with | true => mkeep wr m fun m => k (g :: m) | false => mkeep wr m k) = true := H
    split at H
    · rename_i q
      obtain ⟨m2, g1, g2⟩ := mkeep_ok H
      refine ⟨_, g1, fun f hf => ?_⟩
      rcases List.mem_cons.mp hf with rfl | hf
      · exact ⟨List.mem_cons_self, q⟩
      · exact ⟨List.mem_cons_of_mem _ (g2 f hf).1, (g2 f hf).2⟩
    · obtain ⟨m2, g1, g2⟩ := mkeep_ok H
      exact ⟨m2, g1, fun f hf => ⟨List.mem_cons_of_mem _ (g2 f hf).1, (g2 f hf).2⟩⟩
theorem mG.kept {m m2 : MW} (H : mG rs θ n m h) (hm : ∀ f ∈ m2, f ∈ m ∧ wKeep wr f = true) (hw : wrR rs wr h h2) : mG rs θ n m2 h2 := by
  intro f hf
  obtain ⟨A, j, w, g1, g2, g3, g4, g5⟩ := H f (hm f hf).1
  obtain ⟨q, i, e1, e2, -⟩ := g1.get
  exact ⟨A, j, w, g1, g2, g3, hw _ q i A e1 e2 _ w (wKeep_ok (hm f hf).2 g2 g3) g4, g5⟩
theorem i32nat {f : Nat} (hf : f < 65536) : (Int32.ofNat f).toInt = (f : Int) := Int32.toInt_ofNat_of_lt (by omega)
theorem gPost_ok : ∀ {l : List (Nat × Nat × Int × Int)} {env : EW} {θ : Nat → Int32} {m : MW} {k : EW → MW → Bool}, eG θ env → mG rs θ env.1 m h → PoOK rs l h → gPost l env m k = true → ∃ env2 m2 θ2, k env2 m2 = true ∧ Ext θ env.1 θ2 env2.1 ∧ eG θ2 env2 ∧ mG rs θ2 env2.1 m2 h
  | [], env, θ, m, k, he, hm, _, H => ⟨env, m, θ, H, Ext.rf, he, hm⟩
  | x :: l, env, θ, m, k, he, hm, hp, H => by
    have H : (frs env x.2.2.1 x.2.2.2 fun env v => gPost l env ((x.1, .inl (.ofNat x.2.1), v) :: m) k) = true := H
    obtain ⟨q, A, y, p1, p2, p3, p4, p5, p6, p7⟩ := hp x List.mem_cons_self
    obtain ⟨env2, a, θ2, H, hx, he2, hv⟩ := frs_ok (rs := rs) he p6 p7 H
    have hm2 : mG rs θ2 env2.1 ((x.1, .inl (.ofNat x.2.1), a) :: m) h := by
      refine mG.cons (hm.ext hx) (A := A) (j := Int32.ofNat x.2.1) (w := .int y) ⟨q, p1, Or.inl ⟨p2, p3⟩⟩ ⟨_, rfl, i32nat p4⟩ (by rw [i32nat p4]; omega) ?_ hv
      rw [i32nat p4]
      exact p5
    obtain ⟨env3, m3, θ3, H, hx3, he3, hm3⟩ := gPost_ok he2 hm2 (fun x hx => hp x (List.mem_cons_of_mem _ hx)) H
    exact ⟨env3, m3, θ3, H, ⟨Nat.le_trans hx.1 hx3.1, fun t ht => (hx3.2 t (Nat.lt_of_lt_of_le ht hx.1)).trans (hx.2 t ht)⟩, he3, hm3⟩
theorem gRes_ok {x : Nat × Int × Int} {rst : LW} {rst' : List Value} {v : Option Value} {k : EW → LW → Bool} (he : eG θ env) (hr : A2 (vG rs θ env.1) rst rst') (hv : RxOK rs x v) (H : gRes rs x env rst k = true) : ∃ env2 st2 θ2, k env2 st2 = true ∧ Ext θ env.1 θ2 env2.1 ∧ eG θ2 env2 ∧ A2 (vG rs θ2 env2.1) st2 (v.toList ++ rst') := by
  unfold gRes at H
  unfold RxOK at hv
  split at H
  · rename_i e; rw [e] at hv
    have hv : v = none := hv
    subst hv
    exact ⟨env, rst, θ, H, Ext.rf, he, hr⟩
  · rename_i e; rw [e] at hv
    obtain ⟨y, rfl, h1, h2⟩ := hv
    obtain ⟨env2, a, θ2, H, hx, he2, hv⟩ := frs_ok (rs := rs) he h1 h2 H
    exact ⟨env2, _, θ2, H, hx, he2, ⟨_, _, rfl, hv, hr.gext hx⟩⟩
  · rename_i e; rw [e] at hv
    obtain ⟨q, i, A, h1, h2, rfl⟩ := hv
    rw [lget_eq, h1] at H
    simp only at H
    split at H
    · rename_i ho
      have hi : i = 0 := by
        unfold isOne at ho
        split at ho
        · rename_i z hz
          have := (List.getElem?_eq_some_iff.mp h2).1
          rw [hz] at this
          simp at this
          exact this
        · cases ho
      subst hi
      refine ⟨env, _, θ, natF_ok H, Ext.rf, he, ⟨_, _, rfl, ⟨A, ⟨q, ?_, Or.inl ⟨ho, h2⟩⟩, rfl⟩, hr⟩⟩
      rw [show (x.2.1.toNat * 65536 + 65535) / 65536 = x.2.1.toNat by omega]; exact h1
    · rename_i ho
      split at H
      · rename_i hb
        rw [Bool.and_eq_true, blt_iff, blt_iff] at hb
        have hil := (List.getElem?_eq_some_iff.mp h2).1
        have hti : (Int32.ofNat i).toInt = (i : Int) := Int32.toInt_ofNat_of_lt (by omega)
        have H := natF_ok (iF_ok (iF_ok H))
        have hx : Ext θ env.1 (th θ env.1 (Int32.ofNat i)) (env.1 + 1) := ⟨by omega, fun t ht => by unfold th; rw [if_neg (by omega)]⟩
        obtain ⟨env2, a, θ2, H2, hx2, he2, hv2⟩ := frs_ok (rs := rs) (k := fun e _ => decide (e = (env.1 + 1, (0, Int.ofNat q.1.length) :: env.2))) he (v := Int32.ofNat i) (lo := 0) (hi := Int.ofNat q.1.length) (by omega) (by show _ ≤ (q.1.length : Int); omega) (by unfold frs; cases hl : q.1.length <;> simp [iF, natF])
        have H2 := of_decide_eq_true H2
        subst H2
        refine ⟨_, _, th θ env.1 (Int32.ofNat i), natF_ok H, hx, ?_, ⟨_, _, rfl, ⟨A, ?_, rfl⟩, hr.gext hx⟩⟩
        · refine ⟨by simp [he.1], fun j r hj => ?_⟩
          cases j with
          | zero =>
            simp at hj
            subst hj
            have : (th θ env.1 (Int32.ofNat i) (env.1 + 1 - 1 - 0)) = Int32.ofNat i := by unfold th; rw [if_pos (by omega)]
            simp only
            rw [this, hti]
            exact ⟨by omega, by show _ ≤ (q.1.length : Int); omega⟩
          | succ j =>
            have hj : env.2[j]? = some r := by simpa using hj
            have hl := (List.getElem?_eq_some_iff.mp hj).1
            have := he.2 j r hj
            have e3 : th θ env.1 (Int32.ofNat i) (env.1 + 1 - 1 - (j + 1)) = θ (env.1 - 1 - j) := by
              have : env.2.length = env.1 := he.1
              unfold th; rw [if_neg (by omega)]; congr 1; omega
            simp only
            rw [e3]; exact this
        · have e1 : (x.2.1.toNat * 65536 + env.1) / 65536 = x.2.1.toNat := by omega
          have e2 : (x.2.1.toNat * 65536 + env.1) % 65536 = env.1 := by omega
          refine ⟨q, by rw [e1]; exact h1, Or.inr ⟨ho, by rw [e2]; simp, ?_, ?_⟩⟩
          · rw [e2]; unfold th; rw [if_pos rfl, hti]; omega
          · rw [e2]; unfold th; rw [if_pos rfl, hti]; simpa using h2
      · cases H
  · rename_i e1 e2 e3
    split at hv
    · rename_i e; exact absurd e e1
    · rename_i e; exact absurd e e2
    · rename_i e; exact absurd e e3
    · obtain ⟨y, rfl⟩ := hv
      exact ⟨env, _, θ, H, Ext.rf, he, ⟨_, _, rfl, ⟨y, rfl⟩, hr⟩⟩
theorem lG_args {l : LW} {l' : List Value} (h : A2 (vG rs θ n) l l') (hw : ∀ x ∈ l, w1 x = true) (hp : l.all plain1 = true) : lG rs θ n l (lv_args 0 l') := by
  have hc : ∀ v ∈ l', v.category = 1 := by
    intro v hv
    obtain ⟨i, hi⟩ := List.mem_iff_getElem?.mp hv
    have hl : i < l.length := by rw [← h.len]; exact (List.getElem?_eq_some_iff.mp hi).1
    obtain ⟨w, g1, g2⟩ := h.get (List.getElem?_eq_getElem hl)
    rw [g1] at hi
    cases hi
    exact g1_ok (hw _ (List.getElem_mem hl)) g2
  intro i v hv
  obtain ⟨w, h1, h2⟩ := h.get hv
  refine ⟨List.all_eq_true.mp hp v (List.mem_of_getElem? hv), Or.inr ⟨w, ?_, h2⟩⟩
  have := pg_args (k := 0) hc h1
  rwa [Nat.zero_add] at this
end GCALL
