/-! a body whole, and every method: what the pure machine says is a contract -/
section BDY
variable {p : Program} {l : Launch} {e : Env} {R : Room} {s : State} {m : MethodId} {args : Array Value} {below : List Frame} {meth : Method} {c : Code} {D : va_G} {cy : Nat → ClassId} {A : Nat → Prop} {b : Option Nat} {S : Nat × (Nat → Int32)} {M : PM} {ws0 : va_W} {Z : State → Prop} {n : Nat}
theorem body {C : Nat → List Value → PH → (Rs → PH → Prop) → Prop} {hd : List (Nat × Nat × Nat × Int)} {Q : Rs → PH → Prop} (hc : CX p l R s m args meth c D cy A b S M n) (hC : ∀ (μ : Nat) (N : PM) (av : List Value) (h : PH) (Q' : Rs → PH → Prop), MT[μ]? = some N → ¬ pK N = 4 → C μ av h Q' → CT l D cy b S n μ N av h Q')
    (hR : HRt p l e R s m args below meth c D cy A b M ws0 Z Q) (hX : HXt p l e R s m args below meth c D cy A b M ws0 Z hd Q) (hNw : HNt p l e R s m args below meth c D cy A b M ws0 Z hd Q) (hok : mOK M = true) {pc : Nat} {lv : LV} {st : List Value} {h : PH} {cl sl : Nat} (H : Vx C S M hd Q pc lv st h cl sl) : GD p l e R s m args below meth c D cy A b M ws0 Z pc lv st h cl sl := by
  refine H (GD p l e R s m args below meth c D cy A b M ws0 Z) ?_
  intro pc lv st h cl sl ⟨te, hte, H⟩
  have h1 := List.mem_of_find?_eq_some hte
  have h2 : te.1 = pc := by
    have h3 := List.find?_some hte
    simpa using h3
  have h4 := List.all_eq_true.mp hok te h1
  have h5 := stepI (p := p) (l := l) (e := e) (R := R) (s := s) (m := m) (args := args) (below := below) (meth := meth) (c := c) (D := D) (cy := cy) (A := A) (b := b) (S := S) (M := M) (ws0 := ws0) (Z := Z) (n := n) hc hC hR hX hNw (fun pc lv st h cl sl h9 => h9) h4 H
  rw [h2] at h5
  exact h5
end BDY
theorem sl_len : ∀ vs : List Value, (lg_sl vs).length = (vs.map Value.category).sum
  | [] => rfl
  | v :: vs => by
    have h := sl_len vs
    unfold lg_sl at h ⊢
    rw [List.flatMap_cons, List.length_append, h]
    rcases lv_cat v with q | q <;> simp [q]
theorem plain_all : ∀ M ∈ MT, plainFor (pY M) = true := by
  intro M hM
  obtain ⟨μ, hμ⟩ := List.getElem?_of_mem hM
  have hw := (MT_w hμ).1
  have hi := MT_info M hM
  simp only [mInf, Bool.and_eq_true, Bool.or_eq_true, bne_iff_ne, ne_eq, beq_iff_eq, decide_eq_true_eq] at hi
  obtain ⟨⟨⟨-, h13⟩, -⟩, h15⟩ := hi
  by_cases h : pO M = 13
  · have hd : (pY M).desc = "(II)I" := by
      rcases h13 with q | q
      · exact absurd h q
      · exact q
    have hc : (pY M).cls = "java/lang/Math" := by
      rw [h] at hw
      exact (Option.some.inj hw).symm
    exact Jvm.Free.JP.mathPlain hc (by rw [hd]; decide +kernel)
  · refine plainFor_of_name ?_
    have hall : ∀ k, k < 15 → k ≠ 13 → ∀ C, cnm[k]? = some C → Jvm.plainName C = true := by
      intro k hk hne C hC
      have hd : ∀ k, k < 15 → k ≠ 13 → Jvm.plainName (cnm.getD k "") = true := by decide +kernel
      have h2 := hd k hk hne
      rw [List.getD, hC] at h2
      exact h2
    exact hall _ h15 h _ hw
/-- a contract out of a body, the class's name aside -/
theorem px_of {l : Launch} {y : MethodName} {ws : List Cond} {rm : Room} {Pc : Array Value → State → Prop} {Qc : Array Value → State → Outcome → State → Prop} {XC : String → State → State → Prop} {mc ms : Nat} {free : Addr → Prop} {cc : ByteArray} {maxL : Nat} {ret : Option FieldType}
    (hy : plainFor y = true) (his : ∀ args (s : State) m, (headSpec ws rm).pre.before args s = true → s.methodNamed? y = some m → ∃ meth c, s.vm.method? m = some meth ∧ meth.code = some c ∧ c.code = cc ∧ c.maxLocals = maxL ∧ meth.sig.returnType = ret ∧ meth.locks = false)
    (body : ∀ p e s m args below meth c s₁, BodyLoose p l y (headSpec ws rm) cc maxL ret e s m args below meth c s₁ → c.maxLocals = maxL → Pc args s →
      W p l e (headSpec ws rm).room s m args below meth c s.heap [] 0 0 (vx_MQ below Qc XC args s mc ms free) (entryFrame m args maxL)) : vx_Met l y ws rm Pc Qc XC mc ms free := by
  refine MetFree.of_bodySF (code := cc) (maxLocals := maxL) (ret := ret) hy his ?_
  intro p e s m args below meth c s₁ B hml hP _
  have hh0 : s₁.heap = s.heap := by rw [B.state]; rfl
  obtain ⟨t, a1, o, b1, b2, b3⟩ := body p e s m args below meth c s₁ B hml hP s₁ hh0 (Stand.of_body B)
  exact ⟨t, o, a1, b1, b2, b3⟩
section FIN
variable {p : Program} {l : Launch} {e : Env} {R : Room} {s : State} {m : MethodId} {args : Array Value} {below : List Frame} {meth : Method} {c : Code} {D : va_G} {cy : Nat → ClassId} {b : Option Nat} {S : Nat × (Nat → Int32)} {M : PM} {ws0 : va_W} {n : Nat}
/-- the returns of a method -/
theorem hr_of {Q : Rs → PH → Prop} (hc : CX p l R s m args meth c D cy (va_A ws0 s.heap.size) b S M n) (hret : meth.sig.returnType = pR M) (hlocks : meth.locks = false) :
    HRt p l e R s m args below meth c D cy (va_A ws0 s.heap.size) b M ws0 (vx_MQ below (QcP D cy b ws0 s.heap.size Q) (XcP D cy b ws0 s.heap.size Q) args s (pC M) (pS M) (va_A ws0 s.heap.size)) Q := by
  obtain ⟨hx, hb, hmax, hown, hts, hXK, hA, hini, hRc, hRs, hRf, hRl, htr⟩ := hc
  intro i pc ls v v' h ws H locs cells slots hdg hok hq hro hI hcl hsl
  obtain ⟨hex, hrE, hP, hD, hS⟩ := hI
  refine W.widen hcl hsl (vx_ret ?_)
  have hQ : ∀ t : State, t.heap = H → s.WarmedH t.vm → QcP D cy b ws0 s.heap.size Q args s (.returned v') t := fun t ht _ => ⟨⟨v, v', h, ws, rfl, hq, hro, hex, hrE, by rw [ht]; exact hP, hD⟩, hS.F ht⟩
  cases i
  case ireturn =>
    rcases v with _ | (x | x | x | x | _ | x | x)
    · exact hok.elim
    · obtain ⟨t, ht, hn⟩ := hok
      obtain ⟨w, r, hv, hw, hr⟩ := hro
      cases v' with
      | none => cases hv
      | some v' =>
        cases hv
        cases (show w = .int x from hw)
        exact W.zret hx hb (hret.trans ht) hn hQ hS.2.2 hdg hlocks
    all_goals exact hok.elim
  case lreturn =>
    rcases v with _ | (x | x | x | x | _ | x | x)
    · exact hok.elim
    · exact hok.elim
    · obtain ⟨w, r, hv, hw, hr⟩ := hro
      cases v' with
      | none => cases hv
      | some v' =>
        cases hv
        cases (show w = .long x from hw)
        exact W.lret hx hb (hret.trans hok) hQ hS.2.2 hdg hlocks
    all_goals exact hok.elim
  case areturn =>
    rcases v with _ | (x | x | x | x | _ | x | x)
    · exact hok.elim
    · exact hok.elim
    · exact hok.elim
    · exact hok.elim
    · exact hok.elim
    · exact hok.elim
    · obtain ⟨t, ht⟩ := hok
      obtain ⟨w, r, hv, ⟨a, -, hw⟩, hr⟩ := hro
      cases v' with
      | none => cases hv
      | some v' =>
        cases hv
        cases hw
        exact W.aret hx hb (hret.trans ht) (Or.inl ⟨_, rfl⟩) (Or.inr ⟨_, rfl⟩) hQ hS.2.2 hdg hlocks
    · exact hok.elim
  case return_ =>
    cases v with
    | some v => cases v <;> exact hok.elim
    | none =>
      cases v' with
      | some v' => cases (show [v'] = [] from hro)
      | none => exact W.vret hx hb (hret.trans hok) hQ hS.2.2 hdg hlocks
  all_goals (rcases v with _ | (x | x | x | x | _ | x | x) <;> exact hok.elim)
end FIN
