/-! what holds of the heap between the law's calls, with what both sides tell of ops -/
def LM (h : PH) (m : MM) (g : Nat → Int64) : Prop := RA h ∧ h[173]? = some (.inl (1, 1, .inr (.inl g))) ∧ RH h h m
def LR (h : PH) : Prop := ∃ m g, LM h m g ∧ ClS m ∧ RefOK m ∧ RelB m
theorem RH.self {h0 h : PH} {mem : MM} (H : RH h0 h mem) : RH h h mem := ⟨fun _ _ => rfl, H.2⟩
theorem LM.step {h h' : PH} {m m' : MM} {g : Nat → Int64} (hL : LM h m g) (H : RH h h' m') : LM h' m' g := by
  obtain ⟨h1, h2, -⟩ := hL
  exact ⟨RA.at h1 H, by rw [H.1 173 rfl]; exact h2, H.self⟩
theorem LM.out {h : PH} {m : MM} {g g2 : Nat → Int64} (hL : LM h m g) : LM (h.set 173 (.inl (1, 1, .inr (.inl g2)))) m g2 := by
  obtain ⟨h1, h2, H⟩ := hL
  have hl := (List.getElem?_eq_some_iff.mp h2).1
  have e : ∀ A, ¬ A = 173 → (h.set 173 (.inl (1, 1, .inr (.inl g2))))[A]? = h[A]? := fun A q => List.getElem?_set_ne (fun z => q z.symm)
  refine ⟨?_, List.getElem?_set_self hl, ⟨fun _ _ => rfl, fun A s hA => ?_⟩⟩
  · unfold RA
    rw [e 37 (by decide), e 135 (by decide)]; exact h1
  · obtain ⟨y, a, b⟩ := H.2 A s hA
    exact ⟨y, by rw [e A (fun z => by rw [z] at hA; cases hA)]; exact a, b⟩
theorem LM.obj {h : PH} {m : MM} {g : Nat → Int64} (hL : LM h m g) {A ci : Nat} {fs : List (Option Nat)} (hA : shA A = some (.inr (ci, fs))) : ∃ gs, h[A]? = some (.inr (ci, gs)) := by
  obtain ⟨gs, g, -⟩ := hL.2.2.obj hA
  exact ⟨gs, g⟩
theorem callQM {S : Nat × (Nat → Int32)} {n μ : Nat} {args : List WV} {h : PH} {m : MM} {g : Nat → Int64} {K : Int → MM → Prop} {E : Nat → MM → Prop} (ha : ∀ v ∈ args, vOK v) (hL : LM h m g) (spec : CQI (Ex S n) μ args m K E) : Ex S n μ (args.map wv) h (fun r h' => (∃ y m', r = .inl (some (.int (Int32.ofInt y))) ∧ InI y ∧ LM h' m' g ∧ K y m') ∨ ∃ e m', r = .inr e ∧ LM h' m' g ∧ E e m') := by
  refine Ex.mono S n _ _ _ _ _ ?_ (spec ha h h hL.1 hL.2.2)
  rintro r h' ⟨x, m', rfl, k2, k3, k4⟩
  cases x with
  | inr e => exact Or.inr ⟨e, m', rfl, hL.step k3, k4⟩
  | inl o => cases o with
    | none => exact False.elim k4
    | some v => cases v with
      | inr A => exact False.elim k4
      | inl y => exact Or.inl ⟨y, m', rfl, k2, hL.step k3, k4⟩
theorem callQV {S : Nat × (Nat → Int32)} {n μ : Nat} {args : List WV} {h : PH} {m : MM} {g : Nat → Int64} {K : MM → Prop} {E : Nat → MM → Prop} (ha : ∀ v ∈ args, vOK v) (hL : LM h m g) (spec : CQV (Ex S n) μ args m K E) : Ex S n μ (args.map wv) h (fun r h' => (∃ m', r = .inl none ∧ LM h' m' g ∧ K m') ∨ ∃ e m', r = .inr e ∧ LM h' m' g ∧ E e m') := by
  refine Ex.mono S n _ _ _ _ _ ?_ (spec ha h h hL.1 hL.2.2)
  rintro r h' ⟨x, m', rfl, k2, k3, k4⟩
  cases x with
  | inr e => exact Or.inr ⟨e, m', rfl, hL.step k3, k4⟩
  | inl o => cases o with
    | some v => cases v <;> exact False.elim k4
    | none => exact Or.inl ⟨m', rfl, hL.step k3, k4⟩
def pRf (A _i : Nat) : Prop := 143 ≤ A
theorem CJ.e_ref {m m' : MM} (h : CJ m) (hF : Frm pRf m m') : CJ m' := by
  exact ⟨h.b.fr (fun A i a b => hF A i (by unfold pRf; omega)), h.w.fr (fun A i a b => hF A i (by unfold pRf; omega)), h.w2.fr (fun A i a b => hF A i (by unfold pRf; omega)), by rw [hF 19 0 (by unfold pRf; omega)]; exact h.r, h.hs.fr (fun A i a b => hF A i (by unfold pRf; omega)), fun o ho => by rw [hF 24 o (by unfold pRf; omega), hF 22 o (by unfold pRf; omega)]; exact h.us o ho, fun Q' hQ' => (h.ch Q' hQ').fr3 (fun A i q => hF A i (by have := hQ'.rg; unfold pRf; omega)), by rw [hF 0 10 (by unfold pRf; omega)]; exact h.so, by rw [hF 0 11 (by unfold pRf; omega)]; exact h.st⟩
theorem Rdy.e_ref {m m' : MM} (h : Rdy m) (hF : Frm pRf m m') : Rdy m' := by
  exact ⟨CJ.e_ref h.1 hF , ⟨by rw [hF 0 11 (by unfold pRf; omega)]; exact h.2.1.1, h.2.1.2.fr (fun A i q => hF A i (by unfold pRf; omega))⟩, by rw [hF 0 10 (by unfold pRf; omega)]; exact h.2.2.1, h.2.2.2.1.fr (fun A i q => hF A i (by unfold pRf; omega)), h.2.2.2.2.fr (fun A i a b => hF A i (by unfold pRf; omega))⟩
theorem RfC.e_ref {m m' : MM} (h : RfC m) (hF : Frm pRf m m') : RfC m' := by
  exact ⟨CJ.e_ref h.1 hF , by rw [hF 0 11 (by unfold pRf; omega)]; exact h.2.1, fun z => by
    rw [hF 0 10 (by unfold pRf; omega)] at z
    exact (h.2.2.1 z).fr (fun A i q => hF A i (by unfold pRf; omega)), SX.fr h.2.2.2 (hF 0 10 (by unfold pRf; omega)) (fun A i a b => hF A i (by unfold pRf; omega))⟩
theorem ClS.ref {m m' : MM} (h : ClS m) (hF : Frm pRf m m') : ClS m' := ⟨CJ.e_ref h.1 hF, fun a b => by
  rw [hF 0 11 (by unfold pRf; omega)] at a
  rw [hF 0 10 (by unfold pRf; omega)] at b
  exact ⟨(h.2.1 a b).1.fr (fun A i q => hF A i (by unfold pRf; omega)), (h.2.1 a b).2.fr (fun A i q => hF A i (by unfold pRf; omega))⟩, fun a => SX.fr (h.2.2 (by rw [hF 0 11 (by unfold pRf; omega)] at a; exact a)) (hF 0 10 (by unfold pRf; omega)) (fun A i a b => hF A i (by unfold pRf; omega))⟩
theorem RefOK.fr {m m' : MM} (h : RefOK m) (e : ∀ A i, 143 ≤ A → A ≤ 172 → m' A i = m A i) : RefOK m' :=
  Kp.rest (fun A i q => e A i (by omega) (by omega)) h (fun o ho => by rw [e 160 o (by omega) (by omega)]; exact h.sl o ho) (fun j hj => by rw [e _ _ (by omega) (by omega), e _ _ (by omega) (by omega), e _ _ (by omega) (by omega), e _ _ (by omega) (by omega)]; exact h.r48 j hj) (by rw [e 143 12 (by omega) (by omega)]; exact h.nd)
theorem p_call_mk {C : CXW} {M N : PM} {hd : List (Nat × Nat × Nat × Int)} {Q : Rs → PH → Prop} {K : Kt} {pc μ : Nat} {virt : Bool} {lv : LV} {av rest : List Value} {h : PH} {c s : Nat} (hN : MT[μ]? = some N) (hl : av.length = pN N) (hr : (rest.map Value.category).sum ≤ 8) (hc : c + pC N ≤ pC M) (hs : s + pS N ≤ pS M) (hv : virt = true → ∃ a fs, av[0]? = some (.ref a) ∧ h[a]? = some (.inr (pO N, fs))) (H : C μ av h (p_back M hd Q K pc lv rest (c + pC N) (s + pS N))) : p_call C M hd Q K pc μ virt lv (av.reverse ++ rest) h c s := by
  unfold p_call
  rw [hN]
  have el : av.reverse.length = pN N := by rw [List.length_reverse]; exact hl
  have e1 : (av.reverse ++ rest).take (pN N) = av.reverse := by rw [← el, List.take_left]
  have e2 : (av.reverse ++ rest).drop (pN N) = rest := by rw [← el, List.drop_left]
  simp only [e1, e2, List.reverse_reverse]
  refine ⟨by rw [List.length_append, el]; omega, hr, hc, hs, fun q => ?_, H⟩
  obtain ⟨a, fs, g1, g2⟩ := hv q
  exact ⟨a, fs, by rw [List.getLast?_reverse, List.head?_eq_getElem?]; exact g1, g2⟩
theorem vp00 : vp_in (Int32.ofInt 0) 1 := vp_in_iff.mpr (by decide)
theorem st_last {C : CXW} (hC : Cmono C) {S : Nat × (Nat → Int32)} {M : PM} {hd : List (Nat × Nat × Nat × Int)} {Q : Rs → PH → Prop} {pc : Nat} {lv : LV} {r : List Value} {h : PH} {c s : Nat} {x : Int64} {g : Nat → Int64} (ht : (pT M).find? (fun e => e.1 == pc) = some (pc, .lastore, 0, 0)) (hg : h[173]? = some (.inl (1, 1, .inr (.inl g)))) (H : ∀ g2 : Nat → Int64, g2 0 = x → Vx C S M hd Q (pc + 1) lv r (h.set 173 (.inl (1, 1, .inr (.inl g2)))) c s) : Vx C S M hd Q pc lv (.long x :: .int (Int32.ofInt 0) :: .ref 173 :: r) h c s := Vx.go hC ht (show p_last h _ (fun st h => Vx C S M hd Q (pc + 1) lv st h c s) from last_mk hg vp00 (H _ (by
  show vp_updL g (Int32.ofInt 0).toNatClampNeg x 0 = x
  rw [show (Int32.ofInt 0).toNatClampNeg = 0 by decide]
  unfold vp_updL
  simp)))
theorem LR.cls {h' : PH} {m m' : MM} {g' : Nat → Int64} (hL : LM h' m' g') (hr : RefOK m) (hb : RelB m) (hc : ClS m') (hF : Frm pNb m m') : LR h' := ⟨m', g', hL, hc, hr.fr (fun A i a b => hF A i (by unfold pNb; omega)), hb.fr (fun A i q => hF A i (by unfold pNb; omega))⟩
theorem LR.refq {h' : PH} {m m' : MM} {g' : Nat → Int64} (hL : LM h' m' g') (hc : ClS m) (hb : RelB m) (hr : RefOK m') (hF : FrQ m m') : LR h' := ⟨m', g', hL, hc.ref (fun A i q => hF A i (by unfold pRf at q; omega)), hr, hb.fr (fun A i q => hF A i (by omega))⟩
