/-! what holds of the heap between the law's calls -/
def pRf (A _i : Nat) : Prop := 143 ≤ A
theorem CJ.e_ref {m m' : MM} (h : CJ m) (hF : Frm pRf m m') : CJ m' := by
  exact ⟨h.b.fr (fun A i a b => hF A i (by unfold pRf; omega)), h.w.fr (fun A i a b => hF A i (by unfold pRf; omega)), h.w2.fr (fun A i a b => hF A i (by unfold pRf; omega)), by rw [hF 19 0 (by unfold pRf; omega)]; exact h.r, h.hs.fr (fun A i a b => hF A i (by unfold pRf; omega)), fun o ho => by rw [hF 24 o (by unfold pRf; omega), hF 22 o (by unfold pRf; omega)]; exact h.us o ho, fun Q' hQ' => (h.ch Q' hQ').fr3 (fun A i q => hF A i (by have := hQ'.rg; unfold pRf; omega)), by rw [hF 0 10 (by unfold pRf; omega)]; exact h.so, by rw [hF 0 11 (by unfold pRf; omega)]; exact h.st⟩
theorem Rdy.e_ref {m m' : MM} (h : Rdy m) (hF : Frm pRf m m') : Rdy m' := by
  exact ⟨CJ.e_ref h.1 hF , by rw [hF 0 11 (by unfold pRf; omega)]; exact h.2.1, by rw [hF 0 10 (by unfold pRf; omega)]; exact h.2.2.1, h.2.2.2.fr (fun A i q => hF A i (by unfold pRf; omega))⟩
theorem RfC.e_ref {m m' : MM} (h : RfC m) (hF : Frm pRf m m') : RfC m' := by
  exact ⟨CJ.e_ref h.1 hF , by rw [hF 0 11 (by unfold pRf; omega)]; exact h.2.1, fun z => by
    rw [hF 0 10 (by unfold pRf; omega)] at z
    exact (h.2.2 z).fr (fun A i q => hF A i (by unfold pRf; omega))⟩
theorem ClS.ref {m m' : MM} (h : ClS m) (hF : Frm pRf m m') : ClS m' := ⟨CJ.e_ref h.1 hF, fun a b => by
  rw [hF 0 11 (by unfold pRf; omega)] at a
  rw [hF 0 10 (by unfold pRf; omega)] at b
  exact (h.2 a b).fr (fun A i q => hF A i (by unfold pRf; omega))⟩
theorem RefOK.fr {m m' : MM} (h : RefOK m) (e : ∀ A i, 143 ≤ A → A ≤ 172 → m' A i = m A i) : RefOK m' :=
  Kp.rest (fun A i q => e A i (by omega) (by omega)) h (fun o ho => by rw [e 160 o (by omega) (by omega)]; exact h.sl o ho) (fun j hj => by rw [e _ _ (by omega) (by omega), e _ _ (by omega) (by omega), e _ _ (by omega) (by omega), e _ _ (by omega) (by omega)]; exact h.r48 j hj) (by rw [e 143 12 (by omega) (by omega)]; exact h.nd)
def LI (h : PH) : Prop := RA h ∧ (∃ g : Nat → Int64, h[173]? = some (.inl (1, 1, .inr (.inl g)))) ∧ ∃ mem, RH h h mem ∧ ClS mem ∧ RefOK mem
theorem RH.self {h0 h : PH} {mem : MM} (H : RH h0 h mem) : RH h h mem := ⟨fun _ _ => rfl, H.2⟩
theorem LI.step {h h' : PH} {mem : MM} (hL : LI h) (H : RH h h' mem) (hc : ClS mem) (hr : RefOK mem) : LI h' := by
  obtain ⟨h1, ⟨g, h2⟩, -⟩ := hL
  refine ⟨RA.at h1 H, ⟨g, ?_⟩, mem, H.self, hc, hr⟩
  rw [H.1 173 rfl]; exact h2
theorem LI.out {h : PH} {g : Nat → Int64} (hL : LI h) : LI (h.set 173 (.inl (1, 1, .inr (.inl g)))) := by
  obtain ⟨h1, ⟨g0, h2⟩, mem, H, hc, hr⟩ := hL
  have hl := (List.getElem?_eq_some_iff.mp h2).1
  have e : ∀ A, ¬ A = 173 → (h.set 173 (.inl (1, 1, .inr (.inl g))))[A]? = h[A]? := fun A q => List.getElem?_set_ne (fun z => q z.symm)
  refine ⟨?_, ⟨g, List.getElem?_set_self hl⟩, mem, ⟨fun _ _ => rfl, fun A s hA => ?_⟩, hc, hr⟩
  · unfold RA
    rw [e 37 (by decide), e 135 (by decide)]; exact h1
  · obtain ⟨y, a, b⟩ := H.2 A s hA
    exact ⟨y, by rw [e A (fun z => by rw [z] at hA; cases hA)]; exact a, b⟩
/-- a call of the class -/
theorem cls_call {S : Nat × (Nat → Int32)} {n μ : Nat} {args : List WV} {h : PH} {es : Nat → Prop} (ha : ∀ v ∈ args, vOK v) (hL : LI h) (spec : ∀ mem, ClS mem → CQI (Ex S n) μ args mem (fun _ m' => ClS m' ∧ Frm pCl mem m') (fun e m' => es e ∧ ClS m' ∧ Frm pCl mem m')) : Ex S n μ (args.map wv) h (fun r h' => LI h' ∧ ((∃ y, r = .inl (some (.int y))) ∨ ∃ e, es e ∧ r = .inr e)) := by
  obtain ⟨h1, h2, mem, H, hc, hr⟩ := hL
  refine Ex.mono S n _ _ _ _ _ ?_ (spec mem hc ha h h h1 H)
  rintro r h' ⟨x, m, rfl, k2, k3, k4⟩
  have hL : LI h := ⟨h1, h2, mem, H, hc, hr⟩
  cases x with
  | inr e =>
    have k4 : es e ∧ ClS m ∧ Frm pCl mem m := k4
    exact ⟨hL.step k3 k4.2.1 (hr.fr (fun A i a b => k4.2.2 A i (by unfold pCl; omega))), Or.inr ⟨e, k4.1, rfl⟩⟩
  | inl o => cases o with
    | none => exact False.elim k4
    | some v => cases v with
      | inr A => exact False.elim k4
      | inl y =>
        have k4 : ClS m ∧ Frm pCl mem m := k4
        exact ⟨hL.step k3 k4.1 (hr.fr (fun A i a b => k4.2 A i (by unfold pCl; omega))), Or.inl ⟨_, rfl⟩⟩
/-- a call of the reference -/
theorem ref_call {S : Nat × (Nat → Int32)} {n μ : Nat} {args : List WV} {h : PH} (ha : ∀ v ∈ args, vOK v) (hL : LI h) (spec : ∀ mem, RefOK mem → CWI (Ex S n) μ args mem (fun _ m' => RefOK m' ∧ FrQ mem m')) : Ex S n μ (args.map wv) h (fun r h' => LI h' ∧ ∃ y, r = .inl (some (.int y))) := by
  obtain ⟨h1, h2, mem, H, hc, hr⟩ := hL
  refine Ex.mono S n _ _ _ _ _ ?_ (spec mem hr ha h h H)
  rintro r h' ⟨x, m, rfl, k2, k3, y, rfl, k5, k6⟩
  have hL : LI h := ⟨h1, h2, mem, H, hc, hr⟩
  exact ⟨hL.step k3 (hc.ref (fun A i q => k6 A i (by unfold pRf at q; omega))) k5, _, rfl⟩
theorem p_call_mk {C : CXW} {M N : PM} {hd : List (Nat × Nat × Nat × Int)} {Q : Rs → PH → Prop} {K : Kt} {pc μ : Nat} {virt : Bool} {lv : LV} {av rest : List Value} {h : PH} {c s : Nat} (hN : MT[μ]? = some N) (hl : av.length = pN N) (hr : (rest.map Value.category).sum ≤ 8) (hc : c + pC N ≤ pC M) (hs : s + pS N ≤ pS M) (hv : virt = true → ∃ a fs, av[0]? = some (.ref a) ∧ h[a]? = some (.inr (pO N, fs))) (H : C μ av h (p_back M hd Q K pc lv rest (c + pC N) (s + pS N))) : p_call C M hd Q K pc μ virt lv (av.reverse ++ rest) h c s := by
  unfold p_call
  rw [hN]
  have el : av.reverse.length = pN N := by rw [List.length_reverse]; exact hl
  have e1 : (av.reverse ++ rest).take (pN N) = av.reverse := by rw [← el, List.take_left]
  have e2 : (av.reverse ++ rest).drop (pN N) = rest := by rw [← el, List.drop_left]
  simp only [e1, e2, List.reverse_reverse]
  refine ⟨by rw [List.length_append, el]; omega, hr, hc, hs, fun q => ?_, H⟩
  obtain ⟨a, fs, g1, g2⟩ := hv q
  exact ⟨a, fs, by rw [List.getLast?_reverse, List.head?_eq_getElem?]; exact g1, g2⟩
theorem LI.obj {h : PH} (hL : LI h) {A ci : Nat} {fs : List (Option Nat)} (hA : shA A = some (.inr (ci, fs))) : ∃ gs, h[A]? = some (.inr (ci, gs)) := by
  obtain ⟨-, -, mem, H, -⟩ := hL
  obtain ⟨gs, g, -⟩ := H.obj hA
  exact ⟨gs, g⟩
