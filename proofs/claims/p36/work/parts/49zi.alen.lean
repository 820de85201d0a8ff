/-! the length of a row -/
theorem Wx.alen {C : CXW} (hC : Cmono C) {S : Nat × (Nat → Int32)} {M : PM} {K : WK} {pc : Nat} {L : List (Option WV)} {st : List WV} {mem : MM} {a b A n : Nat} (ht : (pT M).find? (fun e => e.1 == pc) = some (pc, .arraylength, a, b)) (hA : shA A = some (.inl n)) (hI : InI (n : Int)) (H : Wx C S M K (pc + 1) L (.inl (n : Int) :: st) mem) : Wx C S M K pc L (.inr A :: st) mem :=
  Wx.go hC ht fun h0 lv h h1 h2 h3 => by
    obtain ⟨g, e1, e2⟩ := h3.row hA
    show p_alen S h (.ref A :: st.map wv) fun st => Vx C S M [] (QK h0 K) (pc + 1) lv st h 0 0
    refine alen_mk e1 (by omega) ?_
    have := H h0 lv h h1 (stc hI (fun u hu => h2 u (List.mem_cons_of_mem _ hu))) h3
    rw [List.map_cons, show wv (.inl (n : Int)) = .int (Int32.ofNat n) from rfl] at this
    exact this
theorem Wx.putB {C : CXW} (hC : Cmono C) {S : Nat × (Nat → Int32)} {M : PM} {K : WK} {pc : Nat} {L : List (Option WV)} {st : List WV} {mem : MM} {p A ci f : Nat} {fs : List (Option Nat)} {x : Int} (ht : (pT M).find? (fun e => e.1 == pc) = some (pc, .putfield p, ci, f)) (hA : shA A = some (.inr (ci, fs))) (hf : fs[f]? = some none) (hn : Nat.blt f (fnum ci) = true) (hy : ftyX ci f = .boolean) (hx : x = 0 ∨ x = 1) (H : Wx C S M K (pc + 3) L st (upm mem A f x)) : Wx C S M K pc L (.inl x :: .inr A :: st) mem :=
  Wx.go hC ht fun h0 lv h h1 h2 h3 => by
    obtain ⟨gs, e1, e0, e2⟩ := h3.obj hA
    have hfl : f < gs.length := by rw [e0]; exact (List.getElem?_eq_some_iff.mp hf).1
    have hI : InI x := h2 _ List.mem_cons_self
    show p_put h ci f (.int (Int32.ofInt x) :: .ref A :: st.map wv) fun st h => Vx C S M [] (QK h0 K) (pc + 3) lv st h 0 0
    refine put_mk e1 (blt_iff.mp hn) hfl (by rw [hy]; rcases hx with e | e <;> subst e <;> rfl) (by rw [hy]; rcases hx with e | e <;> subst e <;> rfl) ?_
    have := h3.setObj (x := Int32.ofInt x) hA hf e1
    rw [wi hI] at this
    exact H h0 lv _ h1 (fun u hu => h2 u (List.mem_cons_of_mem _ (List.mem_cons_of_mem _ hu))) this
theorem Wx.statV {C : CXW} (hC : Cmono C) {S : Nat × (Nat → Int32)} {M : PM} {K : WK} {pc : Nat} {L : List (Option WV)} {st : List WV} {mem : MM} {p μ b : Nat} {N : PM} {args rest : List WV} (ht : (pT M).find? (fun e => e.1 == pc) = some (pc, .invokestatic p, μ, b)) (hb : b ≠ 7) (hN : MT[μ]? = some N) (hst : st = args.reverse ++ rest) (hl : args.length = pN N) (hr : Nat.ble rest.length 8 = true) (hc : pC N = 0) (hs : pS N = 0) (H : CWV C μ args mem fun m => Wx C S M K (pc + 3) L rest m) : Wx C S M K pc L st mem := by
  subst hst
  exact Wx.go hC ht fun h0 lv h h1 h2 h3 => Or.inr ⟨hb, Wx.call hC hN hl hr hc hs (fun q => by cases q) H (fun r m ⟨e, q⟩ _ => by subst e; exact q) h1 h2 h3⟩
