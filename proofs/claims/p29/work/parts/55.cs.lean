/-! the class between its calls: what holds, and what each part of it leaves -/
theorem ChtOK.fr3 {m m' : MM} {Q : Nat} (h : ChtOK m Q) (e : ∀ A i, (A = Q ∧ 0 < i ∧ i < 4) ∨ (Q < A ∧ A ≤ Q + 3) → m' A i = m A i) : ChtOK m' Q := by
  refine ⟨?_, fun o ho => ?_⟩
  · rw [e Q 1 (by omega), e Q 2 (by omega), e Q 3 (by omega)]; exact h.1
  · rw [e (Q + 1) o (by omega), e (Q + 2) o (by omega), e (Q + 3) o (by omega)]; exact h.2 o ho
theorem HsOK.fr {m m' : MM} (h : HsOK m) (e : ∀ A i, 129 ≤ A → A ≤ 133 → m' A i = m A i) : HsOK m' := by
  obtain ⟨h1, h2, h3, h4⟩ := h
  refine ⟨fun o ho => ?_, ?_, ?_, ?_⟩
  · rw [e 130 o (by omega) (by omega), e 131 o (by omega) (by omega)]; exact h1 o ho
  · rw [e 129 0 (by omega) (by omega)]; exact h2
  · rw [e 129 1 (by omega) (by omega)]; exact h3
  · rw [e 129 2 (by omega) (by omega)]; exact h4
/-- two charts are one, or apart -/
theorem ChSh.ap {Q Q' : Nat} (h : ChSh Q) (h' : ChSh Q') : Q = Q' ∨ Q + 7 ≤ Q' ∨ Q' + 7 ≤ Q := by
  obtain ⟨⟨k, h1, h2⟩, -⟩ := h
  obtain ⟨⟨k', h1', h2'⟩, -⟩ := h'
  omega
def CJ (m : MM) : Prop := BodyOK m ∧ WbOK m 9 ∧ WbOK m 14 ∧ (0 ≤ m 19 0 ∧ m 19 0 ≤ 8) ∧ HsOK m ∧ (∀ o, o < 8 → (0 ≤ m 24 o ∧ m 24 o ≤ 2) ∧ 0 ≤ m 22 o ∧ m 22 o ≤ 11) ∧ (∀ Q, ChSh Q → ChtOK m Q) ∧ (0 ≤ m 0 10 ∧ m 0 10 ≤ 1) ∧ 0 ≤ m 0 11 ∧ m 0 11 ≤ 1
theorem CJ.b {m : MM} (h : CJ m) : BodyOK m := h.1
theorem CJ.w {m : MM} (h : CJ m) : WbOK m 9 := h.2.1
theorem CJ.w2 {m : MM} (h : CJ m) : WbOK m 14 := h.2.2.1
theorem CJ.r {m : MM} (h : CJ m) : 0 ≤ m 19 0 ∧ m 19 0 ≤ 8 := h.2.2.2.1
theorem CJ.hs {m : MM} (h : CJ m) : HsOK m := h.2.2.2.2.1
theorem CJ.us {m : MM} (h : CJ m) : ∀ o, o < 8 → (0 ≤ m 24 o ∧ m 24 o ≤ 2) ∧ 0 ≤ m 22 o ∧ m 22 o ≤ 11 := h.2.2.2.2.2.1
theorem CJ.ch {m : MM} (h : CJ m) : ∀ Q, ChSh Q → ChtOK m Q := h.2.2.2.2.2.2.1
theorem CJ.so {m : MM} (h : CJ m) : 0 ≤ m 0 10 ∧ m 0 10 ≤ 1 := h.2.2.2.2.2.2.2.1
theorem CJ.st {m : MM} (h : CJ m) : 0 ≤ m 0 11 ∧ m 0 11 ≤ 1 := h.2.2.2.2.2.2.2.2
def ClS (m : MM) : Prop := CJ m ∧ (m 0 11 = 0 → m 0 10 = 1 → WbX m ∧ CcX m) ∧ (m 0 11 = 0 → (m 0 10 = 1 ↔ SndX m))
def RfC (m : MM) : Prop := CJ m ∧ m 0 11 = 0 ∧ (m 0 10 = 1 → WbX m) ∧ (m 0 10 = 1 ↔ SndX m)
def RfD (m : MM) : Prop := RfC m ∧ (m 0 10 = 1 → CcX m)
def Rdy (m : MM) : Prop := CJ m ∧ (m 0 11 = 0 ∧ CcX m) ∧ m 0 10 = 1 ∧ WbX m ∧ SndX m
theorem RfD.cs {m : MM} (h : RfD m) : ClS m := ⟨h.1.1, fun _ q => ⟨h.1.2.2.1 q, h.2 q⟩, fun _ => h.1.2.2.2⟩
theorem RfD.rdy {m : MM} (h : RfD m) (q : m 0 10 = 1) : Rdy m := ⟨h.1.1, ⟨h.1.2.1, h.2 q⟩, q, h.1.2.2.1 q, h.1.2.2.2.mp q⟩
theorem Rdy.cs {m : MM} (h : Rdy m) : ClS m := ⟨h.1, fun _ _ => ⟨h.2.2.2.1, h.2.1.2⟩, fun _ => ⟨fun _ => h.2.2.2.2, fun _ => h.2.2.1⟩⟩
theorem NdC.up {m : MM} {q : Int} {x : Q4} (hB : BodyOK m) (hs : SndX m) (h : NdC m q x) : 0 ≤ x.2.2.1 ∧ (x.2.2.1 = 0 → x.1 < x.2.1) := by
  have h8 := hB.1
  rcases h with ⟨o, k, h1, h2, h3, h4⟩ | ⟨s, o, h1, h2, h3, h4, h5, h6⟩
  · subst h4
    have c := hs o k h1 h2
    have so := hB.src (o := o) (k := k) (by omega) h2
    unfold SrcC at c
    unfold srcOK at so
    show 0 ≤ m 3 (4 * o + 2 * k + 1) ∧ (m 3 (4 * o + 2 * k + 1) = 0 → m 3 (4 * o + 2 * k) < (o : Int))
    omega
  · rcases h6 with ⟨g1, g2, g3⟩ | ⟨g1, g2, g3⟩ | ⟨g1, g2, g3⟩
    · subst g3
      show 0 ≤ plcB m s - plcB m o ∧ (plcB m s - plcB m o = 0 → (s : Int) < (o : Int))
      omega
    · subst g3
      show 0 ≤ plcB m o - plcB m s ∧ (plcB m o - plcB m s = 0 → (o : Int) < (s : Int))
      omega
    · subst g3
      show 0 ≤ plcB m s - plcB m o ∧ (plcB m s - plcB m o = 0 → (s : Int) < (o : Int))
      omega
theorem Rdy.edv {m : MM} (h : Rdy m) : EdV (cwq m 9) (m 9 0).toNat (m 1 0).toNat := by
  intro j hj
  have w := h.2.2.2.1.1 j (by omega)
  have g : Rg (m 10 j) (m 11 j) (m 12 j) (m 13 j) := h.1.2.1.1 j (by have := h.1.2.1.2; omega)
  unfold Rg at g
  have u := NdC.up h.1.1 h.2.2.2.2 (h.2.2.2.1.2.1.2.1 j hj)
  refine ⟨⟨(m 10 j).toNat, (m 11 j).toNat, ?_, ?_, by omega, by omega⟩, u.1, u.2⟩
  · show m 10 j = _; omega
  · show m 11 j = _; omega
theorem Rdy.noup {m : MM} {d : Int} (h : Rdy m) (hd : 0 ≤ d) (q : upV (m 9 5) (m 9 6) ≤ d) : NoUp (EdQ (cwq m 9) (m 9 0).toNat d) := by
  have h8 := h.1.1.1
  obtain ⟨⟨t1, t2⟩, t3, t4⟩ := h.2.2.2.1.2.2.1
  exact (RtL.noup (by omega) h.edv h.2.2.2.1.2.2.2 hd).mpr ((upV_le t1 (by omega) hd).mp q)
def pCl (A _i : Nat) : Prop := A < 143
def pNb (A _i : Nat) : Prop := A < 143 ∧ ¬ (0 < A ∧ A < 9)
def pHs (A _i : Nat) : Prop := 129 ≤ A ∧ A ≤ 133
def pW9c (A i : Nat) : Prop := A = 9 ∧ (i = 5 ∨ i = 6 ∨ i = 7)
def pW14c (A i : Nat) : Prop := A = 14 ∧ (i = 5 ∨ i = 6 ∨ i = 7)
def p11 (A i : Nat) : Prop := A = 0 ∧ i = 11
def p10 (A i : Nat) : Prop := A = 0 ∧ i = 10
def p191 (A i : Nat) : Prop := A = 19 ∧ i = 1
def p129 (A i : Nat) : Prop := A = 129 ∧ i = 0
def pQ0 (Q A i : Nat) : Prop := A = Q ∧ i = 0
def pQ1 (Q A i : Nat) : Prop := A = Q ∧ i = 1
def pBd (A i : Nat) : Prop := (0 < A ∧ A < 9) ∨ (A = 0 ∧ i = 11)
def p4f (A _i : Nat) : Prop := A = 4
theorem CJ.e_span {m m' : MM} (h : CJ m) (hF : Frm pRe m m') (hz : 0 ≤ m' 19 0 ∧ m' 19 0 ≤ 8) (hx : RchX m') : CJ m' := by
  exact ⟨h.b.fr (fun A i a b => hF A i (by unfold pRe; omega)), h.w.fr (fun A i a b => hF A i (by unfold pRe; omega)), h.w2.fr (fun A i a b => hF A i (by unfold pRe; omega)), hz, h.hs.fr (fun A i a b => hF A i (by unfold pRe; omega)), fun o ho => by rw [hF 24 o (by unfold pRe; omega), hF 22 o (by unfold pRe; omega)]; exact h.us o ho, fun Q' hQ' => (h.ch Q' hQ').fr3 (fun A i q => hF A i (by have := hQ'.rg; unfold pRe; omega)), by rw [hF 0 10 (by unfold pRe; omega)]; exact h.so, by rw [hF 0 11 (by unfold pRe; omega)]; exact h.st⟩
theorem Rdy.e_span {m m' : MM} (h : Rdy m) (hF : Frm pRe m m') (hz : 0 ≤ m' 19 0 ∧ m' 19 0 ≤ 8) (hx : RchX m') : Rdy m' := by
  exact ⟨CJ.e_span h.1 hF hz hx, ⟨by rw [hF 0 11 (by unfold pRe; omega)]; exact h.2.1.1, hx⟩, by rw [hF 0 10 (by unfold pRe; omega)]; exact h.2.2.1, h.2.2.2.1.fr (fun A i q => hF A i (by unfold pRe; omega)), h.2.2.2.2.fr (fun A i a b => hF A i (by unfold pRe; omega))⟩
theorem RfC.e_span {m m' : MM} (h : RfC m) (hF : Frm pRe m m') (hz : 0 ≤ m' 19 0 ∧ m' 19 0 ≤ 8) (hx : RchX m') : RfC m' := by
  exact ⟨CJ.e_span h.1 hF hz hx, by rw [hF 0 11 (by unfold pRe; omega)]; exact h.2.1, fun z => by
    rw [hF 0 10 (by unfold pRe; omega)] at z
    exact (h.2.2.1 z).fr (fun A i q => hF A i (by unfold pRe; omega)), SX.fr h.2.2.2 (hF 0 10 (by unfold pRe; omega)) (fun A i a b => hF A i (by unfold pRe; omega))⟩
theorem CJ.e_seek {m m' : MM} (h : CJ m) (hF : Frm pHs m m') (hz : HsOK m') : CJ m' := by
  exact ⟨h.b.fr (fun A i a b => hF A i (by unfold pHs; omega)), h.w.fr (fun A i a b => hF A i (by unfold pHs; omega)), h.w2.fr (fun A i a b => hF A i (by unfold pHs; omega)), by rw [hF 19 0 (by unfold pHs; omega)]; exact h.r, hz, fun o ho => by rw [hF 24 o (by unfold pHs; omega), hF 22 o (by unfold pHs; omega)]; exact h.us o ho, fun Q' hQ' => (h.ch Q' hQ').fr3 (fun A i q => hF A i (by have := hQ'.rg; unfold pHs; omega)), by rw [hF 0 10 (by unfold pHs; omega)]; exact h.so, by rw [hF 0 11 (by unfold pHs; omega)]; exact h.st⟩
theorem Rdy.e_seek {m m' : MM} (h : Rdy m) (hF : Frm pHs m m') (hz : HsOK m') : Rdy m' := by
  exact ⟨CJ.e_seek h.1 hF hz, ⟨by rw [hF 0 11 (by unfold pHs; omega)]; exact h.2.1.1, h.2.1.2.fr (fun A i q => hF A i (by unfold pHs; omega))⟩, by rw [hF 0 10 (by unfold pHs; omega)]; exact h.2.2.1, h.2.2.2.1.fr (fun A i q => hF A i (by unfold pHs; omega)), h.2.2.2.2.fr (fun A i a b => hF A i (by unfold pHs; omega))⟩
theorem RfC.e_seek {m m' : MM} (h : RfC m) (hF : Frm pHs m m') (hz : HsOK m') : RfC m' := by
  exact ⟨CJ.e_seek h.1 hF hz, by rw [hF 0 11 (by unfold pHs; omega)]; exact h.2.1, fun z => by
    rw [hF 0 10 (by unfold pHs; omega)] at z
    exact (h.2.2.1 z).fr (fun A i q => hF A i (by unfold pHs; omega)), SX.fr h.2.2.2 (hF 0 10 (by unfold pHs; omega)) (fun A i a b => hF A i (by unfold pHs; omega))⟩
theorem CJ.e_hold {m m' : MM} (h : CJ m) (hF : Frm pT6 m m') (hu : ∀ o, o < 8 → 0 ≤ m' 24 o ∧ m' 24 o ≤ 2) (hz : ∀ o, m' 22 o = m 22 o ∨ (0 ≤ m' 22 o ∧ m' 22 o ≤ 11)) : CJ m' := by
  exact ⟨h.b.fr (fun A i a b => hF A i (by unfold pT6; omega)), h.w.fr (fun A i a b => hF A i (by unfold pT6; omega)), h.w2.fr (fun A i a b => hF A i (by unfold pT6; omega)), by rw [hF 19 0 (by unfold pT6; omega)]; exact h.r, h.hs.fr (fun A i a b => hF A i (by unfold pT6; omega)), fun o ho => ⟨hu o ho, by have := hz o; have := (h.us o ho).2; omega⟩, fun Q' hQ' => (h.ch Q' hQ').fr3 (fun A i q => hF A i (by have := hQ'.rg; unfold pT6; omega)), by rw [hF 0 10 (by unfold pT6; omega)]; exact h.so, by rw [hF 0 11 (by unfold pT6; omega)]; exact h.st⟩
theorem Rdy.e_hold {m m' : MM} (h : Rdy m) (hF : Frm pT6 m m') (hu : ∀ o, o < 8 → 0 ≤ m' 24 o ∧ m' 24 o ≤ 2) (hz : ∀ o, m' 22 o = m 22 o ∨ (0 ≤ m' 22 o ∧ m' 22 o ≤ 11)) : Rdy m' := by
  exact ⟨CJ.e_hold h.1 hF hu hz, ⟨by rw [hF 0 11 (by unfold pT6; omega)]; exact h.2.1.1, h.2.1.2.fr (fun A i q => hF A i (by unfold pT6; omega))⟩, by rw [hF 0 10 (by unfold pT6; omega)]; exact h.2.2.1, h.2.2.2.1.fr (fun A i q => hF A i (by unfold pT6; omega)), h.2.2.2.2.fr (fun A i a b => hF A i (by unfold pT6; omega))⟩
theorem RfC.e_hold {m m' : MM} (h : RfC m) (hF : Frm pT6 m m') (hu : ∀ o, o < 8 → 0 ≤ m' 24 o ∧ m' 24 o ≤ 2) (hz : ∀ o, m' 22 o = m 22 o ∨ (0 ≤ m' 22 o ∧ m' 22 o ≤ 11)) : RfC m' := by
  exact ⟨CJ.e_hold h.1 hF hu hz, by rw [hF 0 11 (by unfold pT6; omega)]; exact h.2.1, fun z => by
    rw [hF 0 10 (by unfold pT6; omega)] at z
    exact (h.2.2.1 z).fr (fun A i q => hF A i (by unfold pT6; omega)), SX.fr h.2.2.2 (hF 0 10 (by unfold pT6; omega)) (fun A i a b => hF A i (by unfold pT6; omega))⟩
theorem CJ.e_find {m m' : MM} (h : CJ m) (hF : Frm pSk m m') (hz : ∀ o, m' 22 o = m 22 o ∨ (0 ≤ m' 22 o ∧ m' 22 o ≤ 11)) : CJ m' := by
  exact ⟨h.b.fr (fun A i a b => hF A i (by unfold pSk; omega)), h.w.fr (fun A i a b => hF A i (by unfold pSk; omega)), h.w2.fr (fun A i a b => hF A i (by unfold pSk; omega)), by rw [hF 19 0 (by unfold pSk; omega)]; exact h.r, h.hs.fr (fun A i a b => hF A i (by unfold pSk; omega)), fun o ho => ⟨by rw [hF 24 o (by unfold pSk; omega)]; exact (h.us o ho).1, by have := hz o; have := (h.us o ho).2; omega⟩, fun Q' hQ' => (h.ch Q' hQ').fr3 (fun A i q => hF A i (by have := hQ'.rg; unfold pSk; omega)), by rw [hF 0 10 (by unfold pSk; omega)]; exact h.so, by rw [hF 0 11 (by unfold pSk; omega)]; exact h.st⟩
theorem Rdy.e_find {m m' : MM} (h : Rdy m) (hF : Frm pSk m m') (hz : ∀ o, m' 22 o = m 22 o ∨ (0 ≤ m' 22 o ∧ m' 22 o ≤ 11)) : Rdy m' := by
  exact ⟨CJ.e_find h.1 hF hz, ⟨by rw [hF 0 11 (by unfold pSk; omega)]; exact h.2.1.1, h.2.1.2.fr (fun A i q => hF A i (by unfold pSk; omega))⟩, by rw [hF 0 10 (by unfold pSk; omega)]; exact h.2.2.1, h.2.2.2.1.fr (fun A i q => hF A i (by unfold pSk; omega)), h.2.2.2.2.fr (fun A i a b => hF A i (by unfold pSk; omega))⟩
theorem RfC.e_find {m m' : MM} (h : RfC m) (hF : Frm pSk m m') (hz : ∀ o, m' 22 o = m 22 o ∨ (0 ≤ m' 22 o ∧ m' 22 o ≤ 11)) : RfC m' := by
  exact ⟨CJ.e_find h.1 hF hz, by rw [hF 0 11 (by unfold pSk; omega)]; exact h.2.1, fun z => by
    rw [hF 0 10 (by unfold pSk; omega)] at z
    exact (h.2.2.1 z).fr (fun A i q => hF A i (by unfold pSk; omega)), SX.fr h.2.2.2 (hF 0 10 (by unfold pSk; omega)) (fun A i a b => hF A i (by unfold pSk; omega))⟩
theorem CJ.e_draw {Q : Nat} (hQ : ChSh Q) {m m' : MM} (h : CJ m) (hF : Frm (pCh Q) m m') (hz : ChtOK m' Q) : CJ m' := by
  have hq := hQ.rg
  exact ⟨h.b.fr (fun A i a b => hF A i (by unfold pCh; omega)), h.w.fr (fun A i a b => hF A i (by unfold pCh; omega)), h.w2.fr (fun A i a b => hF A i (by unfold pCh; omega)), by rw [hF 19 0 (by unfold pCh; omega)]; exact h.r, h.hs.fr (fun A i a b => hF A i (by unfold pCh; omega)), fun o ho => by rw [hF 24 o (by unfold pCh; omega), hF 22 o (by unfold pCh; omega)]; exact h.us o ho, fun Q' hQ' => by
    have := hQ'.rg
    rcases ChSh.ap hQ hQ' with e | e
    · subst e; exact hz
    · exact (h.ch Q' hQ').fr3 (fun A i q => hF A i (by unfold pCh; omega)), by rw [hF 0 10 (by unfold pCh; omega)]; exact h.so, by rw [hF 0 11 (by unfold pCh; omega)]; exact h.st⟩
theorem Rdy.e_draw {Q : Nat} (hQ : ChSh Q) {m m' : MM} (h : Rdy m) (hF : Frm (pCh Q) m m') (hz : ChtOK m' Q) : Rdy m' := by
  have hq := hQ.rg
  exact ⟨CJ.e_draw hQ h.1 hF hz, ⟨by rw [hF 0 11 (by unfold pCh; omega)]; exact h.2.1.1, h.2.1.2.fr (fun A i q => hF A i (by unfold pCh; omega))⟩, by rw [hF 0 10 (by unfold pCh; omega)]; exact h.2.2.1, h.2.2.2.1.fr (fun A i q => hF A i (by unfold pCh; omega)), h.2.2.2.2.fr (fun A i a b => hF A i (by unfold pCh; omega))⟩
theorem RfC.e_draw {Q : Nat} (hQ : ChSh Q) {m m' : MM} (h : RfC m) (hF : Frm (pCh Q) m m') (hz : ChtOK m' Q) : RfC m' := by
  have hq := hQ.rg
  exact ⟨CJ.e_draw hQ h.1 hF hz, by rw [hF 0 11 (by unfold pCh; omega)]; exact h.2.1, fun z => by
    rw [hF 0 10 (by unfold pCh; omega)] at z
    exact (h.2.2.1 z).fr (fun A i q => hF A i (by unfold pCh; omega)), SX.fr h.2.2.2 (hF 0 10 (by unfold pCh; omega)) (fun A i a b => hF A i (by unfold pCh; omega))⟩
theorem CJ.e_fit {Q : Nat} (hQ : ChSh Q) {m m' : MM} (h : CJ m) (hF : Frm (pQ1 Q) m m') (hz : ChtOK m' Q) : CJ m' := by
  have hq := hQ.rg
  exact ⟨h.b.fr (fun A i a b => hF A i (by unfold pQ1; omega)), h.w.fr (fun A i a b => hF A i (by unfold pQ1; omega)), h.w2.fr (fun A i a b => hF A i (by unfold pQ1; omega)), by rw [hF 19 0 (by unfold pQ1; omega)]; exact h.r, h.hs.fr (fun A i a b => hF A i (by unfold pQ1; omega)), fun o ho => by rw [hF 24 o (by unfold pQ1; omega), hF 22 o (by unfold pQ1; omega)]; exact h.us o ho, fun Q' hQ' => by
    have := hQ'.rg
    rcases ChSh.ap hQ hQ' with e | e
    · subst e; exact hz
    · exact (h.ch Q' hQ').fr3 (fun A i q => hF A i (by unfold pQ1; omega)), by rw [hF 0 10 (by unfold pQ1; omega)]; exact h.so, by rw [hF 0 11 (by unfold pQ1; omega)]; exact h.st⟩
theorem Rdy.e_fit {Q : Nat} (hQ : ChSh Q) {m m' : MM} (h : Rdy m) (hF : Frm (pQ1 Q) m m') (hz : ChtOK m' Q) : Rdy m' := by
  have hq := hQ.rg
  exact ⟨CJ.e_fit hQ h.1 hF hz, ⟨by rw [hF 0 11 (by unfold pQ1; omega)]; exact h.2.1.1, h.2.1.2.fr (fun A i q => hF A i (by unfold pQ1; omega))⟩, by rw [hF 0 10 (by unfold pQ1; omega)]; exact h.2.2.1, h.2.2.2.1.fr (fun A i q => hF A i (by unfold pQ1; omega)), h.2.2.2.2.fr (fun A i a b => hF A i (by unfold pQ1; omega))⟩
theorem RfC.e_fit {Q : Nat} (hQ : ChSh Q) {m m' : MM} (h : RfC m) (hF : Frm (pQ1 Q) m m') (hz : ChtOK m' Q) : RfC m' := by
  have hq := hQ.rg
  exact ⟨CJ.e_fit hQ h.1 hF hz, by rw [hF 0 11 (by unfold pQ1; omega)]; exact h.2.1, fun z => by
    rw [hF 0 10 (by unfold pQ1; omega)] at z
    exact (h.2.2.1 z).fr (fun A i q => hF A i (by unfold pQ1; omega)), SX.fr h.2.2.2 (hF 0 10 (by unfold pQ1; omega)) (fun A i a b => hF A i (by unfold pQ1; omega))⟩
theorem CJ.e_try {Q : Nat} (hQ : ChSh Q) {m m' : MM} (h : CJ m) (hF : Frm (pQ0 Q) m m') : CJ m' := by
  have hq := hQ.rg
  exact ⟨h.b.fr (fun A i a b => hF A i (by unfold pQ0; omega)), h.w.fr (fun A i a b => hF A i (by unfold pQ0; omega)), h.w2.fr (fun A i a b => hF A i (by unfold pQ0; omega)), by rw [hF 19 0 (by unfold pQ0; omega)]; exact h.r, h.hs.fr (fun A i a b => hF A i (by unfold pQ0; omega)), fun o ho => by rw [hF 24 o (by unfold pQ0; omega), hF 22 o (by unfold pQ0; omega)]; exact h.us o ho, fun Q' hQ' => by
    have := hQ'.rg
    rcases ChSh.ap hQ hQ' with e | e
    · subst e; exact (h.ch Q hQ).fr3 (fun A i q => hF A i (by unfold pQ0; omega))
    · exact (h.ch Q' hQ').fr3 (fun A i q => hF A i (by unfold pQ0; omega)), by rw [hF 0 10 (by unfold pQ0; omega)]; exact h.so, by rw [hF 0 11 (by unfold pQ0; omega)]; exact h.st⟩
theorem Rdy.e_try {Q : Nat} (hQ : ChSh Q) {m m' : MM} (h : Rdy m) (hF : Frm (pQ0 Q) m m') : Rdy m' := by
  have hq := hQ.rg
  exact ⟨CJ.e_try hQ h.1 hF , ⟨by rw [hF 0 11 (by unfold pQ0; omega)]; exact h.2.1.1, h.2.1.2.fr (fun A i q => hF A i (by unfold pQ0; omega))⟩, by rw [hF 0 10 (by unfold pQ0; omega)]; exact h.2.2.1, h.2.2.2.1.fr (fun A i q => hF A i (by unfold pQ0; omega)), h.2.2.2.2.fr (fun A i a b => hF A i (by unfold pQ0; omega))⟩
theorem RfC.e_try {Q : Nat} (hQ : ChSh Q) {m m' : MM} (h : RfC m) (hF : Frm (pQ0 Q) m m') : RfC m' := by
  have hq := hQ.rg
  exact ⟨CJ.e_try hQ h.1 hF , by rw [hF 0 11 (by unfold pQ0; omega)]; exact h.2.1, fun z => by
    rw [hF 0 10 (by unfold pQ0; omega)] at z
    exact (h.2.2.1 z).fr (fun A i q => hF A i (by unfold pQ0; omega)), SX.fr h.2.2.2 (hF 0 10 (by unfold pQ0; omega)) (fun A i a b => hF A i (by unfold pQ0; omega))⟩
theorem CJ.e_play {m m' : MM} (h : CJ m) (hF : Frm pPl m m') : CJ m' := by
  exact ⟨h.b.fr (fun A i a b => hF A i (by unfold pPl; omega)), h.w.fr (fun A i a b => hF A i (by unfold pPl; omega)), h.w2.fr (fun A i a b => hF A i (by unfold pPl; omega)), by rw [hF 19 0 (by unfold pPl; omega)]; exact h.r, h.hs.fr (fun A i a b => hF A i (by unfold pPl; omega)), fun o ho => by rw [hF 24 o (by unfold pPl; omega), hF 22 o (by unfold pPl; omega)]; exact h.us o ho, fun Q' hQ' => (h.ch Q' hQ').fr3 (fun A i q => hF A i (by have := hQ'.rg; unfold pPl; omega)), by rw [hF 0 10 (by unfold pPl; omega)]; exact h.so, by rw [hF 0 11 (by unfold pPl; omega)]; exact h.st⟩
theorem Rdy.e_play {m m' : MM} (h : Rdy m) (hF : Frm pPl m m') : Rdy m' := by
  exact ⟨CJ.e_play h.1 hF , ⟨by rw [hF 0 11 (by unfold pPl; omega)]; exact h.2.1.1, h.2.1.2.fr (fun A i q => hF A i (by unfold pPl; omega))⟩, by rw [hF 0 10 (by unfold pPl; omega)]; exact h.2.2.1, h.2.2.2.1.fr (fun A i q => hF A i (by unfold pPl; omega)), h.2.2.2.2.fr (fun A i a b => hF A i (by unfold pPl; omega))⟩
theorem RfC.e_play {m m' : MM} (h : RfC m) (hF : Frm pPl m m') : RfC m' := by
  exact ⟨CJ.e_play h.1 hF , by rw [hF 0 11 (by unfold pPl; omega)]; exact h.2.1, fun z => by
    rw [hF 0 10 (by unfold pPl; omega)] at z
    exact (h.2.2.1 z).fr (fun A i q => hF A i (by unfold pPl; omega)), SX.fr h.2.2.2 (hF 0 10 (by unfold pPl; omega)) (fun A i a b => hF A i (by unfold pPl; omega))⟩
theorem CJ.e_whl {m m' : MM} (h : CJ m) (hF : Frm p140 m m') : CJ m' := by
  exact ⟨h.b.fr (fun A i a b => hF A i (by unfold p140; omega)), h.w.fr (fun A i a b => hF A i (by unfold p140; omega)), h.w2.fr (fun A i a b => hF A i (by unfold p140; omega)), by rw [hF 19 0 (by unfold p140; omega)]; exact h.r, h.hs.fr (fun A i a b => hF A i (by unfold p140; omega)), fun o ho => by rw [hF 24 o (by unfold p140; omega), hF 22 o (by unfold p140; omega)]; exact h.us o ho, fun Q' hQ' => (h.ch Q' hQ').fr3 (fun A i q => hF A i (by have := hQ'.rg; unfold p140; omega)), by rw [hF 0 10 (by unfold p140; omega)]; exact h.so, by rw [hF 0 11 (by unfold p140; omega)]; exact h.st⟩
theorem Rdy.e_whl {m m' : MM} (h : Rdy m) (hF : Frm p140 m m') : Rdy m' := by
  exact ⟨CJ.e_whl h.1 hF , ⟨by rw [hF 0 11 (by unfold p140; omega)]; exact h.2.1.1, h.2.1.2.fr (fun A i q => hF A i (by unfold p140; omega))⟩, by rw [hF 0 10 (by unfold p140; omega)]; exact h.2.2.1, h.2.2.2.1.fr (fun A i q => hF A i (by unfold p140; omega)), h.2.2.2.2.fr (fun A i a b => hF A i (by unfold p140; omega))⟩
theorem RfC.e_whl {m m' : MM} (h : RfC m) (hF : Frm p140 m m') : RfC m' := by
  exact ⟨CJ.e_whl h.1 hF , by rw [hF 0 11 (by unfold p140; omega)]; exact h.2.1, fun z => by
    rw [hF 0 10 (by unfold p140; omega)] at z
    exact (h.2.2.1 z).fr (fun A i q => hF A i (by unfold p140; omega)), SX.fr h.2.2.2 (hF 0 10 (by unfold p140; omega)) (fun A i a b => hF A i (by unfold p140; omega))⟩
theorem CJ.e_pat {m m' : MM} (h : CJ m) (hF : Frm pPa m m') : CJ m' := by
  exact ⟨h.b.fr (fun A i a b => hF A i (by unfold pPa; omega)), h.w.fr (fun A i a b => hF A i (by unfold pPa; omega)), h.w2.fr (fun A i a b => hF A i (by unfold pPa; omega)), by rw [hF 19 0 (by unfold pPa; omega)]; exact h.r, h.hs.fr (fun A i a b => hF A i (by unfold pPa; omega)), fun o ho => by rw [hF 24 o (by unfold pPa; omega), hF 22 o (by unfold pPa; omega)]; exact h.us o ho, fun Q' hQ' => (h.ch Q' hQ').fr3 (fun A i q => hF A i (by have := hQ'.rg; unfold pPa; omega)), by rw [hF 0 10 (by unfold pPa; omega)]; exact h.so, by rw [hF 0 11 (by unfold pPa; omega)]; exact h.st⟩
theorem Rdy.e_pat {m m' : MM} (h : Rdy m) (hF : Frm pPa m m') : Rdy m' := by
  exact ⟨CJ.e_pat h.1 hF , ⟨by rw [hF 0 11 (by unfold pPa; omega)]; exact h.2.1.1, h.2.1.2.fr (fun A i q => hF A i (by unfold pPa; omega))⟩, by rw [hF 0 10 (by unfold pPa; omega)]; exact h.2.2.1, h.2.2.2.1.fr (fun A i q => hF A i (by unfold pPa; omega)), h.2.2.2.2.fr (fun A i a b => hF A i (by unfold pPa; omega))⟩
theorem RfC.e_pat {m m' : MM} (h : RfC m) (hF : Frm pPa m m') : RfC m' := by
  exact ⟨CJ.e_pat h.1 hF , by rw [hF 0 11 (by unfold pPa; omega)]; exact h.2.1, fun z => by
    rw [hF 0 10 (by unfold pPa; omega)] at z
    exact (h.2.2.1 z).fr (fun A i q => hF A i (by unfold pPa; omega)), SX.fr h.2.2.2 (hF 0 10 (by unfold pPa; omega)) (fun A i a b => hF A i (by unfold pPa; omega))⟩
theorem CJ.e_sp1 {m m' : MM} (h : CJ m) (hF : Frm p14 m m') (hz : WbOK m' 14) : CJ m' := by
  exact ⟨h.b.fr (fun A i a b => hF A i (by unfold p14; omega)), h.w.fr (fun A i a b => hF A i (by unfold p14; omega)), hz, by rw [hF 19 0 (by unfold p14; omega)]; exact h.r, h.hs.fr (fun A i a b => hF A i (by unfold p14; omega)), fun o ho => by rw [hF 24 o (by unfold p14; omega), hF 22 o (by unfold p14; omega)]; exact h.us o ho, fun Q' hQ' => (h.ch Q' hQ').fr3 (fun A i q => hF A i (by have := hQ'.rg; unfold p14; omega)), by rw [hF 0 10 (by unfold p14; omega)]; exact h.so, by rw [hF 0 11 (by unfold p14; omega)]; exact h.st⟩
theorem Rdy.e_sp1 {m m' : MM} (h : Rdy m) (hF : Frm p14 m m') (hz : WbOK m' 14) : Rdy m' := by
  exact ⟨CJ.e_sp1 h.1 hF hz, ⟨by rw [hF 0 11 (by unfold p14; omega)]; exact h.2.1.1, h.2.1.2.fr (fun A i q => hF A i (by unfold p14; omega))⟩, by rw [hF 0 10 (by unfold p14; omega)]; exact h.2.2.1, h.2.2.2.1.fr (fun A i q => hF A i (by unfold p14; omega)), h.2.2.2.2.fr (fun A i a b => hF A i (by unfold p14; omega))⟩
theorem RfC.e_sp1 {m m' : MM} (h : RfC m) (hF : Frm p14 m m') (hz : WbOK m' 14) : RfC m' := by
  exact ⟨CJ.e_sp1 h.1 hF hz, by rw [hF 0 11 (by unfold p14; omega)]; exact h.2.1, fun z => by
    rw [hF 0 10 (by unfold p14; omega)] at z
    exact (h.2.2.1 z).fr (fun A i q => hF A i (by unfold p14; omega)), SX.fr h.2.2.2 (hF 0 10 (by unfold p14; omega)) (fun A i a b => hF A i (by unfold p14; omega))⟩
theorem CJ.e_sp2 {m m' : MM} (h : CJ m) (hF : Frm pW14c m m') : CJ m' := by
  exact ⟨h.b.fr (fun A i a b => hF A i (by unfold pW14c; omega)), h.w.fr (fun A i a b => hF A i (by unfold pW14c; omega)), ⟨fun j hj => by
    rw [hF _ _ (by unfold pW14c; omega), hF _ _ (by unfold pW14c; omega), hF _ _ (by unfold pW14c; omega), hF _ _ (by unfold pW14c; omega)]; exact h.w2.1 j hj, by rw [hF 14 0 (by unfold pW14c; omega)]; exact h.w2.2⟩, by rw [hF 19 0 (by unfold pW14c; omega)]; exact h.r, h.hs.fr (fun A i a b => hF A i (by unfold pW14c; omega)), fun o ho => by rw [hF 24 o (by unfold pW14c; omega), hF 22 o (by unfold pW14c; omega)]; exact h.us o ho, fun Q' hQ' => (h.ch Q' hQ').fr3 (fun A i q => hF A i (by have := hQ'.rg; unfold pW14c; omega)), by rw [hF 0 10 (by unfold pW14c; omega)]; exact h.so, by rw [hF 0 11 (by unfold pW14c; omega)]; exact h.st⟩
theorem Rdy.e_sp2 {m m' : MM} (h : Rdy m) (hF : Frm pW14c m m') : Rdy m' := by
  exact ⟨CJ.e_sp2 h.1 hF , ⟨by rw [hF 0 11 (by unfold pW14c; omega)]; exact h.2.1.1, h.2.1.2.fr (fun A i q => hF A i (by unfold pW14c; omega))⟩, by rw [hF 0 10 (by unfold pW14c; omega)]; exact h.2.2.1, h.2.2.2.1.fr (fun A i q => hF A i (by unfold pW14c; omega)), h.2.2.2.2.fr (fun A i a b => hF A i (by unfold pW14c; omega))⟩
theorem RfC.e_sp2 {m m' : MM} (h : RfC m) (hF : Frm pW14c m m') : RfC m' := by
  exact ⟨CJ.e_sp2 h.1 hF , by rw [hF 0 11 (by unfold pW14c; omega)]; exact h.2.1, fun z => by
    rw [hF 0 10 (by unfold pW14c; omega)] at z
    exact (h.2.2.1 z).fr (fun A i q => hF A i (by unfold pW14c; omega)), SX.fr h.2.2.2 (hF 0 10 (by unfold pW14c; omega)) (fun A i a b => hF A i (by unfold pW14c; omega))⟩
theorem CJ.e_wv {m m' : MM} (h : CJ m) (hF : Frm p9w m m') (hz : WbOK m' 9) : CJ m' := by
  exact ⟨h.b.fr (fun A i a b => hF A i (by unfold p9w; omega)), hz, h.w2.fr (fun A i a b => hF A i (by unfold p9w; omega)), by rw [hF 19 0 (by unfold p9w; omega)]; exact h.r, h.hs.fr (fun A i a b => hF A i (by unfold p9w; omega)), fun o ho => by rw [hF 24 o (by unfold p9w; omega), hF 22 o (by unfold p9w; omega)]; exact h.us o ho, fun Q' hQ' => (h.ch Q' hQ').fr3 (fun A i q => hF A i (by have := hQ'.rg; unfold p9w; omega)), by rw [hF 0 10 (by unfold p9w; omega)]; exact h.so, by rw [hF 0 11 (by unfold p9w; omega)]; exact h.st⟩
theorem CJ.e_wg {m m' : MM} (h : CJ m) (hF : Frm pW9c m m') : CJ m' := by
  exact ⟨h.b.fr (fun A i a b => hF A i (by unfold pW9c; omega)), ⟨fun j hj => by
    rw [hF _ _ (by unfold pW9c; omega), hF _ _ (by unfold pW9c; omega), hF _ _ (by unfold pW9c; omega), hF _ _ (by unfold pW9c; omega)]; exact h.w.1 j hj, by rw [hF 9 0 (by unfold pW9c; omega)]; exact h.w.2⟩, h.w2.fr (fun A i a b => hF A i (by unfold pW9c; omega)), by rw [hF 19 0 (by unfold pW9c; omega)]; exact h.r, h.hs.fr (fun A i a b => hF A i (by unfold pW9c; omega)), fun o ho => by rw [hF 24 o (by unfold pW9c; omega), hF 22 o (by unfold pW9c; omega)]; exact h.us o ho, fun Q' hQ' => (h.ch Q' hQ').fr3 (fun A i q => hF A i (by have := hQ'.rg; unfold pW9c; omega)), by rw [hF 0 10 (by unfold pW9c; omega)]; exact h.so, by rw [hF 0 11 (by unfold pW9c; omega)]; exact h.st⟩
theorem CJ.e_st {m m' : MM} (h : CJ m) (hF : Frm p11 m m') (hz : 0 ≤ m' 0 11 ∧ m' 0 11 ≤ 1) : CJ m' := by
  exact ⟨h.b.fr (fun A i a b => hF A i (by unfold p11; omega)), h.w.fr (fun A i a b => hF A i (by unfold p11; omega)), h.w2.fr (fun A i a b => hF A i (by unfold p11; omega)), by rw [hF 19 0 (by unfold p11; omega)]; exact h.r, h.hs.fr (fun A i a b => hF A i (by unfold p11; omega)), fun o ho => by rw [hF 24 o (by unfold p11; omega), hF 22 o (by unfold p11; omega)]; exact h.us o ho, fun Q' hQ' => (h.ch Q' hQ').fr3 (fun A i q => hF A i (by have := hQ'.rg; unfold p11; omega)), by rw [hF 0 10 (by unfold p11; omega)]; exact h.so, hz⟩
theorem CJ.e_so {m m' : MM} (h : CJ m) (hF : Frm p10 m m') (hz : 0 ≤ m' 0 10 ∧ m' 0 10 ≤ 1) : CJ m' := by
  exact ⟨h.b.fr (fun A i a b => hF A i (by unfold p10; omega)), h.w.fr (fun A i a b => hF A i (by unfold p10; omega)), h.w2.fr (fun A i a b => hF A i (by unfold p10; omega)), by rw [hF 19 0 (by unfold p10; omega)]; exact h.r, h.hs.fr (fun A i a b => hF A i (by unfold p10; omega)), fun o ho => by rw [hF 24 o (by unfold p10; omega), hF 22 o (by unfold p10; omega)]; exact h.us o ho, fun Q' hQ' => (h.ch Q' hQ').fr3 (fun A i q => hF A i (by have := hQ'.rg; unfold p10; omega)), hz, by rw [hF 0 11 (by unfold p10; omega)]; exact h.st⟩
theorem CJ.e_rs {m m' : MM} (h : CJ m) (hF : Frm p191 m m') : CJ m' := by
  exact ⟨h.b.fr (fun A i a b => hF A i (by unfold p191; omega)), h.w.fr (fun A i a b => hF A i (by unfold p191; omega)), h.w2.fr (fun A i a b => hF A i (by unfold p191; omega)), by rw [hF 19 0 (by unfold p191; omega)]; exact h.r, h.hs.fr (fun A i a b => hF A i (by unfold p191; omega)), fun o ho => by rw [hF 24 o (by unfold p191; omega), hF 22 o (by unfold p191; omega)]; exact h.us o ho, fun Q' hQ' => (h.ch Q' hQ').fr3 (fun A i q => hF A i (by have := hQ'.rg; unfold p191; omega)), by rw [hF 0 10 (by unfold p191; omega)]; exact h.so, by rw [hF 0 11 (by unfold p191; omega)]; exact h.st⟩
theorem RfC.e_rs {m m' : MM} (h : RfC m) (hF : Frm p191 m m') : RfC m' := by
  exact ⟨CJ.e_rs h.1 hF , by rw [hF 0 11 (by unfold p191; omega)]; exact h.2.1, fun z => by
    rw [hF 0 10 (by unfold p191; omega)] at z
    exact (h.2.2.1 z).fr (fun A i q => hF A i (by unfold p191; omega)), SX.fr h.2.2.2 (hF 0 10 (by unfold p191; omega)) (fun A i a b => hF A i (by unfold p191; omega))⟩
theorem CJ.e_h0 {m m' : MM} (h : CJ m) (hF : Frm p129 m m') (hz : 0 ≤ m' 129 0 ∧ m' 129 0 ≤ 12) : CJ m' := by
  exact ⟨h.b.fr (fun A i a b => hF A i (by unfold p129; omega)), h.w.fr (fun A i a b => hF A i (by unfold p129; omega)), h.w2.fr (fun A i a b => hF A i (by unfold p129; omega)), by rw [hF 19 0 (by unfold p129; omega)]; exact h.r, ⟨fun o ho => by rw [hF 130 o (by unfold p129; omega), hF 131 o (by unfold p129; omega)]; exact h.hs.1 o ho, hz, by rw [hF 129 1 (by unfold p129; omega)]; exact h.hs.2.2.1, by rw [hF 129 2 (by unfold p129; omega)]; exact h.hs.2.2.2⟩, fun o ho => by rw [hF 24 o (by unfold p129; omega), hF 22 o (by unfold p129; omega)]; exact h.us o ho, fun Q' hQ' => (h.ch Q' hQ').fr3 (fun A i q => hF A i (by have := hQ'.rg; unfold p129; omega)), by rw [hF 0 10 (by unfold p129; omega)]; exact h.so, by rw [hF 0 11 (by unfold p129; omega)]; exact h.st⟩
theorem Rdy.e_h0 {m m' : MM} (h : Rdy m) (hF : Frm p129 m m') (hz : 0 ≤ m' 129 0 ∧ m' 129 0 ≤ 12) : Rdy m' := by
  exact ⟨CJ.e_h0 h.1 hF hz, ⟨by rw [hF 0 11 (by unfold p129; omega)]; exact h.2.1.1, h.2.1.2.fr (fun A i q => hF A i (by unfold p129; omega))⟩, by rw [hF 0 10 (by unfold p129; omega)]; exact h.2.2.1, h.2.2.2.1.fr (fun A i q => hF A i (by unfold p129; omega)), h.2.2.2.2.fr (fun A i a b => hF A i (by unfold p129; omega))⟩
theorem RfC.e_h0 {m m' : MM} (h : RfC m) (hF : Frm p129 m m') (hz : 0 ≤ m' 129 0 ∧ m' 129 0 ≤ 12) : RfC m' := by
  exact ⟨CJ.e_h0 h.1 hF hz, by rw [hF 0 11 (by unfold p129; omega)]; exact h.2.1, fun z => by
    rw [hF 0 10 (by unfold p129; omega)] at z
    exact (h.2.2.1 z).fr (fun A i q => hF A i (by unfold p129; omega)), SX.fr h.2.2.2 (hF 0 10 (by unfold p129; omega)) (fun A i a b => hF A i (by unfold p129; omega))⟩
theorem CJ.e_bd {m m' : MM} (h : CJ m) (hF : Frm pBd m m') (hz : BodyOK m') (ht : 0 ≤ m' 0 11 ∧ m' 0 11 ≤ 1) : CJ m' := by
  exact ⟨hz, h.w.fr (fun A i a b => hF A i (by unfold pBd; omega)), h.w2.fr (fun A i a b => hF A i (by unfold pBd; omega)), by rw [hF 19 0 (by unfold pBd; omega)]; exact h.r, h.hs.fr (fun A i a b => hF A i (by unfold pBd; omega)), fun o ho => by rw [hF 24 o (by unfold pBd; omega), hF 22 o (by unfold pBd; omega)]; exact h.us o ho, fun Q' hQ' => (h.ch Q' hQ').fr3 (fun A i q => hF A i (by have := hQ'.rg; unfold pBd; omega)), by rw [hF 0 10 (by unfold pBd; omega)]; exact h.so, ht⟩
theorem up1F {P : Nat → Nat → Prop} {m : MM} {A i : Nat} {x : Int} (q : P A i) : Frm P m (upm m A i x) := Frm.up Frm.rf q
theorem ClS.bd {m m' : MM} (h : ClS m) (hF : Frm pBd m m') (hz : BodyOK m') (ht : m' 0 11 = 1) : ClS m' := ⟨CJ.e_bd h.1 hF hz (by omega), fun q => by omega, fun q => by omega⟩
theorem ClS.fi {m m' : MM} (h : ClS m) (hF : Frm p4f m m') : ClS m' := by
  have hB : BodyOK m' := by
    obtain ⟨h1, h2, h3, h4, h5, h6⟩ := h.1.b
    refine ⟨by rw [hF 1 0 (by unfold p4f; omega)]; exact h1, fun o ho => ?_, fun k hk => by rw [hF 5 k (by unfold p4f; omega)]; exact h3 k hk, fun k hk => by rw [hF 6 k (by unfold p4f; omega)]; exact h4 k hk, fun k hk => by rw [hF 7 k (by unfold p4f; omega)]; exact h5 k hk, fun k hk => by rw [hF 8 k (by unfold p4f; omega)]; exact h6 k hk⟩
    unfold BOp
    rw [hF 2 o (by unfold p4f; omega), hF 3 (4 * o) (by unfold p4f; omega), hF 3 (4 * o + 1) (by unfold p4f; omega), hF 3 (4 * o + 2) (by unfold p4f; omega), hF 3 (4 * o + 3) (by unfold p4f; omega)]
    exact h2 o ho
  refine ⟨CJ.e_bd h.1 (hF.mono (fun A i q => by unfold p4f at q; unfold pBd; omega)) hB (by rw [hF 0 11 (by unfold p4f; omega)]; exact h.1.st), fun a b => ?_, fun a => SX.fr (h.2.2 (by rw [hF 0 11 (by unfold p4f; omega)] at a; exact a)) (hF 0 10 (by unfold p4f; omega)) (fun A i a b => hF A i (by unfold p4f; omega))⟩
  rw [hF 0 11 (by unfold p4f; omega)] at a
  rw [hF 0 10 (by unfold p4f; omega)] at b
  exact ⟨(h.2.1 a b).1.fr (fun A i q => hF A i (by unfold p4f; omega)), (h.2.1 a b).2.fr (fun A i q => hF A i (by unfold p4f; omega))⟩
