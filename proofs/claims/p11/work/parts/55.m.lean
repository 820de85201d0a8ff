/-! the class between its calls: what holds, and what each part of it leaves -/
theorem ChtOK.fr3 {m m' : MM} {Q : Nat} (h : ChtOK m Q) (e : ∀ A i, (A = Q ∧ 0 < i ∧ i < 4) ∨ (Q < A ∧ A ≤ Q + 3) → m' A i = m A i) : ChtOK m' Q := by
  refine ⟨?_, fun o ho => ?_⟩
  · rw [e Q 1 (by omega), e Q 2 (by omega), e Q 3 (by omega)]; exact h.1
  · rw [e (Q + 1) o (by omega), e (Q + 2) o (by omega), e (Q + 3) o (by omega)]; exact h.2 o ho
theorem HsOK.fr {m m' : MM} (h : HsOK m) (e : ∀ A i, 129 ≤ A → A ≤ 133 → m' A i = m A i) : HsOK m' := by
  obtain ⟨h1, h2, h3, h4⟩ := h
  refine ⟨fun o ho => ?_, ?_, ?_, ?_⟩
  · rw [e 130 o (by omega) (by omega), e 131 o (by omega) (by omega)]; exact h1 o ho
  · rw [e 129 0 (by omega) (by omega)]; exact h2
  · rw [e 129 1 (by omega) (by omega)]; exact h3
  · rw [e 129 2 (by omega) (by omega)]; exact h4
/-- two charts are one, or apart -/
theorem ChSh.ap {Q Q' : Nat} (h : ChSh Q) (h' : ChSh Q') : Q = Q' ∨ Q + 7 ≤ Q' ∨ Q' + 7 ≤ Q := by
  obtain ⟨⟨k, h1, h2⟩, -⟩ := h
  obtain ⟨⟨k', h1', h2'⟩, -⟩ := h'
  omega
def CJ (m : MM) : Prop := BodyOK m ∧ WbOK m 9 ∧ WbOK m 14 ∧ (0 ≤ m 19 0 ∧ m 19 0 ≤ 8) ∧ HsOK m ∧ (∀ o, o < 8 → (0 ≤ m 24 o ∧ m 24 o ≤ 2) ∧ 0 ≤ m 22 o ∧ m 22 o ≤ 11) ∧ (∀ Q, ChSh Q → ChtOK m Q) ∧ (0 ≤ m 0 10 ∧ m 0 10 ≤ 1) ∧ 0 ≤ m 0 11 ∧ m 0 11 ≤ 1
theorem CJ.b {m : MM} (h : CJ m) : BodyOK m := h.1
theorem CJ.w {m : MM} (h : CJ m) : WbOK m 9 := h.2.1
theorem CJ.w2 {m : MM} (h : CJ m) : WbOK m 14 := h.2.2.1
theorem CJ.r {m : MM} (h : CJ m) : 0 ≤ m 19 0 ∧ m 19 0 ≤ 8 := h.2.2.2.1
theorem CJ.hs {m : MM} (h : CJ m) : HsOK m := h.2.2.2.2.1
theorem CJ.us {m : MM} (h : CJ m) : ∀ o, o < 8 → (0 ≤ m 24 o ∧ m 24 o ≤ 2) ∧ 0 ≤ m 22 o ∧ m 22 o ≤ 11 := h.2.2.2.2.2.1
theorem CJ.ch {m : MM} (h : CJ m) : ∀ Q, ChSh Q → ChtOK m Q := h.2.2.2.2.2.2.1
theorem CJ.so {m : MM} (h : CJ m) : 0 ≤ m 0 10 ∧ m 0 10 ≤ 1 := h.2.2.2.2.2.2.2.1
theorem CJ.st {m : MM} (h : CJ m) : 0 ≤ m 0 11 ∧ m 0 11 ≤ 1 := h.2.2.2.2.2.2.2.2
def ClS (m : MM) : Prop := CJ m ∧ (m 0 11 = 0 → m 0 10 = 1 → WbX m) ∧ (m 0 11 = 0 → (m 0 10 = 1 ↔ SndX m))
def RfC (m : MM) : Prop := CJ m ∧ m 0 11 = 0 ∧ (m 0 10 = 1 → WbX m) ∧ (m 0 10 = 1 ↔ SndX m)
def Rdy (m : MM) : Prop := CJ m ∧ m 0 11 = 0 ∧ m 0 10 = 1 ∧ WbX m ∧ SndX m
theorem RfC.cs {m : MM} (h : RfC m) : ClS m := ⟨h.1, fun _ q => h.2.2.1 q, fun _ => h.2.2.2⟩
theorem RfC.rdy {m : MM} (h : RfC m) (q : m 0 10 = 1) : Rdy m := ⟨h.1, h.2.1, q, h.2.2.1 q, h.2.2.2.mp q⟩
theorem Rdy.cs {m : MM} (h : Rdy m) : ClS m := ⟨h.1, fun _ _ => h.2.2.2.1, fun _ => ⟨fun _ => h.2.2.2.2, fun _ => h.2.2.1⟩⟩
def pCl (A _i : Nat) : Prop := A < 143
def pNb (A _i : Nat) : Prop := A < 143 ∧ ¬ (0 < A ∧ A < 9)
def pHs (A _i : Nat) : Prop := 129 ≤ A ∧ A ≤ 133
def pW9c (A i : Nat) : Prop := A = 9 ∧ (i = 5 ∨ i = 6 ∨ i = 7)
def pW14c (A i : Nat) : Prop := A = 14 ∧ (i = 5 ∨ i = 6 ∨ i = 7)
def p11 (A i : Nat) : Prop := A = 0 ∧ i = 11
def p10 (A i : Nat) : Prop := A = 0 ∧ i = 10
def p191 (A i : Nat) : Prop := A = 19 ∧ i = 1
def p129 (A i : Nat) : Prop := A = 129 ∧ i = 0
def pQ0 (Q A i : Nat) : Prop := A = Q ∧ i = 0
def pQ1 (Q A i : Nat) : Prop := A = Q ∧ i = 1
def pBd (A i : Nat) : Prop := (0 < A ∧ A < 9) ∨ (A = 0 ∧ i = 11)
def p4f (A _i : Nat) : Prop := A = 4
theorem CJ.e_span {m m' : MM} (h : CJ m) (hF : Frm pRe m m') (hz : 0 ≤ m' 19 0 ∧ m' 19 0 ≤ 8) : CJ m' := by
  exact ⟨h.b.fr (fun A i a b => hF A i (by unfold pRe; omega)), h.w.fr (fun A i a b => hF A i (by unfold pRe; omega)), h.w2.fr (fun A i a b => hF A i (by unfold pRe; omega)), hz, h.hs.fr (fun A i a b => hF A i (by unfold pRe; omega)), fun o ho => by rw [hF 24 o (by unfold pRe; omega), hF 22 o (by unfold pRe; omega)]; exact h.us o ho, fun Q' hQ' => (h.ch Q' hQ').fr3 (fun A i q => hF A i (by have := hQ'.rg; unfold pRe; omega)), by rw [hF 0 10 (by unfold pRe; omega)]; exact h.so, by rw [hF 0 11 (by unfold pRe; omega)]; exact h.st⟩
theorem Rdy.e_span {m m' : MM} (h : Rdy m) (hF : Frm pRe m m') (hz : 0 ≤ m' 19 0 ∧ m' 19 0 ≤ 8) : Rdy m' := by
  exact ⟨CJ.e_span h.1 hF hz, by rw [hF 0 11 (by unfold pRe; omega)]; exact h.2.1, by rw [hF 0 10 (by unfold pRe; omega)]; exact h.2.2.1, h.2.2.2.1.fr (fun A i q => hF A i (by unfold pRe; omega)), h.2.2.2.2.fr (fun A i a b => hF A i (by unfold pRe; omega))⟩
theorem RfC.e_span {m m' : MM} (h : RfC m) (hF : Frm pRe m m') (hz : 0 ≤ m' 19 0 ∧ m' 19 0 ≤ 8) : RfC m' := by
  exact ⟨CJ.e_span h.1 hF hz, by rw [hF 0 11 (by unfold pRe; omega)]; exact h.2.1, fun z => by
    rw [hF 0 10 (by unfold pRe; omega)] at z
    exact (h.2.2.1 z).fr (fun A i q => hF A i (by unfold pRe; omega)), SX.fr h.2.2.2 (hF 0 10 (by unfold pRe; omega)) (fun A i a b => hF A i (by unfold pRe; omega))⟩
theorem CJ.e_seek {m m' : MM} (h : CJ m) (hF : Frm pHs m m') (hz : HsOK m') : CJ m' := by
  exact ⟨h.b.fr (fun A i a b => hF A i (by unfold pHs; omega)), h.w.fr (fun A i a b => hF A i (by unfold pHs; omega)), h.w2.fr (fun A i a b => hF A i (by unfold pHs; omega)), by rw [hF 19 0 (by unfold pHs; omega)]; exact h.r, hz, fun o ho => by rw [hF 24 o (by unfold pHs; omega), hF 22 o (by unfold pHs; omega)]; exact h.us o ho, fun Q' hQ' => (h.ch Q' hQ').fr3 (fun A i q => hF A i (by have := hQ'.rg; unfold pHs; omega)), by rw [hF 0 10 (by unfold pHs; omega)]; exact h.so, by rw [hF 0 11 (by unfold pHs; omega)]; exact h.st⟩
theorem Rdy.e_seek {m m' : MM} (h : Rdy m) (hF : Frm pHs m m') (hz : HsOK m') : Rdy m' := by
  exact ⟨CJ.e_seek h.1 hF hz, by rw [hF 0 11 (by unfold pHs; omega)]; exact h.2.1, by rw [hF 0 10 (by unfold pHs; omega)]; exact h.2.2.1, h.2.2.2.1.fr (fun A i q => hF A i (by unfold pHs; omega)), h.2.2.2.2.fr (fun A i a b => hF A i (by unfold pHs; omega))⟩
theorem RfC.e_seek {m m' : MM} (h : RfC m) (hF : Frm pHs m m') (hz : HsOK m') : RfC m' := by
  exact ⟨CJ.e_seek h.1 hF hz, by rw [hF 0 11 (by unfold pHs; omega)]; exact h.2.1, fun z => by
    rw [hF 0 10 (by unfold pHs; omega)] at z
    exact (h.2.2.1 z).fr (fun A i q => hF A i (by unfold pHs; omega)), SX.fr h.2.2.2 (hF 0 10 (by unfold pHs; omega)) (fun A i a b => hF A i (by unfold pHs; omega))⟩
theorem CJ.e_hold {m m' : MM} (h : CJ m) (hF : Frm pT6 m m') (hu : ∀ o, o < 8 → 0 ≤ m' 24 o ∧ m' 24 o ≤ 2) (hz : ∀ o, m' 22 o = m 22 o ∨ (0 ≤ m' 22 o ∧ m' 22 o ≤ 11)) : CJ m' := by
  exact ⟨h.b.fr (fun A i a b => hF A i (by unfold pT6; omega)), h.w.fr (fun A i a b => hF A i (by unfold pT6; omega)), h.w2.fr (fun A i a b => hF A i (by unfold pT6; omega)), by rw [hF 19 0 (by unfold pT6; omega)]; exact h.r, h.hs.fr (fun A i a b => hF A i (by unfold pT6; omega)), fun o ho => ⟨hu o ho, by have := hz o; have := (h.us o ho).2; omega⟩, fun Q' hQ' => (h.ch Q' hQ').fr3 (fun A i q => hF A i (by have := hQ'.rg; unfold pT6; omega)), by rw [hF 0 10 (by unfold pT6; omega)]; exact h.so, by rw [hF 0 11 (by unfold pT6; omega)]; exact h.st⟩
theorem Rdy.e_hold {m m' : MM} (h : Rdy m) (hF : Frm pT6 m m') (hu : ∀ o, o < 8 → 0 ≤ m' 24 o ∧ m' 24 o ≤ 2) (hz : ∀ o, m' 22 o = m 22 o ∨ (0 ≤ m' 22 o ∧ m' 22 o ≤ 11)) : Rdy m' := by
  exact ⟨CJ.e_hold h.1 hF hu hz, by rw [hF 0 11 (by unfold pT6; omega)]; exact h.2.1, by rw [hF 0 10 (by unfold pT6; omega)]; exact h.2.2.1, h.2.2.2.1.fr (fun A i q => hF A i (by unfold pT6; omega)), h.2.2.2.2.fr (fun A i a b => hF A i (by unfold pT6; omega))⟩
theorem RfC.e_hold {m m' : MM} (h : RfC m) (hF : Frm pT6 m m') (hu : ∀ o, o < 8 → 0 ≤ m' 24 o ∧ m' 24 o ≤ 2) (hz : ∀ o, m' 22 o = m 22 o ∨ (0 ≤ m' 22 o ∧ m' 22 o ≤ 11)) : RfC m' := by
  exact ⟨CJ.e_hold h.1 hF hu hz, by rw [hF 0 11 (by unfold pT6; omega)]; exact h.2.1, fun z => by
    rw [hF 0 10 (by unfold pT6; omega)] at z
    exact (h.2.2.1 z).fr (fun A i q => hF A i (by unfold pT6; omega)), SX.fr h.2.2.2 (hF 0 10 (by unfold pT6; omega)) (fun A i a b => hF A i (by unfold pT6; omega))⟩
theorem CJ.e_find {m m' : MM} (h : CJ m) (hF : Frm pSk m m') (hz : ∀ o, m' 22 o = m 22 o ∨ (0 ≤ m' 22 o ∧ m' 22 o ≤ 11)) : CJ m' := by
  exact ⟨h.b.fr (fun A i a b => hF A i (by unfold pSk; omega)), h.w.fr (fun A i a b => hF A i (by unfold pSk; omega)), h.w2.fr (fun A i a b => hF A i (by unfold pSk; omega)), by rw [hF 19 0 (by unfold pSk; omega)]; exact h.r, h.hs.fr (fun A i a b => hF A i (by unfold pSk; omega)), fun o ho => ⟨by rw [hF 24 o (by unfold pSk; omega)]; exact (h.us o ho).1, by have := hz o; have := (h.us o ho).2; omega⟩, fun Q' hQ' => (h.ch Q' hQ').fr3 (fun A i q => hF A i (by have := hQ'.rg; unfold pSk; omega)), by rw [hF 0 10 (by unfold pSk; omega)]; exact h.so, by rw [hF 0 11 (by unfold pSk; omega)]; exact h.st⟩
theorem Rdy.e_find {m m' : MM} (h : Rdy m) (hF : Frm pSk m m') (hz : ∀ o, m' 22 o = m 22 o ∨ (0 ≤ m' 22 o ∧ m' 22 o ≤ 11)) : Rdy m' := by
  exact ⟨CJ.e_find h.1 hF hz, by rw [hF 0 11 (by unfold pSk; omega)]; exact h.2.1, by rw [hF 0 10 (by unfold pSk; omega)]; exact h.2.2.1, h.2.2.2.1.fr (fun A i q => hF A i (by unfold pSk; omega)), h.2.2.2.2.fr (fun A i a b => hF A i (by unfold pSk; omega))⟩
theorem RfC.e_find {m m' : MM} (h : RfC m) (hF : Frm pSk m m') (hz : ∀ o, m' 22 o = m 22 o ∨ (0 ≤ m' 22 o ∧ m' 22 o ≤ 11)) : RfC m' := by
  exact ⟨CJ.e_find h.1 hF hz, by rw [hF 0 11 (by unfold pSk; omega)]; exact h.2.1, fun z => by
    rw [hF 0 10 (by unfold pSk; omega)] at z
    exact (h.2.2.1 z).fr (fun A i q => hF A i (by unfold pSk; omega)), SX.fr h.2.2.2 (hF 0 10 (by unfold pSk; omega)) (fun A i a b => hF A i (by unfold pSk; omega))⟩
theorem CJ.e_draw {Q : Nat} (hQ : ChSh Q) {m m' : MM} (h : CJ m) (hF : Frm (pCh Q) m m') (hz : ChtOK m' Q) : CJ m' := by
  have hq := hQ.rg
  exact ⟨h.b.fr (fun A i a b => hF A i (by unfold pCh; omega)), h.w.fr (fun A i a b => hF A i (by unfold pCh; omega)), h.w2.fr (fun A i a b => hF A i (by unfold pCh; omega)), by rw [hF 19 0 (by unfold pCh; omega)]; exact h.r, h.hs.fr (fun A i a b => hF A i (by unfold pCh; omega)), fun o ho => by rw [hF 24 o (by unfold pCh; omega), hF 22 o (by unfold pCh; omega)]; exact h.us o ho, fun Q' hQ' => by
    have := hQ'.rg
    rcases ChSh.ap hQ hQ' with e | e
    · subst e; exact hz
    · exact (h.ch Q' hQ').fr3 (fun A i q => hF A i (by unfold pCh; omega)), by rw [hF 0 10 (by unfold pCh; omega)]; exact h.so, by rw [hF 0 11 (by unfold pCh; omega)]; exact h.st⟩
theorem Rdy.e_draw {Q : Nat} (hQ : ChSh Q) {m m' : MM} (h : Rdy m) (hF : Frm (pCh Q) m m') (hz : ChtOK m' Q) : Rdy m' := by
  have hq := hQ.rg
  exact ⟨CJ.e_draw hQ h.1 hF hz, by rw [hF 0 11 (by unfold pCh; omega)]; exact h.2.1, by rw [hF 0 10 (by unfold pCh; omega)]; exact h.2.2.1, h.2.2.2.1.fr (fun A i q => hF A i (by unfold pCh; omega)), h.2.2.2.2.fr (fun A i a b => hF A i (by unfold pCh; omega))⟩
theorem RfC.e_draw {Q : Nat} (hQ : ChSh Q) {m m' : MM} (h : RfC m) (hF : Frm (pCh Q) m m') (hz : ChtOK m' Q) : RfC m' := by
  have hq := hQ.rg
  exact ⟨CJ.e_draw hQ h.1 hF hz, by rw [hF 0 11 (by unfold pCh; omega)]; exact h.2.1, fun z => by
    rw [hF 0 10 (by unfold pCh; omega)] at z
    exact (h.2.2.1 z).fr (fun A i q => hF A i (by unfold pCh; omega)), SX.fr h.2.2.2 (hF 0 10 (by unfold pCh; omega)) (fun A i a b => hF A i (by unfold pCh; omega))⟩
theorem CJ.e_fit {Q : Nat} (hQ : ChSh Q) {m m' : MM} (h : CJ m) (hF : Frm (pQ1 Q) m m') (hz : ChtOK m' Q) : CJ m' := by
  have hq := hQ.rg
  exact ⟨h.b.fr (fun A i a b => hF A i (by unfold pQ1; omega)), h.w.fr (fun A i a b => hF A i (by unfold pQ1; omega)), h.w2.fr (fun A i a b => hF A i (by unfold pQ1; omega)), by rw [hF 19 0 (by unfold pQ1; omega)]; exact h.r, h.hs.fr (fun A i a b => hF A i (by unfold pQ1; omega)), fun o ho => by rw [hF 24 o (by unfold pQ1; omega), hF 22 o (by unfold pQ1; omega)]; exact h.us o ho, fun Q' hQ' => by
    have := hQ'.rg
    rcases ChSh.ap hQ hQ' with e | e
    · subst e; exact hz
    · exact (h.ch Q' hQ').fr3 (fun A i q => hF A i (by unfold pQ1; omega)), by rw [hF 0 10 (by unfold pQ1; omega)]; exact h.so, by rw [hF 0 11 (by unfold pQ1; omega)]; exact h.st⟩
theorem Rdy.e_fit {Q : Nat} (hQ : ChSh Q) {m m' : MM} (h : Rdy m) (hF : Frm (pQ1 Q) m m') (hz : ChtOK m' Q) : Rdy m' := by
  have hq := hQ.rg
  exact ⟨CJ.e_fit hQ h.1 hF hz, by rw [hF 0 11 (by unfold pQ1; omega)]; exact h.2.1, by rw [hF 0 10 (by unfold pQ1; omega)]; exact h.2.2.1, h.2.2.2.1.fr (fun A i q => hF A i (by unfold pQ1; omega)), h.2.2.2.2.fr (fun A i a b => hF A i (by unfold pQ1; omega))⟩
theorem RfC.e_fit {Q : Nat} (hQ : ChSh Q) {m m' : MM} (h : RfC m) (hF : Frm (pQ1 Q) m m') (hz : ChtOK m' Q) : RfC m' := by
  have hq := hQ.rg
  exact ⟨CJ.e_fit hQ h.1 hF hz, by rw [hF 0 11 (by unfold pQ1; omega)]; exact h.2.1, fun z => by
    rw [hF 0 10 (by unfold pQ1; omega)] at z
    exact (h.2.2.1 z).fr (fun A i q => hF A i (by unfold pQ1; omega)), SX.fr h.2.2.2 (hF 0 10 (by unfold pQ1; omega)) (fun A i a b => hF A i (by unfold pQ1; omega))⟩
theorem CJ.e_try {Q : Nat} (hQ : ChSh Q) {m m' : MM} (h : CJ m) (hF : Frm (pQ0 Q) m m') : CJ m' := by
  have hq := hQ.rg
  exact ⟨h.b.fr (fun A i a b => hF A i (by unfold pQ0; omega)), h.w.fr (fun A i a b => hF A i (by unfold pQ0; omega)), h.w2.fr (fun A i a b => hF A i (by unfold pQ0; omega)), by rw [hF 19 0 (by unfold pQ0; omega)]; exact h.r, h.hs.fr (fun A i a b => hF A i (by unfold pQ0; omega)), fun o ho => by rw [hF 24 o (by unfold pQ0; omega), hF 22 o (by unfold pQ0; omega)]; exact h.us o ho, fun Q' hQ' => by
    have := hQ'.rg
    rcases ChSh.ap hQ hQ' with e | e
    · subst e; exact (h.ch Q hQ).fr3 (fun A i q => hF A i (by unfold pQ0; omega))
    · exact (h.ch Q' hQ').fr3 (fun A i q => hF A i (by unfold pQ0; omega)), by rw [hF 0 10 (by unfold pQ0; omega)]; exact h.so, by rw [hF 0 11 (by unfold pQ0; omega)]; exact h.st⟩
theorem Rdy.e_try {Q : Nat} (hQ : ChSh Q) {m m' : MM} (h : Rdy m) (hF : Frm (pQ0 Q) m m') : Rdy m' := by
  have hq := hQ.rg
  exact ⟨CJ.e_try hQ h.1 hF , by rw [hF 0 11 (by unfold pQ0; omega)]; exact h.2.1, by rw [hF 0 10 (by unfold pQ0; omega)]; exact h.2.2.1, h.2.2.2.1.fr (fun A i q => hF A i (by unfold pQ0; omega)), h.2.2.2.2.fr (fun A i a b => hF A i (by unfold pQ0; omega))⟩
theorem RfC.e_try {Q : Nat} (hQ : ChSh Q) {m m' : MM} (h : RfC m) (hF : Frm (pQ0 Q) m m') : RfC m' := by
  have hq := hQ.rg
  exact ⟨CJ.e_try hQ h.1 hF , by rw [hF 0 11 (by unfold pQ0; omega)]; exact h.2.1, fun z => by
    rw [hF 0 10 (by unfold pQ0; omega)] at z
    exact (h.2.2.1 z).fr (fun A i q => hF A i (by unfold pQ0; omega)), SX.fr h.2.2.2 (hF 0 10 (by unfold pQ0; omega)) (fun A i a b => hF A i (by unfold pQ0; omega))⟩
theorem CJ.e_play {m m' : MM} (h : CJ m) (hF : Frm pPl m m') : CJ m' := by
  exact ⟨h.b.fr (fun A i a b => hF A i (by unfold pPl; omega)), h.w.fr (fun A i a b => hF A i (by unfold pPl; omega)), h.w2.fr (fun A i a b => hF A i (by unfold pPl; omega)), by rw [hF 19 0 (by unfold pPl; omega)]; exact h.r, h.hs.fr (fun A i a b => hF A i (by unfold pPl; omega)), fun o ho => by rw [hF 24 o (by unfold pPl; omega), hF 22 o (by unfold pPl; omega)]; exact h.us o ho, fun Q' hQ' => (h.ch Q' hQ').fr3 (fun A i q => hF A i (by have := hQ'.rg; unfold pPl; omega)), by rw [hF 0 10 (by unfold pPl; omega)]; exact h.so, by rw [hF 0 11 (by unfold pPl; omega)]; exact h.st⟩
theorem Rdy.e_play {m m' : MM} (h : Rdy m) (hF : Frm pPl m m') : Rdy m' := by
  exact ⟨CJ.e_play h.1 hF , by rw [hF 0 11 (by unfold pPl; omega)]; exact h.2.1, by rw [hF 0 10 (by unfold pPl; omega)]; exact h.2.2.1, h.2.2.2.1.fr (fun A i q => hF A i (by unfold pPl; omega)), h.2.2.2.2.fr (fun A i a b => hF A i (by unfold pPl; omega))⟩
theorem RfC.e_play {m m' : MM} (h : RfC m) (hF : Frm pPl m m') : RfC m' := by
  exact ⟨CJ.e_play h.1 hF , by rw [hF 0 11 (by unfold pPl; omega)]; exact h.2.1, fun z => by
    rw [hF 0 10 (by unfold pPl; omega)] at z
    exact (h.2.2.1 z).fr (fun A i q => hF A i (by unfold pPl; omega)), SX.fr h.2.2.2 (hF 0 10 (by unfold pPl; omega)) (fun A i a b => hF A i (by unfold pPl; omega))⟩
theorem CJ.e_whl {m m' : MM} (h : CJ m) (hF : Frm p140 m m') : CJ m' := by
  exact ⟨h.b.fr (fun A i a b => hF A i (by unfold p140; omega)), h.w.fr (fun A i a b => hF A i (by unfold p140; omega)), h.w2.fr (fun A i a b => hF A i (by unfold p140; omega)), by rw [hF 19 0 (by unfold p140; omega)]; exact h.r, h.hs.fr (fun A i a b => hF A i (by unfold p140; omega)), fun o ho => by rw [hF 24 o (by unfold p140; omega), hF 22 o (by unfold p140; omega)]; exact h.us o ho, fun Q' hQ' => (h.ch Q' hQ').fr3 (fun A i q => hF A i (by have := hQ'.rg; unfold p140; omega)), by rw [hF 0 10 (by unfold p140; omega)]; exact h.so, by rw [hF 0 11 (by unfold p140; omega)]; exact h.st⟩
theorem Rdy.e_whl {m m' : MM} (h : Rdy m) (hF : Frm p140 m m') : Rdy m' := by
  exact ⟨CJ.e_whl h.1 hF , by rw [hF 0 11 (by unfold p140; omega)]; exact h.2.1, by rw [hF 0 10 (by unfold p140; omega)]; exact h.2.2.1, h.2.2.2.1.fr (fun A i q => hF A i (by unfold p140; omega)), h.2.2.2.2.fr (fun A i a b => hF A i (by unfold p140; omega))⟩
theorem RfC.e_whl {m m' : MM} (h : RfC m) (hF : Frm p140 m m') : RfC m' := by
  exact ⟨CJ.e_whl h.1 hF , by rw [hF 0 11 (by unfold p140; omega)]; exact h.2.1, fun z => by
    rw [hF 0 10 (by unfold p140; omega)] at z
    exact (h.2.2.1 z).fr (fun A i q => hF A i (by unfold p140; omega)), SX.fr h.2.2.2 (hF 0 10 (by unfold p140; omega)) (fun A i a b => hF A i (by unfold p140; omega))⟩
theorem CJ.e_pat {m m' : MM} (h : CJ m) (hF : Frm pPa m m') : CJ m' := by
  exact ⟨h.b.fr (fun A i a b => hF A i (by unfold pPa; omega)), h.w.fr (fun A i a b => hF A i (by unfold pPa; omega)), h.w2.fr (fun A i a b => hF A i (by unfold pPa; omega)), by rw [hF 19 0 (by unfold pPa; omega)]; exact h.r, h.hs.fr (fun A i a b => hF A i (by unfold pPa; omega)), fun o ho => by rw [hF 24 o (by unfold pPa; omega), hF 22 o (by unfold pPa; omega)]; exact h.us o ho, fun Q' hQ' => (h.ch Q' hQ').fr3 (fun A i q => hF A i (by have := hQ'.rg; unfold pPa; omega)), by rw [hF 0 10 (by unfold pPa; omega)]; exact h.so, by rw [hF 0 11 (by unfold pPa; omega)]; exact h.st⟩
theorem Rdy.e_pat {m m' : MM} (h : Rdy m) (hF : Frm pPa m m') : Rdy m' := by
  exact ⟨CJ.e_pat h.1 hF , by rw [hF 0 11 (by unfold pPa; omega)]; exact h.2.1, by rw [hF 0 10 (by unfold pPa; omega)]; exact h.2.2.1, h.2.2.2.1.fr (fun A i q => hF A i (by unfold pPa; omega)), h.2.2.2.2.fr (fun A i a b => hF A i (by unfold pPa; omega))⟩
theorem RfC.e_pat {m m' : MM} (h : RfC m) (hF : Frm pPa m m') : RfC m' := by
  exact ⟨CJ.e_pat h.1 hF , by rw [hF 0 11 (by unfold pPa; omega)]; exact h.2.1, fun z => by
    rw [hF 0 10 (by unfold pPa; omega)] at z
    exact (h.2.2.1 z).fr (fun A i q => hF A i (by unfold pPa; omega)), SX.fr h.2.2.2 (hF 0 10 (by unfold pPa; omega)) (fun A i a b => hF A i (by unfold pPa; omega))⟩
theorem CJ.e_sp1 {m m' : MM} (h : CJ m) (hF : Frm p14 m m') (hz : WbOK m' 14) : CJ m' := by
  exact ⟨h.b.fr (fun A i a b => hF A i (by unfold p14; omega)), h.w.fr (fun A i a b => hF A i (by unfold p14; omega)), hz, by rw [hF 19 0 (by unfold p14; omega)]; exact h.r, h.hs.fr (fun A i a b => hF A i (by unfold p14; omega)), fun o ho => by rw [hF 24 o (by unfold p14; omega), hF 22 o (by unfold p14; omega)]; exact h.us o ho, fun Q' hQ' => (h.ch Q' hQ').fr3 (fun A i q => hF A i (by have := hQ'.rg; unfold p14; omega)), by rw [hF 0 10 (by unfold p14; omega)]; exact h.so, by rw [hF 0 11 (by unfold p14; omega)]; exact h.st⟩
theorem Rdy.e_sp1 {m m' : MM} (h : Rdy m) (hF : Frm p14 m m') (hz : WbOK m' 14) : Rdy m' := by
  exact ⟨CJ.e_sp1 h.1 hF hz, by rw [hF 0 11 (by unfold p14; omega)]; exact h.2.1, by rw [hF 0 10 (by unfold p14; omega)]; exact h.2.2.1, h.2.2.2.1.fr (fun A i q => hF A i (by unfold p14; omega)), h.2.2.2.2.fr (fun A i a b => hF A i (by unfold p14; omega))⟩
theorem RfC.e_sp1 {m m' : MM} (h : RfC m) (hF : Frm p14 m m') (hz : WbOK m' 14) : RfC m' := by
  exact ⟨CJ.e_sp1 h.1 hF hz, by rw [hF 0 11 (by unfold p14; omega)]; exact h.2.1, fun z => by
    rw [hF 0 10 (by unfold p14; omega)] at z
    exact (h.2.2.1 z).fr (fun A i q => hF A i (by unfold p14; omega)), SX.fr h.2.2.2 (hF 0 10 (by unfold p14; omega)) (fun A i a b => hF A i (by unfold p14; omega))⟩
theorem CJ.e_sp2 {m m' : MM} (h : CJ m) (hF : Frm pW14c m m') : CJ m' := by
  exact ⟨h.b.fr (fun A i a b => hF A i (by unfold pW14c; omega)), h.w.fr (fun A i a b => hF A i (by unfold pW14c; omega)), ⟨fun j hj => by
    rw [hF _ _ (by unfold pW14c; omega), hF _ _ (by unfold pW14c; omega), hF _ _ (by unfold pW14c; omega), hF _ _ (by unfold pW14c; omega)]; exact h.w2.1 j hj, by rw [hF 14 0 (by unfold pW14c; omega)]; exact h.w2.2⟩, by rw [hF 19 0 (by unfold pW14c; omega)]; exact h.r, h.hs.fr (fun A i a b => hF A i (by unfold pW14c; omega)), fun o ho => by rw [hF 24 o (by unfold pW14c; omega), hF 22 o (by unfold pW14c; omega)]; exact h.us o ho, fun Q' hQ' => (h.ch Q' hQ').fr3 (fun A i q => hF A i (by have := hQ'.rg; unfold pW14c; omega)), by rw [hF 0 10 (by unfold pW14c; omega)]; exact h.so, by rw [hF 0 11 (by unfold pW14c; omega)]; exact h.st⟩
theorem Rdy.e_sp2 {m m' : MM} (h : Rdy m) (hF : Frm pW14c m m') : Rdy m' := by
  exact ⟨CJ.e_sp2 h.1 hF , by rw [hF 0 11 (by unfold pW14c; omega)]; exact h.2.1, by rw [hF 0 10 (by unfold pW14c; omega)]; exact h.2.2.1, h.2.2.2.1.fr (fun A i q => hF A i (by unfold pW14c; omega)), h.2.2.2.2.fr (fun A i a b => hF A i (by unfold pW14c; omega))⟩
theorem RfC.e_sp2 {m m' : MM} (h : RfC m) (hF : Frm pW14c m m') : RfC m' := by
  exact ⟨CJ.e_sp2 h.1 hF , by rw [hF 0 11 (by unfold pW14c; omega)]; exact h.2.1, fun z => by
    rw [hF 0 10 (by unfold pW14c; omega)] at z
    exact (h.2.2.1 z).fr (fun A i q => hF A i (by unfold pW14c; omega)), SX.fr h.2.2.2 (hF 0 10 (by unfold pW14c; omega)) (fun A i a b => hF A i (by unfold pW14c; omega))⟩
theorem CJ.e_wv {m m' : MM} (h : CJ m) (hF : Frm p9w m m') (hz : WbOK m' 9) : CJ m' := by
  exact ⟨h.b.fr (fun A i a b => hF A i (by unfold p9w; omega)), hz, h.w2.fr (fun A i a b => hF A i (by unfold p9w; omega)), by rw [hF 19 0 (by unfold p9w; omega)]; exact h.r, h.hs.fr (fun A i a b => hF A i (by unfold p9w; omega)), fun o ho => by rw [hF 24 o (by unfold p9w; omega), hF 22 o (by unfold p9w; omega)]; exact h.us o ho, fun Q' hQ' => (h.ch Q' hQ').fr3 (fun A i q => hF A i (by have := hQ'.rg; unfold p9w; omega)), by rw [hF 0 10 (by unfold p9w; omega)]; exact h.so, by rw [hF 0 11 (by unfold p9w; omega)]; exact h.st⟩
theorem CJ.e_wg {m m' : MM} (h : CJ m) (hF : Frm pW9c m m') : CJ m' := by
  exact ⟨h.b.fr (fun A i a b => hF A i (by unfold pW9c; omega)), ⟨fun j hj => by
    rw [hF _ _ (by unfold pW9c; omega), hF _ _ (by unfold pW9c; omega), hF _ _ (by unfold pW9c; omega), hF _ _ (by unfold pW9c; omega)]; exact h.w.1 j hj, by rw [hF 9 0 (by unfold pW9c; omega)]; exact h.w.2⟩, h.w2.fr (fun A i a b => hF A i (by unfold pW9c; omega)), by rw [hF 19 0 (by unfold pW9c; omega)]; exact h.r, h.hs.fr (fun A i a b => hF A i (by unfold pW9c; omega)), fun o ho => by rw [hF 24 o (by unfold pW9c; omega), hF 22 o (by unfold pW9c; omega)]; exact h.us o ho, fun Q' hQ' => (h.ch Q' hQ').fr3 (fun A i q => hF A i (by have := hQ'.rg; unfold pW9c; omega)), by rw [hF 0 10 (by unfold pW9c; omega)]; exact h.so, by rw [hF 0 11 (by unfold pW9c; omega)]; exact h.st⟩
theorem CJ.e_st {m m' : MM} (h : CJ m) (hF : Frm p11 m m') (hz : 0 ≤ m' 0 11 ∧ m' 0 11 ≤ 1) : CJ m' := by
  exact ⟨h.b.fr (fun A i a b => hF A i (by unfold p11; omega)), h.w.fr (fun A i a b => hF A i (by unfold p11; omega)), h.w2.fr (fun A i a b => hF A i (by unfold p11; omega)), by rw [hF 19 0 (by unfold p11; omega)]; exact h.r, h.hs.fr (fun A i a b => hF A i (by unfold p11; omega)), fun o ho => by rw [hF 24 o (by unfold p11; omega), hF 22 o (by unfold p11; omega)]; exact h.us o ho, fun Q' hQ' => (h.ch Q' hQ').fr3 (fun A i q => hF A i (by have := hQ'.rg; unfold p11; omega)), by rw [hF 0 10 (by unfold p11; omega)]; exact h.so, hz⟩
theorem CJ.e_so {m m' : MM} (h : CJ m) (hF : Frm p10 m m') (hz : 0 ≤ m' 0 10 ∧ m' 0 10 ≤ 1) : CJ m' := by
  exact ⟨h.b.fr (fun A i a b => hF A i (by unfold p10; omega)), h.w.fr (fun A i a b => hF A i (by unfold p10; omega)), h.w2.fr (fun A i a b => hF A i (by unfold p10; omega)), by rw [hF 19 0 (by unfold p10; omega)]; exact h.r, h.hs.fr (fun A i a b => hF A i (by unfold p10; omega)), fun o ho => by rw [hF 24 o (by unfold p10; omega), hF 22 o (by unfold p10; omega)]; exact h.us o ho, fun Q' hQ' => (h.ch Q' hQ').fr3 (fun A i q => hF A i (by have := hQ'.rg; unfold p10; omega)), hz, by rw [hF 0 11 (by unfold p10; omega)]; exact h.st⟩
theorem CJ.e_rs {m m' : MM} (h : CJ m) (hF : Frm p191 m m') : CJ m' := by
  exact ⟨h.b.fr (fun A i a b => hF A i (by unfold p191; omega)), h.w.fr (fun A i a b => hF A i (by unfold p191; omega)), h.w2.fr (fun A i a b => hF A i (by unfold p191; omega)), by rw [hF 19 0 (by unfold p191; omega)]; exact h.r, h.hs.fr (fun A i a b => hF A i (by unfold p191; omega)), fun o ho => by rw [hF 24 o (by unfold p191; omega), hF 22 o (by unfold p191; omega)]; exact h.us o ho, fun Q' hQ' => (h.ch Q' hQ').fr3 (fun A i q => hF A i (by have := hQ'.rg; unfold p191; omega)), by rw [hF 0 10 (by unfold p191; omega)]; exact h.so, by rw [hF 0 11 (by unfold p191; omega)]; exact h.st⟩
theorem Rdy.e_rs {m m' : MM} (h : Rdy m) (hF : Frm p191 m m') : Rdy m' := by
  exact ⟨CJ.e_rs h.1 hF , by rw [hF 0 11 (by unfold p191; omega)]; exact h.2.1, by rw [hF 0 10 (by unfold p191; omega)]; exact h.2.2.1, h.2.2.2.1.fr (fun A i q => hF A i (by unfold p191; omega)), h.2.2.2.2.fr (fun A i a b => hF A i (by unfold p191; omega))⟩
theorem RfC.e_rs {m m' : MM} (h : RfC m) (hF : Frm p191 m m') : RfC m' := by
  exact ⟨CJ.e_rs h.1 hF , by rw [hF 0 11 (by unfold p191; omega)]; exact h.2.1, fun z => by
    rw [hF 0 10 (by unfold p191; omega)] at z
    exact (h.2.2.1 z).fr (fun A i q => hF A i (by unfold p191; omega)), SX.fr h.2.2.2 (hF 0 10 (by unfold p191; omega)) (fun A i a b => hF A i (by unfold p191; omega))⟩
theorem CJ.e_h0 {m m' : MM} (h : CJ m) (hF : Frm p129 m m') (hz : 0 ≤ m' 129 0 ∧ m' 129 0 ≤ 12) : CJ m' := by
  exact ⟨h.b.fr (fun A i a b => hF A i (by unfold p129; omega)), h.w.fr (fun A i a b => hF A i (by unfold p129; omega)), h.w2.fr (fun A i a b => hF A i (by unfold p129; omega)), by rw [hF 19 0 (by unfold p129; omega)]; exact h.r, ⟨fun o ho => by rw [hF 130 o (by unfold p129; omega), hF 131 o (by unfold p129; omega)]; exact h.hs.1 o ho, hz, by rw [hF 129 1 (by unfold p129; omega)]; exact h.hs.2.2.1, by rw [hF 129 2 (by unfold p129; omega)]; exact h.hs.2.2.2⟩, fun o ho => by rw [hF 24 o (by unfold p129; omega), hF 22 o (by unfold p129; omega)]; exact h.us o ho, fun Q' hQ' => (h.ch Q' hQ').fr3 (fun A i q => hF A i (by have := hQ'.rg; unfold p129; omega)), by rw [hF 0 10 (by unfold p129; omega)]; exact h.so, by rw [hF 0 11 (by unfold p129; omega)]; exact h.st⟩
theorem Rdy.e_h0 {m m' : MM} (h : Rdy m) (hF : Frm p129 m m') (hz : 0 ≤ m' 129 0 ∧ m' 129 0 ≤ 12) : Rdy m' := by
  exact ⟨CJ.e_h0 h.1 hF hz, by rw [hF 0 11 (by unfold p129; omega)]; exact h.2.1, by rw [hF 0 10 (by unfold p129; omega)]; exact h.2.2.1, h.2.2.2.1.fr (fun A i q => hF A i (by unfold p129; omega)), h.2.2.2.2.fr (fun A i a b => hF A i (by unfold p129; omega))⟩
theorem RfC.e_h0 {m m' : MM} (h : RfC m) (hF : Frm p129 m m') (hz : 0 ≤ m' 129 0 ∧ m' 129 0 ≤ 12) : RfC m' := by
  exact ⟨CJ.e_h0 h.1 hF hz, by rw [hF 0 11 (by unfold p129; omega)]; exact h.2.1, fun z => by
    rw [hF 0 10 (by unfold p129; omega)] at z
    exact (h.2.2.1 z).fr (fun A i q => hF A i (by unfold p129; omega)), SX.fr h.2.2.2 (hF 0 10 (by unfold p129; omega)) (fun A i a b => hF A i (by unfold p129; omega))⟩
theorem CJ.e_bd {m m' : MM} (h : CJ m) (hF : Frm pBd m m') (hz : BodyOK m') (ht : 0 ≤ m' 0 11 ∧ m' 0 11 ≤ 1) : CJ m' := by
  exact ⟨hz, h.w.fr (fun A i a b => hF A i (by unfold pBd; omega)), h.w2.fr (fun A i a b => hF A i (by unfold pBd; omega)), by rw [hF 19 0 (by unfold pBd; omega)]; exact h.r, h.hs.fr (fun A i a b => hF A i (by unfold pBd; omega)), fun o ho => by rw [hF 24 o (by unfold pBd; omega), hF 22 o (by unfold pBd; omega)]; exact h.us o ho, fun Q' hQ' => (h.ch Q' hQ').fr3 (fun A i q => hF A i (by have := hQ'.rg; unfold pBd; omega)), by rw [hF 0 10 (by unfold pBd; omega)]; exact h.so, ht⟩
theorem up1F {P : Nat → Nat → Prop} {m : MM} {A i : Nat} {x : Int} (q : P A i) : Frm P m (upm m A i x) := Frm.up Frm.rf q
theorem ClS.bd {m m' : MM} (h : ClS m) (hF : Frm pBd m m') (hz : BodyOK m') (ht : m' 0 11 = 1) : ClS m' := ⟨CJ.e_bd h.1 hF hz (by omega), fun q => by omega, fun q => by omega⟩
theorem ClS.fi {m m' : MM} (h : ClS m) (hF : Frm p4f m m') : ClS m' := by
  have hB : BodyOK m' := by
    obtain ⟨h1, h2, h3, h4, h5, h6⟩ := h.1.b
    refine ⟨by rw [hF 1 0 (by unfold p4f; omega)]; exact h1, fun o ho => ?_, fun k hk => by rw [hF 5 k (by unfold p4f; omega)]; exact h3 k hk, fun k hk => by rw [hF 6 k (by unfold p4f; omega)]; exact h4 k hk, fun k hk => by rw [hF 7 k (by unfold p4f; omega)]; exact h5 k hk, fun k hk => by rw [hF 8 k (by unfold p4f; omega)]; exact h6 k hk⟩
    unfold BOp
    rw [hF 2 o (by unfold p4f; omega), hF 3 (4 * o) (by unfold p4f; omega), hF 3 (4 * o + 1) (by unfold p4f; omega), hF 3 (4 * o + 2) (by unfold p4f; omega), hF 3 (4 * o + 3) (by unfold p4f; omega)]
    exact h2 o ho
  refine ⟨CJ.e_bd h.1 (hF.mono (fun A i q => by unfold p4f at q; unfold pBd; omega)) hB (by rw [hF 0 11 (by unfold p4f; omega)]; exact h.1.st), fun a b => ?_, fun a => SX.fr (h.2.2 (by rw [hF 0 11 (by unfold p4f; omega)] at a; exact a)) (hF 0 10 (by unfold p4f; omega)) (fun A i a b => hF A i (by unfold p4f; omega))⟩
  rw [hF 0 11 (by unfold p4f; omega)] at a
  rw [hF 0 10 (by unfold p4f; omega)] at b
  exact (h.2.1 a b).fr (fun A i q => hF A i (by unfold p4f; omega))
/-! laid by wip/hand/tg.py: the class refreshes -/
theorem ChtOK.up1 {m : MM} {Q : Nat} {x : Int} (h : ChtOK m Q) (hx : 0 ≤ x ∧ x ≤ 1) : ChtOK (upm m Q 1 x) Q := by
  refine ⟨⟨?_, ?_, ?_⟩, fun o ho => ?_⟩
  · rw [upm_ne (by omega)]; exact h.1.1
  · rw [upm_ne (by omega)]; exact h.1.2.1
  · rw [upm_eq]; exact hx
  · rw [upm_ne (by omega), upm_ne (by omega), upm_ne (by omega)]; exact h.2 o ho
set_option maxRecDepth 100000 in
theorem mt_10 : MT[10]? = some M_10 := rfl
set_option maxRecDepth 100000 in
theorem mt_11 : MT[11]? = some M_11 := rfl
set_option maxRecDepth 100000 in
theorem mt_69 : MT[69]? = some M_69 := rfl
set_option maxRecDepth 100000 in
theorem mt_73 : MT[73]? = some M_73 := rfl
set_option maxRecDepth 100000 in
theorem mt_85 : MT[85]? = some M_85 := rfl
set_option maxRecDepth 100000 in
theorem mt_115 : MT[115]? = some M_115 := rfl
theorem te_10_0 : (pT M_10).find? (fun e => e.1 == 0) = some (0, .aload_n 0, 0, 0) := rfl
theorem te_10_1 : (pT M_10).find? (fun e => e.1 == 1) = some (1, .invokevirtual 152, 11, 0) := rfl
theorem te_10_4 : (pT M_10).find? (fun e => e.1 == 4) = some (4, .aload_n 0, 0, 0) := rfl
theorem te_10_5 : (pT M_10).find? (fun e => e.1 == 5) = some (5, .getfield 155, 9, 10) := rfl
theorem te_10_8 : (pT M_10).find? (fun e => e.1 == 8) = some (8, .ireturn, 0, 0) := rfl
theorem te_11_0 : (pT M_11).find? (fun e => e.1 == 0) = some (0, .aload_n 0, 0, 0) := rfl
theorem te_11_1 : (pT M_11).find? (fun e => e.1 == 1) = some (1, .getfield 75, 9, 11) := rfl
theorem te_11_4 : (pT M_11).find? (fun e => e.1 == 4) = some (4, .ifCond .ne 4, 0, 0) := rfl
theorem te_11_7 : (pT M_11).find? (fun e => e.1 == 7) = some (7, .return_, 0, 0) := rfl
theorem te_11_8 : (pT M_11).find? (fun e => e.1 == 8) = some (8, .aload_n 0, 0, 0) := rfl
theorem te_11_9 : (pT M_11).find? (fun e => e.1 == 9) = some (9, .iconst 0, 0, 0) := rfl
theorem te_11_10 : (pT M_11).find? (fun e => e.1 == 10) = some (10, .putfield 75, 9, 11) := rfl
theorem te_11_13 : (pT M_11).find? (fun e => e.1 == 13) = some (13, .aload_n 0, 0, 0) := rfl
theorem te_11_14 : (pT M_11).find? (fun e => e.1 == 14) = some (14, .aload_n 0, 0, 0) := rfl
theorem te_11_15 : (pT M_11).find? (fun e => e.1 == 15) = some (15, .getfield 12, 9, 0) := rfl
theorem te_11_18 : (pT M_11).find? (fun e => e.1 == 18) = some (18, .invokevirtual 396, 12, 1) := rfl
theorem te_11_21 : (pT M_11).find? (fun e => e.1 == 21) = some (21, .putfield 155, 9, 10) := rfl
theorem te_11_24 : (pT M_11).find? (fun e => e.1 == 24) = some (24, .aload_n 0, 0, 0) := rfl
theorem te_11_25 : (pT M_11).find? (fun e => e.1 == 25) = some (25, .getfield 155, 9, 10) := rfl
theorem te_11_28 : (pT M_11).find? (fun e => e.1 == 28) = some (28, .ifCond .eq 29, 0, 0) := rfl
theorem te_11_31 : (pT M_11).find? (fun e => e.1 == 31) = some (31, .aload_n 0, 0, 0) := rfl
theorem te_11_32 : (pT M_11).find? (fun e => e.1 == 32) = some (32, .getfield 19, 9, 1) := rfl
theorem te_11_35 : (pT M_11).find? (fun e => e.1 == 35) = some (35, .aload_n 0, 0, 0) := rfl
theorem te_11_36 : (pT M_11).find? (fun e => e.1 == 36) = some (36, .getfield 12, 9, 0) := rfl
theorem te_11_39 : (pT M_11).find? (fun e => e.1 == 39) = some (39, .iconst (-1), 0, 0) := rfl
theorem te_11_40 : (pT M_11).find? (fun e => e.1 == 40) = some (40, .invokevirtual 352, 17, 1) := rfl
theorem te_11_43 : (pT M_11).find? (fun e => e.1 == 43) = some (43, .aload_n 0, 0, 0) := rfl
theorem te_11_44 : (pT M_11).find? (fun e => e.1 == 44) = some (44, .getfield 19, 9, 1) := rfl
theorem te_11_47 : (pT M_11).find? (fun e => e.1 == 47) = some (47, .aload_n 0, 0, 0) := rfl
theorem te_11_48 : (pT M_11).find? (fun e => e.1 == 48) = some (48, .getfield 12, 9, 0) := rfl
theorem te_11_51 : (pT M_11).find? (fun e => e.1 == 51) = some (51, .getfield 101, 0, 0) := rfl
theorem te_11_54 : (pT M_11).find? (fun e => e.1 == 54) = some (54, .invokevirtual 355, 26, 1) := rfl
theorem te_11_57 : (pT M_11).find? (fun e => e.1 == 57) = some (57, .aload_n 0, 0, 0) := rfl
theorem te_11_58 : (pT M_11).find? (fun e => e.1 == 58) = some (58, .getfield 29, 9, 3) := rfl
theorem te_11_61 : (pT M_11).find? (fun e => e.1 == 61) = some (61, .iconst 0, 0, 0) := rfl
theorem te_11_62 : (pT M_11).find? (fun e => e.1 == 62) = some (62, .putfield 400, 5, 1) := rfl
theorem te_11_65 : (pT M_11).find? (fun e => e.1 == 65) = some (65, .aload_n 0, 0, 0) := rfl
theorem te_11_66 : (pT M_11).find? (fun e => e.1 == 66) = some (66, .getfield 50, 9, 6) := rfl
theorem te_11_69 : (pT M_11).find? (fun e => e.1 == 69) = some (69, .iconst 0, 0, 0) := rfl
theorem te_11_70 : (pT M_11).find? (fun e => e.1 == 70) = some (70, .putfield 403, 2, 0) := rfl
theorem te_11_73 : (pT M_11).find? (fun e => e.1 == 73) = some (73, .iconst 0, 0, 0) := rfl
theorem te_11_74 : (pT M_11).find? (fun e => e.1 == 74) = some (74, .istore_n 1, 0, 0) := rfl
theorem te_11_75 : (pT M_11).find? (fun e => e.1 == 75) = some (75, .iload_n 1, 0, 0) := rfl
theorem te_11_76 : (pT M_11).find? (fun e => e.1 == 76) = some (76, .bipush 12, 0, 0) := rfl
theorem te_11_78 : (pT M_11).find? (fun e => e.1 == 78) = some (78, .if_icmp .gt 19, 0, 0) := rfl
theorem te_11_81 : (pT M_11).find? (fun e => e.1 == 81) = some (81, .aload_n 0, 0, 0) := rfl
theorem te_11_82 : (pT M_11).find? (fun e => e.1 == 82) = some (82, .getfield 42, 9, 5) := rfl
theorem te_11_85 : (pT M_11).find? (fun e => e.1 == 85) = some (85, .iload_n 1, 0, 0) := rfl
theorem te_11_86 : (pT M_11).find? (fun e => e.1 == 86) = some (86, .aaload, 0, 0) := rfl
theorem te_11_87 : (pT M_11).find? (fun e => e.1 == 87) = some (87, .iconst 0, 0, 0) := rfl
theorem te_11_88 : (pT M_11).find? (fun e => e.1 == 88) = some (88, .putfield 404, 1, 0) := rfl
theorem te_11_91 : (pT M_11).find? (fun e => e.1 == 91) = some (91, .iinc 1 1, 0, 0) := rfl
theorem te_11_94 : (pT M_11).find? (fun e => e.1 == 94) = some (94, .goto (-19), 0, 0) := rfl
theorem te_11_97 : (pT M_11).find? (fun e => e.1 == 97) = some (97, .return_, 0, 0) := rfl
theorem te_69_0 : (pT M_69).find? (fun e => e.1 == 0) = some (0, .aload_n 0, 0, 0) := rfl
theorem te_69_1 : (pT M_69).find? (fun e => e.1 == 1) = some (1, .invokevirtual 152, 11, 0) := rfl
theorem te_69_4 : (pT M_69).find? (fun e => e.1 == 4) = some (4, .aload_n 0, 0, 0) := rfl
theorem te_69_5 : (pT M_69).find? (fun e => e.1 == 5) = some (5, .getfield 155, 9, 10) := rfl
theorem te_69_8 : (pT M_69).find? (fun e => e.1 == 8) = some (8, .ifCond .ne 14, 0, 0) := rfl
theorem te_69_11 : (pT M_69).find? (fun e => e.1 == 11) = some (11, .new 105, 21, 1) := rfl
theorem te_69_22 : (pT M_69).find? (fun e => e.1 == 22) = some (22, .return_, 0, 0) := rfl
theorem te_73_0 : (pT M_73).find? (fun e => e.1 == 0) = some (0, .iload_n 1, 0, 0) := rfl
theorem te_73_1 : (pT M_73).find? (fun e => e.1 == 1) = some (1, .invokestatic 190, 74, 2) := rfl
theorem te_73_4 : (pT M_73).find? (fun e => e.1 == 4) = some (4, .aload_n 0, 0, 0) := rfl
theorem te_73_5 : (pT M_73).find? (fun e => e.1 == 5) = some (5, .invokevirtual 158, 69, 0) := rfl
theorem te_73_8 : (pT M_73).find? (fun e => e.1 == 8) = some (8, .iload_n 1, 0, 0) := rfl
theorem te_73_9 : (pT M_73).find? (fun e => e.1 == 9) = some (9, .aload_n 0, 0, 0) := rfl
theorem te_73_10 : (pT M_73).find? (fun e => e.1 == 10) = some (10, .getfield 19, 9, 1) := rfl
theorem te_73_13 : (pT M_73).find? (fun e => e.1 == 13) = some (13, .invokevirtual 224, 32, 1) := rfl
theorem te_73_16 : (pT M_73).find? (fun e => e.1 == 16) = some (16, .if_icmp .ge 14, 0, 0) := rfl
theorem te_73_19 : (pT M_73).find? (fun e => e.1 == 19) = some (19, .new 105, 22, 1) := rfl
theorem te_73_30 : (pT M_73).find? (fun e => e.1 == 30) = some (30, .aload_n 0, 0, 0) := rfl
theorem te_73_31 : (pT M_73).find? (fun e => e.1 == 31) = some (31, .getfield 29, 9, 3) := rfl
theorem te_73_34 : (pT M_73).find? (fun e => e.1 == 34) = some (34, .aload_n 0, 0, 0) := rfl
theorem te_73_35 : (pT M_73).find? (fun e => e.1 == 35) = some (35, .getfield 12, 9, 0) := rfl
theorem te_73_38 : (pT M_73).find? (fun e => e.1 == 38) = some (38, .aload_n 0, 0, 0) := rfl
theorem te_73_39 : (pT M_73).find? (fun e => e.1 == 39) = some (39, .getfield 19, 9, 1) := rfl
theorem te_73_42 : (pT M_73).find? (fun e => e.1 == 42) = some (42, .iload_n 1, 0, 0) := rfl
theorem te_73_43 : (pT M_73).find? (fun e => e.1 == 43) = some (43, .invokevirtual 234, 75, 1) := rfl
theorem te_73_46 : (pT M_73).find? (fun e => e.1 == 46) = some (46, .return_, 0, 0) := rfl
theorem te_85_0 : (pT M_85).find? (fun e => e.1 == 0) = some (0, .aload_n 0, 0, 0) := rfl
theorem te_85_1 : (pT M_85).find? (fun e => e.1 == 1) = some (1, .getfield 42, 9, 5) := rfl
theorem te_85_4 : (pT M_85).find? (fun e => e.1 == 4) = some (4, .iload_n 1, 0, 0) := rfl
theorem te_85_5 : (pT M_85).find? (fun e => e.1 == 5) = some (5, .aaload, 0, 0) := rfl
theorem te_85_6 : (pT M_85).find? (fun e => e.1 == 6) = some (6, .astore_n 2, 0, 0) := rfl
theorem te_85_7 : (pT M_85).find? (fun e => e.1 == 7) = some (7, .aload_n 2, 0, 0) := rfl
theorem te_85_8 : (pT M_85).find? (fun e => e.1 == 8) = some (8, .getfield 404, 1, 0) := rfl
theorem te_85_11 : (pT M_85).find? (fun e => e.1 == 11) = some (11, .ifCond .ne 108, 0, 0) := rfl
theorem te_85_14 : (pT M_85).find? (fun e => e.1 == 14) = some (14, .aload_n 2, 0, 0) := rfl
theorem te_85_15 : (pT M_85).find? (fun e => e.1 == 15) = some (15, .iconst 1, 0, 0) := rfl
theorem te_85_16 : (pT M_85).find? (fun e => e.1 == 16) = some (16, .putfield 404, 1, 0) := rfl
theorem te_85_19 : (pT M_85).find? (fun e => e.1 == 19) = some (19, .aload_n 2, 0, 0) := rfl
theorem te_85_20 : (pT M_85).find? (fun e => e.1 == 20) = some (20, .iconst 0, 0, 0) := rfl
theorem te_85_21 : (pT M_85).find? (fun e => e.1 == 21) = some (21, .putfield 197, 1, 1) := rfl
theorem te_85_24 : (pT M_85).find? (fun e => e.1 == 24) = some (24, .iload_n 1, 0, 0) := rfl
theorem te_85_25 : (pT M_85).find? (fun e => e.1 == 25) = some (25, .aload_n 0, 0, 0) := rfl
theorem te_85_26 : (pT M_85).find? (fun e => e.1 == 26) = some (26, .getfield 19, 9, 1) := rfl
theorem te_85_29 : (pT M_85).find? (fun e => e.1 == 29) = some (29, .invokevirtual 224, 32, 1) := rfl
theorem te_85_32 : (pT M_85).find? (fun e => e.1 == 32) = some (32, .if_icmp .lt 60, 0, 0) := rfl
theorem te_85_35 : (pT M_85).find? (fun e => e.1 == 35) = some (35, .aload_n 0, 0, 0) := rfl
theorem te_85_36 : (pT M_85).find? (fun e => e.1 == 36) = some (36, .getfield 29, 9, 3) := rfl
theorem te_85_39 : (pT M_85).find? (fun e => e.1 == 39) = some (39, .aload_n 0, 0, 0) := rfl
theorem te_85_40 : (pT M_85).find? (fun e => e.1 == 40) = some (40, .getfield 12, 9, 0) := rfl
theorem te_85_43 : (pT M_85).find? (fun e => e.1 == 43) = some (43, .aload_n 0, 0, 0) := rfl
theorem te_85_44 : (pT M_85).find? (fun e => e.1 == 44) = some (44, .getfield 19, 9, 1) := rfl
theorem te_85_47 : (pT M_85).find? (fun e => e.1 == 47) = some (47, .iload_n 1, 0, 0) := rfl
theorem te_85_48 : (pT M_85).find? (fun e => e.1 == 48) = some (48, .invokevirtual 234, 75, 1) := rfl
theorem te_85_51 : (pT M_85).find? (fun e => e.1 == 51) = some (51, .aload_n 2, 0, 0) := rfl
theorem te_85_52 : (pT M_85).find? (fun e => e.1 == 52) = some (52, .aload_n 0, 0, 0) := rfl
theorem te_85_53 : (pT M_85).find? (fun e => e.1 == 53) = some (53, .getfield 36, 9, 4) := rfl
theorem te_85_56 : (pT M_85).find? (fun e => e.1 == 56) = some (56, .aload_n 0, 0, 0) := rfl
theorem te_85_57 : (pT M_85).find? (fun e => e.1 == 57) = some (57, .getfield 12, 9, 0) := rfl
theorem te_85_60 : (pT M_85).find? (fun e => e.1 == 60) = some (60, .iload_n 1, 0, 0) := rfl
theorem te_85_61 : (pT M_85).find? (fun e => e.1 == 61) = some (61, .invokevirtual 407, 86, 1) := rfl
theorem te_85_64 : (pT M_85).find? (fun e => e.1 == 64) = some (64, .ifCond .eq 24, 0, 0) := rfl
theorem te_85_67 : (pT M_85).find? (fun e => e.1 == 67) = some (67, .aload_n 0, 0, 0) := rfl
theorem te_85_68 : (pT M_85).find? (fun e => e.1 == 68) = some (68, .getfield 36, 9, 4) := rfl
theorem te_85_71 : (pT M_85).find? (fun e => e.1 == 71) = some (71, .aload_n 0, 0, 0) := rfl
theorem te_85_72 : (pT M_85).find? (fun e => e.1 == 72) = some (72, .getfield 29, 9, 3) := rfl
theorem te_85_75 : (pT M_85).find? (fun e => e.1 == 75) = some (75, .getfield 179, 5, 2) := rfl
theorem te_85_78 : (pT M_85).find? (fun e => e.1 == 78) = some (78, .invokevirtual 411, 103, 1) := rfl
theorem te_85_81 : (pT M_85).find? (fun e => e.1 == 81) = some (81, .ifCond .eq 7, 0, 0) := rfl
theorem te_85_84 : (pT M_85).find? (fun e => e.1 == 84) = some (84, .iconst 1, 0, 0) := rfl
theorem te_85_85 : (pT M_85).find? (fun e => e.1 == 85) = some (85, .goto 4, 0, 0) := rfl
theorem te_85_88 : (pT M_85).find? (fun e => e.1 == 88) = some (88, .iconst 0, 0, 0) := rfl
theorem te_85_89 : (pT M_85).find? (fun e => e.1 == 89) = some (89, .putfield 197, 1, 1) := rfl
theorem te_85_92 : (pT M_85).find? (fun e => e.1 == 92) = some (92, .aload_n 2, 0, 0) := rfl
theorem te_85_93 : (pT M_85).find? (fun e => e.1 == 93) = some (93, .getfield 197, 1, 1) := rfl
theorem te_85_96 : (pT M_85).find? (fun e => e.1 == 96) = some (96, .ifCond .eq 23, 0, 0) := rfl
theorem te_85_99 : (pT M_85).find? (fun e => e.1 == 99) = some (99, .aload_n 2, 0, 0) := rfl
theorem te_85_100 : (pT M_85).find? (fun e => e.1 == 100) = some (100, .aload_n 0, 0, 0) := rfl
theorem te_85_101 : (pT M_85).find? (fun e => e.1 == 101) = some (101, .getfield 12, 9, 0) := rfl
theorem te_85_104 : (pT M_85).find? (fun e => e.1 == 104) = some (104, .aload_n 0, 0, 0) := rfl
theorem te_85_105 : (pT M_85).find? (fun e => e.1 == 105) = some (105, .getfield 19, 9, 1) := rfl
theorem te_85_108 : (pT M_85).find? (fun e => e.1 == 108) = some (108, .aload_n 0, 0, 0) := rfl
theorem te_85_109 : (pT M_85).find? (fun e => e.1 == 109) = some (109, .getfield 36, 9, 4) := rfl
theorem te_85_112 : (pT M_85).find? (fun e => e.1 == 112) = some (112, .getfield 415, 6, 5) := rfl
theorem te_85_115 : (pT M_85).find? (fun e => e.1 == 115) = some (115, .iload_n 1, 0, 0) := rfl
theorem te_85_116 : (pT M_85).find? (fun e => e.1 == 116) = some (116, .invokevirtual 416, 106, 1) := rfl
theorem te_85_119 : (pT M_85).find? (fun e => e.1 == 119) = some (119, .aload_n 2, 0, 0) := rfl
theorem te_85_120 : (pT M_85).find? (fun e => e.1 == 120) = some (120, .areturn, 0, 0) := rfl
theorem te_115_0 : (pT M_115).find? (fun e => e.1 == 0) = some (0, .iload_n 1, 0, 0) := rfl
theorem te_115_1 : (pT M_115).find? (fun e => e.1 == 1) = some (1, .invokestatic 190, 74, 2) := rfl
theorem te_115_4 : (pT M_115).find? (fun e => e.1 == 4) = some (4, .aload_n 0, 0, 0) := rfl
theorem te_115_5 : (pT M_115).find? (fun e => e.1 == 5) = some (5, .invokevirtual 158, 69, 0) := rfl
theorem te_115_8 : (pT M_115).find? (fun e => e.1 == 8) = some (8, .aload_n 0, 0, 0) := rfl
theorem te_115_9 : (pT M_115).find? (fun e => e.1 == 9) = some (9, .iload_n 1, 0, 0) := rfl
theorem te_115_10 : (pT M_115).find? (fun e => e.1 == 10) = some (10, .invokevirtual 193, 85, 0) := rfl
theorem te_115_13 : (pT M_115).find? (fun e => e.1 == 13) = some (13, .astore_n 2, 0, 0) := rfl
theorem te_115_14 : (pT M_115).find? (fun e => e.1 == 14) = some (14, .aload_n 2, 0, 0) := rfl
theorem te_115_15 : (pT M_115).find? (fun e => e.1 == 15) = some (15, .getfield 197, 1, 1) := rfl
theorem te_115_18 : (pT M_115).find? (fun e => e.1 == 18) = some (18, .ifCond .ne 14, 0, 0) := rfl
theorem te_115_21 : (pT M_115).find? (fun e => e.1 == 21) = some (21, .new 105, 20, 1) := rfl
theorem te_115_32 : (pT M_115).find? (fun e => e.1 == 32) = some (32, .aload_n 2, 0, 0) := rfl
theorem te_115_33 : (pT M_115).find? (fun e => e.1 == 33) = some (33, .areturn, 0, 0) := rfl
theorem f_11 {S : Nat × (Nat → Int32)} {n : Nat} {mem : MM} {K : MM → Prop} {E : Nat → MM → Prop} (hI : ClS mem) (H : ∀ m', RfC m' → Frm pNb mem m' → K m') : CQV (Ex S (n + 13)) 11 [.inr 0] mem K E := by
  refine CY.of (k := 1) mt_11 rfl rfl (fun hv => ?_)
  have hC := Ex.mono S (n + 12)
  clear hv
  have h8 := hI.1.b.1
  have hst := hI.1.st
  show Tx (Ex S (n + 12)) S M_11 (kV K E) 0 0 0 [some (.inr 0), none] [] mem
  have l_75 : ∀ (N : Nat) (x1 : Int) (m_75 : MM), (0 ≤ x1) → (RfC m_75) → ((13 - x1).toNat) < N → Frm pNb mem m_75 → Tx (Ex S (n + 12)) S M_11 (kV K E) 0 0 75 [some (.inr 0), some (.inl x1)] [] m_75 := by
    intro N
    induction N with
    | zero => intros; omega
    | succ N ih_75 =>
      intro x1 m_75 i75_0 i75_1 hN_75 hF_75
      refine Tx.iload_n hC te_11_75 rfl ?_
      refine Tx.bipush hC te_11_76 rfl rfl ?_
      refine Tx.icmp hC (t := 97) te_11_78 (by decide) (fun q1 => ?_) (fun q1 => ?_)
      · replace q1 : 12 < (x1 : Int) := q1
        exact Tx.vret hC te_11_97 rfl (show K m_75 from H _ i75_1 hF_75)
      · replace q1 : ¬ (12 < (x1 : Int)) := q1
        refine Tx.aload_n hC te_11_81 rfl ?_
        refine Tx.getR hC te_11_82 rfl rfl rfl ?_
        refine Tx.iload_n hC te_11_85 rfl ?_
        refine Tx.aaldC hC te_11_86 (by omega) (fun Q eQ => ?_)
        have hQ : ChSh Q := ChSh.mk eQ (by omega)
        have hq8 := hQ.rg
        refine Tx.iconst hC te_11_87 rfl ?_
        refine Tx.putB hC te_11_88 hQ.s0 rfl rfl rfl (by omega) ?_
        have hF3 : Frm pNb mem (upm m_75 Q 0 0) := Frm.up hF_75 (by unfold pNb; omega)
        have hI4 := RfC.e_try (m' := upm m_75 Q 0 0) hQ i75_1 (up1F (by unfold pQ0; omega))
        generalize upm m_75 Q 0 0 = m2 at hF3 hI4 ⊢
        refine Tx.iincW hC te_11_91 rfl rfl (fun z5 z5i z5e => ?_)
        unfold InI at z5i z5e
        first | replace z5e := z5e (by omega) | clear z5e
        refine Tx.goto hC (t := 75) te_11_94 (by decide) ?_
        exact ih_75 z5 m2 (by omega) (hI4) (by omega) hF3
  refine Tx.aload_n hC te_11_0 rfl ?_
  refine Tx.getI hC te_11_1 rfl rfl rfl (fun v6 v6e v6i => ?_)
  unfold InI at v6i
  refine Tx.ifc hC (t := 8) te_11_4 (by decide) (fun q7 => ?_) (fun q7 => ?_)
  · replace q7 : ¬ (v6 : Int) = 0 := q7
    refine Tx.aload_n hC te_11_8 rfl ?_
    refine Tx.iconst hC te_11_9 rfl ?_
    refine Tx.putB hC te_11_10 rfl rfl rfl rfl (by omega) ?_
    have hF9 : Frm pNb mem (upm mem 0 11 0) := Frm.up Frm.rf (by unfold pNb; omega)
    have hJ10 := CJ.e_st (m' := upm mem 0 11 0) hI.1 (up1F (by unfold p11; omega)) (by rw [upm_eq]; omega)
    have hZ11 : (upm mem 0 11 0) 0 11 = 0 := upm_eq
    generalize upm mem 0 11 0 = m8 at hF9 hJ10 hZ11 ⊢
    refine Tx.aload_n hC te_11_13 rfl ?_
    refine Tx.aload_n hC te_11_14 rfl ?_
    refine Tx.getR hC te_11_15 rfl rfl rfl ?_
    refine Tx.virtI hC te_11_18 mt_12 (args := [.inr 1]) (rest := [.inr 0]) (c' := 0) (s' := 0) rfl rfl rfl rfl rfl rfl rfl rfl rfl rfl ?_
    refine f_12x hJ10.b (fun r13 r13b r13s r13i => ?_)
    have r13n : r13 = 1 → Snd mem := fun q => (r13s.mp q).snd.fr (fun A i a b => (hF9 A i (by unfold pNb; omega)).symm)
    unfold InI at r13i
    refine Tx.putB hC te_11_21 rfl rfl rfl rfl (by omega) ?_
    have hF17 : Frm pNb mem (upm m8 0 10 r13) := Frm.up hF9 (by unfold pNb; omega)
    have hJ18 := CJ.e_so (m' := upm m8 0 10 r13) hJ10 (up1F (by unfold p10; omega)) (by rw [upm_eq]; omega)
    have hZ19 : (upm m8 0 10 r13) 0 11 = 0 := by rw [upm_ne (by omega)]; exact hZ11
    have hT20 : (upm m8 0 10 r13) 0 10 = r13 := upm_eq
    have hX21 : (upm m8 0 10 r13) 0 10 = 1 ↔ SndX (upm m8 0 10 r13) := by rw [hT20]; exact r13s.trans (SndX.iff (fun A i a b => upm_ne (by omega)))
    generalize upm m8 0 10 r13 = m16 at hF17 hJ18 hZ19 hT20 hX21 ⊢
    refine Tx.aload_n hC te_11_24 rfl ?_
    refine Tx.getI hC te_11_25 rfl rfl rfl (fun v22 v22e v22i => ?_)
    unfold InI at v22i
    have f23 := hT20
    refine Tx.ifc hC (t := 57) te_11_28 (by decide) (fun q24 => ?_) (fun q24 => ?_)
    · replace q24 : (v22 : Int) = 0 := q24
      refine Tx.aload_n hC te_11_57 rfl ?_
      refine Tx.getR hC te_11_58 rfl rfl rfl ?_
      refine Tx.iconst hC te_11_61 rfl ?_
      refine Tx.putI hC te_11_62 rfl rfl rfl rfl ?_
      have hF26 : Frm pNb mem (upm m16 19 1 0) := Frm.up hF17 (by unfold pNb; omega)
      have hI27 : RfC m16 := ⟨hJ18, hZ19, (fun z => absurd z (by omega)), hX21⟩
      have hI28 := RfC.e_rs (m' := upm m16 19 1 0) hI27 (up1F (by unfold p191; omega))
      generalize upm m16 19 1 0 = m25 at hF26 hI28 ⊢
      refine Tx.aload_n hC te_11_65 rfl ?_
      refine Tx.getR hC te_11_66 rfl rfl rfl ?_
      refine Tx.iconst hC te_11_69 rfl ?_
      refine Tx.putI hC te_11_70 rfl rfl rfl rfl ?_
      have hF30 : Frm pNb mem (upm m25 129 0 0) := Frm.up hF26 (by unfold pNb; omega)
      have hI31 := RfC.e_h0 (m' := upm m25 129 0 0) hI28 (up1F (by unfold p129; omega)) (by rw [upm_eq]; omega)
      generalize upm m25 129 0 0 = m29 at hF30 hI31 ⊢
      refine Tx.iconst hC te_11_73 rfl ?_
      refine Tx.istore_n hC te_11_74 rfl ?_
      exact l_75 _ 0 m29 (by omega) (hI31) (Nat.lt_succ_self _) hF30
    · replace q24 : ¬ ((v22 : Int) = 0) := q24
      refine Tx.aload_n hC te_11_31 rfl ?_
      refine Tx.getR hC te_11_32 rfl rfl rfl ?_
      refine Tx.aload_n hC te_11_35 rfl ?_
      refine Tx.getR hC te_11_36 rfl rfl rfl ?_
      refine Tx.iconst hC te_11_39 rfl ?_
      refine Tx.virtV hC te_11_40 mt_17 (args := [.inr 9, .inr 1, .inl (-1)]) (rest := []) (c' := 0) (s' := 0) rfl rfl rfl rfl rfl rfl rfl rfl rfl rfl ?_
      refine CWV.q hC (f_17e (W := 9) ⟨rfl, rfl, rfl, rfl, rfl⟩ (Or.inl rfl) hJ18.b hJ18.w.1 (fun m33 hF34w r32O r32q r32E => ?_))
      have hF34 : Frm p9w m16 m33 := fun A i q => hF34w A i (by unfold p9w at q; omega) (by unfold p9w at q; omega)
      have r32J := CJ.e_wv hJ18 hF34 r32O
      have r32Z : m33 0 11 = 0 := by rw [hF34 0 11 (by unfold p9w; omega)]; exact hZ19
      have r32n : Snd m16 := (r13n (by omega)).fr (fun A i a b => hF17 A i (by unfold pNb; omega))
      have r32V : WbX m33 := ⟨fun j hj => by have := NdC.lt r32n (r32E.2.1 j (by omega)); rw [hF34 1 0 (by unfold p9w; omega)]; exact this, r32E.cg rfl (fun _ _ => rfl) (fun x => (NdC.fr (fun A i a b c => hF34 A i (by unfold p9w; omega))).symm)⟩
      have r32X := SX.fr hX21 (hF34 0 10 (by unfold p9w; omega)) (fun A i a b => hF34 A i (by unfold p9w; omega))
      have hF34n : Frm pNb mem m33 := hF17.tr (hF34.mono (fun A i q => by unfold p9w at q; unfold pNb; omega))
      refine Tx.aload_n hC te_11_43 rfl ?_
      refine Tx.getR hC te_11_44 rfl rfl rfl ?_
      refine Tx.aload_n hC te_11_47 rfl ?_
      refine Tx.getR hC te_11_48 rfl rfl rfl ?_
      refine Tx.getI hC te_11_51 rfl rfl rfl (fun v35 v35e v35i => ?_)
      unfold InI at v35i
      rw [hF34n 1 _ (by unfold pNb; omega)] at v35e
      refine Tx.virtV hC te_11_54 mt_26 (args := [.inr 9, .inl v35]) (rest := []) (c' := 0) (s' := 0) rfl rfl rfl rfl rfl rfl rfl rfl rfl rfl ?_
      refine CWV.q hC (f_26 (W := 9) ⟨rfl, rfl, rfl, rfl, rfl⟩ r32J.w (by omega) (fun m37 hF38 r36t => ?_))
      have r36J := CJ.e_wg r32J hF38
      have r36Z : m37 0 11 = 0 := by rw [hF38 0 11 (by omega)]; exact r32Z
      have r36V : m37 0 10 = 1 → WbX m37 := fun _ => WbX.fr r32V (fun A i q => hF38 A i (by omega))
      have r36X := SX.fr r32X (hF38 0 10 (by omega)) (fun A i a b => hF38 A i (by omega))
      have hF38n : Frm pNb mem m37 := hF34n.tr (Frm.mono (P := pW9c) hF38 (fun A i q => by unfold pW9c at q; unfold pNb; omega))
      refine Tx.aload_n hC te_11_57 rfl ?_
      refine Tx.getR hC te_11_58 rfl rfl rfl ?_
      refine Tx.iconst hC te_11_61 rfl ?_
      refine Tx.putI hC te_11_62 rfl rfl rfl rfl ?_
      have hF40 : Frm pNb mem (upm m37 19 1 0) := Frm.up hF38n (by unfold pNb; omega)
      have hI41 : RfC m37 := ⟨r36J, r36Z, r36V, r36X⟩
      have hI42 := RfC.e_rs (m' := upm m37 19 1 0) hI41 (up1F (by unfold p191; omega))
      generalize upm m37 19 1 0 = m39 at hF40 hI42 ⊢
      refine Tx.aload_n hC te_11_65 rfl ?_
      refine Tx.getR hC te_11_66 rfl rfl rfl ?_
      refine Tx.iconst hC te_11_69 rfl ?_
      refine Tx.putI hC te_11_70 rfl rfl rfl rfl ?_
      have hF44 : Frm pNb mem (upm m39 129 0 0) := Frm.up hF40 (by unfold pNb; omega)
      have hI45 := RfC.e_h0 (m' := upm m39 129 0 0) hI42 (up1F (by unfold p129; omega)) (by rw [upm_eq]; omega)
      generalize upm m39 129 0 0 = m43 at hF44 hI45 ⊢
      refine Tx.iconst hC te_11_73 rfl ?_
      refine Tx.istore_n hC te_11_74 rfl ?_
      exact l_75 _ 0 m43 (by omega) (hI45) (Nat.lt_succ_self _) hF44
  · replace q7 : ¬ (¬ (v6 : Int) = 0) := q7
    exact Tx.vret hC te_11_7 rfl (show K mem from H _ ⟨hI.1, by omega, fun q => hI.2.1 (by omega) q, hI.2.2 (by omega)⟩ Frm.rf)
theorem f_69 {S : Nat × (Nat → Int32)} {n : Nat} {mem : MM} {K : MM → Prop} {E : Nat → MM → Prop} (hI : ClS mem) (H : ∀ m', Rdy m' → Frm pNb mem m' → K m') (HE : ∀ m', ClS m' → Frm pNb mem m' → E 1 m') : CQV (Ex S (n + 14)) 69 [.inr 0] mem K E := by
  refine CY.of (k := 0) mt_69 rfl rfl (fun hv => ?_)
  have hC := Ex.mono S (n + 13)
  clear hv
  show Tx (Ex S (n + 13)) S M_69 (kV K E) 0 0 0 [some (.inr 0)] [] mem
  refine Tx.aload_n hC te_69_0 rfl ?_
  refine Tx.virtV hC te_69_1 mt_11 (args := [.inr 0]) (rest := []) (c' := 0) (s' := 0) rfl rfl rfl rfl rfl rfl rfl rfl rfl rfl ?_
  refine f_11 hI (fun m2 r1I hF3 => ?_)
  have hF3n : Frm pNb mem m2 := Frm.rf.tr hF3
  refine Tx.aload_n hC te_69_4 rfl ?_
  refine Tx.getI hC te_69_5 rfl rfl rfl (fun v4 v4e v4i => ?_)
  unfold InI at v4i
  have f5 := r1I.1.so
  refine Tx.ifc hC (t := 22) te_69_8 (by decide) (fun q6 => ?_) (fun q6 => ?_)
  · replace q6 : ¬ (v4 : Int) = 0 := q6
    exact Tx.vret hC te_69_22 rfl (show K m2 from H _ (r1I.rdy (by omega)) hF3n)
  · replace q6 : ¬ (¬ (v4 : Int) = 0) := q6
    exact Tx.thr hC te_69_11 rfl rfl rfl rfl rfl (show E 1 m2 from HE _ r1I.cs hF3n)
theorem f_10 {S : Nat × (Nat → Int32)} {n : Nat} {mem : MM} {K : Int → MM → Prop} {E : Nat → MM → Prop} (hI : ClS mem) (H : ∀ r m', ClS m' → Frm pNb mem m' → K r m') : CQI (Ex S (n + 14)) 10 [.inr 0] mem K E := by
  refine CY.of (k := 0) mt_10 rfl rfl (fun hv => ?_)
  have hC := Ex.mono S (n + 13)
  clear hv
  show Tx (Ex S (n + 13)) S M_10 (kI K E) 0 0 0 [some (.inr 0)] [] mem
  refine Tx.aload_n hC te_10_0 rfl ?_
  refine Tx.virtV hC te_10_1 mt_11 (args := [.inr 0]) (rest := []) (c' := 0) (s' := 0) rfl rfl rfl rfl rfl rfl rfl rfl rfl rfl ?_
  refine f_11 hI (fun m2 r1I hF3 => ?_)
  have hF3n : Frm pNb mem m2 := Frm.rf.tr hF3
  refine Tx.aload_n hC te_10_4 rfl ?_
  refine Tx.getI hC te_10_5 rfl rfl rfl (fun v4 v4e v4i => ?_)
  unfold InI at v4i
  have f5 := r1I.1.so
  exact Tx.bret hC te_10_8 rfl (by omega) (show K v4 m2 from H _ _ r1I.cs hF3n)
theorem f_85 {S : Nat × (Nat → Int32)} {n : Nat} {mem : MM} {K : Nat → MM → Prop} {E : Nat → MM → Prop} (hR : Rdy mem) {d : Int} (hd : 1 ≤ d ∧ d ≤ 12) (H : ∀ Q m', ChSh Q → Rdy m' → Frm pNb mem m' → K Q m') : CQR (Ex S (n + 15)) 85 [.inr 0, .inl d] mem K E := by
  refine CY.of (k := 1) mt_85 rfl rfl (fun hv => ?_)
  have hC := Ex.mono S (n + 14)
  have ii_d : InI d := hv (.inl d) (by simp)
  unfold InI at ii_d
  clear hv
  show Tx (Ex S (n + 14)) S M_85 (kR K E) 0 0 0 [some (.inr 0), some (.inl d), none] [] mem
  refine Tx.aload_n hC te_85_0 rfl ?_
  refine Tx.getR hC te_85_1 rfl rfl rfl ?_
  refine Tx.iload_n hC te_85_4 rfl ?_
  refine Tx.aaldC hC te_85_5 (by omega) (fun Q eQ => ?_)
  have hQ : ChSh Q := ChSh.mk eQ (by omega)
  have hq8 := hQ.rg
  refine Tx.astore_n hC te_85_6 rfl ?_
  refine Tx.aload_n hC te_85_7 rfl ?_
  refine Tx.getI hC te_85_8 hQ.s0 rfl rfl (fun v1 v1e v1i => ?_)
  unfold InI at v1i
  refine Tx.ifc hC (t := 119) te_85_11 (by decide) (fun q2 => ?_) (fun q2 => ?_)
  · replace q2 : ¬ (v1 : Int) = 0 := q2
    refine Tx.aload_n hC te_85_119 rfl ?_
    exact Tx.aret hC te_85_120 rfl (show K Q mem from H _ _ hQ hR Frm.rf)
  · replace q2 : ¬ (¬ (v1 : Int) = 0) := q2
    refine Tx.aload_n hC te_85_14 rfl ?_
    refine Tx.iconst hC te_85_15 rfl ?_
    refine Tx.putB hC te_85_16 hQ.s0 rfl rfl rfl (by omega) ?_
    have hF4 : Frm pNb mem (upm mem Q 0 1) := Frm.up Frm.rf (by unfold pNb; omega)
    have hR5 := Rdy.e_try (m' := upm mem Q 0 1) hQ hR (up1F (by unfold pQ0; omega))
    generalize upm mem Q 0 1 = m3 at hF4 hR5 ⊢
    refine Tx.aload_n hC te_85_19 rfl ?_
    refine Tx.iconst hC te_85_20 rfl ?_
    refine Tx.putB hC te_85_21 hQ.s0 rfl rfl rfl (by omega) ?_
    have hF7 : Frm pNb mem (upm m3 Q 1 0) := Frm.up hF4 (by unfold pNb; omega)
    have hR8 := Rdy.e_fit (m' := upm m3 Q 1 0) hQ hR5 (up1F (by unfold pQ1; omega)) (ChtOK.up1 (hR5.1.ch Q hQ) (by omega))
    generalize upm m3 Q 1 0 = m6 at hF7 hR8 ⊢
    refine Tx.iload_n hC te_85_24 rfl ?_
    refine Tx.aload_n hC te_85_25 rfl ?_
    refine Tx.getR hC te_85_26 rfl rfl rfl ?_
    refine Tx.virtI hC te_85_29 mt_32 (args := [.inr 9]) (rest := [.inl d]) (c' := 0) (s' := 0) rfl rfl rfl rfl rfl rfl rfl rfl rfl rfl ?_
    refine f_32 (W := 9) ⟨rfl, rfl, rfl, rfl, rfl⟩ (fun r9 r9i => ?_)
    unfold InI at r9i
    refine Tx.icmp hC (t := 92) te_85_32 (by decide) (fun q12 => ?_) (fun q12 => ?_)
    · replace q12 : (d : Int) < r9 := q12
      refine Tx.aload_n hC te_85_92 rfl ?_
      refine Tx.getI hC te_85_93 hQ.s0 rfl rfl (fun v13 v13e v13i => ?_)
      unfold InI at v13i
      refine Tx.ifc hC (t := 119) te_85_96 (by decide) (fun q14 => ?_) (fun q14 => ?_)
      · replace q14 : (v13 : Int) = 0 := q14
        refine Tx.aload_n hC te_85_119 rfl ?_
        exact Tx.aret hC te_85_120 rfl (show K Q m6 from H _ _ hQ hR8 hF7)
      · replace q14 : ¬ ((v13 : Int) = 0) := q14
        refine Tx.aload_n hC te_85_99 rfl ?_
        refine Tx.aload_n hC te_85_100 rfl ?_
        refine Tx.getR hC te_85_101 rfl rfl rfl ?_
        refine Tx.aload_n hC te_85_104 rfl ?_
        refine Tx.getR hC te_85_105 rfl rfl rfl ?_
        refine Tx.aload_n hC te_85_108 rfl ?_
        refine Tx.getR hC te_85_109 rfl rfl rfl ?_
        refine Tx.getR hC te_85_112 rfl rfl rfl ?_
        refine Tx.iload_n hC te_85_115 rfl ?_
        refine Tx.virtV hC te_85_116 mt_106 (args := [.inr Q, .inr 1, .inr 9, .inr 22, .inl d]) (rest := []) (c' := 0) (s' := 0) rfl rfl rfl rfl rfl rfl rfl rfl hQ.s0 rfl ?_
        refine f_106 hQ (hR8.1.ch Q hQ) hR8.1.b hR8.1.w hR8.2.2.2.1.1 (fun o ho => (hR8.1.us o ho).2) (by omega) (fun m16 hF17 r15c => ?_)
        have r15R := Rdy.e_draw hQ hR8 hF17 r15c
        have hF17n : Frm pNb mem m16 := hF7.tr (hF17.mono (fun A i q => by unfold pCh at q; unfold pNb; omega))
        refine Tx.aload_n hC te_85_119 rfl ?_
        exact Tx.aret hC te_85_120 rfl (show K Q m16 from H _ _ hQ r15R hF17n)
    · replace q12 : ¬ ((d : Int) < r9) := q12
      refine Tx.aload_n hC te_85_35 rfl ?_
      refine Tx.getR hC te_85_36 rfl rfl rfl ?_
      refine Tx.aload_n hC te_85_39 rfl ?_
      refine Tx.getR hC te_85_40 rfl rfl rfl ?_
      refine Tx.aload_n hC te_85_43 rfl ?_
      refine Tx.getR hC te_85_44 rfl rfl rfl ?_
      refine Tx.iload_n hC te_85_47 rfl ?_
      refine Tx.virtV hC te_85_48 mt_75 (args := [.inr 19, .inr 1, .inr 9, .inl d]) (rest := []) (c' := 0) (s' := 0) rfl rfl rfl rfl rfl rfl rfl rfl rfl rfl ?_
      refine f_75 hR8.1.b hR8.1.w hR8.1.r (fun m19 hF20 r18z => ?_)
      have r18R := Rdy.e_span hR8 hF20 r18z
      have hF20n : Frm pNb mem m19 := hF7.tr (hF20.mono (fun A i q => by unfold pRe at q; unfold pNb; omega))
      refine Tx.aload_n hC te_85_51 rfl ?_
      refine Tx.aload_n hC te_85_52 rfl ?_
      refine Tx.getR hC te_85_53 rfl rfl rfl ?_
      refine Tx.aload_n hC te_85_56 rfl ?_
      refine Tx.getR hC te_85_57 rfl rfl rfl ?_
      refine Tx.iload_n hC te_85_60 rfl ?_
      refine Tx.virtI hC te_85_61 mt_86 (args := [.inr 21, .inr 1, .inl d]) (rest := [.inr Q]) (c' := 0) (s' := 0) rfl rfl rfl rfl rfl rfl rfl rfl rfl rfl ?_
      refine f_86 r18R.1.b (by omega) (fun o ho => (r18R.1.us o ho).1) (fun r21 m22 r21b hF23 r21u r21l r21s r21i => ?_)
      have r21R := Rdy.e_hold r18R hF23 r21u r21l
      have hF23n : Frm pNb mem m22 := hF20n.tr (hF23.mono (fun A i q => by unfold pT6 at q; unfold pNb; omega))
      unfold InI at r21i
      refine Tx.ifc hC (t := 88) te_85_64 (by decide) (fun q24 => ?_) (fun q24 => ?_)
      · replace q24 : (r21 : Int) = 0 := q24
        refine Tx.iconst hC te_85_88 rfl ?_
        refine Tx.putB hC te_85_89 hQ.s0 rfl rfl rfl (by omega) ?_
        have hF26 : Frm pNb mem (upm m22 Q 1 0) := Frm.up hF23n (by unfold pNb; omega)
        have hR27 := Rdy.e_fit (m' := upm m22 Q 1 0) hQ r21R (up1F (by unfold pQ1; omega)) (ChtOK.up1 (r21R.1.ch Q hQ) (by omega))
        generalize upm m22 Q 1 0 = m25 at hF26 hR27 ⊢
        refine Tx.aload_n hC te_85_92 rfl ?_
        refine Tx.getI hC te_85_93 hQ.s0 rfl rfl (fun v28 v28e v28i => ?_)
        unfold InI at v28i
        refine Tx.ifc hC (t := 119) te_85_96 (by decide) (fun q29 => ?_) (fun q29 => ?_)
        · replace q29 : (v28 : Int) = 0 := q29
          refine Tx.aload_n hC te_85_119 rfl ?_
          exact Tx.aret hC te_85_120 rfl (show K Q m25 from H _ _ hQ hR27 hF26)
        · replace q29 : ¬ ((v28 : Int) = 0) := q29
          refine Tx.aload_n hC te_85_99 rfl ?_
          refine Tx.aload_n hC te_85_100 rfl ?_
          refine Tx.getR hC te_85_101 rfl rfl rfl ?_
          refine Tx.aload_n hC te_85_104 rfl ?_
          refine Tx.getR hC te_85_105 rfl rfl rfl ?_
          refine Tx.aload_n hC te_85_108 rfl ?_
          refine Tx.getR hC te_85_109 rfl rfl rfl ?_
          refine Tx.getR hC te_85_112 rfl rfl rfl ?_
          refine Tx.iload_n hC te_85_115 rfl ?_
          refine Tx.virtV hC te_85_116 mt_106 (args := [.inr Q, .inr 1, .inr 9, .inr 22, .inl d]) (rest := []) (c' := 0) (s' := 0) rfl rfl rfl rfl rfl rfl rfl rfl hQ.s0 rfl ?_
          refine f_106 hQ (hR27.1.ch Q hQ) hR27.1.b hR27.1.w hR27.2.2.2.1.1 (fun o ho => (hR27.1.us o ho).2) (by omega) (fun m31 hF32 r30c => ?_)
          have r30R := Rdy.e_draw hQ hR27 hF32 r30c
          have hF32n : Frm pNb mem m31 := hF26.tr (hF32.mono (fun A i q => by unfold pCh at q; unfold pNb; omega))
          refine Tx.aload_n hC te_85_119 rfl ?_
          exact Tx.aret hC te_85_120 rfl (show K Q m31 from H _ _ hQ r30R hF32n)
      · replace q24 : ¬ ((r21 : Int) = 0) := q24
        refine Tx.aload_n hC te_85_67 rfl ?_
        refine Tx.getR hC te_85_68 rfl rfl rfl ?_
        refine Tx.aload_n hC te_85_71 rfl ?_
        refine Tx.getR hC te_85_72 rfl rfl rfl ?_
        refine Tx.getR hC te_85_75 rfl rfl rfl ?_
        refine Tx.virtI hC te_85_78 mt_103 (args := [.inr 21, .inr 20]) (rest := [.inr Q]) (c' := 0) (s' := 0) rfl rfl rfl rfl rfl rfl rfl rfl rfl rfl ?_
        refine f_103 (r21s (by omega)) (fun r33 m34 r33b hF35 r33i => ?_)
        have r33R := Rdy.e_find r21R hF35.1 hF35.2
        have hF35n : Frm pNb mem m34 := hF23n.tr (hF35.1.mono (fun A i q => by unfold pSk at q; unfold pNb; omega))
        unfold InI at r33i
        refine Tx.ifc hC (t := 88) te_85_81 (by decide) (fun q36 => ?_) (fun q36 => ?_)
        · replace q36 : (r33 : Int) = 0 := q36
          refine Tx.iconst hC te_85_88 rfl ?_
          refine Tx.putB hC te_85_89 hQ.s0 rfl rfl rfl (by omega) ?_
          have hF38 : Frm pNb mem (upm m34 Q 1 0) := Frm.up hF35n (by unfold pNb; omega)
          have hR39 := Rdy.e_fit (m' := upm m34 Q 1 0) hQ r33R (up1F (by unfold pQ1; omega)) (ChtOK.up1 (r33R.1.ch Q hQ) (by omega))
          generalize upm m34 Q 1 0 = m37 at hF38 hR39 ⊢
          refine Tx.aload_n hC te_85_92 rfl ?_
          refine Tx.getI hC te_85_93 hQ.s0 rfl rfl (fun v40 v40e v40i => ?_)
          unfold InI at v40i
          refine Tx.ifc hC (t := 119) te_85_96 (by decide) (fun q41 => ?_) (fun q41 => ?_)
          · replace q41 : (v40 : Int) = 0 := q41
            refine Tx.aload_n hC te_85_119 rfl ?_
            exact Tx.aret hC te_85_120 rfl (show K Q m37 from H _ _ hQ hR39 hF38)
          · replace q41 : ¬ ((v40 : Int) = 0) := q41
            refine Tx.aload_n hC te_85_99 rfl ?_
            refine Tx.aload_n hC te_85_100 rfl ?_
            refine Tx.getR hC te_85_101 rfl rfl rfl ?_
            refine Tx.aload_n hC te_85_104 rfl ?_
            refine Tx.getR hC te_85_105 rfl rfl rfl ?_
            refine Tx.aload_n hC te_85_108 rfl ?_
            refine Tx.getR hC te_85_109 rfl rfl rfl ?_
            refine Tx.getR hC te_85_112 rfl rfl rfl ?_
            refine Tx.iload_n hC te_85_115 rfl ?_
            refine Tx.virtV hC te_85_116 mt_106 (args := [.inr Q, .inr 1, .inr 9, .inr 22, .inl d]) (rest := []) (c' := 0) (s' := 0) rfl rfl rfl rfl rfl rfl rfl rfl hQ.s0 rfl ?_
            refine f_106 hQ (hR39.1.ch Q hQ) hR39.1.b hR39.1.w hR39.2.2.2.1.1 (fun o ho => (hR39.1.us o ho).2) (by omega) (fun m43 hF44 r42c => ?_)
            have r42R := Rdy.e_draw hQ hR39 hF44 r42c
            have hF44n : Frm pNb mem m43 := hF38.tr (hF44.mono (fun A i q => by unfold pCh at q; unfold pNb; omega))
            refine Tx.aload_n hC te_85_119 rfl ?_
            exact Tx.aret hC te_85_120 rfl (show K Q m43 from H _ _ hQ r42R hF44n)
        · replace q36 : ¬ ((r33 : Int) = 0) := q36
          refine Tx.iconst hC te_85_84 rfl ?_
          refine Tx.goto hC (t := 89) te_85_85 (by decide) ?_
          refine Tx.putB hC te_85_89 hQ.s0 rfl rfl rfl (by omega) ?_
          have hF46 : Frm pNb mem (upm m34 Q 1 1) := Frm.up hF35n (by unfold pNb; omega)
          have hR47 := Rdy.e_fit (m' := upm m34 Q 1 1) hQ r33R (up1F (by unfold pQ1; omega)) (ChtOK.up1 (r33R.1.ch Q hQ) (by omega))
          generalize upm m34 Q 1 1 = m45 at hF46 hR47 ⊢
          refine Tx.aload_n hC te_85_92 rfl ?_
          refine Tx.getI hC te_85_93 hQ.s0 rfl rfl (fun v48 v48e v48i => ?_)
          unfold InI at v48i
          refine Tx.ifc hC (t := 119) te_85_96 (by decide) (fun q49 => ?_) (fun q49 => ?_)
          · replace q49 : (v48 : Int) = 0 := q49
            refine Tx.aload_n hC te_85_119 rfl ?_
            exact Tx.aret hC te_85_120 rfl (show K Q m45 from H _ _ hQ hR47 hF46)
          · replace q49 : ¬ ((v48 : Int) = 0) := q49
            refine Tx.aload_n hC te_85_99 rfl ?_
            refine Tx.aload_n hC te_85_100 rfl ?_
            refine Tx.getR hC te_85_101 rfl rfl rfl ?_
            refine Tx.aload_n hC te_85_104 rfl ?_
            refine Tx.getR hC te_85_105 rfl rfl rfl ?_
            refine Tx.aload_n hC te_85_108 rfl ?_
            refine Tx.getR hC te_85_109 rfl rfl rfl ?_
            refine Tx.getR hC te_85_112 rfl rfl rfl ?_
            refine Tx.iload_n hC te_85_115 rfl ?_
            refine Tx.virtV hC te_85_116 mt_106 (args := [.inr Q, .inr 1, .inr 9, .inr 22, .inl d]) (rest := []) (c' := 0) (s' := 0) rfl rfl rfl rfl rfl rfl rfl rfl hQ.s0 rfl ?_
            refine f_106 hQ (hR47.1.ch Q hQ) hR47.1.b hR47.1.w hR47.2.2.2.1.1 (fun o ho => (hR47.1.us o ho).2) (by omega) (fun m51 hF52 r50c => ?_)
            have r50R := Rdy.e_draw hQ hR47 hF52 r50c
            have hF52n : Frm pNb mem m51 := hF46.tr (hF52.mono (fun A i q => by unfold pCh at q; unfold pNb; omega))
            refine Tx.aload_n hC te_85_119 rfl ?_
            exact Tx.aret hC te_85_120 rfl (show K Q m51 from H _ _ hQ r50R hF52n)
theorem f_115 {S : Nat × (Nat → Int32)} {n : Nat} {mem : MM} {K : Nat → MM → Prop} {E : Nat → MM → Prop} (hI : ClS mem) {d : Int} (H : ∀ Q m', ChSh Q → Rdy m' → Frm pNb mem m' → 1 ≤ d → d ≤ 12 → K Q m') (HE : ∀ e m', (e = 0 ∨ e = 1) → ClS m' → Frm pNb mem m' → E e m') : CQR (Ex S (n + 16)) 115 [.inr 0, .inl d] mem K E := by
  refine CY.of (k := 1) mt_115 rfl rfl (fun hv => ?_)
  have hC := Ex.mono S (n + 15)
  have ii_d : InI d := hv (.inl d) (by simp)
  unfold InI at ii_d
  clear hv
  show Tx (Ex S (n + 15)) S M_115 (kR K E) 0 0 0 [some (.inr 0), some (.inl d), none] [] mem
  refine Tx.iload_n hC te_115_0 rfl ?_
  refine Tx.statV hC te_115_1 (by decide) mt_74 (args := [.inl d]) (rest := []) (c' := 1) (s' := 6) rfl rfl rfl rfl rfl rfl rfl ?_
  refine f_74 (fun r1a r1b => ?_) (HE 0 _ (by omega) hI Frm.rf)
  refine Tx.aload_n hC te_115_4 rfl ?_
  refine Tx.virtV hC te_115_5 mt_69 (args := [.inr 0]) (rest := []) (c' := 2) (s' := 12) rfl rfl rfl rfl rfl rfl rfl rfl rfl rfl ?_
  refine f_69 hI (fun m5 r4R hF6 => ?_) (fun m5 r4C hF6 => HE 1 _ (by omega) r4C (Frm.rf.tr hF6))
  have r4w := r4R.1.w.2
  have hF6n : Frm pNb mem m5 := Frm.rf.tr hF6
  refine Tx.aload_n hC te_115_8 rfl ?_
  refine Tx.iload_n hC te_115_9 rfl ?_
  refine Tx.virtR hC te_115_10 mt_85 (args := [.inr 0, .inl d]) (rest := []) (c' := 2) (s' := 12) rfl rfl rfl rfl rfl rfl rfl rfl rfl rfl ?_
  refine f_85 r4R (by omega) (fun Q m8 hQ r7R hF9 => ?_)
  have hq8 := hQ.rg
  have r7o := (r7R.1.ch Q hQ).1
  have hF9n : Frm pNb mem m8 := hF6n.tr hF9
  refine Tx.astore_n hC te_115_13 rfl ?_
  refine Tx.aload_n hC te_115_14 rfl ?_
  refine Tx.getI hC te_115_15 hQ.s0 rfl rfl (fun v10 v10e v10i => ?_)
  unfold InI at v10i
  refine Tx.ifc hC (t := 32) te_115_18 (by decide) (fun q11 => ?_) (fun q11 => ?_)
  · replace q11 : ¬ (v10 : Int) = 0 := q11
    refine Tx.aload_n hC te_115_32 rfl ?_
    exact Tx.aret hC te_115_33 rfl (show K Q m8 from H _ _ hQ r7R hF9n (by omega) (by omega))
  · replace q11 : ¬ (¬ (v10 : Int) = 0) := q11
    exact Tx.thr hC te_115_21 rfl rfl rfl rfl rfl (show E 1 m8 from HE _ _ (by omega) r7R.cs hF9n)
theorem f_73 {S : Nat × (Nat → Int32)} {n : Nat} {mem : MM} {K : MM → Prop} {E : Nat → MM → Prop} (hI : ClS mem) {d : Int} (H : ∀ m', Rdy m' → Frm pNb mem m' → 1 ≤ d → d ≤ 12 → K m') (HE : ∀ e m', (e = 0 ∨ e = 1) → ClS m' → Frm pNb mem m' → E e m') : CQV (Ex S (n + 15)) 73 [.inr 0, .inl d] mem K E := by
  refine CY.of (k := 0) mt_73 rfl rfl (fun hv => ?_)
  have hC := Ex.mono S (n + 14)
  have ii_d : InI d := hv (.inl d) (by simp)
  unfold InI at ii_d
  clear hv
  show Tx (Ex S (n + 14)) S M_73 (kV K E) 0 0 0 [some (.inr 0), some (.inl d)] [] mem
  refine Tx.iload_n hC te_73_0 rfl ?_
  refine Tx.statV hC te_73_1 (by decide) mt_74 (args := [.inl d]) (rest := []) (c' := 1) (s' := 6) rfl rfl rfl rfl rfl rfl rfl ?_
  refine f_74 (fun r1a r1b => ?_) (HE 0 _ (by omega) hI Frm.rf)
  refine Tx.aload_n hC te_73_4 rfl ?_
  refine Tx.virtV hC te_73_5 mt_69 (args := [.inr 0]) (rest := []) (c' := 2) (s' := 12) rfl rfl rfl rfl rfl rfl rfl rfl rfl rfl ?_
  refine f_69 hI (fun m5 r4R hF6 => ?_) (fun m5 r4C hF6 => HE 1 _ (by omega) r4C (Frm.rf.tr hF6))
  have r4w := r4R.1.w.2
  have hF6n : Frm pNb mem m5 := Frm.rf.tr hF6
  refine Tx.iload_n hC te_73_8 rfl ?_
  refine Tx.aload_n hC te_73_9 rfl ?_
  refine Tx.getR hC te_73_10 rfl rfl rfl ?_
  refine Tx.virtI hC te_73_13 mt_32 (args := [.inr 9]) (rest := [.inl d]) (c' := 2) (s' := 12) rfl rfl rfl rfl rfl rfl rfl rfl rfl rfl ?_
  refine f_32 (W := 9) ⟨rfl, rfl, rfl, rfl, rfl⟩ (fun r7 r7i => ?_)
  unfold InI at r7i
  refine Tx.icmp hC (t := 30) te_73_16 (by decide) (fun q10 => ?_) (fun q10 => ?_)
  · replace q10 : r7 ≤ (d : Int) := q10
    refine Tx.aload_n hC te_73_30 rfl ?_
    refine Tx.getR hC te_73_31 rfl rfl rfl ?_
    refine Tx.aload_n hC te_73_34 rfl ?_
    refine Tx.getR hC te_73_35 rfl rfl rfl ?_
    refine Tx.aload_n hC te_73_38 rfl ?_
    refine Tx.getR hC te_73_39 rfl rfl rfl ?_
    refine Tx.iload_n hC te_73_42 rfl ?_
    refine Tx.virtV hC te_73_43 mt_75 (args := [.inr 19, .inr 1, .inr 9, .inl d]) (rest := []) (c' := 2) (s' := 12) rfl rfl rfl rfl rfl rfl rfl rfl rfl rfl ?_
    refine f_75 r4R.1.b r4R.1.w r4R.1.r (fun m12 hF13 r11z => ?_)
    have r11R := Rdy.e_span r4R hF13 r11z
    have hF13n : Frm pNb mem m12 := hF6n.tr (hF13.mono (fun A i q => by unfold pRe at q; unfold pNb; omega))
    exact Tx.vret hC te_73_46 rfl (show K m12 from H _ r11R hF13n (by omega) (by omega))
  · replace q10 : ¬ (r7 ≤ (d : Int)) := q10
    exact Tx.thr hC te_73_19 rfl rfl rfl rfl rfl (show E 1 m5 from HE _ _ (by omega) r4R.cs hF6n)
/-! laid by wip/hand/tg.py: public methods that leave the ops -/
set_option maxRecDepth 100000 in
theorem mt_31 : MT[31]? = some M_31 := rfl
set_option maxRecDepth 100000 in
theorem mt_65 : MT[65]? = some M_65 := rfl
set_option maxRecDepth 100000 in
theorem mt_68 : MT[68]? = some M_68 := rfl
set_option maxRecDepth 100000 in
theorem mt_72 : MT[72]? = some M_72 := rfl
set_option maxRecDepth 100000 in
theorem mt_79 : MT[79]? = some M_79 := rfl
set_option maxRecDepth 100000 in
theorem mt_82 : MT[82]? = some M_82 := rfl
set_option maxRecDepth 100000 in
theorem mt_84 : MT[84]? = some M_84 := rfl
set_option maxRecDepth 100000 in
theorem mt_112 : MT[112]? = some M_112 := rfl
set_option maxRecDepth 100000 in
theorem mt_114 : MT[114]? = some M_114 := rfl
set_option maxRecDepth 100000 in
theorem mt_117 : MT[117]? = some M_117 := rfl
set_option maxRecDepth 100000 in
theorem mt_122 : MT[122]? = some M_122 := rfl
set_option maxRecDepth 100000 in
theorem mt_136 : MT[136]? = some M_136 := rfl
set_option maxRecDepth 100000 in
theorem mt_138 : MT[138]? = some M_138 := rfl
set_option maxRecDepth 100000 in
theorem mt_140 : MT[140]? = some M_140 := rfl
set_option maxRecDepth 100000 in
theorem mt_145 : MT[145]? = some M_145 := rfl
set_option maxRecDepth 100000 in
theorem mt_148 : MT[148]? = some M_148 := rfl
set_option maxRecDepth 100000 in
theorem mt_150 : MT[150]? = some M_150 := rfl
set_option maxRecDepth 100000 in
theorem mt_154 : MT[154]? = some M_154 := rfl
set_option maxRecDepth 100000 in
theorem mt_159 : MT[159]? = some M_159 := rfl
set_option maxRecDepth 100000 in
theorem mt_166 : MT[166]? = some M_166 := rfl
set_option maxRecDepth 100000 in
theorem mt_169 : MT[169]? = some M_169 := rfl
set_option maxRecDepth 100000 in
theorem mt_171 : MT[171]? = some M_171 := rfl
set_option maxRecDepth 100000 in
theorem mt_173 : MT[173]? = some M_173 := rfl
set_option maxRecDepth 100000 in
theorem mt_175 : MT[175]? = some M_175 := rfl
set_option maxRecDepth 100000 in
theorem mt_178 : MT[178]? = some M_178 := rfl
set_option maxRecDepth 100000 in
theorem mt_183 : MT[183]? = some M_183 := rfl
set_option maxRecDepth 100000 in
theorem mt_185 : MT[185]? = some M_185 := rfl
set_option maxRecDepth 100000 in
theorem mt_188 : MT[188]? = some M_188 := rfl
set_option maxRecDepth 100000 in
theorem mt_190 : MT[190]? = some M_190 := rfl
set_option maxRecDepth 100000 in
theorem mt_192 : MT[192]? = some M_192 := rfl
set_option maxRecDepth 100000 in
theorem mt_194 : MT[194]? = some M_194 := rfl
set_option maxRecDepth 100000 in
theorem mt_196 : MT[196]? = some M_196 := rfl
set_option maxRecDepth 100000 in
theorem mt_198 : MT[198]? = some M_198 := rfl
set_option maxRecDepth 100000 in
theorem mt_201 : MT[201]? = some M_201 := rfl
set_option maxRecDepth 100000 in
theorem mt_203 : MT[203]? = some M_203 := rfl
set_option maxRecDepth 100000 in
theorem mt_207 : MT[207]? = some M_207 := rfl
set_option maxRecDepth 100000 in
theorem mt_210 : MT[210]? = some M_210 := rfl
set_option maxRecDepth 100000 in
theorem mt_214 : MT[214]? = some M_214 := rfl
set_option maxRecDepth 100000 in
theorem mt_219 : MT[219]? = some M_219 := rfl
set_option maxRecDepth 100000 in
theorem mt_221 : MT[221]? = some M_221 := rfl
set_option maxRecDepth 100000 in
theorem mt_223 : MT[223]? = some M_223 := rfl
theorem te_31_0 : (pT M_31).find? (fun e => e.1 == 0) = some (0, .aload_n 0, 0, 0) := rfl
theorem te_31_1 : (pT M_31).find? (fun e => e.1 == 1) = some (1, .invokevirtual 152, 11, 0) := rfl
theorem te_31_4 : (pT M_31).find? (fun e => e.1 == 4) = some (4, .iload_n 1, 0, 0) := rfl
theorem te_31_5 : (pT M_31).find? (fun e => e.1 == 5) = some (5, .ifCond .ne 11, 0, 0) := rfl
theorem te_31_8 : (pT M_31).find? (fun e => e.1 == 8) = some (8, .aload_n 0, 0, 0) := rfl
theorem te_31_9 : (pT M_31).find? (fun e => e.1 == 9) = some (9, .getfield 12, 9, 0) := rfl
theorem te_31_12 : (pT M_31).find? (fun e => e.1 == 12) = some (12, .getfield 101, 0, 0) := rfl
theorem te_31_15 : (pT M_31).find? (fun e => e.1 == 15) = some (15, .ireturn, 0, 0) := rfl
theorem te_31_16 : (pT M_31).find? (fun e => e.1 == 16) = some (16, .iload_n 1, 0, 0) := rfl
theorem te_31_17 : (pT M_31).find? (fun e => e.1 == 17) = some (17, .iconst 1, 0, 0) := rfl
theorem te_31_18 : (pT M_31).find? (fun e => e.1 == 18) = some (18, .if_icmp .lt 17, 0, 0) := rfl
theorem te_31_21 : (pT M_31).find? (fun e => e.1 == 21) = some (21, .iload_n 1, 0, 0) := rfl
theorem te_31_22 : (pT M_31).find? (fun e => e.1 == 22) = some (22, .iconst 4, 0, 0) := rfl
theorem te_31_23 : (pT M_31).find? (fun e => e.1 == 23) = some (23, .if_icmp .gt 12, 0, 0) := rfl
theorem te_31_26 : (pT M_31).find? (fun e => e.1 == 26) = some (26, .aload_n 0, 0, 0) := rfl
theorem te_31_27 : (pT M_31).find? (fun e => e.1 == 27) = some (27, .getfield 155, 9, 10) := rfl
theorem te_31_30 : (pT M_31).find? (fun e => e.1 == 30) = some (30, .ifCond .ne 5, 0, 0) := rfl
theorem te_31_33 : (pT M_31).find? (fun e => e.1 == 33) = some (33, .iconst (-1), 0, 0) := rfl
theorem te_31_34 : (pT M_31).find? (fun e => e.1 == 34) = some (34, .ireturn, 0, 0) := rfl
theorem te_31_35 : (pT M_31).find? (fun e => e.1 == 35) = some (35, .iload_n 1, 0, 0) := rfl
theorem te_31_36 : (pT M_31).find? (fun e => e.1 == 36) = some (36, .tableswitch 101 1 8 #[48, 56, 64, 74, 80, 88, 88, 88], 48, 0) := rfl
theorem te_31_84 : (pT M_31).find? (fun e => e.1 == 84) = some (84, .aload_n 0, 0, 0) := rfl
theorem te_31_85 : (pT M_31).find? (fun e => e.1 == 85) = some (85, .getfield 19, 9, 1) := rfl
theorem te_31_88 : (pT M_31).find? (fun e => e.1 == 88) = some (88, .getfield 386, 7, 0) := rfl
theorem te_31_91 : (pT M_31).find? (fun e => e.1 == 91) = some (91, .ireturn, 0, 0) := rfl
theorem te_31_92 : (pT M_31).find? (fun e => e.1 == 92) = some (92, .aload_n 0, 0, 0) := rfl
theorem te_31_93 : (pT M_31).find? (fun e => e.1 == 93) = some (93, .getfield 19, 9, 1) := rfl
theorem te_31_96 : (pT M_31).find? (fun e => e.1 == 96) = some (96, .invokevirtual 224, 32, 1) := rfl
theorem te_31_99 : (pT M_31).find? (fun e => e.1 == 99) = some (99, .ireturn, 0, 0) := rfl
theorem te_31_100 : (pT M_31).find? (fun e => e.1 == 100) = some (100, .aload_n 0, 0, 0) := rfl
theorem te_31_101 : (pT M_31).find? (fun e => e.1 == 101) = some (101, .getfield 12, 9, 0) := rfl
theorem te_31_104 : (pT M_31).find? (fun e => e.1 == 104) = some (104, .iconst (-1), 0, 0) := rfl
theorem te_31_105 : (pT M_31).find? (fun e => e.1 == 105) = some (105, .iconst 1, 0, 0) := rfl
theorem te_31_106 : (pT M_31).find? (fun e => e.1 == 106) = some (106, .invokevirtual 358, 35, 1) := rfl
theorem te_31_109 : (pT M_31).find? (fun e => e.1 == 109) = some (109, .ireturn, 0, 0) := rfl
theorem te_31_110 : (pT M_31).find? (fun e => e.1 == 110) = some (110, .aload_n 0, 0, 0) := rfl
theorem te_31_111 : (pT M_31).find? (fun e => e.1 == 111) = some (111, .iconst 1, 0, 0) := rfl
theorem te_31_112 : (pT M_31).find? (fun e => e.1 == 112) = some (112, .invokevirtual 347, 41, 0) := rfl
theorem te_31_115 : (pT M_31).find? (fun e => e.1 == 115) = some (115, .ireturn, 0, 0) := rfl
theorem te_31_116 : (pT M_31).find? (fun e => e.1 == 116) = some (116, .aload_n 0, 0, 0) := rfl
theorem te_31_117 : (pT M_31).find? (fun e => e.1 == 117) = some (117, .getfield 12, 9, 0) := rfl
theorem te_31_120 : (pT M_31).find? (fun e => e.1 == 120) = some (120, .invokevirtual 318, 42, 1) := rfl
theorem te_31_123 : (pT M_31).find? (fun e => e.1 == 123) = some (123, .ireturn, 0, 0) := rfl
theorem te_31_124 : (pT M_31).find? (fun e => e.1 == 124) = some (124, .aload_n 0, 0, 0) := rfl
theorem te_31_125 : (pT M_31).find? (fun e => e.1 == 125) = some (125, .getfield 12, 9, 0) := rfl
theorem te_31_128 : (pT M_31).find? (fun e => e.1 == 128) = some (128, .getfield 139, 0, 7) := rfl
theorem te_31_131 : (pT M_31).find? (fun e => e.1 == 131) = some (131, .iload_n 1, 0, 0) := rfl
theorem te_31_132 : (pT M_31).find? (fun e => e.1 == 132) = some (132, .bipush 6, 0, 0) := rfl
theorem te_31_134 : (pT M_31).find? (fun e => e.1 == 134) = some (134, .isub, 0, 0) := rfl
theorem te_31_135 : (pT M_31).find? (fun e => e.1 == 135) = some (135, .iaload, 0, 0) := rfl
theorem te_31_136 : (pT M_31).find? (fun e => e.1 == 136) = some (136, .ireturn, 0, 0) := rfl
theorem te_31_137 : (pT M_31).find? (fun e => e.1 == 137) = some (137, .iconst (-1), 0, 0) := rfl
theorem te_31_138 : (pT M_31).find? (fun e => e.1 == 138) = some (138, .ireturn, 0, 0) := rfl
theorem te_65_0 : (pT M_65).find? (fun e => e.1 == 0) = some (0, .aload_n 0, 0, 0) := rfl
theorem te_65_1 : (pT M_65).find? (fun e => e.1 == 1) = some (1, .iload_n 1, 0, 0) := rfl
theorem te_65_2 : (pT M_65).find? (fun e => e.1 == 2) = some (2, .invokevirtual 110, 57, 0) := rfl
theorem te_65_5 : (pT M_65).find? (fun e => e.1 == 5) = some (5, .iload_n 2, 0, 0) := rfl
theorem te_65_6 : (pT M_65).find? (fun e => e.1 == 6) = some (6, .iconst 5, 0, 0) := rfl
theorem te_65_7 : (pT M_65).find? (fun e => e.1 == 7) = some (7, .invokestatic 142, 66, 2) := rfl
theorem te_65_10 : (pT M_65).find? (fun e => e.1 == 10) = some (10, .iload_n 2, 0, 0) := rfl
theorem te_65_11 : (pT M_65).find? (fun e => e.1 == 11) = some (11, .ifCond .ne 13, 0, 0) := rfl
theorem te_65_14 : (pT M_65).find? (fun e => e.1 == 14) = some (14, .aload_n 0, 0, 0) := rfl
theorem te_65_15 : (pT M_65).find? (fun e => e.1 == 15) = some (15, .getfield 12, 9, 0) := rfl
theorem te_65_18 : (pT M_65).find? (fun e => e.1 == 18) = some (18, .getfield 146, 0, 1) := rfl
theorem te_65_21 : (pT M_65).find? (fun e => e.1 == 21) = some (21, .iload_n 1, 0, 0) := rfl
theorem te_65_22 : (pT M_65).find? (fun e => e.1 == 22) = some (22, .iaload, 0, 0) := rfl
theorem te_65_23 : (pT M_65).find? (fun e => e.1 == 23) = some (23, .ireturn, 0, 0) := rfl
theorem te_65_24 : (pT M_65).find? (fun e => e.1 == 24) = some (24, .iload_n 2, 0, 0) := rfl
theorem te_65_25 : (pT M_65).find? (fun e => e.1 == 25) = some (25, .iconst 5, 0, 0) := rfl
theorem te_65_26 : (pT M_65).find? (fun e => e.1 == 26) = some (26, .if_icmp .ne 13, 0, 0) := rfl
theorem te_65_29 : (pT M_65).find? (fun e => e.1 == 29) = some (29, .aload_n 0, 0, 0) := rfl
theorem te_65_30 : (pT M_65).find? (fun e => e.1 == 30) = some (30, .getfield 12, 9, 0) := rfl
theorem te_65_33 : (pT M_65).find? (fun e => e.1 == 33) = some (33, .getfield 116, 0, 3) := rfl
theorem te_65_36 : (pT M_65).find? (fun e => e.1 == 36) = some (36, .iload_n 1, 0, 0) := rfl
theorem te_65_37 : (pT M_65).find? (fun e => e.1 == 37) = some (37, .iaload, 0, 0) := rfl
theorem te_65_38 : (pT M_65).find? (fun e => e.1 == 38) = some (38, .ireturn, 0, 0) := rfl
theorem te_65_39 : (pT M_65).find? (fun e => e.1 == 39) = some (39, .aload_n 0, 0, 0) := rfl
theorem te_65_40 : (pT M_65).find? (fun e => e.1 == 40) = some (40, .getfield 12, 9, 0) := rfl
theorem te_65_43 : (pT M_65).find? (fun e => e.1 == 43) = some (43, .getfield 149, 0, 2) := rfl
theorem te_65_46 : (pT M_65).find? (fun e => e.1 == 46) = some (46, .iload_n 1, 0, 0) := rfl
theorem te_65_47 : (pT M_65).find? (fun e => e.1 == 47) = some (47, .iconst 4, 0, 0) := rfl
theorem te_65_48 : (pT M_65).find? (fun e => e.1 == 48) = some (48, .imul, 0, 0) := rfl
theorem te_65_49 : (pT M_65).find? (fun e => e.1 == 49) = some (49, .iload_n 2, 0, 0) := rfl
theorem te_65_50 : (pT M_65).find? (fun e => e.1 == 50) = some (50, .iadd, 0, 0) := rfl
theorem te_65_51 : (pT M_65).find? (fun e => e.1 == 51) = some (51, .iconst 1, 0, 0) := rfl
theorem te_65_52 : (pT M_65).find? (fun e => e.1 == 52) = some (52, .isub, 0, 0) := rfl
theorem te_65_53 : (pT M_65).find? (fun e => e.1 == 53) = some (53, .iaload, 0, 0) := rfl
theorem te_65_54 : (pT M_65).find? (fun e => e.1 == 54) = some (54, .ireturn, 0, 0) := rfl
theorem te_68_0 : (pT M_68).find? (fun e => e.1 == 0) = some (0, .aload_n 0, 0, 0) := rfl
theorem te_68_1 : (pT M_68).find? (fun e => e.1 == 1) = some (1, .invokevirtual 158, 69, 0) := rfl
theorem te_68_4 : (pT M_68).find? (fun e => e.1 == 4) = some (4, .aload_n 0, 0, 0) := rfl
theorem te_68_5 : (pT M_68).find? (fun e => e.1 == 5) = some (5, .iload_n 1, 0, 0) := rfl
theorem te_68_6 : (pT M_68).find? (fun e => e.1 == 6) = some (6, .invokevirtual 161, 70, 0) := rfl
theorem te_68_9 : (pT M_68).find? (fun e => e.1 == 9) = some (9, .iload_n 2, 0, 0) := rfl
theorem te_68_10 : (pT M_68).find? (fun e => e.1 == 10) = some (10, .iconst 3, 0, 0) := rfl
theorem te_68_11 : (pT M_68).find? (fun e => e.1 == 11) = some (11, .invokestatic 142, 66, 2) := rfl
theorem te_68_14 : (pT M_68).find? (fun e => e.1 == 14) = some (14, .iload_n 2, 0, 0) := rfl
theorem te_68_15 : (pT M_68).find? (fun e => e.1 == 15) = some (15, .tableswitch 55 0 2 #[25, 35, 45], 25, 0) := rfl
theorem te_68_40 : (pT M_68).find? (fun e => e.1 == 40) = some (40, .aload_n 0, 0, 0) := rfl
theorem te_68_41 : (pT M_68).find? (fun e => e.1 == 41) = some (41, .getfield 19, 9, 1) := rfl
theorem te_68_44 : (pT M_68).find? (fun e => e.1 == 44) = some (44, .getfield 164, 7, 1) := rfl
theorem te_68_47 : (pT M_68).find? (fun e => e.1 == 47) = some (47, .iload_n 1, 0, 0) := rfl
theorem te_68_48 : (pT M_68).find? (fun e => e.1 == 48) = some (48, .iaload, 0, 0) := rfl
theorem te_68_49 : (pT M_68).find? (fun e => e.1 == 49) = some (49, .ireturn, 0, 0) := rfl
theorem te_68_50 : (pT M_68).find? (fun e => e.1 == 50) = some (50, .aload_n 0, 0, 0) := rfl
theorem te_68_51 : (pT M_68).find? (fun e => e.1 == 51) = some (51, .getfield 19, 9, 1) := rfl
theorem te_68_54 : (pT M_68).find? (fun e => e.1 == 54) = some (54, .getfield 167, 7, 2) := rfl
theorem te_68_57 : (pT M_68).find? (fun e => e.1 == 57) = some (57, .iload_n 1, 0, 0) := rfl
theorem te_68_58 : (pT M_68).find? (fun e => e.1 == 58) = some (58, .iaload, 0, 0) := rfl
theorem te_68_59 : (pT M_68).find? (fun e => e.1 == 59) = some (59, .ireturn, 0, 0) := rfl
theorem te_68_60 : (pT M_68).find? (fun e => e.1 == 60) = some (60, .aload_n 0, 0, 0) := rfl
theorem te_68_61 : (pT M_68).find? (fun e => e.1 == 61) = some (61, .getfield 19, 9, 1) := rfl
theorem te_68_64 : (pT M_68).find? (fun e => e.1 == 64) = some (64, .getfield 170, 7, 3) := rfl
theorem te_68_67 : (pT M_68).find? (fun e => e.1 == 67) = some (67, .iload_n 1, 0, 0) := rfl
theorem te_68_68 : (pT M_68).find? (fun e => e.1 == 68) = some (68, .iaload, 0, 0) := rfl
theorem te_68_69 : (pT M_68).find? (fun e => e.1 == 69) = some (69, .ireturn, 0, 0) := rfl
theorem te_68_70 : (pT M_68).find? (fun e => e.1 == 70) = some (70, .aload_n 0, 0, 0) := rfl
theorem te_68_71 : (pT M_68).find? (fun e => e.1 == 71) = some (71, .getfield 19, 9, 1) := rfl
theorem te_68_74 : (pT M_68).find? (fun e => e.1 == 74) = some (74, .getfield 173, 7, 4) := rfl
theorem te_68_77 : (pT M_68).find? (fun e => e.1 == 77) = some (77, .iload_n 1, 0, 0) := rfl
theorem te_68_78 : (pT M_68).find? (fun e => e.1 == 78) = some (78, .iaload, 0, 0) := rfl
theorem te_68_79 : (pT M_68).find? (fun e => e.1 == 79) = some (79, .ireturn, 0, 0) := rfl
theorem te_72_0 : (pT M_72).find? (fun e => e.1 == 0) = some (0, .aload_n 0, 0, 0) := rfl
theorem te_72_1 : (pT M_72).find? (fun e => e.1 == 1) = some (1, .iload_n 1, 0, 0) := rfl
theorem te_72_2 : (pT M_72).find? (fun e => e.1 == 2) = some (2, .invokevirtual 110, 57, 0) := rfl
theorem te_72_5 : (pT M_72).find? (fun e => e.1 == 5) = some (5, .aload_n 0, 0, 0) := rfl
theorem te_72_6 : (pT M_72).find? (fun e => e.1 == 6) = some (6, .iload_n 2, 0, 0) := rfl
theorem te_72_7 : (pT M_72).find? (fun e => e.1 == 7) = some (7, .invokevirtual 110, 57, 0) := rfl
theorem te_72_10 : (pT M_72).find? (fun e => e.1 == 10) = some (10, .aload_n 0, 0, 0) := rfl
theorem te_72_11 : (pT M_72).find? (fun e => e.1 == 11) = some (11, .iload_n 3, 0, 0) := rfl
theorem te_72_12 : (pT M_72).find? (fun e => e.1 == 12) = some (12, .invokevirtual 176, 73, 0) := rfl
theorem te_72_15 : (pT M_72).find? (fun e => e.1 == 15) = some (15, .aload_n 0, 0, 0) := rfl
theorem te_72_16 : (pT M_72).find? (fun e => e.1 == 16) = some (16, .getfield 29, 9, 3) := rfl
theorem te_72_19 : (pT M_72).find? (fun e => e.1 == 19) = some (19, .getfield 179, 5, 2) := rfl
theorem te_72_22 : (pT M_72).find? (fun e => e.1 == 22) = some (22, .iload_n 1, 0, 0) := rfl
theorem te_72_23 : (pT M_72).find? (fun e => e.1 == 23) = some (23, .bipush 8, 0, 0) := rfl
theorem te_72_25 : (pT M_72).find? (fun e => e.1 == 25) = some (25, .imul, 0, 0) := rfl
theorem te_72_26 : (pT M_72).find? (fun e => e.1 == 26) = some (26, .iload_n 2, 0, 0) := rfl
theorem te_72_27 : (pT M_72).find? (fun e => e.1 == 27) = some (27, .iadd, 0, 0) := rfl
theorem te_72_28 : (pT M_72).find? (fun e => e.1 == 28) = some (28, .iaload, 0, 0) := rfl
theorem te_72_29 : (pT M_72).find? (fun e => e.1 == 29) = some (29, .istore 4, 0, 0) := rfl
theorem te_72_31 : (pT M_72).find? (fun e => e.1 == 31) = some (31, .iload 4, 0, 0) := rfl
theorem te_72_33 : (pT M_72).find? (fun e => e.1 == 33) = some (33, .ldc 182, 4, 0) := rfl
theorem te_72_35 : (pT M_72).find? (fun e => e.1 == 35) = some (35, .if_icmp .ne 9, 0, 0) := rfl
theorem te_72_38 : (pT M_72).find? (fun e => e.1 == 38) = some (38, .sipush (-1000), 0, 0) := rfl
theorem te_72_41 : (pT M_72).find? (fun e => e.1 == 41) = some (41, .goto 5, 0, 0) := rfl
theorem te_72_44 : (pT M_72).find? (fun e => e.1 == 44) = some (44, .iload 4, 0, 0) := rfl
theorem te_72_46 : (pT M_72).find? (fun e => e.1 == 46) = some (46, .ireturn, 0, 0) := rfl
theorem te_79_0 : (pT M_79).find? (fun e => e.1 == 0) = some (0, .aload_n 0, 0, 0) := rfl
theorem te_79_1 : (pT M_79).find? (fun e => e.1 == 1) = some (1, .iload_n 1, 0, 0) := rfl
theorem te_79_2 : (pT M_79).find? (fun e => e.1 == 2) = some (2, .invokevirtual 110, 57, 0) := rfl
theorem te_79_5 : (pT M_79).find? (fun e => e.1 == 5) = some (5, .aload_n 0, 0, 0) := rfl
theorem te_79_6 : (pT M_79).find? (fun e => e.1 == 6) = some (6, .iload_n 2, 0, 0) := rfl
theorem te_79_7 : (pT M_79).find? (fun e => e.1 == 7) = some (7, .invokevirtual 176, 73, 0) := rfl
theorem te_79_10 : (pT M_79).find? (fun e => e.1 == 10) = some (10, .aload_n 0, 0, 0) := rfl
theorem te_79_11 : (pT M_79).find? (fun e => e.1 == 11) = some (11, .getfield 29, 9, 3) := rfl
theorem te_79_14 : (pT M_79).find? (fun e => e.1 == 14) = some (14, .iload_n 1, 0, 0) := rfl
theorem te_79_15 : (pT M_79).find? (fun e => e.1 == 15) = some (15, .invokevirtual 183, 80, 1) := rfl
theorem te_79_18 : (pT M_79).find? (fun e => e.1 == 18) = some (18, .ireturn, 0, 0) := rfl
theorem te_82_0 : (pT M_82).find? (fun e => e.1 == 0) = some (0, .aload_n 0, 0, 0) := rfl
theorem te_82_1 : (pT M_82).find? (fun e => e.1 == 1) = some (1, .iload_n 1, 0, 0) := rfl
theorem te_82_2 : (pT M_82).find? (fun e => e.1 == 2) = some (2, .invokevirtual 134, 63, 0) := rfl
theorem te_82_5 : (pT M_82).find? (fun e => e.1 == 5) = some (5, .aload_n 0, 0, 0) := rfl
theorem te_82_6 : (pT M_82).find? (fun e => e.1 == 6) = some (6, .getfield 12, 9, 0) := rfl
theorem te_82_9 : (pT M_82).find? (fun e => e.1 == 9) = some (9, .iload_n 1, 0, 0) := rfl
theorem te_82_10 : (pT M_82).find? (fun e => e.1 == 10) = some (10, .invokevirtual 187, 36, 1) := rfl
theorem te_82_13 : (pT M_82).find? (fun e => e.1 == 13) = some (13, .ireturn, 0, 0) := rfl
theorem te_84_0 : (pT M_84).find? (fun e => e.1 == 0) = some (0, .iload_n 1, 0, 0) := rfl
theorem te_84_1 : (pT M_84).find? (fun e => e.1 == 1) = some (1, .invokestatic 190, 74, 2) := rfl
theorem te_84_4 : (pT M_84).find? (fun e => e.1 == 4) = some (4, .aload_n 0, 0, 0) := rfl
theorem te_84_5 : (pT M_84).find? (fun e => e.1 == 5) = some (5, .invokevirtual 158, 69, 0) := rfl
theorem te_84_8 : (pT M_84).find? (fun e => e.1 == 8) = some (8, .aload_n 0, 0, 0) := rfl
theorem te_84_9 : (pT M_84).find? (fun e => e.1 == 9) = some (9, .iload_n 1, 0, 0) := rfl
theorem te_84_10 : (pT M_84).find? (fun e => e.1 == 10) = some (10, .invokevirtual 193, 85, 0) := rfl
theorem te_84_13 : (pT M_84).find? (fun e => e.1 == 13) = some (13, .getfield 197, 1, 1) := rfl
theorem te_84_16 : (pT M_84).find? (fun e => e.1 == 16) = some (16, .ireturn, 0, 0) := rfl
theorem te_112_0 : (pT M_112).find? (fun e => e.1 == 0) = some (0, .aload_n 0, 0, 0) := rfl
theorem te_112_1 : (pT M_112).find? (fun e => e.1 == 1) = some (1, .invokevirtual 158, 69, 0) := rfl
theorem te_112_4 : (pT M_112).find? (fun e => e.1 == 4) = some (4, .iconst 1, 0, 0) := rfl
theorem te_112_5 : (pT M_112).find? (fun e => e.1 == 5) = some (5, .istore_n 1, 0, 0) := rfl
theorem te_112_6 : (pT M_112).find? (fun e => e.1 == 6) = some (6, .iload_n 1, 0, 0) := rfl
theorem te_112_7 : (pT M_112).find? (fun e => e.1 == 7) = some (7, .bipush 12, 0, 0) := rfl
theorem te_112_9 : (pT M_112).find? (fun e => e.1 == 9) = some (9, .if_icmp .gt 22, 0, 0) := rfl
theorem te_112_12 : (pT M_112).find? (fun e => e.1 == 12) = some (12, .aload_n 0, 0, 0) := rfl
theorem te_112_13 : (pT M_112).find? (fun e => e.1 == 13) = some (13, .iload_n 1, 0, 0) := rfl
theorem te_112_14 : (pT M_112).find? (fun e => e.1 == 14) = some (14, .invokevirtual 193, 85, 0) := rfl
theorem te_112_17 : (pT M_112).find? (fun e => e.1 == 17) = some (17, .getfield 197, 1, 1) := rfl
theorem te_112_20 : (pT M_112).find? (fun e => e.1 == 20) = some (20, .ifCond .eq 5, 0, 0) := rfl
theorem te_112_23 : (pT M_112).find? (fun e => e.1 == 23) = some (23, .iload_n 1, 0, 0) := rfl
theorem te_112_24 : (pT M_112).find? (fun e => e.1 == 24) = some (24, .ireturn, 0, 0) := rfl
theorem te_112_25 : (pT M_112).find? (fun e => e.1 == 25) = some (25, .iinc 1 1, 0, 0) := rfl
theorem te_112_28 : (pT M_112).find? (fun e => e.1 == 28) = some (28, .goto (-22), 0, 0) := rfl
theorem te_112_31 : (pT M_112).find? (fun e => e.1 == 31) = some (31, .iconst (-1), 0, 0) := rfl
theorem te_112_32 : (pT M_112).find? (fun e => e.1 == 32) = some (32, .ireturn, 0, 0) := rfl
theorem te_114_0 : (pT M_114).find? (fun e => e.1 == 0) = some (0, .aload_n 0, 0, 0) := rfl
theorem te_114_1 : (pT M_114).find? (fun e => e.1 == 1) = some (1, .iload_n 1, 0, 0) := rfl
theorem te_114_2 : (pT M_114).find? (fun e => e.1 == 2) = some (2, .invokevirtual 110, 57, 0) := rfl
theorem te_114_5 : (pT M_114).find? (fun e => e.1 == 5) = some (5, .aload_n 0, 0, 0) := rfl
theorem te_114_6 : (pT M_114).find? (fun e => e.1 == 6) = some (6, .iload_n 2, 0, 0) := rfl
theorem te_114_7 : (pT M_114).find? (fun e => e.1 == 7) = some (7, .invokevirtual 200, 115, 0) := rfl
theorem te_114_10 : (pT M_114).find? (fun e => e.1 == 10) = some (10, .getfield 203, 1, 9) := rfl
theorem te_114_13 : (pT M_114).find? (fun e => e.1 == 13) = some (13, .iload_n 1, 0, 0) := rfl
theorem te_114_14 : (pT M_114).find? (fun e => e.1 == 14) = some (14, .iaload, 0, 0) := rfl
theorem te_114_15 : (pT M_114).find? (fun e => e.1 == 15) = some (15, .ireturn, 0, 0) := rfl
theorem te_117_0 : (pT M_117).find? (fun e => e.1 == 0) = some (0, .aload_n 0, 0, 0) := rfl
theorem te_117_1 : (pT M_117).find? (fun e => e.1 == 1) = some (1, .iload_n 1, 0, 0) := rfl
theorem te_117_2 : (pT M_117).find? (fun e => e.1 == 2) = some (2, .invokevirtual 134, 63, 0) := rfl
theorem te_117_5 : (pT M_117).find? (fun e => e.1 == 5) = some (5, .iload_n 3, 0, 0) := rfl
theorem te_117_6 : (pT M_117).find? (fun e => e.1 == 6) = some (6, .invokestatic 190, 74, 2) := rfl
theorem te_117_9 : (pT M_117).find? (fun e => e.1 == 9) = some (9, .iload_n 2, 0, 0) := rfl
theorem te_117_10 : (pT M_117).find? (fun e => e.1 == 10) = some (10, .iload_n 3, 0, 0) := rfl
theorem te_117_11 : (pT M_117).find? (fun e => e.1 == 11) = some (11, .invokestatic 206, 118, 2) := rfl
theorem te_117_14 : (pT M_117).find? (fun e => e.1 == 14) = some (14, .aload_n 0, 0, 0) := rfl
theorem te_117_15 : (pT M_117).find? (fun e => e.1 == 15) = some (15, .iload_n 3, 0, 0) := rfl
theorem te_117_16 : (pT M_117).find? (fun e => e.1 == 16) = some (16, .invokevirtual 200, 115, 0) := rfl
theorem te_117_19 : (pT M_117).find? (fun e => e.1 == 19) = some (19, .aload_n 0, 0, 0) := rfl
theorem te_117_20 : (pT M_117).find? (fun e => e.1 == 20) = some (20, .getfield 12, 9, 0) := rfl
theorem te_117_23 : (pT M_117).find? (fun e => e.1 == 23) = some (23, .iload_n 1, 0, 0) := rfl
theorem te_117_24 : (pT M_117).find? (fun e => e.1 == 24) = some (24, .iload_n 2, 0, 0) := rfl
theorem te_117_25 : (pT M_117).find? (fun e => e.1 == 25) = some (25, .invokevirtual 209, 119, 1) := rfl
theorem te_117_28 : (pT M_117).find? (fun e => e.1 == 28) = some (28, .ireturn, 0, 0) := rfl
theorem te_122_0 : (pT M_122).find? (fun e => e.1 == 0) = some (0, .aload_n 0, 0, 0) := rfl
theorem te_122_1 : (pT M_122).find? (fun e => e.1 == 1) = some (1, .iload_n 1, 0, 0) := rfl
theorem te_122_2 : (pT M_122).find? (fun e => e.1 == 2) = some (2, .invokevirtual 110, 57, 0) := rfl
theorem te_122_5 : (pT M_122).find? (fun e => e.1 == 5) = some (5, .aload_n 0, 0, 0) := rfl
theorem te_122_6 : (pT M_122).find? (fun e => e.1 == 6) = some (6, .iload_n 2, 0, 0) := rfl
theorem te_122_7 : (pT M_122).find? (fun e => e.1 == 7) = some (7, .invokevirtual 176, 73, 0) := rfl
theorem te_122_10 : (pT M_122).find? (fun e => e.1 == 10) = some (10, .aload_n 0, 0, 0) := rfl
theorem te_122_11 : (pT M_122).find? (fun e => e.1 == 11) = some (11, .getfield 50, 9, 6) := rfl
theorem te_122_14 : (pT M_122).find? (fun e => e.1 == 14) = some (14, .aload_n 0, 0, 0) := rfl
theorem te_122_15 : (pT M_122).find? (fun e => e.1 == 15) = some (15, .getfield 12, 9, 0) := rfl
theorem te_122_18 : (pT M_122).find? (fun e => e.1 == 18) = some (18, .aload_n 0, 0, 0) := rfl
theorem te_122_19 : (pT M_122).find? (fun e => e.1 == 19) = some (19, .getfield 19, 9, 1) := rfl
theorem te_122_22 : (pT M_122).find? (fun e => e.1 == 22) = some (22, .aload_n 0, 0, 0) := rfl
theorem te_122_23 : (pT M_122).find? (fun e => e.1 == 23) = some (23, .getfield 29, 9, 3) := rfl
theorem te_122_26 : (pT M_122).find? (fun e => e.1 == 26) = some (26, .iload_n 2, 0, 0) := rfl
theorem te_122_27 : (pT M_122).find? (fun e => e.1 == 27) = some (27, .invokevirtual 213, 123, 1) := rfl
theorem te_122_30 : (pT M_122).find? (fun e => e.1 == 30) = some (30, .aload_n 0, 0, 0) := rfl
theorem te_122_31 : (pT M_122).find? (fun e => e.1 == 31) = some (31, .getfield 50, 9, 6) := rfl
theorem te_122_34 : (pT M_122).find? (fun e => e.1 == 34) = some (34, .getfield 217, 2, 1) := rfl
theorem te_122_37 : (pT M_122).find? (fun e => e.1 == 37) = some (37, .ifCond .eq 15, 0, 0) := rfl
theorem te_122_40 : (pT M_122).find? (fun e => e.1 == 40) = some (40, .aload_n 0, 0, 0) := rfl
theorem te_122_41 : (pT M_122).find? (fun e => e.1 == 41) = some (41, .getfield 50, 9, 6) := rfl
theorem te_122_44 : (pT M_122).find? (fun e => e.1 == 44) = some (44, .getfield 220, 2, 4) := rfl
theorem te_122_47 : (pT M_122).find? (fun e => e.1 == 47) = some (47, .iload_n 1, 0, 0) := rfl
theorem te_122_48 : (pT M_122).find? (fun e => e.1 == 48) = some (48, .iaload, 0, 0) := rfl
theorem te_122_49 : (pT M_122).find? (fun e => e.1 == 49) = some (49, .goto 4, 0, 0) := rfl
theorem te_122_52 : (pT M_122).find? (fun e => e.1 == 52) = some (52, .iconst (-1), 0, 0) := rfl
theorem te_122_53 : (pT M_122).find? (fun e => e.1 == 53) = some (53, .ireturn, 0, 0) := rfl
theorem te_136_0 : (pT M_136).find? (fun e => e.1 == 0) = some (0, .aload_n 0, 0, 0) := rfl
theorem te_136_1 : (pT M_136).find? (fun e => e.1 == 1) = some (1, .iload_n 1, 0, 0) := rfl
theorem te_136_2 : (pT M_136).find? (fun e => e.1 == 2) = some (2, .invokevirtual 176, 73, 0) := rfl
theorem te_136_5 : (pT M_136).find? (fun e => e.1 == 5) = some (5, .aload_n 0, 0, 0) := rfl
theorem te_136_6 : (pT M_136).find? (fun e => e.1 == 6) = some (6, .getfield 50, 9, 6) := rfl
theorem te_136_9 : (pT M_136).find? (fun e => e.1 == 9) = some (9, .aload_n 0, 0, 0) := rfl
theorem te_136_10 : (pT M_136).find? (fun e => e.1 == 10) = some (10, .getfield 12, 9, 0) := rfl
theorem te_136_13 : (pT M_136).find? (fun e => e.1 == 13) = some (13, .aload_n 0, 0, 0) := rfl
theorem te_136_14 : (pT M_136).find? (fun e => e.1 == 14) = some (14, .getfield 19, 9, 1) := rfl
theorem te_136_17 : (pT M_136).find? (fun e => e.1 == 17) = some (17, .aload_n 0, 0, 0) := rfl
theorem te_136_18 : (pT M_136).find? (fun e => e.1 == 18) = some (18, .getfield 29, 9, 3) := rfl
theorem te_136_21 : (pT M_136).find? (fun e => e.1 == 21) = some (21, .iload_n 1, 0, 0) := rfl
theorem te_136_22 : (pT M_136).find? (fun e => e.1 == 22) = some (22, .invokevirtual 213, 123, 1) := rfl
theorem te_136_25 : (pT M_136).find? (fun e => e.1 == 25) = some (25, .aload_n 0, 0, 0) := rfl
theorem te_136_26 : (pT M_136).find? (fun e => e.1 == 26) = some (26, .getfield 50, 9, 6) := rfl
theorem te_136_29 : (pT M_136).find? (fun e => e.1 == 29) = some (29, .getfield 217, 2, 1) := rfl
theorem te_136_32 : (pT M_136).find? (fun e => e.1 == 32) = some (32, .ifCond .eq 13, 0, 0) := rfl
theorem te_136_35 : (pT M_136).find? (fun e => e.1 == 35) = some (35, .aload_n 0, 0, 0) := rfl
theorem te_136_36 : (pT M_136).find? (fun e => e.1 == 36) = some (36, .getfield 50, 9, 6) := rfl
theorem te_136_39 : (pT M_136).find? (fun e => e.1 == 39) = some (39, .getfield 221, 2, 2) := rfl
theorem te_136_42 : (pT M_136).find? (fun e => e.1 == 42) = some (42, .goto 4, 0, 0) := rfl
theorem te_136_45 : (pT M_136).find? (fun e => e.1 == 45) = some (45, .iconst (-1), 0, 0) := rfl
theorem te_136_46 : (pT M_136).find? (fun e => e.1 == 46) = some (46, .ireturn, 0, 0) := rfl
theorem te_138_0 : (pT M_138).find? (fun e => e.1 == 0) = some (0, .aload_n 0, 0, 0) := rfl
theorem te_138_1 : (pT M_138).find? (fun e => e.1 == 1) = some (1, .invokevirtual 158, 69, 0) := rfl
theorem te_138_4 : (pT M_138).find? (fun e => e.1 == 4) = some (4, .iconst 1, 0, 0) := rfl
theorem te_138_5 : (pT M_138).find? (fun e => e.1 == 5) = some (5, .aload_n 0, 0, 0) := rfl
theorem te_138_6 : (pT M_138).find? (fun e => e.1 == 6) = some (6, .getfield 19, 9, 1) := rfl
theorem te_138_9 : (pT M_138).find? (fun e => e.1 == 9) = some (9, .invokevirtual 224, 32, 1) := rfl
theorem te_138_12 : (pT M_138).find? (fun e => e.1 == 12) = some (12, .invokestatic 228, 40, 2) := rfl
theorem te_138_15 : (pT M_138).find? (fun e => e.1 == 15) = some (15, .istore_n 1, 0, 0) := rfl
theorem te_138_16 : (pT M_138).find? (fun e => e.1 == 16) = some (16, .iload_n 1, 0, 0) := rfl
theorem te_138_17 : (pT M_138).find? (fun e => e.1 == 17) = some (17, .bipush 12, 0, 0) := rfl
theorem te_138_19 : (pT M_138).find? (fun e => e.1 == 19) = some (19, .if_icmp .gt 57, 0, 0) := rfl
theorem te_138_22 : (pT M_138).find? (fun e => e.1 == 22) = some (22, .aload_n 0, 0, 0) := rfl
theorem te_138_23 : (pT M_138).find? (fun e => e.1 == 23) = some (23, .getfield 29, 9, 3) := rfl
theorem te_138_26 : (pT M_138).find? (fun e => e.1 == 26) = some (26, .aload_n 0, 0, 0) := rfl
theorem te_138_27 : (pT M_138).find? (fun e => e.1 == 27) = some (27, .getfield 12, 9, 0) := rfl
theorem te_138_30 : (pT M_138).find? (fun e => e.1 == 30) = some (30, .aload_n 0, 0, 0) := rfl
theorem te_138_31 : (pT M_138).find? (fun e => e.1 == 31) = some (31, .getfield 19, 9, 1) := rfl
theorem te_138_34 : (pT M_138).find? (fun e => e.1 == 34) = some (34, .iload_n 1, 0, 0) := rfl
theorem te_138_35 : (pT M_138).find? (fun e => e.1 == 35) = some (35, .invokevirtual 234, 75, 1) := rfl
theorem te_138_38 : (pT M_138).find? (fun e => e.1 == 38) = some (38, .aload_n 0, 0, 0) := rfl
theorem te_138_39 : (pT M_138).find? (fun e => e.1 == 39) = some (39, .getfield 50, 9, 6) := rfl
theorem te_138_42 : (pT M_138).find? (fun e => e.1 == 42) = some (42, .aload_n 0, 0, 0) := rfl
theorem te_138_43 : (pT M_138).find? (fun e => e.1 == 43) = some (43, .getfield 12, 9, 0) := rfl
theorem te_138_46 : (pT M_138).find? (fun e => e.1 == 46) = some (46, .aload_n 0, 0, 0) := rfl
theorem te_138_47 : (pT M_138).find? (fun e => e.1 == 47) = some (47, .getfield 19, 9, 1) := rfl
theorem te_138_50 : (pT M_138).find? (fun e => e.1 == 50) = some (50, .aload_n 0, 0, 0) := rfl
theorem te_138_51 : (pT M_138).find? (fun e => e.1 == 51) = some (51, .getfield 29, 9, 3) := rfl
theorem te_138_54 : (pT M_138).find? (fun e => e.1 == 54) = some (54, .iload_n 1, 0, 0) := rfl
theorem te_138_55 : (pT M_138).find? (fun e => e.1 == 55) = some (55, .invokevirtual 213, 123, 1) := rfl
theorem te_138_58 : (pT M_138).find? (fun e => e.1 == 58) = some (58, .aload_n 0, 0, 0) := rfl
theorem te_138_59 : (pT M_138).find? (fun e => e.1 == 59) = some (59, .getfield 50, 9, 6) := rfl
theorem te_138_62 : (pT M_138).find? (fun e => e.1 == 62) = some (62, .getfield 217, 2, 1) := rfl
theorem te_138_65 : (pT M_138).find? (fun e => e.1 == 65) = some (65, .ifCond .eq 5, 0, 0) := rfl
theorem te_138_68 : (pT M_138).find? (fun e => e.1 == 68) = some (68, .iload_n 1, 0, 0) := rfl
theorem te_138_69 : (pT M_138).find? (fun e => e.1 == 69) = some (69, .ireturn, 0, 0) := rfl
theorem te_138_70 : (pT M_138).find? (fun e => e.1 == 70) = some (70, .iinc 1 1, 0, 0) := rfl
theorem te_138_73 : (pT M_138).find? (fun e => e.1 == 73) = some (73, .goto (-57), 0, 0) := rfl
theorem te_138_76 : (pT M_138).find? (fun e => e.1 == 76) = some (76, .iconst (-1), 0, 0) := rfl
theorem te_138_77 : (pT M_138).find? (fun e => e.1 == 77) = some (77, .ireturn, 0, 0) := rfl
theorem te_140_0 : (pT M_140).find? (fun e => e.1 == 0) = some (0, .iload_n 2, 0, 0) := rfl
theorem te_140_1 : (pT M_140).find? (fun e => e.1 == 1) = some (1, .bipush 6, 0, 0) := rfl
theorem te_140_3 : (pT M_140).find? (fun e => e.1 == 3) = some (3, .invokestatic 142, 66, 2) := rfl
theorem te_140_6 : (pT M_140).find? (fun e => e.1 == 6) = some (6, .aload_n 0, 0, 0) := rfl
theorem te_140_7 : (pT M_140).find? (fun e => e.1 == 7) = some (7, .iload_n 1, 0, 0) := rfl
theorem te_140_8 : (pT M_140).find? (fun e => e.1 == 8) = some (8, .invokevirtual 200, 115, 0) := rfl
theorem te_140_11 : (pT M_140).find? (fun e => e.1 == 11) = some (11, .astore_n 3, 0, 0) := rfl
theorem te_140_12 : (pT M_140).find? (fun e => e.1 == 12) = some (12, .iload_n 2, 0, 0) := rfl
theorem te_140_13 : (pT M_140).find? (fun e => e.1 == 13) = some (13, .tableswitch 73 0 5 #[39, 44, 49, 54, 59, 64], 39, 0) := rfl
theorem te_140_52 : (pT M_140).find? (fun e => e.1 == 52) = some (52, .aload_n 3, 0, 0) := rfl
theorem te_140_53 : (pT M_140).find? (fun e => e.1 == 53) = some (53, .getfield 238, 1, 4) := rfl
theorem te_140_56 : (pT M_140).find? (fun e => e.1 == 56) = some (56, .ireturn, 0, 0) := rfl
theorem te_140_57 : (pT M_140).find? (fun e => e.1 == 57) = some (57, .aload_n 3, 0, 0) := rfl
theorem te_140_58 : (pT M_140).find? (fun e => e.1 == 58) = some (58, .getfield 241, 1, 5) := rfl
theorem te_140_61 : (pT M_140).find? (fun e => e.1 == 61) = some (61, .ireturn, 0, 0) := rfl
theorem te_140_62 : (pT M_140).find? (fun e => e.1 == 62) = some (62, .aload_n 3, 0, 0) := rfl
theorem te_140_63 : (pT M_140).find? (fun e => e.1 == 63) = some (63, .getfield 244, 1, 6) := rfl
theorem te_140_66 : (pT M_140).find? (fun e => e.1 == 66) = some (66, .ireturn, 0, 0) := rfl
theorem te_140_67 : (pT M_140).find? (fun e => e.1 == 67) = some (67, .aload_n 3, 0, 0) := rfl
theorem te_140_68 : (pT M_140).find? (fun e => e.1 == 68) = some (68, .getfield 247, 1, 7) := rfl
theorem te_140_71 : (pT M_140).find? (fun e => e.1 == 71) = some (71, .ireturn, 0, 0) := rfl
theorem te_140_72 : (pT M_140).find? (fun e => e.1 == 72) = some (72, .aload_n 3, 0, 0) := rfl
theorem te_140_73 : (pT M_140).find? (fun e => e.1 == 73) = some (73, .invokevirtual 250, 141, 1) := rfl
theorem te_140_76 : (pT M_140).find? (fun e => e.1 == 76) = some (76, .ireturn, 0, 0) := rfl
theorem te_140_77 : (pT M_140).find? (fun e => e.1 == 77) = some (77, .aload_n 3, 0, 0) := rfl
theorem te_140_78 : (pT M_140).find? (fun e => e.1 == 78) = some (78, .aload_n 3, 0, 0) := rfl
theorem te_140_79 : (pT M_140).find? (fun e => e.1 == 79) = some (79, .invokevirtual 253, 142, 1) := rfl
theorem te_140_82 : (pT M_140).find? (fun e => e.1 == 82) = some (82, .invokevirtual 256, 143, 1) := rfl
theorem te_140_85 : (pT M_140).find? (fun e => e.1 == 85) = some (85, .ireturn, 0, 0) := rfl
theorem te_140_86 : (pT M_140).find? (fun e => e.1 == 86) = some (86, .aload_n 3, 0, 0) := rfl
theorem te_140_87 : (pT M_140).find? (fun e => e.1 == 87) = some (87, .invokevirtual 253, 142, 1) := rfl
theorem te_140_90 : (pT M_140).find? (fun e => e.1 == 90) = some (90, .ireturn, 0, 0) := rfl
theorem te_145_0 : (pT M_145).find? (fun e => e.1 == 0) = some (0, .aload_n 0, 0, 0) := rfl
theorem te_145_1 : (pT M_145).find? (fun e => e.1 == 1) = some (1, .iload_n 1, 0, 0) := rfl
theorem te_145_2 : (pT M_145).find? (fun e => e.1 == 2) = some (2, .invokevirtual 110, 57, 0) := rfl
theorem te_145_5 : (pT M_145).find? (fun e => e.1 == 5) = some (5, .iload_n 3, 0, 0) := rfl
theorem te_145_6 : (pT M_145).find? (fun e => e.1 == 6) = some (6, .iconst 5, 0, 0) := rfl
theorem te_145_7 : (pT M_145).find? (fun e => e.1 == 7) = some (7, .invokestatic 142, 66, 2) := rfl
theorem te_145_10 : (pT M_145).find? (fun e => e.1 == 10) = some (10, .aload_n 0, 0, 0) := rfl
theorem te_145_11 : (pT M_145).find? (fun e => e.1 == 11) = some (11, .iload_n 2, 0, 0) := rfl
theorem te_145_12 : (pT M_145).find? (fun e => e.1 == 12) = some (12, .invokevirtual 200, 115, 0) := rfl
theorem te_145_15 : (pT M_145).find? (fun e => e.1 == 15) = some (15, .astore 4, 0, 0) := rfl
theorem te_145_17 : (pT M_145).find? (fun e => e.1 == 17) = some (17, .iload_n 3, 0, 0) := rfl
theorem te_145_18 : (pT M_145).find? (fun e => e.1 == 18) = some (18, .tableswitch 73 0 4 #[34, 41, 49, 57, 65], 34, 0) := rfl
theorem te_145_52 : (pT M_145).find? (fun e => e.1 == 52) = some (52, .aload 4, 0, 0) := rfl
theorem te_145_54 : (pT M_145).find? (fun e => e.1 == 54) = some (54, .iload_n 1, 0, 0) := rfl
theorem te_145_55 : (pT M_145).find? (fun e => e.1 == 55) = some (55, .invokevirtual 259, 108, 1) := rfl
theorem te_145_58 : (pT M_145).find? (fun e => e.1 == 58) = some (58, .ireturn, 0, 0) := rfl
theorem te_145_59 : (pT M_145).find? (fun e => e.1 == 59) = some (59, .aload 4, 0, 0) := rfl
theorem te_145_61 : (pT M_145).find? (fun e => e.1 == 61) = some (61, .getfield 262, 1, 8) := rfl
theorem te_145_64 : (pT M_145).find? (fun e => e.1 == 64) = some (64, .iload_n 1, 0, 0) := rfl
theorem te_145_65 : (pT M_145).find? (fun e => e.1 == 65) = some (65, .iaload, 0, 0) := rfl
theorem te_145_66 : (pT M_145).find? (fun e => e.1 == 66) = some (66, .ireturn, 0, 0) := rfl
theorem te_145_67 : (pT M_145).find? (fun e => e.1 == 67) = some (67, .aload 4, 0, 0) := rfl
theorem te_145_69 : (pT M_145).find? (fun e => e.1 == 69) = some (69, .getfield 265, 1, 11) := rfl
theorem te_145_72 : (pT M_145).find? (fun e => e.1 == 72) = some (72, .iload_n 1, 0, 0) := rfl
theorem te_145_73 : (pT M_145).find? (fun e => e.1 == 73) = some (73, .iaload, 0, 0) := rfl
theorem te_145_74 : (pT M_145).find? (fun e => e.1 == 74) = some (74, .ireturn, 0, 0) := rfl
theorem te_145_75 : (pT M_145).find? (fun e => e.1 == 75) = some (75, .aload 4, 0, 0) := rfl
theorem te_145_77 : (pT M_145).find? (fun e => e.1 == 77) = some (77, .getfield 268, 1, 12) := rfl
theorem te_145_80 : (pT M_145).find? (fun e => e.1 == 80) = some (80, .iload_n 1, 0, 0) := rfl
theorem te_145_81 : (pT M_145).find? (fun e => e.1 == 81) = some (81, .iaload, 0, 0) := rfl
theorem te_145_82 : (pT M_145).find? (fun e => e.1 == 82) = some (82, .ireturn, 0, 0) := rfl
theorem te_145_83 : (pT M_145).find? (fun e => e.1 == 83) = some (83, .aload 4, 0, 0) := rfl
theorem te_145_85 : (pT M_145).find? (fun e => e.1 == 85) = some (85, .getfield 271, 1, 13) := rfl
theorem te_145_88 : (pT M_145).find? (fun e => e.1 == 88) = some (88, .iload_n 1, 0, 0) := rfl
theorem te_145_89 : (pT M_145).find? (fun e => e.1 == 89) = some (89, .iaload, 0, 0) := rfl
theorem te_145_90 : (pT M_145).find? (fun e => e.1 == 90) = some (90, .ireturn, 0, 0) := rfl
theorem te_145_91 : (pT M_145).find? (fun e => e.1 == 91) = some (91, .aload 4, 0, 0) := rfl
theorem te_145_93 : (pT M_145).find? (fun e => e.1 == 93) = some (93, .aload_n 0, 0, 0) := rfl
theorem te_145_94 : (pT M_145).find? (fun e => e.1 == 94) = some (94, .getfield 19, 9, 1) := rfl
theorem te_145_97 : (pT M_145).find? (fun e => e.1 == 97) = some (97, .iload_n 1, 0, 0) := rfl
theorem te_145_98 : (pT M_145).find? (fun e => e.1 == 98) = some (98, .invokevirtual 274, 146, 1) := rfl
theorem te_145_101 : (pT M_145).find? (fun e => e.1 == 101) = some (101, .ireturn, 0, 0) := rfl
theorem te_148_0 : (pT M_148).find? (fun e => e.1 == 0) = some (0, .iload_n 2, 0, 0) := rfl
theorem te_148_1 : (pT M_148).find? (fun e => e.1 == 1) = some (1, .invokestatic 190, 74, 2) := rfl
theorem te_148_4 : (pT M_148).find? (fun e => e.1 == 4) = some (4, .iload_n 1, 0, 0) := rfl
theorem te_148_5 : (pT M_148).find? (fun e => e.1 == 5) = some (5, .iload_n 2, 0, 0) := rfl
theorem te_148_6 : (pT M_148).find? (fun e => e.1 == 6) = some (6, .invokestatic 206, 118, 2) := rfl
theorem te_148_9 : (pT M_148).find? (fun e => e.1 == 9) = some (9, .aload_n 0, 0, 0) := rfl
theorem te_148_10 : (pT M_148).find? (fun e => e.1 == 10) = some (10, .iload_n 2, 0, 0) := rfl
theorem te_148_11 : (pT M_148).find? (fun e => e.1 == 11) = some (11, .invokevirtual 200, 115, 0) := rfl
theorem te_148_14 : (pT M_148).find? (fun e => e.1 == 14) = some (14, .iload_n 1, 0, 0) := rfl
theorem te_148_15 : (pT M_148).find? (fun e => e.1 == 15) = some (15, .invokevirtual 256, 143, 1) := rfl
theorem te_148_18 : (pT M_148).find? (fun e => e.1 == 18) = some (18, .ireturn, 0, 0) := rfl
theorem te_150_0 : (pT M_150).find? (fun e => e.1 == 0) = some (0, .aload_n 0, 0, 0) := rfl
theorem te_150_1 : (pT M_150).find? (fun e => e.1 == 1) = some (1, .iload_n 1, 0, 0) := rfl
theorem te_150_2 : (pT M_150).find? (fun e => e.1 == 2) = some (2, .invokevirtual 110, 57, 0) := rfl
theorem te_150_5 : (pT M_150).find? (fun e => e.1 == 5) = some (5, .iload_n 3, 0, 0) := rfl
theorem te_150_6 : (pT M_150).find? (fun e => e.1 == 6) = some (6, .invokestatic 190, 74, 2) := rfl
theorem te_150_9 : (pT M_150).find? (fun e => e.1 == 9) = some (9, .iload 4, 0, 0) := rfl
theorem te_150_11 : (pT M_150).find? (fun e => e.1 == 11) = some (11, .invokestatic 278, 151, 2) := rfl
theorem te_150_14 : (pT M_150).find? (fun e => e.1 == 14) = some (14, .iload_n 2, 0, 0) := rfl
theorem te_150_15 : (pT M_150).find? (fun e => e.1 == 15) = some (15, .ifCond .ge 14, 0, 0) := rfl
theorem te_150_18 : (pT M_150).find? (fun e => e.1 == 18) = some (18, .new 83, 6, 1) := rfl
theorem te_150_29 : (pT M_150).find? (fun e => e.1 == 29) = some (29, .aload_n 0, 0, 0) := rfl
theorem te_150_30 : (pT M_150).find? (fun e => e.1 == 30) = some (30, .iload_n 3, 0, 0) := rfl
theorem te_150_31 : (pT M_150).find? (fun e => e.1 == 31) = some (31, .invokevirtual 200, 115, 0) := rfl
theorem te_150_34 : (pT M_150).find? (fun e => e.1 == 34) = some (34, .iload_n 1, 0, 0) := rfl
theorem te_150_35 : (pT M_150).find? (fun e => e.1 == 35) = some (35, .iload_n 2, 0, 0) := rfl
theorem te_150_36 : (pT M_150).find? (fun e => e.1 == 36) = some (36, .iload 4, 0, 0) := rfl
theorem te_150_38 : (pT M_150).find? (fun e => e.1 == 38) = some (38, .invokevirtual 283, 152, 1) := rfl
theorem te_150_41 : (pT M_150).find? (fun e => e.1 == 41) = some (41, .ireturn, 0, 0) := rfl
theorem te_154_0 : (pT M_154).find? (fun e => e.1 == 0) = some (0, .iload_n 3, 0, 0) := rfl
theorem te_154_1 : (pT M_154).find? (fun e => e.1 == 1) = some (1, .iconst 3, 0, 0) := rfl
theorem te_154_2 : (pT M_154).find? (fun e => e.1 == 2) = some (2, .invokestatic 142, 66, 2) := rfl
theorem te_154_5 : (pT M_154).find? (fun e => e.1 == 5) = some (5, .iload_n 1, 0, 0) := rfl
theorem te_154_6 : (pT M_154).find? (fun e => e.1 == 6) = some (6, .invokestatic 190, 74, 2) := rfl
theorem te_154_9 : (pT M_154).find? (fun e => e.1 == 9) = some (9, .iload_n 2, 0, 0) := rfl
theorem te_154_10 : (pT M_154).find? (fun e => e.1 == 10) = some (10, .invokestatic 278, 151, 2) := rfl
theorem te_154_13 : (pT M_154).find? (fun e => e.1 == 13) = some (13, .aload_n 0, 0, 0) := rfl
theorem te_154_14 : (pT M_154).find? (fun e => e.1 == 14) = some (14, .iload_n 1, 0, 0) := rfl
theorem te_154_15 : (pT M_154).find? (fun e => e.1 == 15) = some (15, .invokevirtual 200, 115, 0) := rfl
theorem te_154_18 : (pT M_154).find? (fun e => e.1 == 18) = some (18, .astore 4, 0, 0) := rfl
theorem te_154_20 : (pT M_154).find? (fun e => e.1 == 20) = some (20, .iload_n 3, 0, 0) := rfl
theorem te_154_21 : (pT M_154).find? (fun e => e.1 == 21) = some (21, .tableswitch 48 0 2 #[27, 34, 41], 27, 0) := rfl
theorem te_154_48 : (pT M_154).find? (fun e => e.1 == 48) = some (48, .aload 4, 0, 0) := rfl
theorem te_154_50 : (pT M_154).find? (fun e => e.1 == 50) = some (50, .iload_n 2, 0, 0) := rfl
theorem te_154_51 : (pT M_154).find? (fun e => e.1 == 51) = some (51, .invokevirtual 287, 155, 1) := rfl
theorem te_154_54 : (pT M_154).find? (fun e => e.1 == 54) = some (54, .ireturn, 0, 0) := rfl
theorem te_154_55 : (pT M_154).find? (fun e => e.1 == 55) = some (55, .aload 4, 0, 0) := rfl
theorem te_154_57 : (pT M_154).find? (fun e => e.1 == 57) = some (57, .iload_n 2, 0, 0) := rfl
theorem te_154_58 : (pT M_154).find? (fun e => e.1 == 58) = some (58, .invokevirtual 290, 156, 1) := rfl
theorem te_154_61 : (pT M_154).find? (fun e => e.1 == 61) = some (61, .ireturn, 0, 0) := rfl
theorem te_154_62 : (pT M_154).find? (fun e => e.1 == 62) = some (62, .aload 4, 0, 0) := rfl
theorem te_154_64 : (pT M_154).find? (fun e => e.1 == 64) = some (64, .iload_n 2, 0, 0) := rfl
theorem te_154_65 : (pT M_154).find? (fun e => e.1 == 65) = some (65, .invokevirtual 293, 157, 1) := rfl
theorem te_154_68 : (pT M_154).find? (fun e => e.1 == 68) = some (68, .ireturn, 0, 0) := rfl
theorem te_154_69 : (pT M_154).find? (fun e => e.1 == 69) = some (69, .aload 4, 0, 0) := rfl
theorem te_154_71 : (pT M_154).find? (fun e => e.1 == 71) = some (71, .iload_n 2, 0, 0) := rfl
theorem te_154_72 : (pT M_154).find? (fun e => e.1 == 72) = some (72, .invokevirtual 287, 155, 1) := rfl
theorem te_154_75 : (pT M_154).find? (fun e => e.1 == 75) = some (75, .aload 4, 0, 0) := rfl
theorem te_154_77 : (pT M_154).find? (fun e => e.1 == 77) = some (77, .iload_n 2, 0, 0) := rfl
theorem te_154_78 : (pT M_154).find? (fun e => e.1 == 78) = some (78, .invokevirtual 290, 156, 1) := rfl
theorem te_154_81 : (pT M_154).find? (fun e => e.1 == 81) = some (81, .isub, 0, 0) := rfl
theorem te_154_82 : (pT M_154).find? (fun e => e.1 == 82) = some (82, .aload 4, 0, 0) := rfl
theorem te_154_84 : (pT M_154).find? (fun e => e.1 == 84) = some (84, .iload_n 2, 0, 0) := rfl
theorem te_154_85 : (pT M_154).find? (fun e => e.1 == 85) = some (85, .invokevirtual 293, 157, 1) := rfl
theorem te_154_88 : (pT M_154).find? (fun e => e.1 == 88) = some (88, .isub, 0, 0) := rfl
theorem te_154_89 : (pT M_154).find? (fun e => e.1 == 89) = some (89, .ireturn, 0, 0) := rfl
theorem te_159_0 : (pT M_159).find? (fun e => e.1 == 0) = some (0, .iload_n 1, 0, 0) := rfl
theorem te_159_1 : (pT M_159).find? (fun e => e.1 == 1) = some (1, .iload_n 2, 0, 0) := rfl
theorem te_159_2 : (pT M_159).find? (fun e => e.1 == 2) = some (2, .invokestatic 296, 160, 2) := rfl
theorem te_159_5 : (pT M_159).find? (fun e => e.1 == 5) = some (5, .iload_n 3, 0, 0) := rfl
theorem te_159_6 : (pT M_159).find? (fun e => e.1 == 6) = some (6, .invokestatic 190, 74, 2) := rfl
theorem te_159_9 : (pT M_159).find? (fun e => e.1 == 9) = some (9, .iload 4, 0, 0) := rfl
theorem te_159_11 : (pT M_159).find? (fun e => e.1 == 11) = some (11, .invokestatic 278, 151, 2) := rfl
theorem te_159_14 : (pT M_159).find? (fun e => e.1 == 14) = some (14, .aload_n 0, 0, 0) := rfl
theorem te_159_15 : (pT M_159).find? (fun e => e.1 == 15) = some (15, .iload_n 3, 0, 0) := rfl
theorem te_159_16 : (pT M_159).find? (fun e => e.1 == 16) = some (16, .invokevirtual 200, 115, 0) := rfl
theorem te_159_19 : (pT M_159).find? (fun e => e.1 == 19) = some (19, .pop, 0, 0) := rfl
theorem te_159_20 : (pT M_159).find? (fun e => e.1 == 20) = some (20, .aload_n 0, 0, 0) := rfl
theorem te_159_21 : (pT M_159).find? (fun e => e.1 == 21) = some (21, .getfield 57, 9, 7) := rfl
theorem te_159_24 : (pT M_159).find? (fun e => e.1 == 24) = some (24, .aload_n 0, 0, 0) := rfl
theorem te_159_25 : (pT M_159).find? (fun e => e.1 == 25) = some (25, .getfield 12, 9, 0) := rfl
theorem te_159_28 : (pT M_159).find? (fun e => e.1 == 28) = some (28, .iload 4, 0, 0) := rfl
theorem te_159_30 : (pT M_159).find? (fun e => e.1 == 30) = some (30, .invokevirtual 299, 161, 1) := rfl
theorem te_159_33 : (pT M_159).find? (fun e => e.1 == 33) = some (33, .aload_n 0, 0, 0) := rfl
theorem te_159_34 : (pT M_159).find? (fun e => e.1 == 34) = some (34, .getfield 57, 9, 7) := rfl
theorem te_159_37 : (pT M_159).find? (fun e => e.1 == 37) = some (37, .getfield 303, 4, 0) := rfl
theorem te_159_40 : (pT M_159).find? (fun e => e.1 == 40) = some (40, .iload_n 1, 0, 0) := rfl
theorem te_159_41 : (pT M_159).find? (fun e => e.1 == 41) = some (41, .aaload, 0, 0) := rfl
theorem te_159_42 : (pT M_159).find? (fun e => e.1 == 42) = some (42, .iload_n 2, 0, 0) := rfl
theorem te_159_43 : (pT M_159).find? (fun e => e.1 == 43) = some (43, .iaload, 0, 0) := rfl
theorem te_159_44 : (pT M_159).find? (fun e => e.1 == 44) = some (44, .ireturn, 0, 0) := rfl
theorem te_166_0 : (pT M_166).find? (fun e => e.1 == 0) = some (0, .aload_n 0, 0, 0) := rfl
theorem te_166_1 : (pT M_166).find? (fun e => e.1 == 1) = some (1, .iload_n 1, 0, 0) := rfl
theorem te_166_2 : (pT M_166).find? (fun e => e.1 == 2) = some (2, .invokevirtual 110, 57, 0) := rfl
theorem te_166_5 : (pT M_166).find? (fun e => e.1 == 5) = some (5, .aload_n 0, 0, 0) := rfl
theorem te_166_6 : (pT M_166).find? (fun e => e.1 == 6) = some (6, .iload_n 1, 0, 0) := rfl
theorem te_166_7 : (pT M_166).find? (fun e => e.1 == 7) = some (7, .invokevirtual 307, 167, 0) := rfl
theorem te_166_10 : (pT M_166).find? (fun e => e.1 == 10) = some (10, .iload_n 2, 0, 0) := rfl
theorem te_166_11 : (pT M_166).find? (fun e => e.1 == 11) = some (11, .invokestatic 190, 74, 2) := rfl
theorem te_166_14 : (pT M_166).find? (fun e => e.1 == 14) = some (14, .iload_n 3, 0, 0) := rfl
theorem te_166_15 : (pT M_166).find? (fun e => e.1 == 15) = some (15, .invokestatic 278, 151, 2) := rfl
theorem te_166_18 : (pT M_166).find? (fun e => e.1 == 18) = some (18, .aload_n 0, 0, 0) := rfl
theorem te_166_19 : (pT M_166).find? (fun e => e.1 == 19) = some (19, .iload_n 2, 0, 0) := rfl
theorem te_166_20 : (pT M_166).find? (fun e => e.1 == 20) = some (20, .invokevirtual 200, 115, 0) := rfl
theorem te_166_23 : (pT M_166).find? (fun e => e.1 == 23) = some (23, .pop, 0, 0) := rfl
theorem te_166_24 : (pT M_166).find? (fun e => e.1 == 24) = some (24, .aload_n 0, 0, 0) := rfl
theorem te_166_25 : (pT M_166).find? (fun e => e.1 == 25) = some (25, .getfield 57, 9, 7) := rfl
theorem te_166_28 : (pT M_166).find? (fun e => e.1 == 28) = some (28, .aload_n 0, 0, 0) := rfl
theorem te_166_29 : (pT M_166).find? (fun e => e.1 == 29) = some (29, .getfield 12, 9, 0) := rfl
theorem te_166_32 : (pT M_166).find? (fun e => e.1 == 32) = some (32, .iload_n 3, 0, 0) := rfl
theorem te_166_33 : (pT M_166).find? (fun e => e.1 == 33) = some (33, .invokevirtual 299, 161, 1) := rfl
theorem te_166_36 : (pT M_166).find? (fun e => e.1 == 36) = some (36, .aload_n 0, 0, 0) := rfl
theorem te_166_37 : (pT M_166).find? (fun e => e.1 == 37) = some (37, .getfield 57, 9, 7) := rfl
theorem te_166_40 : (pT M_166).find? (fun e => e.1 == 40) = some (40, .aload_n 0, 0, 0) := rfl
theorem te_166_41 : (pT M_166).find? (fun e => e.1 == 41) = some (41, .getfield 12, 9, 0) := rfl
theorem te_166_44 : (pT M_166).find? (fun e => e.1 == 44) = some (44, .iload_n 1, 0, 0) := rfl
theorem te_166_45 : (pT M_166).find? (fun e => e.1 == 45) = some (45, .iload_n 3, 0, 0) := rfl
theorem te_166_46 : (pT M_166).find? (fun e => e.1 == 46) = some (46, .iconst 1, 0, 0) := rfl
theorem te_166_47 : (pT M_166).find? (fun e => e.1 == 47) = some (47, .isub, 0, 0) := rfl
theorem te_166_48 : (pT M_166).find? (fun e => e.1 == 48) = some (48, .invokevirtual 310, 164, 1) := rfl
theorem te_166_51 : (pT M_166).find? (fun e => e.1 == 51) = some (51, .ireturn, 0, 0) := rfl
theorem te_169_0 : (pT M_169).find? (fun e => e.1 == 0) = some (0, .iload_n 1, 0, 0) := rfl
theorem te_169_1 : (pT M_169).find? (fun e => e.1 == 1) = some (1, .iload_n 2, 0, 0) := rfl
theorem te_169_2 : (pT M_169).find? (fun e => e.1 == 2) = some (2, .invokestatic 296, 160, 2) := rfl
theorem te_169_5 : (pT M_169).find? (fun e => e.1 == 5) = some (5, .iload_n 3, 0, 0) := rfl
theorem te_169_6 : (pT M_169).find? (fun e => e.1 == 6) = some (6, .invokestatic 278, 151, 2) := rfl
theorem te_169_9 : (pT M_169).find? (fun e => e.1 == 9) = some (9, .aload_n 0, 0, 0) := rfl
theorem te_169_10 : (pT M_169).find? (fun e => e.1 == 10) = some (10, .invokevirtual 158, 69, 0) := rfl
theorem te_169_13 : (pT M_169).find? (fun e => e.1 == 13) = some (13, .aload_n 0, 0, 0) := rfl
theorem te_169_14 : (pT M_169).find? (fun e => e.1 == 14) = some (14, .getfield 57, 9, 7) := rfl
theorem te_169_17 : (pT M_169).find? (fun e => e.1 == 17) = some (17, .aload_n 0, 0, 0) := rfl
theorem te_169_18 : (pT M_169).find? (fun e => e.1 == 18) = some (18, .getfield 12, 9, 0) := rfl
theorem te_169_21 : (pT M_169).find? (fun e => e.1 == 21) = some (21, .iload_n 3, 0, 0) := rfl
theorem te_169_22 : (pT M_169).find? (fun e => e.1 == 22) = some (22, .invokevirtual 299, 161, 1) := rfl
theorem te_169_25 : (pT M_169).find? (fun e => e.1 == 25) = some (25, .aload_n 0, 0, 0) := rfl
theorem te_169_26 : (pT M_169).find? (fun e => e.1 == 26) = some (26, .getfield 57, 9, 7) := rfl
theorem te_169_29 : (pT M_169).find? (fun e => e.1 == 29) = some (29, .getfield 303, 4, 0) := rfl
theorem te_169_32 : (pT M_169).find? (fun e => e.1 == 32) = some (32, .iload_n 1, 0, 0) := rfl
theorem te_169_33 : (pT M_169).find? (fun e => e.1 == 33) = some (33, .aaload, 0, 0) := rfl
theorem te_169_34 : (pT M_169).find? (fun e => e.1 == 34) = some (34, .iload_n 2, 0, 0) := rfl
theorem te_169_35 : (pT M_169).find? (fun e => e.1 == 35) = some (35, .iaload, 0, 0) := rfl
theorem te_169_36 : (pT M_169).find? (fun e => e.1 == 36) = some (36, .ireturn, 0, 0) := rfl
theorem te_171_0 : (pT M_171).find? (fun e => e.1 == 0) = some (0, .aload_n 0, 0, 0) := rfl
theorem te_171_1 : (pT M_171).find? (fun e => e.1 == 1) = some (1, .iload_n 1, 0, 0) := rfl
theorem te_171_2 : (pT M_171).find? (fun e => e.1 == 2) = some (2, .invokevirtual 110, 57, 0) := rfl
theorem te_171_5 : (pT M_171).find? (fun e => e.1 == 5) = some (5, .iload_n 3, 0, 0) := rfl
theorem te_171_6 : (pT M_171).find? (fun e => e.1 == 6) = some (6, .invokestatic 190, 74, 2) := rfl
theorem te_171_9 : (pT M_171).find? (fun e => e.1 == 9) = some (9, .iload 4, 0, 0) := rfl
theorem te_171_11 : (pT M_171).find? (fun e => e.1 == 11) = some (11, .invokestatic 278, 151, 2) := rfl
theorem te_171_14 : (pT M_171).find? (fun e => e.1 == 14) = some (14, .iload_n 2, 0, 0) := rfl
theorem te_171_15 : (pT M_171).find? (fun e => e.1 == 15) = some (15, .ifCond .lt 8, 0, 0) := rfl
theorem te_171_18 : (pT M_171).find? (fun e => e.1 == 18) = some (18, .iload 4, 0, 0) := rfl
theorem te_171_20 : (pT M_171).find? (fun e => e.1 == 20) = some (20, .ifCond .ne 14, 0, 0) := rfl
theorem te_171_23 : (pT M_171).find? (fun e => e.1 == 23) = some (23, .new 83, 7, 1) := rfl
theorem te_171_34 : (pT M_171).find? (fun e => e.1 == 34) = some (34, .aload_n 0, 0, 0) := rfl
theorem te_171_35 : (pT M_171).find? (fun e => e.1 == 35) = some (35, .iload_n 3, 0, 0) := rfl
theorem te_171_36 : (pT M_171).find? (fun e => e.1 == 36) = some (36, .invokevirtual 200, 115, 0) := rfl
theorem te_171_39 : (pT M_171).find? (fun e => e.1 == 39) = some (39, .astore 5, 0, 0) := rfl
theorem te_171_41 : (pT M_171).find? (fun e => e.1 == 41) = some (41, .iload_n 2, 0, 0) := rfl
theorem te_171_42 : (pT M_171).find? (fun e => e.1 == 42) = some (42, .iload 4, 0, 0) := rfl
theorem te_171_44 : (pT M_171).find? (fun e => e.1 == 44) = some (44, .aload 5, 0, 0) := rfl
theorem te_171_46 : (pT M_171).find? (fun e => e.1 == 46) = some (46, .getfield 241, 1, 5) := rfl
theorem te_171_49 : (pT M_171).find? (fun e => e.1 == 49) = some (49, .iadd, 0, 0) := rfl
theorem te_171_50 : (pT M_171).find? (fun e => e.1 == 50) = some (50, .iconst 1, 0, 0) := rfl
theorem te_171_51 : (pT M_171).find? (fun e => e.1 == 51) = some (51, .isub, 0, 0) := rfl
theorem te_171_52 : (pT M_171).find? (fun e => e.1 == 52) = some (52, .if_icmp .lt 14, 0, 0) := rfl
theorem te_171_55 : (pT M_171).find? (fun e => e.1 == 55) = some (55, .new 83, 7, 1) := rfl
theorem te_171_66 : (pT M_171).find? (fun e => e.1 == 66) = some (66, .iload_n 2, 0, 0) := rfl
theorem te_171_67 : (pT M_171).find? (fun e => e.1 == 67) = some (67, .aload 5, 0, 0) := rfl
theorem te_171_69 : (pT M_171).find? (fun e => e.1 == 69) = some (69, .iload_n 1, 0, 0) := rfl
theorem te_171_70 : (pT M_171).find? (fun e => e.1 == 70) = some (70, .invokevirtual 259, 108, 1) := rfl
theorem te_171_73 : (pT M_171).find? (fun e => e.1 == 73) = some (73, .isub, 0, 0) := rfl
theorem te_171_74 : (pT M_171).find? (fun e => e.1 == 74) = some (74, .istore 6, 0, 0) := rfl
theorem te_171_76 : (pT M_171).find? (fun e => e.1 == 76) = some (76, .iload 6, 0, 0) := rfl
theorem te_171_78 : (pT M_171).find? (fun e => e.1 == 78) = some (78, .ifCond .lt 14, 0, 0) := rfl
theorem te_171_81 : (pT M_171).find? (fun e => e.1 == 81) = some (81, .iload 6, 0, 0) := rfl
theorem te_171_83 : (pT M_171).find? (fun e => e.1 == 83) = some (83, .iload 4, 0, 0) := rfl
theorem te_171_85 : (pT M_171).find? (fun e => e.1 == 85) = some (85, .if_icmp .ge 7, 0, 0) := rfl
theorem te_171_88 : (pT M_171).find? (fun e => e.1 == 88) = some (88, .iconst 1, 0, 0) := rfl
theorem te_171_89 : (pT M_171).find? (fun e => e.1 == 89) = some (89, .goto 4, 0, 0) := rfl
theorem te_171_92 : (pT M_171).find? (fun e => e.1 == 92) = some (92, .iconst 0, 0, 0) := rfl
theorem te_171_93 : (pT M_171).find? (fun e => e.1 == 93) = some (93, .ireturn, 0, 0) := rfl
theorem te_173_0 : (pT M_173).find? (fun e => e.1 == 0) = some (0, .aload_n 0, 0, 0) := rfl
theorem te_173_1 : (pT M_173).find? (fun e => e.1 == 1) = some (1, .iload_n 1, 0, 0) := rfl
theorem te_173_2 : (pT M_173).find? (fun e => e.1 == 2) = some (2, .invokevirtual 200, 115, 0) := rfl
theorem te_173_5 : (pT M_173).find? (fun e => e.1 == 5) = some (5, .astore_n 3, 0, 0) := rfl
theorem te_173_6 : (pT M_173).find? (fun e => e.1 == 6) = some (6, .iload_n 2, 0, 0) := rfl
theorem te_173_7 : (pT M_173).find? (fun e => e.1 == 7) = some (7, .ifCond .eq 11, 0, 0) := rfl
theorem te_173_10 : (pT M_173).find? (fun e => e.1 == 10) = some (10, .aload_n 0, 0, 0) := rfl
theorem te_173_11 : (pT M_173).find? (fun e => e.1 == 11) = some (11, .getfield 12, 9, 0) := rfl
theorem te_173_14 : (pT M_173).find? (fun e => e.1 == 14) = some (14, .getfield 101, 0, 0) := rfl
theorem te_173_17 : (pT M_173).find? (fun e => e.1 == 17) = some (17, .ireturn, 0, 0) := rfl
theorem te_173_18 : (pT M_173).find? (fun e => e.1 == 18) = some (18, .aload_n 0, 0, 0) := rfl
theorem te_173_19 : (pT M_173).find? (fun e => e.1 == 19) = some (19, .getfield 12, 9, 0) := rfl
theorem te_173_22 : (pT M_173).find? (fun e => e.1 == 22) = some (22, .getfield 101, 0, 0) := rfl
theorem te_173_25 : (pT M_173).find? (fun e => e.1 == 25) = some (25, .aload_n 3, 0, 0) := rfl
theorem te_173_26 : (pT M_173).find? (fun e => e.1 == 26) = some (26, .getfield 241, 1, 5) := rfl
theorem te_173_29 : (pT M_173).find? (fun e => e.1 == 29) = some (29, .iconst 1, 0, 0) := rfl
theorem te_173_30 : (pT M_173).find? (fun e => e.1 == 30) = some (30, .isub, 0, 0) := rfl
theorem te_173_31 : (pT M_173).find? (fun e => e.1 == 31) = some (31, .imul, 0, 0) := rfl
theorem te_173_32 : (pT M_173).find? (fun e => e.1 == 32) = some (32, .aload_n 0, 0, 0) := rfl
theorem te_173_33 : (pT M_173).find? (fun e => e.1 == 33) = some (33, .getfield 12, 9, 0) := rfl
theorem te_173_36 : (pT M_173).find? (fun e => e.1 == 36) = some (36, .getfield 101, 0, 0) := rfl
theorem te_173_39 : (pT M_173).find? (fun e => e.1 == 39) = some (39, .aload_n 3, 0, 0) := rfl
theorem te_173_40 : (pT M_173).find? (fun e => e.1 == 40) = some (40, .getfield 247, 1, 7) := rfl
theorem te_173_43 : (pT M_173).find? (fun e => e.1 == 43) = some (43, .imul, 0, 0) := rfl
theorem te_173_44 : (pT M_173).find? (fun e => e.1 == 44) = some (44, .iadd, 0, 0) := rfl
theorem te_173_45 : (pT M_173).find? (fun e => e.1 == 45) = some (45, .ireturn, 0, 0) := rfl
theorem te_175_0 : (pT M_175).find? (fun e => e.1 == 0) = some (0, .iload_n 1, 0, 0) := rfl
theorem te_175_1 : (pT M_175).find? (fun e => e.1 == 1) = some (1, .invokestatic 190, 74, 2) := rfl
theorem te_175_4 : (pT M_175).find? (fun e => e.1 == 4) = some (4, .iload_n 2, 0, 0) := rfl
theorem te_175_5 : (pT M_175).find? (fun e => e.1 == 5) = some (5, .invokestatic 278, 151, 2) := rfl
theorem te_175_8 : (pT M_175).find? (fun e => e.1 == 8) = some (8, .aload_n 0, 0, 0) := rfl
theorem te_175_9 : (pT M_175).find? (fun e => e.1 == 9) = some (9, .iload_n 1, 0, 0) := rfl
theorem te_175_10 : (pT M_175).find? (fun e => e.1 == 10) = some (10, .invokevirtual 200, 115, 0) := rfl
theorem te_175_13 : (pT M_175).find? (fun e => e.1 == 13) = some (13, .astore 4, 0, 0) := rfl
theorem te_175_15 : (pT M_175).find? (fun e => e.1 == 15) = some (15, .aload 4, 0, 0) := rfl
theorem te_175_17 : (pT M_175).find? (fun e => e.1 == 17) = some (17, .iload_n 2, 0, 0) := rfl
theorem te_175_18 : (pT M_175).find? (fun e => e.1 == 18) = some (18, .invokevirtual 315, 176, 1) := rfl
theorem te_175_21 : (pT M_175).find? (fun e => e.1 == 21) = some (21, .istore 5, 0, 0) := rfl
theorem te_175_23 : (pT M_175).find? (fun e => e.1 == 23) = some (23, .iload_n 3, 0, 0) := rfl
theorem te_175_24 : (pT M_175).find? (fun e => e.1 == 24) = some (24, .ifCond .ne 6, 0, 0) := rfl
theorem te_175_27 : (pT M_175).find? (fun e => e.1 == 27) = some (27, .iload 5, 0, 0) := rfl
theorem te_175_29 : (pT M_175).find? (fun e => e.1 == 29) = some (29, .ireturn, 0, 0) := rfl
theorem te_175_30 : (pT M_175).find? (fun e => e.1 == 30) = some (30, .iload 5, 0, 0) := rfl
theorem te_175_32 : (pT M_175).find? (fun e => e.1 == 32) = some (32, .aload_n 0, 0, 0) := rfl
theorem te_175_33 : (pT M_175).find? (fun e => e.1 == 33) = some (33, .getfield 12, 9, 0) := rfl
theorem te_175_36 : (pT M_175).find? (fun e => e.1 == 36) = some (36, .invokevirtual 318, 42, 1) := rfl
theorem te_175_39 : (pT M_175).find? (fun e => e.1 == 39) = some (39, .imul, 0, 0) := rfl
theorem te_175_40 : (pT M_175).find? (fun e => e.1 == 40) = some (40, .aload 4, 0, 0) := rfl
theorem te_175_42 : (pT M_175).find? (fun e => e.1 == 42) = some (42, .iload_n 2, 0, 0) := rfl
theorem te_175_43 : (pT M_175).find? (fun e => e.1 == 43) = some (43, .iload 5, 0, 0) := rfl
theorem te_175_45 : (pT M_175).find? (fun e => e.1 == 45) = some (45, .isub, 0, 0) := rfl
theorem te_175_46 : (pT M_175).find? (fun e => e.1 == 46) = some (46, .invokevirtual 287, 155, 1) := rfl
theorem te_175_49 : (pT M_175).find? (fun e => e.1 == 49) = some (49, .iadd, 0, 0) := rfl
theorem te_175_50 : (pT M_175).find? (fun e => e.1 == 50) = some (50, .ireturn, 0, 0) := rfl
theorem te_178_0 : (pT M_178).find? (fun e => e.1 == 0) = some (0, .aload_n 0, 0, 0) := rfl
theorem te_178_1 : (pT M_178).find? (fun e => e.1 == 1) = some (1, .iload_n 1, 0, 0) := rfl
theorem te_178_2 : (pT M_178).find? (fun e => e.1 == 2) = some (2, .invokevirtual 200, 115, 0) := rfl
theorem te_178_5 : (pT M_178).find? (fun e => e.1 == 5) = some (5, .astore_n 2, 0, 0) := rfl
theorem te_178_6 : (pT M_178).find? (fun e => e.1 == 6) = some (6, .iconst 1, 0, 0) := rfl
theorem te_178_7 : (pT M_178).find? (fun e => e.1 == 7) = some (7, .istore_n 3, 0, 0) := rfl
theorem te_178_8 : (pT M_178).find? (fun e => e.1 == 8) = some (8, .iload_n 3, 0, 0) := rfl
theorem te_178_9 : (pT M_178).find? (fun e => e.1 == 9) = some (9, .bipush 40, 0, 0) := rfl
theorem te_178_11 : (pT M_178).find? (fun e => e.1 == 11) = some (11, .if_icmp .gt 23, 0, 0) := rfl
theorem te_178_14 : (pT M_178).find? (fun e => e.1 == 14) = some (14, .aload_n 0, 0, 0) := rfl
theorem te_178_15 : (pT M_178).find? (fun e => e.1 == 15) = some (15, .getfield 64, 9, 8) := rfl
theorem te_178_18 : (pT M_178).find? (fun e => e.1 == 18) = some (18, .aload_n 2, 0, 0) := rfl
theorem te_178_19 : (pT M_178).find? (fun e => e.1 == 19) = some (19, .iload_n 3, 0, 0) := rfl
theorem te_178_20 : (pT M_178).find? (fun e => e.1 == 20) = some (20, .invokevirtual 321, 179, 1) := rfl
theorem te_178_23 : (pT M_178).find? (fun e => e.1 == 23) = some (23, .ifCond .eq 5, 0, 0) := rfl
theorem te_178_26 : (pT M_178).find? (fun e => e.1 == 26) = some (26, .iload_n 3, 0, 0) := rfl
theorem te_178_27 : (pT M_178).find? (fun e => e.1 == 27) = some (27, .ireturn, 0, 0) := rfl
theorem te_178_28 : (pT M_178).find? (fun e => e.1 == 28) = some (28, .iinc 3 1, 0, 0) := rfl
theorem te_178_31 : (pT M_178).find? (fun e => e.1 == 31) = some (31, .goto (-23), 0, 0) := rfl
theorem te_178_34 : (pT M_178).find? (fun e => e.1 == 34) = some (34, .iconst (-1), 0, 0) := rfl
theorem te_178_35 : (pT M_178).find? (fun e => e.1 == 35) = some (35, .ireturn, 0, 0) := rfl
theorem te_183_0 : (pT M_183).find? (fun e => e.1 == 0) = some (0, .aload_n 0, 0, 0) := rfl
theorem te_183_1 : (pT M_183).find? (fun e => e.1 == 1) = some (1, .iload_n 1, 0, 0) := rfl
theorem te_183_2 : (pT M_183).find? (fun e => e.1 == 2) = some (2, .invokevirtual 110, 57, 0) := rfl
theorem te_183_5 : (pT M_183).find? (fun e => e.1 == 5) = some (5, .iload_n 2, 0, 0) := rfl
theorem te_183_6 : (pT M_183).find? (fun e => e.1 == 6) = some (6, .invokestatic 190, 74, 2) := rfl
theorem te_183_9 : (pT M_183).find? (fun e => e.1 == 9) = some (9, .iload_n 3, 0, 0) := rfl
theorem te_183_10 : (pT M_183).find? (fun e => e.1 == 10) = some (10, .iconst 1, 0, 0) := rfl
theorem te_183_11 : (pT M_183).find? (fun e => e.1 == 11) = some (11, .if_icmp .lt 9, 0, 0) := rfl
theorem te_183_14 : (pT M_183).find? (fun e => e.1 == 14) = some (14, .iload_n 3, 0, 0) := rfl
theorem te_183_15 : (pT M_183).find? (fun e => e.1 == 15) = some (15, .bipush 40, 0, 0) := rfl
theorem te_183_17 : (pT M_183).find? (fun e => e.1 == 17) = some (17, .if_icmp .le 14, 0, 0) := rfl
theorem te_183_20 : (pT M_183).find? (fun e => e.1 == 20) = some (20, .new 83, 8, 1) := rfl
theorem te_183_31 : (pT M_183).find? (fun e => e.1 == 31) = some (31, .aload_n 0, 0, 0) := rfl
theorem te_183_32 : (pT M_183).find? (fun e => e.1 == 32) = some (32, .getfield 64, 9, 8) := rfl
theorem te_183_35 : (pT M_183).find? (fun e => e.1 == 35) = some (35, .aload_n 0, 0, 0) := rfl
theorem te_183_36 : (pT M_183).find? (fun e => e.1 == 36) = some (36, .iload_n 2, 0, 0) := rfl
theorem te_183_37 : (pT M_183).find? (fun e => e.1 == 37) = some (37, .invokevirtual 200, 115, 0) := rfl
theorem te_183_40 : (pT M_183).find? (fun e => e.1 == 40) = some (40, .iload_n 3, 0, 0) := rfl
theorem te_183_41 : (pT M_183).find? (fun e => e.1 == 41) = some (41, .invokevirtual 321, 179, 1) := rfl
theorem te_183_44 : (pT M_183).find? (fun e => e.1 == 44) = some (44, .pop, 0, 0) := rfl
theorem te_183_45 : (pT M_183).find? (fun e => e.1 == 45) = some (45, .aload_n 0, 0, 0) := rfl
theorem te_183_46 : (pT M_183).find? (fun e => e.1 == 46) = some (46, .getfield 64, 9, 8) := rfl
theorem te_183_49 : (pT M_183).find? (fun e => e.1 == 49) = some (49, .getfield 327, 8, 0) := rfl
theorem te_183_52 : (pT M_183).find? (fun e => e.1 == 52) = some (52, .iload_n 1, 0, 0) := rfl
theorem te_183_53 : (pT M_183).find? (fun e => e.1 == 53) = some (53, .iaload, 0, 0) := rfl
theorem te_183_54 : (pT M_183).find? (fun e => e.1 == 54) = some (54, .ireturn, 0, 0) := rfl
theorem te_185_0 : (pT M_185).find? (fun e => e.1 == 0) = some (0, .aload_n 0, 0, 0) := rfl
theorem te_185_1 : (pT M_185).find? (fun e => e.1 == 1) = some (1, .iload_n 1, 0, 0) := rfl
theorem te_185_2 : (pT M_185).find? (fun e => e.1 == 2) = some (2, .invokevirtual 110, 57, 0) := rfl
theorem te_185_5 : (pT M_185).find? (fun e => e.1 == 5) = some (5, .aload_n 0, 0, 0) := rfl
theorem te_185_6 : (pT M_185).find? (fun e => e.1 == 6) = some (6, .iload_n 1, 0, 0) := rfl
theorem te_185_7 : (pT M_185).find? (fun e => e.1 == 7) = some (7, .invokevirtual 307, 167, 0) := rfl
theorem te_185_10 : (pT M_185).find? (fun e => e.1 == 10) = some (10, .iload 4, 0, 0) := rfl
theorem te_185_12 : (pT M_185).find? (fun e => e.1 == 12) = some (12, .invokestatic 190, 74, 2) := rfl
theorem te_185_15 : (pT M_185).find? (fun e => e.1 == 15) = some (15, .iload 5, 0, 0) := rfl
theorem te_185_17 : (pT M_185).find? (fun e => e.1 == 17) = some (17, .invokestatic 278, 151, 2) := rfl
theorem te_185_20 : (pT M_185).find? (fun e => e.1 == 20) = some (20, .iload_n 2, 0, 0) := rfl
theorem te_185_21 : (pT M_185).find? (fun e => e.1 == 21) = some (21, .ifCond .lt 16, 0, 0) := rfl
theorem te_185_24 : (pT M_185).find? (fun e => e.1 == 24) = some (24, .iload_n 3, 0, 0) := rfl
theorem te_185_25 : (pT M_185).find? (fun e => e.1 == 25) = some (25, .ifCond .lt 12, 0, 0) := rfl
theorem te_185_28 : (pT M_185).find? (fun e => e.1 == 28) = some (28, .iload 5, 0, 0) := rfl
theorem te_185_30 : (pT M_185).find? (fun e => e.1 == 30) = some (30, .ifCond .ne 18, 0, 0) := rfl
theorem te_185_33 : (pT M_185).find? (fun e => e.1 == 33) = some (33, .iload_n 3, 0, 0) := rfl
theorem te_185_34 : (pT M_185).find? (fun e => e.1 == 34) = some (34, .ifCond .le 14, 0, 0) := rfl
theorem te_185_37 : (pT M_185).find? (fun e => e.1 == 37) = some (37, .new 83, 9, 1) := rfl
theorem te_185_48 : (pT M_185).find? (fun e => e.1 == 48) = some (48, .aload_n 0, 0, 0) := rfl
theorem te_185_49 : (pT M_185).find? (fun e => e.1 == 49) = some (49, .iload 4, 0, 0) := rfl
theorem te_185_51 : (pT M_185).find? (fun e => e.1 == 51) = some (51, .invokevirtual 200, 115, 0) := rfl
theorem te_185_54 : (pT M_185).find? (fun e => e.1 == 54) = some (54, .astore 6, 0, 0) := rfl
theorem te_185_56 : (pT M_185).find? (fun e => e.1 == 56) = some (56, .iload_n 2, 0, 0) := rfl
theorem te_185_57 : (pT M_185).find? (fun e => e.1 == 57) = some (57, .aload 6, 0, 0) := rfl
theorem te_185_59 : (pT M_185).find? (fun e => e.1 == 59) = some (59, .getfield 271, 1, 13) := rfl
theorem te_185_62 : (pT M_185).find? (fun e => e.1 == 62) = some (62, .iload_n 1, 0, 0) := rfl
theorem te_185_63 : (pT M_185).find? (fun e => e.1 == 63) = some (63, .iaload, 0, 0) := rfl
theorem te_185_64 : (pT M_185).find? (fun e => e.1 == 64) = some (64, .if_icmp .ge 14, 0, 0) := rfl
theorem te_185_67 : (pT M_185).find? (fun e => e.1 == 67) = some (67, .iload_n 3, 0, 0) := rfl
theorem te_185_68 : (pT M_185).find? (fun e => e.1 == 68) = some (68, .aload 6, 0, 0) := rfl
theorem te_185_70 : (pT M_185).find? (fun e => e.1 == 70) = some (70, .iload 5, 0, 0) := rfl
theorem te_185_72 : (pT M_185).find? (fun e => e.1 == 72) = some (72, .invokevirtual 287, 155, 1) := rfl
theorem te_185_75 : (pT M_185).find? (fun e => e.1 == 75) = some (75, .if_icmp .le 14, 0, 0) := rfl
theorem te_185_78 : (pT M_185).find? (fun e => e.1 == 78) = some (78, .new 83, 9, 1) := rfl
theorem te_185_89 : (pT M_185).find? (fun e => e.1 == 89) = some (89, .aload_n 0, 0, 0) := rfl
theorem te_185_90 : (pT M_185).find? (fun e => e.1 == 90) = some (90, .getfield 57, 9, 7) := rfl
theorem te_185_93 : (pT M_185).find? (fun e => e.1 == 93) = some (93, .aload_n 0, 0, 0) := rfl
theorem te_185_94 : (pT M_185).find? (fun e => e.1 == 94) = some (94, .getfield 12, 9, 0) := rfl
theorem te_185_97 : (pT M_185).find? (fun e => e.1 == 97) = some (97, .iload 5, 0, 0) := rfl
theorem te_185_99 : (pT M_185).find? (fun e => e.1 == 99) = some (99, .invokevirtual 299, 161, 1) := rfl
theorem te_185_102 : (pT M_185).find? (fun e => e.1 == 102) = some (102, .aload_n 0, 0, 0) := rfl
theorem te_185_103 : (pT M_185).find? (fun e => e.1 == 103) = some (103, .getfield 57, 9, 7) := rfl
theorem te_185_106 : (pT M_185).find? (fun e => e.1 == 106) = some (106, .aload_n 0, 0, 0) := rfl
theorem te_185_107 : (pT M_185).find? (fun e => e.1 == 107) = some (107, .getfield 12, 9, 0) := rfl
theorem te_185_110 : (pT M_185).find? (fun e => e.1 == 110) = some (110, .iload_n 1, 0, 0) := rfl
theorem te_185_111 : (pT M_185).find? (fun e => e.1 == 111) = some (111, .aload 6, 0, 0) := rfl
theorem te_185_113 : (pT M_185).find? (fun e => e.1 == 113) = some (113, .iload_n 1, 0, 0) := rfl
theorem te_185_114 : (pT M_185).find? (fun e => e.1 == 114) = some (114, .iload_n 2, 0, 0) := rfl
theorem te_185_115 : (pT M_185).find? (fun e => e.1 == 115) = some (115, .iload_n 3, 0, 0) := rfl
theorem te_185_116 : (pT M_185).find? (fun e => e.1 == 116) = some (116, .iload 5, 0, 0) := rfl
theorem te_185_118 : (pT M_185).find? (fun e => e.1 == 118) = some (118, .invokevirtual 332, 186, 1) := rfl
theorem te_185_121 : (pT M_185).find? (fun e => e.1 == 121) = some (121, .invokevirtual 310, 164, 1) := rfl
theorem te_185_124 : (pT M_185).find? (fun e => e.1 == 124) = some (124, .ireturn, 0, 0) := rfl
theorem te_188_0 : (pT M_188).find? (fun e => e.1 == 0) = some (0, .aload_n 0, 0, 0) := rfl
theorem te_188_1 : (pT M_188).find? (fun e => e.1 == 1) = some (1, .invokevirtual 158, 69, 0) := rfl
theorem te_188_4 : (pT M_188).find? (fun e => e.1 == 4) = some (4, .iload_n 1, 0, 0) := rfl
theorem te_188_5 : (pT M_188).find? (fun e => e.1 == 5) = some (5, .ifCond .eq 13, 0, 0) := rfl
theorem te_188_8 : (pT M_188).find? (fun e => e.1 == 8) = some (8, .aload_n 0, 0, 0) := rfl
theorem te_188_9 : (pT M_188).find? (fun e => e.1 == 9) = some (9, .getfield 19, 9, 1) := rfl
theorem te_188_12 : (pT M_188).find? (fun e => e.1 == 12) = some (12, .getfield 336, 7, 6) := rfl
theorem te_188_15 : (pT M_188).find? (fun e => e.1 == 15) = some (15, .goto 10, 0, 0) := rfl
theorem te_188_18 : (pT M_188).find? (fun e => e.1 == 18) = some (18, .aload_n 0, 0, 0) := rfl
theorem te_188_19 : (pT M_188).find? (fun e => e.1 == 19) = some (19, .getfield 19, 9, 1) := rfl
theorem te_188_22 : (pT M_188).find? (fun e => e.1 == 22) = some (22, .getfield 339, 7, 5) := rfl
theorem te_188_25 : (pT M_188).find? (fun e => e.1 == 25) = some (25, .ireturn, 0, 0) := rfl
theorem te_190_0 : (pT M_190).find? (fun e => e.1 == 0) = some (0, .aload_n 0, 0, 0) := rfl
theorem te_190_1 : (pT M_190).find? (fun e => e.1 == 1) = some (1, .invokevirtual 158, 69, 0) := rfl
theorem te_190_4 : (pT M_190).find? (fun e => e.1 == 4) = some (4, .aload_n 0, 0, 0) := rfl
theorem te_190_5 : (pT M_190).find? (fun e => e.1 == 5) = some (5, .getfield 19, 9, 1) := rfl
theorem te_190_8 : (pT M_190).find? (fun e => e.1 == 8) = some (8, .getfield 342, 7, 7) := rfl
theorem te_190_11 : (pT M_190).find? (fun e => e.1 == 11) = some (11, .ireturn, 0, 0) := rfl
theorem te_192_0 : (pT M_192).find? (fun e => e.1 == 0) = some (0, .iload_n 1, 0, 0) := rfl
theorem te_192_1 : (pT M_192).find? (fun e => e.1 == 1) = some (1, .iconst 1, 0, 0) := rfl
theorem te_192_2 : (pT M_192).find? (fun e => e.1 == 2) = some (2, .if_icmp .lt 8, 0, 0) := rfl
theorem te_192_5 : (pT M_192).find? (fun e => e.1 == 5) = some (5, .iload_n 1, 0, 0) := rfl
theorem te_192_6 : (pT M_192).find? (fun e => e.1 == 6) = some (6, .iconst 4, 0, 0) := rfl
theorem te_192_7 : (pT M_192).find? (fun e => e.1 == 7) = some (7, .if_icmp .le 14, 0, 0) := rfl
theorem te_192_10 : (pT M_192).find? (fun e => e.1 == 10) = some (10, .new 83, 10, 1) := rfl
theorem te_192_21 : (pT M_192).find? (fun e => e.1 == 21) = some (21, .aload_n 0, 0, 0) := rfl
theorem te_192_22 : (pT M_192).find? (fun e => e.1 == 22) = some (22, .invokevirtual 158, 69, 0) := rfl
theorem te_192_25 : (pT M_192).find? (fun e => e.1 == 25) = some (25, .aload_n 0, 0, 0) := rfl
theorem te_192_26 : (pT M_192).find? (fun e => e.1 == 26) = some (26, .iload_n 1, 0, 0) := rfl
theorem te_192_27 : (pT M_192).find? (fun e => e.1 == 27) = some (27, .invokevirtual 347, 41, 0) := rfl
theorem te_192_30 : (pT M_192).find? (fun e => e.1 == 30) = some (30, .ireturn, 0, 0) := rfl
theorem te_194_0 : (pT M_194).find? (fun e => e.1 == 0) = some (0, .aload_n 0, 0, 0) := rfl
theorem te_194_1 : (pT M_194).find? (fun e => e.1 == 1) = some (1, .invokevirtual 158, 69, 0) := rfl
theorem te_194_4 : (pT M_194).find? (fun e => e.1 == 4) = some (4, .iconst 1, 0, 0) := rfl
theorem te_194_5 : (pT M_194).find? (fun e => e.1 == 5) = some (5, .istore_n 1, 0, 0) := rfl
theorem te_194_6 : (pT M_194).find? (fun e => e.1 == 6) = some (6, .aload_n 0, 0, 0) := rfl
theorem te_194_7 : (pT M_194).find? (fun e => e.1 == 7) = some (7, .iconst 1, 0, 0) := rfl
theorem te_194_8 : (pT M_194).find? (fun e => e.1 == 8) = some (8, .invokevirtual 347, 41, 0) := rfl
theorem te_194_11 : (pT M_194).find? (fun e => e.1 == 11) = some (11, .istore_n 2, 0, 0) := rfl
theorem te_194_12 : (pT M_194).find? (fun e => e.1 == 12) = some (12, .iconst 2, 0, 0) := rfl
theorem te_194_13 : (pT M_194).find? (fun e => e.1 == 13) = some (13, .istore_n 3, 0, 0) := rfl
theorem te_194_14 : (pT M_194).find? (fun e => e.1 == 14) = some (14, .iload_n 3, 0, 0) := rfl
theorem te_194_15 : (pT M_194).find? (fun e => e.1 == 15) = some (15, .iconst 4, 0, 0) := rfl
theorem te_194_16 : (pT M_194).find? (fun e => e.1 == 16) = some (16, .if_icmp .gt 31, 0, 0) := rfl
theorem te_194_19 : (pT M_194).find? (fun e => e.1 == 19) = some (19, .aload_n 0, 0, 0) := rfl
theorem te_194_20 : (pT M_194).find? (fun e => e.1 == 20) = some (20, .iload_n 3, 0, 0) := rfl
theorem te_194_21 : (pT M_194).find? (fun e => e.1 == 21) = some (21, .invokevirtual 347, 41, 0) := rfl
theorem te_194_24 : (pT M_194).find? (fun e => e.1 == 24) = some (24, .istore 4, 0, 0) := rfl
theorem te_194_26 : (pT M_194).find? (fun e => e.1 == 26) = some (26, .iload 4, 0, 0) := rfl
theorem te_194_28 : (pT M_194).find? (fun e => e.1 == 28) = some (28, .iload_n 1, 0, 0) := rfl
theorem te_194_29 : (pT M_194).find? (fun e => e.1 == 29) = some (29, .imul, 0, 0) := rfl
theorem te_194_30 : (pT M_194).find? (fun e => e.1 == 30) = some (30, .iload_n 2, 0, 0) := rfl
theorem te_194_31 : (pT M_194).find? (fun e => e.1 == 31) = some (31, .iload_n 3, 0, 0) := rfl
theorem te_194_32 : (pT M_194).find? (fun e => e.1 == 32) = some (32, .imul, 0, 0) := rfl
theorem te_194_33 : (pT M_194).find? (fun e => e.1 == 33) = some (33, .if_icmp .ge 8, 0, 0) := rfl
theorem te_194_36 : (pT M_194).find? (fun e => e.1 == 36) = some (36, .iload_n 3, 0, 0) := rfl
theorem te_194_37 : (pT M_194).find? (fun e => e.1 == 37) = some (37, .istore_n 1, 0, 0) := rfl
theorem te_194_38 : (pT M_194).find? (fun e => e.1 == 38) = some (38, .iload 4, 0, 0) := rfl
theorem te_194_40 : (pT M_194).find? (fun e => e.1 == 40) = some (40, .istore_n 2, 0, 0) := rfl
theorem te_194_41 : (pT M_194).find? (fun e => e.1 == 41) = some (41, .iinc 3 1, 0, 0) := rfl
theorem te_194_44 : (pT M_194).find? (fun e => e.1 == 44) = some (44, .goto (-30), 0, 0) := rfl
theorem te_194_47 : (pT M_194).find? (fun e => e.1 == 47) = some (47, .iload_n 1, 0, 0) := rfl
theorem te_194_48 : (pT M_194).find? (fun e => e.1 == 48) = some (48, .ireturn, 0, 0) := rfl
theorem te_196_0 : (pT M_196).find? (fun e => e.1 == 0) = some (0, .aload_n 0, 0, 0) := rfl
theorem te_196_1 : (pT M_196).find? (fun e => e.1 == 1) = some (1, .iload_n 1, 0, 0) := rfl
theorem te_196_2 : (pT M_196).find? (fun e => e.1 == 2) = some (2, .invokevirtual 120, 60, 0) := rfl
theorem te_196_5 : (pT M_196).find? (fun e => e.1 == 5) = some (5, .aload_n 0, 0, 0) := rfl
theorem te_196_6 : (pT M_196).find? (fun e => e.1 == 6) = some (6, .invokevirtual 158, 69, 0) := rfl
theorem te_196_9 : (pT M_196).find? (fun e => e.1 == 9) = some (9, .aload_n 0, 0, 0) := rfl
theorem te_196_10 : (pT M_196).find? (fun e => e.1 == 10) = some (10, .getfield 12, 9, 0) := rfl
theorem te_196_13 : (pT M_196).find? (fun e => e.1 == 13) = some (13, .getfield 128, 0, 5) := rfl
theorem te_196_16 : (pT M_196).find? (fun e => e.1 == 16) = some (16, .iload_n 1, 0, 0) := rfl
theorem te_196_17 : (pT M_196).find? (fun e => e.1 == 17) = some (17, .iaload, 0, 0) := rfl
theorem te_196_18 : (pT M_196).find? (fun e => e.1 == 18) = some (18, .iconst 1, 0, 0) := rfl
theorem te_196_19 : (pT M_196).find? (fun e => e.1 == 19) = some (19, .if_icmp .ne 14, 0, 0) := rfl
theorem te_196_22 : (pT M_196).find? (fun e => e.1 == 22) = some (22, .new 105, 18, 1) := rfl
theorem te_196_33 : (pT M_196).find? (fun e => e.1 == 33) = some (33, .aload_n 0, 0, 0) := rfl
theorem te_196_34 : (pT M_196).find? (fun e => e.1 == 34) = some (34, .getfield 23, 9, 2) := rfl
theorem te_196_37 : (pT M_196).find? (fun e => e.1 == 37) = some (37, .aload_n 0, 0, 0) := rfl
theorem te_196_38 : (pT M_196).find? (fun e => e.1 == 38) = some (38, .getfield 12, 9, 0) := rfl
theorem te_196_41 : (pT M_196).find? (fun e => e.1 == 41) = some (41, .iload_n 1, 0, 0) := rfl
theorem te_196_42 : (pT M_196).find? (fun e => e.1 == 42) = some (42, .invokevirtual 352, 17, 1) := rfl
theorem te_196_45 : (pT M_196).find? (fun e => e.1 == 45) = some (45, .aload_n 0, 0, 0) := rfl
theorem te_196_46 : (pT M_196).find? (fun e => e.1 == 46) = some (46, .getfield 23, 9, 2) := rfl
theorem te_196_49 : (pT M_196).find? (fun e => e.1 == 49) = some (49, .aload_n 0, 0, 0) := rfl
theorem te_196_50 : (pT M_196).find? (fun e => e.1 == 50) = some (50, .getfield 12, 9, 0) := rfl
theorem te_196_53 : (pT M_196).find? (fun e => e.1 == 53) = some (53, .getfield 101, 0, 0) := rfl
theorem te_196_56 : (pT M_196).find? (fun e => e.1 == 56) = some (56, .invokevirtual 355, 26, 1) := rfl
theorem te_196_59 : (pT M_196).find? (fun e => e.1 == 59) = some (59, .iconst 1, 0, 0) := rfl
theorem te_196_60 : (pT M_196).find? (fun e => e.1 == 60) = some (60, .aload_n 0, 0, 0) := rfl
theorem te_196_61 : (pT M_196).find? (fun e => e.1 == 61) = some (61, .getfield 23, 9, 2) := rfl
theorem te_196_64 : (pT M_196).find? (fun e => e.1 == 64) = some (64, .invokevirtual 224, 32, 1) := rfl
theorem te_196_67 : (pT M_196).find? (fun e => e.1 == 67) = some (67, .aload_n 0, 0, 0) := rfl
theorem te_196_68 : (pT M_196).find? (fun e => e.1 == 68) = some (68, .getfield 12, 9, 0) := rfl
theorem te_196_71 : (pT M_196).find? (fun e => e.1 == 71) = some (71, .iconst (-1), 0, 0) := rfl
theorem te_196_72 : (pT M_196).find? (fun e => e.1 == 72) = some (72, .iconst 1, 0, 0) := rfl
theorem te_196_73 : (pT M_196).find? (fun e => e.1 == 73) = some (73, .invokevirtual 358, 35, 1) := rfl
theorem te_196_76 : (pT M_196).find? (fun e => e.1 == 76) = some (76, .invokestatic 228, 40, 2) := rfl
theorem te_196_79 : (pT M_196).find? (fun e => e.1 == 79) = some (79, .invokestatic 228, 40, 2) := rfl
theorem te_196_82 : (pT M_196).find? (fun e => e.1 == 82) = some (82, .ireturn, 0, 0) := rfl
theorem te_198_0 : (pT M_198).find? (fun e => e.1 == 0) = some (0, .aload_n 0, 0, 0) := rfl
theorem te_198_1 : (pT M_198).find? (fun e => e.1 == 1) = some (1, .invokevirtual 158, 69, 0) := rfl
theorem te_198_4 : (pT M_198).find? (fun e => e.1 == 4) = some (4, .aload_n 0, 0, 0) := rfl
theorem te_198_5 : (pT M_198).find? (fun e => e.1 == 5) = some (5, .iload_n 1, 0, 0) := rfl
theorem te_198_6 : (pT M_198).find? (fun e => e.1 == 6) = some (6, .invokevirtual 161, 70, 0) := rfl
theorem te_198_9 : (pT M_198).find? (fun e => e.1 == 9) = some (9, .aload_n 0, 0, 0) := rfl
theorem te_198_10 : (pT M_198).find? (fun e => e.1 == 10) = some (10, .getfield 23, 9, 2) := rfl
theorem te_198_13 : (pT M_198).find? (fun e => e.1 == 13) = some (13, .aload_n 0, 0, 0) := rfl
theorem te_198_14 : (pT M_198).find? (fun e => e.1 == 14) = some (14, .getfield 19, 9, 1) := rfl
theorem te_198_17 : (pT M_198).find? (fun e => e.1 == 17) = some (17, .iload_n 1, 0, 0) := rfl
theorem te_198_18 : (pT M_198).find? (fun e => e.1 == 18) = some (18, .invokevirtual 361, 199, 1) := rfl
theorem te_198_21 : (pT M_198).find? (fun e => e.1 == 21) = some (21, .aload_n 0, 0, 0) := rfl
theorem te_198_22 : (pT M_198).find? (fun e => e.1 == 22) = some (22, .getfield 23, 9, 2) := rfl
theorem te_198_25 : (pT M_198).find? (fun e => e.1 == 25) = some (25, .aload_n 0, 0, 0) := rfl
theorem te_198_26 : (pT M_198).find? (fun e => e.1 == 26) = some (26, .getfield 12, 9, 0) := rfl
theorem te_198_29 : (pT M_198).find? (fun e => e.1 == 29) = some (29, .getfield 101, 0, 0) := rfl
theorem te_198_32 : (pT M_198).find? (fun e => e.1 == 32) = some (32, .invokevirtual 355, 26, 1) := rfl
theorem te_198_35 : (pT M_198).find? (fun e => e.1 == 35) = some (35, .aload_n 0, 0, 0) := rfl
theorem te_198_36 : (pT M_198).find? (fun e => e.1 == 36) = some (36, .getfield 23, 9, 2) := rfl
theorem te_198_39 : (pT M_198).find? (fun e => e.1 == 39) = some (39, .invokevirtual 224, 32, 1) := rfl
theorem te_198_42 : (pT M_198).find? (fun e => e.1 == 42) = some (42, .ireturn, 0, 0) := rfl
theorem te_201_0 : (pT M_201).find? (fun e => e.1 == 0) = some (0, .aload_n 0, 0, 0) := rfl
theorem te_201_1 : (pT M_201).find? (fun e => e.1 == 1) = some (1, .iload_n 1, 0, 0) := rfl
theorem te_201_2 : (pT M_201).find? (fun e => e.1 == 2) = some (2, .invokevirtual 134, 63, 0) := rfl
theorem te_201_5 : (pT M_201).find? (fun e => e.1 == 5) = some (5, .aload_n 0, 0, 0) := rfl
theorem te_201_6 : (pT M_201).find? (fun e => e.1 == 6) = some (6, .iload_n 2, 0, 0) := rfl
theorem te_201_7 : (pT M_201).find? (fun e => e.1 == 7) = some (7, .invokevirtual 200, 115, 0) := rfl
theorem te_201_10 : (pT M_201).find? (fun e => e.1 == 10) = some (10, .pop, 0, 0) := rfl
theorem te_201_11 : (pT M_201).find? (fun e => e.1 == 11) = some (11, .iload_n 2, 0, 0) := rfl
theorem te_201_12 : (pT M_201).find? (fun e => e.1 == 12) = some (12, .aload_n 0, 0, 0) := rfl
theorem te_201_13 : (pT M_201).find? (fun e => e.1 == 13) = some (13, .getfield 12, 9, 0) := rfl
theorem te_201_16 : (pT M_201).find? (fun e => e.1 == 16) = some (16, .getfield 139, 0, 7) := rfl
theorem te_201_19 : (pT M_201).find? (fun e => e.1 == 19) = some (19, .iload_n 1, 0, 0) := rfl
theorem te_201_20 : (pT M_201).find? (fun e => e.1 == 20) = some (20, .iaload, 0, 0) := rfl
theorem te_201_21 : (pT M_201).find? (fun e => e.1 == 21) = some (21, .imul, 0, 0) := rfl
theorem te_201_22 : (pT M_201).find? (fun e => e.1 == 22) = some (22, .aload_n 0, 0, 0) := rfl
theorem te_201_23 : (pT M_201).find? (fun e => e.1 == 23) = some (23, .getfield 12, 9, 0) := rfl
theorem te_201_26 : (pT M_201).find? (fun e => e.1 == 26) = some (26, .iload_n 1, 0, 0) := rfl
theorem te_201_27 : (pT M_201).find? (fun e => e.1 == 27) = some (27, .invokevirtual 187, 36, 1) := rfl
theorem te_201_30 : (pT M_201).find? (fun e => e.1 == 30) = some (30, .isub, 0, 0) := rfl
theorem te_201_31 : (pT M_201).find? (fun e => e.1 == 31) = some (31, .ireturn, 0, 0) := rfl
theorem te_203_0 : (pT M_203).find? (fun e => e.1 == 0) = some (0, .aload_n 0, 0, 0) := rfl
theorem te_203_1 : (pT M_203).find? (fun e => e.1 == 1) = some (1, .iload_n 1, 0, 0) := rfl
theorem te_203_2 : (pT M_203).find? (fun e => e.1 == 2) = some (2, .invokevirtual 110, 57, 0) := rfl
theorem te_203_5 : (pT M_203).find? (fun e => e.1 == 5) = some (5, .aload_n 0, 0, 0) := rfl
theorem te_203_6 : (pT M_203).find? (fun e => e.1 == 6) = some (6, .iload_n 2, 0, 0) := rfl
theorem te_203_7 : (pT M_203).find? (fun e => e.1 == 7) = some (7, .invokevirtual 176, 73, 0) := rfl
theorem te_203_10 : (pT M_203).find? (fun e => e.1 == 10) = some (10, .iload_n 3, 0, 0) := rfl
theorem te_203_11 : (pT M_203).find? (fun e => e.1 == 11) = some (11, .ifCond .eq 18, 0, 0) := rfl
theorem te_203_14 : (pT M_203).find? (fun e => e.1 == 14) = some (14, .aload_n 0, 0, 0) := rfl
theorem te_203_15 : (pT M_203).find? (fun e => e.1 == 15) = some (15, .getfield 29, 9, 3) := rfl
theorem te_203_18 : (pT M_203).find? (fun e => e.1 == 18) = some (18, .aload_n 0, 0, 0) := rfl
theorem te_203_19 : (pT M_203).find? (fun e => e.1 == 19) = some (19, .getfield 12, 9, 0) := rfl
theorem te_203_22 : (pT M_203).find? (fun e => e.1 == 22) = some (22, .iload_n 1, 0, 0) := rfl
theorem te_203_23 : (pT M_203).find? (fun e => e.1 == 23) = some (23, .invokevirtual 365, 204, 1) := rfl
theorem te_203_26 : (pT M_203).find? (fun e => e.1 == 26) = some (26, .goto 11, 0, 0) := rfl
theorem te_203_29 : (pT M_203).find? (fun e => e.1 == 29) = some (29, .aload_n 0, 0, 0) := rfl
theorem te_203_30 : (pT M_203).find? (fun e => e.1 == 30) = some (30, .getfield 29, 9, 3) := rfl
theorem te_203_33 : (pT M_203).find? (fun e => e.1 == 33) = some (33, .iload_n 1, 0, 0) := rfl
theorem te_203_34 : (pT M_203).find? (fun e => e.1 == 34) = some (34, .invokevirtual 369, 205, 1) := rfl
theorem te_203_37 : (pT M_203).find? (fun e => e.1 == 37) = some (37, .ireturn, 0, 0) := rfl
theorem te_207_0 : (pT M_207).find? (fun e => e.1 == 0) = some (0, .aload_n 0, 0, 0) := rfl
theorem te_207_1 : (pT M_207).find? (fun e => e.1 == 1) = some (1, .iload_n 1, 0, 0) := rfl
theorem te_207_2 : (pT M_207).find? (fun e => e.1 == 2) = some (2, .invokevirtual 134, 63, 0) := rfl
theorem te_207_5 : (pT M_207).find? (fun e => e.1 == 5) = some (5, .iload_n 3, 0, 0) := rfl
theorem te_207_6 : (pT M_207).find? (fun e => e.1 == 6) = some (6, .invokestatic 190, 74, 2) := rfl
theorem te_207_9 : (pT M_207).find? (fun e => e.1 == 9) = some (9, .iload_n 2, 0, 0) := rfl
theorem te_207_10 : (pT M_207).find? (fun e => e.1 == 10) = some (10, .iload_n 3, 0, 0) := rfl
theorem te_207_11 : (pT M_207).find? (fun e => e.1 == 11) = some (11, .invokestatic 206, 118, 2) := rfl
theorem te_207_14 : (pT M_207).find? (fun e => e.1 == 14) = some (14, .aload_n 0, 0, 0) := rfl
theorem te_207_15 : (pT M_207).find? (fun e => e.1 == 15) = some (15, .iload_n 3, 0, 0) := rfl
theorem te_207_16 : (pT M_207).find? (fun e => e.1 == 16) = some (16, .invokevirtual 200, 115, 0) := rfl
theorem te_207_19 : (pT M_207).find? (fun e => e.1 == 19) = some (19, .aload_n 0, 0, 0) := rfl
theorem te_207_20 : (pT M_207).find? (fun e => e.1 == 20) = some (20, .getfield 12, 9, 0) := rfl
theorem te_207_23 : (pT M_207).find? (fun e => e.1 == 23) = some (23, .iload_n 1, 0, 0) := rfl
theorem te_207_24 : (pT M_207).find? (fun e => e.1 == 24) = some (24, .iload_n 2, 0, 0) := rfl
theorem te_207_25 : (pT M_207).find? (fun e => e.1 == 25) = some (25, .invokevirtual 372, 208, 1) := rfl
theorem te_207_28 : (pT M_207).find? (fun e => e.1 == 28) = some (28, .ireturn, 0, 0) := rfl
theorem te_210_0 : (pT M_210).find? (fun e => e.1 == 0) = some (0, .iload_n 1, 0, 0) := rfl
theorem te_210_1 : (pT M_210).find? (fun e => e.1 == 1) = some (1, .invokestatic 190, 74, 2) := rfl
theorem te_210_4 : (pT M_210).find? (fun e => e.1 == 4) = some (4, .iload_n 2, 0, 0) := rfl
theorem te_210_5 : (pT M_210).find? (fun e => e.1 == 5) = some (5, .invokestatic 278, 151, 2) := rfl
theorem te_210_8 : (pT M_210).find? (fun e => e.1 == 8) = some (8, .aload_n 0, 0, 0) := rfl
theorem te_210_9 : (pT M_210).find? (fun e => e.1 == 9) = some (9, .iload_n 1, 0, 0) := rfl
theorem te_210_10 : (pT M_210).find? (fun e => e.1 == 10) = some (10, .invokevirtual 200, 115, 0) := rfl
theorem te_210_13 : (pT M_210).find? (fun e => e.1 == 13) = some (13, .iload_n 2, 0, 0) := rfl
theorem te_210_14 : (pT M_210).find? (fun e => e.1 == 14) = some (14, .invokevirtual 375, 211, 1) := rfl
theorem te_210_17 : (pT M_210).find? (fun e => e.1 == 17) = some (17, .ireturn, 0, 0) := rfl
theorem te_214_0 : (pT M_214).find? (fun e => e.1 == 0) = some (0, .iload_n 1, 0, 0) := rfl
theorem te_214_1 : (pT M_214).find? (fun e => e.1 == 1) = some (1, .invokestatic 190, 74, 2) := rfl
theorem te_214_4 : (pT M_214).find? (fun e => e.1 == 4) = some (4, .iload_n 2, 0, 0) := rfl
theorem te_214_5 : (pT M_214).find? (fun e => e.1 == 5) = some (5, .invokestatic 278, 151, 2) := rfl
theorem te_214_8 : (pT M_214).find? (fun e => e.1 == 8) = some (8, .iload_n 3, 0, 0) := rfl
theorem te_214_9 : (pT M_214).find? (fun e => e.1 == 9) = some (9, .iconst 1, 0, 0) := rfl
theorem te_214_10 : (pT M_214).find? (fun e => e.1 == 10) = some (10, .if_icmp .lt 22, 0, 0) := rfl
theorem te_214_13 : (pT M_214).find? (fun e => e.1 == 13) = some (13, .iload_n 3, 0, 0) := rfl
theorem te_214_14 : (pT M_214).find? (fun e => e.1 == 14) = some (14, .bipush 9, 0, 0) := rfl
theorem te_214_16 : (pT M_214).find? (fun e => e.1 == 16) = some (16, .if_icmp .gt 16, 0, 0) := rfl
theorem te_214_19 : (pT M_214).find? (fun e => e.1 == 19) = some (19, .iload 4, 0, 0) := rfl
theorem te_214_21 : (pT M_214).find? (fun e => e.1 == 21) = some (21, .iconst 1, 0, 0) := rfl
theorem te_214_22 : (pT M_214).find? (fun e => e.1 == 22) = some (22, .if_icmp .lt 10, 0, 0) := rfl
theorem te_214_25 : (pT M_214).find? (fun e => e.1 == 25) = some (25, .iload 4, 0, 0) := rfl
theorem te_214_27 : (pT M_214).find? (fun e => e.1 == 27) = some (27, .bipush 9, 0, 0) := rfl
theorem te_214_29 : (pT M_214).find? (fun e => e.1 == 29) = some (29, .if_icmp .le 14, 0, 0) := rfl
theorem te_214_32 : (pT M_214).find? (fun e => e.1 == 32) = some (32, .new 83, 11, 1) := rfl
theorem te_214_43 : (pT M_214).find? (fun e => e.1 == 43) = some (43, .aload_n 0, 0, 0) := rfl
theorem te_214_44 : (pT M_214).find? (fun e => e.1 == 44) = some (44, .getfield 71, 9, 9) := rfl
theorem te_214_47 : (pT M_214).find? (fun e => e.1 == 47) = some (47, .aload_n 0, 0, 0) := rfl
theorem te_214_48 : (pT M_214).find? (fun e => e.1 == 48) = some (48, .getfield 12, 9, 0) := rfl
theorem te_214_51 : (pT M_214).find? (fun e => e.1 == 51) = some (51, .aload_n 0, 0, 0) := rfl
theorem te_214_52 : (pT M_214).find? (fun e => e.1 == 52) = some (52, .iload_n 1, 0, 0) := rfl
theorem te_214_53 : (pT M_214).find? (fun e => e.1 == 53) = some (53, .invokevirtual 200, 115, 0) := rfl
theorem te_214_56 : (pT M_214).find? (fun e => e.1 == 56) = some (56, .iload_n 2, 0, 0) := rfl
theorem te_214_57 : (pT M_214).find? (fun e => e.1 == 57) = some (57, .iload_n 3, 0, 0) := rfl
theorem te_214_58 : (pT M_214).find? (fun e => e.1 == 58) = some (58, .iload 4, 0, 0) := rfl
theorem te_214_60 : (pT M_214).find? (fun e => e.1 == 60) = some (60, .invokevirtual 380, 215, 1) := rfl
theorem te_214_63 : (pT M_214).find? (fun e => e.1 == 63) = some (63, .ireturn, 0, 0) := rfl
theorem te_219_0 : (pT M_219).find? (fun e => e.1 == 0) = some (0, .aload_n 0, 0, 0) := rfl
theorem te_219_1 : (pT M_219).find? (fun e => e.1 == 1) = some (1, .iload_n 1, 0, 0) := rfl
theorem te_219_2 : (pT M_219).find? (fun e => e.1 == 2) = some (2, .invokevirtual 200, 115, 0) := rfl
theorem te_219_5 : (pT M_219).find? (fun e => e.1 == 5) = some (5, .astore_n 2, 0, 0) := rfl
theorem te_219_6 : (pT M_219).find? (fun e => e.1 == 6) = some (6, .aload_n 0, 0, 0) := rfl
theorem te_219_7 : (pT M_219).find? (fun e => e.1 == 7) = some (7, .getfield 12, 9, 0) := rfl
theorem te_219_10 : (pT M_219).find? (fun e => e.1 == 10) = some (10, .invokevirtual 318, 42, 1) := rfl
theorem te_219_13 : (pT M_219).find? (fun e => e.1 == 13) = some (13, .istore_n 3, 0, 0) := rfl
theorem te_219_14 : (pT M_219).find? (fun e => e.1 == 14) = some (14, .iconst 1, 0, 0) := rfl
theorem te_219_15 : (pT M_219).find? (fun e => e.1 == 15) = some (15, .istore 4, 0, 0) := rfl
theorem te_219_17 : (pT M_219).find? (fun e => e.1 == 17) = some (17, .iload 4, 0, 0) := rfl
theorem te_219_19 : (pT M_219).find? (fun e => e.1 == 19) = some (19, .bipush 40, 0, 0) := rfl
theorem te_219_21 : (pT M_219).find? (fun e => e.1 == 21) = some (21, .if_icmp .gt 25, 0, 0) := rfl
theorem te_219_24 : (pT M_219).find? (fun e => e.1 == 24) = some (24, .aload_n 2, 0, 0) := rfl
theorem te_219_25 : (pT M_219).find? (fun e => e.1 == 25) = some (25, .iload 4, 0, 0) := rfl
theorem te_219_27 : (pT M_219).find? (fun e => e.1 == 27) = some (27, .invokevirtual 287, 155, 1) := rfl
theorem te_219_30 : (pT M_219).find? (fun e => e.1 == 30) = some (30, .iload 4, 0, 0) := rfl
theorem te_219_32 : (pT M_219).find? (fun e => e.1 == 32) = some (32, .iload_n 3, 0, 0) := rfl
theorem te_219_33 : (pT M_219).find? (fun e => e.1 == 33) = some (33, .imul, 0, 0) := rfl
theorem te_219_34 : (pT M_219).find? (fun e => e.1 == 34) = some (34, .if_icmp .ge 6, 0, 0) := rfl
theorem te_219_37 : (pT M_219).find? (fun e => e.1 == 37) = some (37, .iload 4, 0, 0) := rfl
theorem te_219_39 : (pT M_219).find? (fun e => e.1 == 39) = some (39, .ireturn, 0, 0) := rfl
theorem te_219_40 : (pT M_219).find? (fun e => e.1 == 40) = some (40, .iinc 4 1, 0, 0) := rfl
theorem te_219_43 : (pT M_219).find? (fun e => e.1 == 43) = some (43, .goto (-26), 0, 0) := rfl
theorem te_219_46 : (pT M_219).find? (fun e => e.1 == 46) = some (46, .iconst (-1), 0, 0) := rfl
theorem te_219_47 : (pT M_219).find? (fun e => e.1 == 47) = some (47, .ireturn, 0, 0) := rfl
theorem te_221_0 : (pT M_221).find? (fun e => e.1 == 0) = some (0, .aload_n 0, 0, 0) := rfl
theorem te_221_1 : (pT M_221).find? (fun e => e.1 == 1) = some (1, .iload_n 1, 0, 0) := rfl
theorem te_221_2 : (pT M_221).find? (fun e => e.1 == 2) = some (2, .invokevirtual 134, 63, 0) := rfl
theorem te_221_5 : (pT M_221).find? (fun e => e.1 == 5) = some (5, .aload_n 0, 0, 0) := rfl
theorem te_221_6 : (pT M_221).find? (fun e => e.1 == 6) = some (6, .invokevirtual 158, 69, 0) := rfl
theorem te_221_9 : (pT M_221).find? (fun e => e.1 == 9) = some (9, .iconst 1, 0, 0) := rfl
theorem te_221_10 : (pT M_221).find? (fun e => e.1 == 10) = some (10, .aload_n 0, 0, 0) := rfl
theorem te_221_11 : (pT M_221).find? (fun e => e.1 == 11) = some (11, .getfield 19, 9, 1) := rfl
theorem te_221_14 : (pT M_221).find? (fun e => e.1 == 14) = some (14, .invokevirtual 224, 32, 1) := rfl
theorem te_221_17 : (pT M_221).find? (fun e => e.1 == 17) = some (17, .aload_n 0, 0, 0) := rfl
theorem te_221_18 : (pT M_221).find? (fun e => e.1 == 18) = some (18, .getfield 12, 9, 0) := rfl
theorem te_221_21 : (pT M_221).find? (fun e => e.1 == 21) = some (21, .iload_n 1, 0, 0) := rfl
theorem te_221_22 : (pT M_221).find? (fun e => e.1 == 22) = some (22, .iconst 1, 0, 0) := rfl
theorem te_221_23 : (pT M_221).find? (fun e => e.1 == 23) = some (23, .invokevirtual 358, 35, 1) := rfl
theorem te_221_26 : (pT M_221).find? (fun e => e.1 == 26) = some (26, .invokestatic 228, 40, 2) := rfl
theorem te_221_29 : (pT M_221).find? (fun e => e.1 == 29) = some (29, .invokestatic 228, 40, 2) := rfl
theorem te_221_32 : (pT M_221).find? (fun e => e.1 == 32) = some (32, .ireturn, 0, 0) := rfl
theorem te_223_0 : (pT M_223).find? (fun e => e.1 == 0) = some (0, .iload_n 1, 0, 0) := rfl
theorem te_223_1 : (pT M_223).find? (fun e => e.1 == 1) = some (1, .ifCond .lt 9, 0, 0) := rfl
theorem te_223_4 : (pT M_223).find? (fun e => e.1 == 4) = some (4, .iload_n 1, 0, 0) := rfl
theorem te_223_5 : (pT M_223).find? (fun e => e.1 == 5) = some (5, .bipush 99, 0, 0) := rfl
theorem te_223_7 : (pT M_223).find? (fun e => e.1 == 7) = some (7, .if_icmp .le 14, 0, 0) := rfl
theorem te_223_10 : (pT M_223).find? (fun e => e.1 == 10) = some (10, .new 83, 12, 1) := rfl
theorem te_223_21 : (pT M_223).find? (fun e => e.1 == 21) = some (21, .aload_n 0, 0, 0) := rfl
theorem te_223_22 : (pT M_223).find? (fun e => e.1 == 22) = some (22, .invokevirtual 158, 69, 0) := rfl
theorem te_223_25 : (pT M_223).find? (fun e => e.1 == 25) = some (25, .iconst 1, 0, 0) := rfl
theorem te_223_26 : (pT M_223).find? (fun e => e.1 == 26) = some (26, .istore_n 2, 0, 0) := rfl
theorem te_223_27 : (pT M_223).find? (fun e => e.1 == 27) = some (27, .iload_n 2, 0, 0) := rfl
theorem te_223_28 : (pT M_223).find? (fun e => e.1 == 28) = some (28, .bipush 12, 0, 0) := rfl
theorem te_223_30 : (pT M_223).find? (fun e => e.1 == 30) = some (30, .if_icmp .gt 32, 0, 0) := rfl
theorem te_223_33 : (pT M_223).find? (fun e => e.1 == 33) = some (33, .aload_n 0, 0, 0) := rfl
theorem te_223_34 : (pT M_223).find? (fun e => e.1 == 34) = some (34, .iload_n 2, 0, 0) := rfl
theorem te_223_35 : (pT M_223).find? (fun e => e.1 == 35) = some (35, .invokevirtual 193, 85, 0) := rfl
theorem te_223_38 : (pT M_223).find? (fun e => e.1 == 38) = some (38, .astore_n 3, 0, 0) := rfl
theorem te_223_39 : (pT M_223).find? (fun e => e.1 == 39) = some (39, .aload_n 3, 0, 0) := rfl
theorem te_223_40 : (pT M_223).find? (fun e => e.1 == 40) = some (40, .getfield 197, 1, 1) := rfl
theorem te_223_43 : (pT M_223).find? (fun e => e.1 == 43) = some (43, .ifCond .eq 13, 0, 0) := rfl
theorem te_223_46 : (pT M_223).find? (fun e => e.1 == 46) = some (46, .aload_n 3, 0, 0) := rfl
theorem te_223_47 : (pT M_223).find? (fun e => e.1 == 47) = some (47, .getfield 244, 1, 6) := rfl
theorem te_223_50 : (pT M_223).find? (fun e => e.1 == 50) = some (50, .iload_n 1, 0, 0) := rfl
theorem te_223_51 : (pT M_223).find? (fun e => e.1 == 51) = some (51, .if_icmp .gt 5, 0, 0) := rfl
theorem te_223_54 : (pT M_223).find? (fun e => e.1 == 54) = some (54, .iload_n 2, 0, 0) := rfl
theorem te_223_55 : (pT M_223).find? (fun e => e.1 == 55) = some (55, .ireturn, 0, 0) := rfl
theorem te_223_56 : (pT M_223).find? (fun e => e.1 == 56) = some (56, .iinc 2 1, 0, 0) := rfl
theorem te_223_59 : (pT M_223).find? (fun e => e.1 == 59) = some (59, .goto (-32), 0, 0) := rfl
theorem te_223_62 : (pT M_223).find? (fun e => e.1 == 62) = some (62, .iconst (-1), 0, 0) := rfl
theorem te_223_63 : (pT M_223).find? (fun e => e.1 == 63) = some (63, .ireturn, 0, 0) := rfl
theorem f_31 {S : Nat × (Nat → Int32)} {n : Nat} {mem : MM} {K : Int → MM → Prop} {E : Nat → MM → Prop} (hI : ClS mem) {p0 : Int} (H : ∀ r m', ClS m' → Frm pNb mem m' → K r m') : CQI (Ex S (n + 17)) 31 [.inr 0, .inl p0] mem K E := by
  refine CY.of (k := 0) mt_31 rfl rfl (fun hv => ?_)
  have hC := Ex.mono S (n + 16)
  have ii_p0 : InI p0 := hv (.inl p0) (by simp)
  unfold InI at ii_p0
  clear hv
  have h8 := hI.1.b.1
  show Tx (Ex S (n + 16)) S M_31 (kI K E) 0 0 0 [some (.inr 0), some (.inl p0)] [] mem
  refine Tx.aload_n hC te_31_0 rfl ?_
  refine Tx.virtV hC te_31_1 mt_11 (args := [.inr 0]) (rest := []) (c' := 0) (s' := 0) rfl rfl rfl rfl rfl rfl rfl rfl rfl rfl ?_
  refine f_11 hI (fun m2 r1I hF3 => ?_)
  have hF3n : Frm pNb mem m2 := Frm.rf.tr hF3
  refine Tx.iload_n hC te_31_4 rfl ?_
  refine Tx.ifc hC (t := 16) te_31_5 (by decide) (fun q4 => ?_) (fun q4 => ?_)
  · replace q4 : ¬ (p0 : Int) = 0 := q4
    refine Tx.iload_n hC te_31_16 rfl ?_
    refine Tx.iconst hC te_31_17 rfl ?_
    refine Tx.icmp hC (t := 35) te_31_18 (by decide) (fun q5 => ?_) (fun q5 => ?_)
    · replace q5 : (p0 : Int) < 1 := q5
      refine Tx.iload_n hC te_31_35 rfl ?_
      refine Tx.tsw hC (t := 137) (ts := [84, 92, 100, 110, 116, 124, 124, 124]) te_31_36 rfl (by decide) rfl (fun q6 => ?_) (fun i t e q6 => ?_)
      · skip
        refine Tx.iconst hC te_31_137 rfl ?_
        exact Tx.ireturn hC te_31_138 rfl (fun hr => show K (-1) m2 from H _ _ r1I.cs hF3n)
      · have hi : i = 0 ∨ i = 1 ∨ i = 2 ∨ i = 3 ∨ i = 4 ∨ i = 5 ∨ i = 6 ∨ i = 7 := by
          have := (List.getElem?_eq_some_iff.mp e).1
          simp only [List.length_cons, List.length_nil] at this
          omega
        rcases hi with hi | hi | hi | hi | hi | hi | hi | hi
        · subst hi
          cases (show some 84 = some t from e)
          refine Tx.aload_n hC te_31_84 rfl ?_
          refine Tx.getR hC te_31_85 rfl rfl rfl ?_
          refine Tx.getI hC te_31_88 rfl rfl rfl (fun v7 v7e v7i => ?_)
          unfold InI at v7i
          exact Tx.ireturn hC te_31_91 rfl (fun hr => show K v7 m2 from H _ _ r1I.cs hF3n)
        · subst hi
          cases (show some 92 = some t from e)
          refine Tx.aload_n hC te_31_92 rfl ?_
          refine Tx.getR hC te_31_93 rfl rfl rfl ?_
          refine Tx.virtI hC te_31_96 mt_32 (args := [.inr 9]) (rest := []) (c' := 0) (s' := 0) rfl rfl rfl rfl rfl rfl rfl rfl rfl rfl ?_
          refine f_32 (W := 9) ⟨rfl, rfl, rfl, rfl, rfl⟩ (fun r8 r8i => ?_)
          unfold InI at r8i
          exact Tx.ireturn hC te_31_99 rfl (fun hr => show K r8 m2 from H _ _ r1I.cs hF3n)
        · subst hi
          cases (show some 100 = some t from e)
          refine Tx.aload_n hC te_31_100 rfl ?_
          refine Tx.getR hC te_31_101 rfl rfl rfl ?_
          refine Tx.iconst hC te_31_104 rfl ?_
          refine Tx.iconst hC te_31_105 rfl ?_
          refine Tx.virtI hC te_31_106 mt_35 (args := [.inr 1, .inl (-1), .inl 1]) (rest := []) (c' := 0) (s' := 0) rfl rfl rfl rfl rfl rfl rfl rfl rfl rfl ?_
          refine f_35 r1I.cs.1.b (fun r11 r11i => ?_)
          unfold InI at r11i
          exact Tx.ireturn hC te_31_109 rfl (fun hr => show K r11 m2 from H _ _ r1I.cs hF3n)
        · subst hi
          cases (show some 110 = some t from e)
          refine Tx.aload_n hC te_31_110 rfl ?_
          refine Tx.iconst hC te_31_111 rfl ?_
          refine Tx.virtI hC te_31_112 mt_41 (args := [.inr 0, .inl 1]) (rest := []) (c' := 0) (s' := 0) rfl rfl rfl rfl rfl rfl rfl rfl rfl rfl ?_
          refine f_41 r1I.cs.1.b (fun r14 r14i => ?_)
          unfold InI at r14i
          exact Tx.ireturn hC te_31_115 rfl (fun hr => show K r14 m2 from H _ _ r1I.cs hF3n)
        · subst hi
          cases (show some 116 = some t from e)
          refine Tx.aload_n hC te_31_116 rfl ?_
          refine Tx.getR hC te_31_117 rfl rfl rfl ?_
          refine Tx.virtI hC te_31_120 mt_42 (args := [.inr 1]) (rest := []) (c' := 0) (s' := 0) rfl rfl rfl rfl rfl rfl rfl rfl rfl rfl ?_
          refine f_42 r1I.cs.1.b (fun r17 r17i => ?_)
          unfold InI at r17i
          exact Tx.ireturn hC te_31_123 rfl (fun hr => show K r17 m2 from H _ _ r1I.cs hF3n)
        · subst hi
          cases (show some 124 = some t from e)
          refine Tx.aload_n hC te_31_124 rfl ?_
          refine Tx.getR hC te_31_125 rfl rfl rfl ?_
          refine Tx.getR hC te_31_128 rfl rfl rfl ?_
          refine Tx.iload_n hC te_31_131 rfl ?_
          refine Tx.bipush hC te_31_132 rfl rfl ?_
          refine Tx.isubW hC te_31_134 (fun z20 z20i z20e => ?_)
          unfold InI at z20i z20e
          first | replace z20e := z20e (by omega) | clear z20e
          refine Tx.iald hC te_31_135 rfl (by omega) (fun v21 v21e v21i => ?_)
          unfold InI at v21i
          rw [hF3n 8 _ (by unfold pNb; omega)] at v21e
          have f22 := hI.1.b.cn (o := (Int.toNat z20)) (by omega)
          exact Tx.ireturn hC te_31_136 rfl (fun hr => show K v21 m2 from H _ _ r1I.cs hF3n)
        · subst hi
          cases (show some 124 = some t from e)
          refine Tx.aload_n hC te_31_124 rfl ?_
          refine Tx.getR hC te_31_125 rfl rfl rfl ?_
          refine Tx.getR hC te_31_128 rfl rfl rfl ?_
          refine Tx.iload_n hC te_31_131 rfl ?_
          refine Tx.bipush hC te_31_132 rfl rfl ?_
          refine Tx.isubW hC te_31_134 (fun z23 z23i z23e => ?_)
          unfold InI at z23i z23e
          first | replace z23e := z23e (by omega) | clear z23e
          refine Tx.iald hC te_31_135 rfl (by omega) (fun v24 v24e v24i => ?_)
          unfold InI at v24i
          rw [hF3n 8 _ (by unfold pNb; omega)] at v24e
          have f25 := hI.1.b.cn (o := (Int.toNat z23)) (by omega)
          exact Tx.ireturn hC te_31_136 rfl (fun hr => show K v24 m2 from H _ _ r1I.cs hF3n)
        · subst hi
          cases (show some 124 = some t from e)
          refine Tx.aload_n hC te_31_124 rfl ?_
          refine Tx.getR hC te_31_125 rfl rfl rfl ?_
          refine Tx.getR hC te_31_128 rfl rfl rfl ?_
          refine Tx.iload_n hC te_31_131 rfl ?_
          refine Tx.bipush hC te_31_132 rfl rfl ?_
          refine Tx.isubW hC te_31_134 (fun z26 z26i z26e => ?_)
          unfold InI at z26i z26e
          first | replace z26e := z26e (by omega) | clear z26e
          refine Tx.iald hC te_31_135 rfl (by omega) (fun v27 v27e v27i => ?_)
          unfold InI at v27i
          rw [hF3n 8 _ (by unfold pNb; omega)] at v27e
          have f28 := hI.1.b.cn (o := (Int.toNat z26)) (by omega)
          exact Tx.ireturn hC te_31_136 rfl (fun hr => show K v27 m2 from H _ _ r1I.cs hF3n)
    · replace q5 : ¬ ((p0 : Int) < 1) := q5
      refine Tx.iload_n hC te_31_21 rfl ?_
      refine Tx.iconst hC te_31_22 rfl ?_
      refine Tx.icmp hC (t := 35) te_31_23 (by decide) (fun q29 => ?_) (fun q29 => ?_)
      · replace q29 : 4 < (p0 : Int) := q29
        refine Tx.iload_n hC te_31_35 rfl ?_
        refine Tx.tsw hC (t := 137) (ts := [84, 92, 100, 110, 116, 124, 124, 124]) te_31_36 rfl (by decide) rfl (fun q30 => ?_) (fun i t e q30 => ?_)
        · skip
          refine Tx.iconst hC te_31_137 rfl ?_
          exact Tx.ireturn hC te_31_138 rfl (fun hr => show K (-1) m2 from H _ _ r1I.cs hF3n)
        · have hi : i = 0 ∨ i = 1 ∨ i = 2 ∨ i = 3 ∨ i = 4 ∨ i = 5 ∨ i = 6 ∨ i = 7 := by
            have := (List.getElem?_eq_some_iff.mp e).1
            simp only [List.length_cons, List.length_nil] at this
            omega
          rcases hi with hi | hi | hi | hi | hi | hi | hi | hi
          · subst hi
            cases (show some 84 = some t from e)
            refine Tx.aload_n hC te_31_84 rfl ?_
            refine Tx.getR hC te_31_85 rfl rfl rfl ?_
            refine Tx.getI hC te_31_88 rfl rfl rfl (fun v31 v31e v31i => ?_)
            unfold InI at v31i
            exact Tx.ireturn hC te_31_91 rfl (fun hr => show K v31 m2 from H _ _ r1I.cs hF3n)
          · subst hi
            cases (show some 92 = some t from e)
            refine Tx.aload_n hC te_31_92 rfl ?_
            refine Tx.getR hC te_31_93 rfl rfl rfl ?_
            refine Tx.virtI hC te_31_96 mt_32 (args := [.inr 9]) (rest := []) (c' := 0) (s' := 0) rfl rfl rfl rfl rfl rfl rfl rfl rfl rfl ?_
            refine f_32 (W := 9) ⟨rfl, rfl, rfl, rfl, rfl⟩ (fun r32 r32i => ?_)
            unfold InI at r32i
            exact Tx.ireturn hC te_31_99 rfl (fun hr => show K r32 m2 from H _ _ r1I.cs hF3n)
          · subst hi
            cases (show some 100 = some t from e)
            refine Tx.aload_n hC te_31_100 rfl ?_
            refine Tx.getR hC te_31_101 rfl rfl rfl ?_
            refine Tx.iconst hC te_31_104 rfl ?_
            refine Tx.iconst hC te_31_105 rfl ?_
            refine Tx.virtI hC te_31_106 mt_35 (args := [.inr 1, .inl (-1), .inl 1]) (rest := []) (c' := 0) (s' := 0) rfl rfl rfl rfl rfl rfl rfl rfl rfl rfl ?_
            refine f_35 r1I.cs.1.b (fun r35 r35i => ?_)
            unfold InI at r35i
            exact Tx.ireturn hC te_31_109 rfl (fun hr => show K r35 m2 from H _ _ r1I.cs hF3n)
          · subst hi
            cases (show some 110 = some t from e)
            refine Tx.aload_n hC te_31_110 rfl ?_
            refine Tx.iconst hC te_31_111 rfl ?_
            refine Tx.virtI hC te_31_112 mt_41 (args := [.inr 0, .inl 1]) (rest := []) (c' := 0) (s' := 0) rfl rfl rfl rfl rfl rfl rfl rfl rfl rfl ?_
            refine f_41 r1I.cs.1.b (fun r38 r38i => ?_)
            unfold InI at r38i
            exact Tx.ireturn hC te_31_115 rfl (fun hr => show K r38 m2 from H _ _ r1I.cs hF3n)
          · subst hi
            cases (show some 116 = some t from e)
            refine Tx.aload_n hC te_31_116 rfl ?_
            refine Tx.getR hC te_31_117 rfl rfl rfl ?_
            refine Tx.virtI hC te_31_120 mt_42 (args := [.inr 1]) (rest := []) (c' := 0) (s' := 0) rfl rfl rfl rfl rfl rfl rfl rfl rfl rfl ?_
            refine f_42 r1I.cs.1.b (fun r41 r41i => ?_)
            unfold InI at r41i
            exact Tx.ireturn hC te_31_123 rfl (fun hr => show K r41 m2 from H _ _ r1I.cs hF3n)
          · subst hi
            cases (show some 124 = some t from e)
            refine Tx.aload_n hC te_31_124 rfl ?_
            refine Tx.getR hC te_31_125 rfl rfl rfl ?_
            refine Tx.getR hC te_31_128 rfl rfl rfl ?_
            refine Tx.iload_n hC te_31_131 rfl ?_
            refine Tx.bipush hC te_31_132 rfl rfl ?_
            refine Tx.isubW hC te_31_134 (fun z44 z44i z44e => ?_)
            unfold InI at z44i z44e
            first | replace z44e := z44e (by omega) | clear z44e
            refine Tx.iald hC te_31_135 rfl (by omega) (fun v45 v45e v45i => ?_)
            unfold InI at v45i
            rw [hF3n 8 _ (by unfold pNb; omega)] at v45e
            have f46 := hI.1.b.cn (o := (Int.toNat z44)) (by omega)
            exact Tx.ireturn hC te_31_136 rfl (fun hr => show K v45 m2 from H _ _ r1I.cs hF3n)
          · subst hi
            cases (show some 124 = some t from e)
            refine Tx.aload_n hC te_31_124 rfl ?_
            refine Tx.getR hC te_31_125 rfl rfl rfl ?_
            refine Tx.getR hC te_31_128 rfl rfl rfl ?_
            refine Tx.iload_n hC te_31_131 rfl ?_
            refine Tx.bipush hC te_31_132 rfl rfl ?_
            refine Tx.isubW hC te_31_134 (fun z47 z47i z47e => ?_)
            unfold InI at z47i z47e
            first | replace z47e := z47e (by omega) | clear z47e
            refine Tx.iald hC te_31_135 rfl (by omega) (fun v48 v48e v48i => ?_)
            unfold InI at v48i
            rw [hF3n 8 _ (by unfold pNb; omega)] at v48e
            have f49 := hI.1.b.cn (o := (Int.toNat z47)) (by omega)
            exact Tx.ireturn hC te_31_136 rfl (fun hr => show K v48 m2 from H _ _ r1I.cs hF3n)
          · subst hi
            cases (show some 124 = some t from e)
            refine Tx.aload_n hC te_31_124 rfl ?_
            refine Tx.getR hC te_31_125 rfl rfl rfl ?_
            refine Tx.getR hC te_31_128 rfl rfl rfl ?_
            refine Tx.iload_n hC te_31_131 rfl ?_
            refine Tx.bipush hC te_31_132 rfl rfl ?_
            refine Tx.isubW hC te_31_134 (fun z50 z50i z50e => ?_)
            unfold InI at z50i z50e
            first | replace z50e := z50e (by omega) | clear z50e
            refine Tx.iald hC te_31_135 rfl (by omega) (fun v51 v51e v51i => ?_)
            unfold InI at v51i
            rw [hF3n 8 _ (by unfold pNb; omega)] at v51e
            have f52 := hI.1.b.cn (o := (Int.toNat z50)) (by omega)
            exact Tx.ireturn hC te_31_136 rfl (fun hr => show K v51 m2 from H _ _ r1I.cs hF3n)
      · replace q29 : ¬ (4 < (p0 : Int)) := q29
        refine Tx.aload_n hC te_31_26 rfl ?_
        refine Tx.getI hC te_31_27 rfl rfl rfl (fun v53 v53e v53i => ?_)
        unfold InI at v53i
        have f54 := r1I.1.so
        refine Tx.ifc hC (t := 35) te_31_30 (by decide) (fun q55 => ?_) (fun q55 => ?_)
        · replace q55 : ¬ (v53 : Int) = 0 := q55
          refine Tx.iload_n hC te_31_35 rfl ?_
          refine Tx.tsw hC (t := 137) (ts := [84, 92, 100, 110, 116, 124, 124, 124]) te_31_36 rfl (by decide) rfl (fun q56 => ?_) (fun i t e q56 => ?_)
          · skip
            refine Tx.iconst hC te_31_137 rfl ?_
            exact Tx.ireturn hC te_31_138 rfl (fun hr => show K (-1) m2 from H _ _ r1I.cs hF3n)
          · have hi : i = 0 ∨ i = 1 ∨ i = 2 ∨ i = 3 ∨ i = 4 ∨ i = 5 ∨ i = 6 ∨ i = 7 := by
              have := (List.getElem?_eq_some_iff.mp e).1
              simp only [List.length_cons, List.length_nil] at this
              omega
            rcases hi with hi | hi | hi | hi | hi | hi | hi | hi
            · subst hi
              cases (show some 84 = some t from e)
              refine Tx.aload_n hC te_31_84 rfl ?_
              refine Tx.getR hC te_31_85 rfl rfl rfl ?_
              refine Tx.getI hC te_31_88 rfl rfl rfl (fun v57 v57e v57i => ?_)
              unfold InI at v57i
              exact Tx.ireturn hC te_31_91 rfl (fun hr => show K v57 m2 from H _ _ r1I.cs hF3n)
            · subst hi
              cases (show some 92 = some t from e)
              refine Tx.aload_n hC te_31_92 rfl ?_
              refine Tx.getR hC te_31_93 rfl rfl rfl ?_
              refine Tx.virtI hC te_31_96 mt_32 (args := [.inr 9]) (rest := []) (c' := 0) (s' := 0) rfl rfl rfl rfl rfl rfl rfl rfl rfl rfl ?_
              refine f_32 (W := 9) ⟨rfl, rfl, rfl, rfl, rfl⟩ (fun r58 r58i => ?_)
              unfold InI at r58i
              exact Tx.ireturn hC te_31_99 rfl (fun hr => show K r58 m2 from H _ _ r1I.cs hF3n)
            · subst hi
              cases (show some 100 = some t from e)
              refine Tx.aload_n hC te_31_100 rfl ?_
              refine Tx.getR hC te_31_101 rfl rfl rfl ?_
              refine Tx.iconst hC te_31_104 rfl ?_
              refine Tx.iconst hC te_31_105 rfl ?_
              refine Tx.virtI hC te_31_106 mt_35 (args := [.inr 1, .inl (-1), .inl 1]) (rest := []) (c' := 0) (s' := 0) rfl rfl rfl rfl rfl rfl rfl rfl rfl rfl ?_
              refine f_35 r1I.cs.1.b (fun r61 r61i => ?_)
              unfold InI at r61i
              exact Tx.ireturn hC te_31_109 rfl (fun hr => show K r61 m2 from H _ _ r1I.cs hF3n)
            · subst hi
              cases (show some 110 = some t from e)
              refine Tx.aload_n hC te_31_110 rfl ?_
              refine Tx.iconst hC te_31_111 rfl ?_
              refine Tx.virtI hC te_31_112 mt_41 (args := [.inr 0, .inl 1]) (rest := []) (c' := 0) (s' := 0) rfl rfl rfl rfl rfl rfl rfl rfl rfl rfl ?_
              refine f_41 r1I.cs.1.b (fun r64 r64i => ?_)
              unfold InI at r64i
              exact Tx.ireturn hC te_31_115 rfl (fun hr => show K r64 m2 from H _ _ r1I.cs hF3n)
            · subst hi
              cases (show some 116 = some t from e)
              refine Tx.aload_n hC te_31_116 rfl ?_
              refine Tx.getR hC te_31_117 rfl rfl rfl ?_
              refine Tx.virtI hC te_31_120 mt_42 (args := [.inr 1]) (rest := []) (c' := 0) (s' := 0) rfl rfl rfl rfl rfl rfl rfl rfl rfl rfl ?_
              refine f_42 r1I.cs.1.b (fun r67 r67i => ?_)
              unfold InI at r67i
              exact Tx.ireturn hC te_31_123 rfl (fun hr => show K r67 m2 from H _ _ r1I.cs hF3n)
            · subst hi
              cases (show some 124 = some t from e)
              refine Tx.aload_n hC te_31_124 rfl ?_
              refine Tx.getR hC te_31_125 rfl rfl rfl ?_
              refine Tx.getR hC te_31_128 rfl rfl rfl ?_
              refine Tx.iload_n hC te_31_131 rfl ?_
              refine Tx.bipush hC te_31_132 rfl rfl ?_
              refine Tx.isubW hC te_31_134 (fun z70 z70i z70e => ?_)
              unfold InI at z70i z70e
              first | replace z70e := z70e (by omega) | clear z70e
              refine Tx.iald hC te_31_135 rfl (by omega) (fun v71 v71e v71i => ?_)
              unfold InI at v71i
              rw [hF3n 8 _ (by unfold pNb; omega)] at v71e
              have f72 := hI.1.b.cn (o := (Int.toNat z70)) (by omega)
              exact Tx.ireturn hC te_31_136 rfl (fun hr => show K v71 m2 from H _ _ r1I.cs hF3n)
            · subst hi
              cases (show some 124 = some t from e)
              refine Tx.aload_n hC te_31_124 rfl ?_
              refine Tx.getR hC te_31_125 rfl rfl rfl ?_
              refine Tx.getR hC te_31_128 rfl rfl rfl ?_
              refine Tx.iload_n hC te_31_131 rfl ?_
              refine Tx.bipush hC te_31_132 rfl rfl ?_
              refine Tx.isubW hC te_31_134 (fun z73 z73i z73e => ?_)
              unfold InI at z73i z73e
              first | replace z73e := z73e (by omega) | clear z73e
              refine Tx.iald hC te_31_135 rfl (by omega) (fun v74 v74e v74i => ?_)
              unfold InI at v74i
              rw [hF3n 8 _ (by unfold pNb; omega)] at v74e
              have f75 := hI.1.b.cn (o := (Int.toNat z73)) (by omega)
              exact Tx.ireturn hC te_31_136 rfl (fun hr => show K v74 m2 from H _ _ r1I.cs hF3n)
            · subst hi
              cases (show some 124 = some t from e)
              refine Tx.aload_n hC te_31_124 rfl ?_
              refine Tx.getR hC te_31_125 rfl rfl rfl ?_
              refine Tx.getR hC te_31_128 rfl rfl rfl ?_
              refine Tx.iload_n hC te_31_131 rfl ?_
              refine Tx.bipush hC te_31_132 rfl rfl ?_
              refine Tx.isubW hC te_31_134 (fun z76 z76i z76e => ?_)
              unfold InI at z76i z76e
              first | replace z76e := z76e (by omega) | clear z76e
              refine Tx.iald hC te_31_135 rfl (by omega) (fun v77 v77e v77i => ?_)
              unfold InI at v77i
              rw [hF3n 8 _ (by unfold pNb; omega)] at v77e
              have f78 := hI.1.b.cn (o := (Int.toNat z76)) (by omega)
              exact Tx.ireturn hC te_31_136 rfl (fun hr => show K v77 m2 from H _ _ r1I.cs hF3n)
        · replace q55 : ¬ (¬ (v53 : Int) = 0) := q55
          refine Tx.iconst hC te_31_33 rfl ?_
          exact Tx.ireturn hC te_31_34 rfl (fun hr => show K (-1) m2 from H _ _ r1I.cs hF3n)
  · replace q4 : ¬ (¬ (p0 : Int) = 0) := q4
    refine Tx.aload_n hC te_31_8 rfl ?_
    refine Tx.getR hC te_31_9 rfl rfl rfl ?_
    refine Tx.getI hC te_31_12 rfl rfl rfl (fun v79 v79e v79i => ?_)
    unfold InI at v79i
    rw [hF3n 1 _ (by unfold pNb; omega)] at v79e
    exact Tx.ireturn hC te_31_15 rfl (fun hr => show K v79 m2 from H _ _ r1I.cs hF3n)
theorem f_65 {S : Nat × (Nat → Int32)} {n : Nat} {mem : MM} {K : Int → MM → Prop} {E : Nat → MM → Prop} (hI : ClS mem) {p0 p1 : Int} (H : ∀ r m', ClS m' → Frm pNb mem m' → K r m') (HE : ∀ e m', (e = 2 ∨ e = 3) → ClS m' → Frm pNb mem m' → E e m') : CQI (Ex S (n + 17)) 65 [.inr 0, .inl p0, .inl p1] mem K E := by
  refine CY.of (k := 0) mt_65 rfl rfl (fun hv => ?_)
  have hC := Ex.mono S (n + 16)
  have ii_p0 : InI p0 := hv (.inl p0) (by simp)
  unfold InI at ii_p0
  have ii_p1 : InI p1 := hv (.inl p1) (by simp)
  unfold InI at ii_p1
  clear hv
  have h8 := hI.1.b.1
  show Tx (Ex S (n + 16)) S M_65 (kI K E) 0 0 0 [some (.inr 0), some (.inl p0), some (.inl p1)] [] mem
  refine Tx.aload_n hC te_65_0 rfl ?_
  refine Tx.iload_n hC te_65_1 rfl ?_
  refine Tx.virtV hC te_65_2 mt_57 (args := [.inr 0, .inl p0]) (rest := []) (c' := 1) (s' := 6) rfl rfl rfl rfl rfl rfl rfl rfl rfl rfl ?_
  refine f_57 (fun r1a r1b => ?_) (HE 2 _ (by omega) hI Frm.rf)
  refine Tx.iload_n hC te_65_5 rfl ?_
  refine Tx.iconst hC te_65_6 rfl ?_
  refine Tx.statV hC te_65_7 (by decide) mt_66 (args := [.inl p1, .inl 5]) (rest := []) (c' := 2) (s' := 12) rfl rfl rfl rfl rfl rfl rfl ?_
  refine f_66 (fun r4a r4b => ?_) (HE 3 _ (by omega) hI Frm.rf)
  refine Tx.iload_n hC te_65_10 rfl ?_
  refine Tx.ifc hC (t := 24) te_65_11 (by decide) (fun q7 => ?_) (fun q7 => ?_)
  · replace q7 : ¬ (p1 : Int) = 0 := q7
    refine Tx.iload_n hC te_65_24 rfl ?_
    refine Tx.iconst hC te_65_25 rfl ?_
    refine Tx.icmp hC (t := 39) te_65_26 (by decide) (fun q8 => ?_) (fun q8 => ?_)
    · replace q8 : ¬ (p1 : Int) = 5 := q8
      refine Tx.aload_n hC te_65_39 rfl ?_
      refine Tx.getR hC te_65_40 rfl rfl rfl ?_
      refine Tx.getR hC te_65_43 rfl rfl rfl ?_
      refine Tx.iload_n hC te_65_46 rfl ?_
      refine Tx.iconst hC te_65_47 rfl ?_
      refine Tx.imulW hC te_65_48 (fun z9 z9i z9e => ?_)
      unfold InI at z9i z9e
      first | replace z9e := z9e (by omega) | clear z9e
      refine Tx.iload_n hC te_65_49 rfl ?_
      refine Tx.iaddW hC te_65_50 (fun z10 z10i z10e => ?_)
      unfold InI at z10i z10e
      first | replace z10e := z10e (by omega) | clear z10e
      refine Tx.iconst hC te_65_51 rfl ?_
      refine Tx.isubW hC te_65_52 (fun z11 z11i z11e => ?_)
      unfold InI at z11i z11e
      first | replace z11e := z11e (by omega) | clear z11e
      refine Tx.iald hC te_65_53 rfl (by omega) (fun v12 v12e v12i => ?_)
      unfold InI at v12i
      exact Tx.ireturn hC te_65_54 rfl (fun hr => show K v12 mem from H _ _ hI Frm.rf)
    · replace q8 : ¬ (¬ (p1 : Int) = 5) := q8
      refine Tx.aload_n hC te_65_29 rfl ?_
      refine Tx.getR hC te_65_30 rfl rfl rfl ?_
      refine Tx.getR hC te_65_33 rfl rfl rfl ?_
      refine Tx.iload_n hC te_65_36 rfl ?_
      refine Tx.iald hC te_65_37 rfl (by omega) (fun v13 v13e v13i => ?_)
      unfold InI at v13i
      exact Tx.ireturn hC te_65_38 rfl (fun hr => show K v13 mem from H _ _ hI Frm.rf)
  · replace q7 : ¬ (¬ (p1 : Int) = 0) := q7
    refine Tx.aload_n hC te_65_14 rfl ?_
    refine Tx.getR hC te_65_15 rfl rfl rfl ?_
    refine Tx.getR hC te_65_18 rfl rfl rfl ?_
    refine Tx.iload_n hC te_65_21 rfl ?_
    refine Tx.iald hC te_65_22 rfl (by omega) (fun v14 v14e v14i => ?_)
    unfold InI at v14i
    have f15 := hI.1.b.kd (o := (Int.toNat p0)) (by omega)
    exact Tx.ireturn hC te_65_23 rfl (fun hr => show K v14 mem from H _ _ hI Frm.rf)
theorem f_68 {S : Nat × (Nat → Int32)} {n : Nat} {mem : MM} {K : Int → MM → Prop} {E : Nat → MM → Prop} (hI : ClS mem) {p0 p1 : Int} (H : ∀ r m', ClS m' → Frm pNb mem m' → K r m') (HE : ∀ e m', (e = 1 ∨ e = 2 ∨ e = 3) → ClS m' → Frm pNb mem m' → E e m') : CQI (Ex S (n + 17)) 68 [.inr 0, .inl p0, .inl p1] mem K E := by
  refine CY.of (k := 0) mt_68 rfl rfl (fun hv => ?_)
  have hC := Ex.mono S (n + 16)
  have ii_p0 : InI p0 := hv (.inl p0) (by simp)
  unfold InI at ii_p0
  have ii_p1 : InI p1 := hv (.inl p1) (by simp)
  unfold InI at ii_p1
  clear hv
  have h8 := hI.1.b.1
  show Tx (Ex S (n + 16)) S M_68 (kI K E) 0 0 0 [some (.inr 0), some (.inl p0), some (.inl p1)] [] mem
  refine Tx.aload_n hC te_68_0 rfl ?_
  refine Tx.virtV hC te_68_1 mt_69 (args := [.inr 0]) (rest := []) (c' := 1) (s' := 6) rfl rfl rfl rfl rfl rfl rfl rfl rfl rfl ?_
  refine f_69 hI (fun m2 r1R hF3 => ?_) (fun m2 r1C hF3 => HE 1 _ (by omega) r1C (Frm.rf.tr hF3))
  have r1w := r1R.1.w.2
  have hF3n : Frm pNb mem m2 := Frm.rf.tr hF3
  refine Tx.aload_n hC te_68_4 rfl ?_
  refine Tx.iload_n hC te_68_5 rfl ?_
  refine Tx.virtV hC te_68_6 mt_70 (args := [.inr 0, .inl p0]) (rest := []) (c' := 2) (s' := 12) rfl rfl rfl rfl rfl rfl rfl rfl rfl rfl ?_
  refine f_70 (fun r4a r4b => ?_) (HE 2 _ (by omega) r1R.cs hF3n)
  refine Tx.iload_n hC te_68_9 rfl ?_
  refine Tx.iconst hC te_68_10 rfl ?_
  refine Tx.statV hC te_68_11 (by decide) mt_66 (args := [.inl p1, .inl 3]) (rest := []) (c' := 3) (s' := 18) rfl rfl rfl rfl rfl rfl rfl ?_
  refine f_66 (fun r7a r7b => ?_) (HE 3 _ (by omega) r1R.cs hF3n)
  refine Tx.iload_n hC te_68_14 rfl ?_
  refine Tx.tsw hC (t := 70) (ts := [40, 50, 60]) te_68_15 rfl (by decide) rfl (fun q10 => ?_) (fun i t e q10 => ?_)
  · skip
    refine Tx.aload_n hC te_68_70 rfl ?_
    refine Tx.getR hC te_68_71 rfl rfl rfl ?_
    refine Tx.getR hC te_68_74 rfl rfl rfl ?_
    refine Tx.iload_n hC te_68_77 rfl ?_
    refine Tx.iald hC te_68_78 rfl (by omega) (fun v11 v11e v11i => ?_)
    unfold InI at v11i
    exact Tx.ireturn hC te_68_79 rfl (fun hr => show K v11 m2 from H _ _ r1R.cs hF3n)
  · have hi : i = 0 ∨ i = 1 ∨ i = 2 := by
      have := (List.getElem?_eq_some_iff.mp e).1
      simp only [List.length_cons, List.length_nil] at this
      omega
    rcases hi with hi | hi | hi
    · subst hi
      cases (show some 40 = some t from e)
      refine Tx.aload_n hC te_68_40 rfl ?_
      refine Tx.getR hC te_68_41 rfl rfl rfl ?_
      refine Tx.getR hC te_68_44 rfl rfl rfl ?_
      refine Tx.iload_n hC te_68_47 rfl ?_
      refine Tx.iald hC te_68_48 rfl (by omega) (fun v12 v12e v12i => ?_)
      unfold InI at v12i
      exact Tx.ireturn hC te_68_49 rfl (fun hr => show K v12 m2 from H _ _ r1R.cs hF3n)
    · subst hi
      cases (show some 50 = some t from e)
      refine Tx.aload_n hC te_68_50 rfl ?_
      refine Tx.getR hC te_68_51 rfl rfl rfl ?_
      refine Tx.getR hC te_68_54 rfl rfl rfl ?_
      refine Tx.iload_n hC te_68_57 rfl ?_
      refine Tx.iald hC te_68_58 rfl (by omega) (fun v13 v13e v13i => ?_)
      unfold InI at v13i
      exact Tx.ireturn hC te_68_59 rfl (fun hr => show K v13 m2 from H _ _ r1R.cs hF3n)
    · subst hi
      cases (show some 60 = some t from e)
      refine Tx.aload_n hC te_68_60 rfl ?_
      refine Tx.getR hC te_68_61 rfl rfl rfl ?_
      refine Tx.getR hC te_68_64 rfl rfl rfl ?_
      refine Tx.iload_n hC te_68_67 rfl ?_
      refine Tx.iald hC te_68_68 rfl (by omega) (fun v14 v14e v14i => ?_)
      unfold InI at v14i
      exact Tx.ireturn hC te_68_69 rfl (fun hr => show K v14 m2 from H _ _ r1R.cs hF3n)
theorem f_72 {S : Nat × (Nat → Int32)} {n : Nat} {mem : MM} {K : Int → MM → Prop} {E : Nat → MM → Prop} (hI : ClS mem) {p0 p1 p2 : Int} (H : ∀ r m', ClS m' → Frm pNb mem m' → K r m') (HE : ∀ e m', (e = 2 ∨ e = 0 ∨ e = 1) → ClS m' → Frm pNb mem m' → E e m') : CQI (Ex S (n + 17)) 72 [.inr 0, .inl p0, .inl p1, .inl p2] mem K E := by
  refine CY.of (k := 1) mt_72 rfl rfl (fun hv => ?_)
  have hC := Ex.mono S (n + 16)
  have ii_p0 : InI p0 := hv (.inl p0) (by simp)
  unfold InI at ii_p0
  have ii_p1 : InI p1 := hv (.inl p1) (by simp)
  unfold InI at ii_p1
  have ii_p2 : InI p2 := hv (.inl p2) (by simp)
  unfold InI at ii_p2
  clear hv
  have h8 := hI.1.b.1
  show Tx (Ex S (n + 16)) S M_72 (kI K E) 0 0 0 [some (.inr 0), some (.inl p0), some (.inl p1), some (.inl p2), none] [] mem
  refine Tx.aload_n hC te_72_0 rfl ?_
  refine Tx.iload_n hC te_72_1 rfl ?_
  refine Tx.virtV hC te_72_2 mt_57 (args := [.inr 0, .inl p0]) (rest := []) (c' := 1) (s' := 6) rfl rfl rfl rfl rfl rfl rfl rfl rfl rfl ?_
  refine f_57 (fun r1a r1b => ?_) (HE 2 _ (by omega) hI Frm.rf)
  refine Tx.aload_n hC te_72_5 rfl ?_
  refine Tx.iload_n hC te_72_6 rfl ?_
  refine Tx.virtV hC te_72_7 mt_57 (args := [.inr 0, .inl p1]) (rest := []) (c' := 2) (s' := 12) rfl rfl rfl rfl rfl rfl rfl rfl rfl rfl ?_
  refine f_57 (fun r4a r4b => ?_) (HE 2 _ (by omega) hI Frm.rf)
  refine Tx.aload_n hC te_72_10 rfl ?_
  refine Tx.iload_n hC te_72_11 rfl ?_
  refine Tx.virtV hC te_72_12 mt_73 (args := [.inr 0, .inl p2]) (rest := []) (c' := 5) (s' := 30) rfl rfl rfl rfl rfl rfl rfl rfl rfl rfl ?_
  refine f_73 hI (fun m8 r7R hF9 r7a r7b => ?_) (fun r7e m8 r7q r7C hF9 => HE _ _ (by omega) r7C (Frm.rf.tr hF9))
  have r7w := r7R.1.w.2
  have r7y := r7R.1.r
  have hF9n : Frm pNb mem m8 := Frm.rf.tr hF9
  refine Tx.aload_n hC te_72_15 rfl ?_
  refine Tx.getR hC te_72_16 rfl rfl rfl ?_
  refine Tx.getR hC te_72_19 rfl rfl rfl ?_
  refine Tx.iload_n hC te_72_22 rfl ?_
  refine Tx.bipush hC te_72_23 rfl rfl ?_
  refine Tx.imulW hC te_72_25 (fun z10 z10i z10e => ?_)
  unfold InI at z10i z10e
  first | replace z10e := z10e (by omega) | clear z10e
  refine Tx.iload_n hC te_72_26 rfl ?_
  refine Tx.iaddW hC te_72_27 (fun z11 z11i z11e => ?_)
  unfold InI at z11i z11e
  first | replace z11e := z11e (by omega) | clear z11e
  refine Tx.iald hC te_72_28 rfl (by omega) (fun v12 v12e v12i => ?_)
  unfold InI at v12i
  refine Tx.istore hC te_72_29 rfl ?_
  refine Tx.iload hC te_72_31 rfl ?_
  refine Tx.ldc hC (z := (-100000)) te_72_33 rfl rfl rfl rfl ?_
  refine Tx.icmp hC (t := 44) te_72_35 (by decide) (fun q13 => ?_) (fun q13 => ?_)
  · replace q13 : ¬ (v12 : Int) = (-100000) := q13
    refine Tx.iload hC te_72_44 rfl ?_
    exact Tx.ireturn hC te_72_46 rfl (fun hr => show K v12 m8 from H _ _ r7R.cs hF9n)
  · replace q13 : ¬ (¬ (v12 : Int) = (-100000)) := q13
    refine Tx.sipush hC te_72_38 rfl rfl ?_
    refine Tx.goto hC (t := 46) te_72_41 (by decide) ?_
    exact Tx.ireturn hC te_72_46 rfl (fun hr => show K (-1000) m8 from H _ _ r7R.cs hF9n)
theorem f_79 {S : Nat × (Nat → Int32)} {n : Nat} {mem : MM} {K : Int → MM → Prop} {E : Nat → MM → Prop} (hI : ClS mem) {p0 p1 : Int} (H : ∀ r m', ClS m' → Frm pNb mem m' → K r m') (HE : ∀ e m', (e = 2 ∨ e = 0 ∨ e = 1) → ClS m' → Frm pNb mem m' → E e m') : CQI (Ex S (n + 17)) 79 [.inr 0, .inl p0, .inl p1] mem K E := by
  refine CY.of (k := 0) mt_79 rfl rfl (fun hv => ?_)
  have hC := Ex.mono S (n + 16)
  have ii_p0 : InI p0 := hv (.inl p0) (by simp)
  unfold InI at ii_p0
  have ii_p1 : InI p1 := hv (.inl p1) (by simp)
  unfold InI at ii_p1
  clear hv
  have h8 := hI.1.b.1
  show Tx (Ex S (n + 16)) S M_79 (kI K E) 0 0 0 [some (.inr 0), some (.inl p0), some (.inl p1)] [] mem
  refine Tx.aload_n hC te_79_0 rfl ?_
  refine Tx.iload_n hC te_79_1 rfl ?_
  refine Tx.virtV hC te_79_2 mt_57 (args := [.inr 0, .inl p0]) (rest := []) (c' := 1) (s' := 6) rfl rfl rfl rfl rfl rfl rfl rfl rfl rfl ?_
  refine f_57 (fun r1a r1b => ?_) (HE 2 _ (by omega) hI Frm.rf)
  refine Tx.aload_n hC te_79_5 rfl ?_
  refine Tx.iload_n hC te_79_6 rfl ?_
  refine Tx.virtV hC te_79_7 mt_73 (args := [.inr 0, .inl p1]) (rest := []) (c' := 4) (s' := 24) rfl rfl rfl rfl rfl rfl rfl rfl rfl rfl ?_
  refine f_73 hI (fun m5 r4R hF6 r4a r4b => ?_) (fun r4e m5 r4q r4C hF6 => HE _ _ (by omega) r4C (Frm.rf.tr hF6))
  have r4w := r4R.1.w.2
  have r4y := r4R.1.r
  have hF6n : Frm pNb mem m5 := Frm.rf.tr hF6
  refine Tx.aload_n hC te_79_10 rfl ?_
  refine Tx.getR hC te_79_11 rfl rfl rfl ?_
  refine Tx.iload_n hC te_79_14 rfl ?_
  refine Tx.virtI hC te_79_15 mt_80 (args := [.inr 19, .inl p0]) (rest := []) (c' := 4) (s' := 24) rfl rfl rfl rfl rfl rfl rfl rfl rfl rfl ?_
  refine CWI.q hC (f_80 r4R.1.r (by omega) (fun r7 r7i => ?_))
  unfold InI at r7i
  exact Tx.ireturn hC te_79_18 rfl (fun hr => show K r7 m5 from H _ _ r4R.cs hF6n)
theorem f_82 {S : Nat × (Nat → Int32)} {n : Nat} {mem : MM} {K : Int → MM → Prop} {E : Nat → MM → Prop} (hI : ClS mem) {p0 : Int} (H : ∀ r m', ClS m' → Frm pNb mem m' → K r m') (HE : ∀ e m', (e = 2) → ClS m' → Frm pNb mem m' → E e m') : CQI (Ex S (n + 17)) 82 [.inr 0, .inl p0] mem K E := by
  refine CY.of (k := 0) mt_82 rfl rfl (fun hv => ?_)
  have hC := Ex.mono S (n + 16)
  have ii_p0 : InI p0 := hv (.inl p0) (by simp)
  unfold InI at ii_p0
  clear hv
  have h8 := hI.1.b.1
  show Tx (Ex S (n + 16)) S M_82 (kI K E) 0 0 0 [some (.inr 0), some (.inl p0)] [] mem
  refine Tx.aload_n hC te_82_0 rfl ?_
  refine Tx.iload_n hC te_82_1 rfl ?_
  refine Tx.virtV hC te_82_2 mt_63 (args := [.inr 0, .inl p0]) (rest := []) (c' := 1) (s' := 6) rfl rfl rfl rfl rfl rfl rfl rfl rfl rfl ?_
  refine f_63 (fun r1a r1b => ?_) (HE 2 _ (by omega) hI Frm.rf)
  refine Tx.aload_n hC te_82_5 rfl ?_
  refine Tx.getR hC te_82_6 rfl rfl rfl ?_
  refine Tx.iload_n hC te_82_9 rfl ?_
  refine Tx.virtI hC te_82_10 mt_36 (args := [.inr 1, .inl p0]) (rest := []) (c' := 1) (s' := 6) rfl rfl rfl rfl rfl rfl rfl rfl rfl rfl ?_
  refine f_36 hI.1.b (fun r4 r4i => ?_)
  unfold InI at r4i
  exact Tx.ireturn hC te_82_13 rfl (fun hr => show K r4 mem from H _ _ hI Frm.rf)
theorem f_84 {S : Nat × (Nat → Int32)} {n : Nat} {mem : MM} {K : Int → MM → Prop} {E : Nat → MM → Prop} (hI : ClS mem) {p0 : Int} (H : ∀ r m', ClS m' → Frm pNb mem m' → K r m') (HE : ∀ e m', (e = 0 ∨ e = 1) → ClS m' → Frm pNb mem m' → E e m') : CQI (Ex S (n + 17)) 84 [.inr 0, .inl p0] mem K E := by
  refine CY.of (k := 0) mt_84 rfl rfl (fun hv => ?_)
  have hC := Ex.mono S (n + 16)
  have ii_p0 : InI p0 := hv (.inl p0) (by simp)
  unfold InI at ii_p0
  clear hv
  have h8 := hI.1.b.1
  show Tx (Ex S (n + 16)) S M_84 (kI K E) 0 0 0 [some (.inr 0), some (.inl p0)] [] mem
  refine Tx.iload_n hC te_84_0 rfl ?_
  refine Tx.statV hC te_84_1 (by decide) mt_74 (args := [.inl p0]) (rest := []) (c' := 1) (s' := 6) rfl rfl rfl rfl rfl rfl rfl ?_
  refine f_74 (fun r1a r1b => ?_) (HE 0 _ (by omega) hI Frm.rf)
  refine Tx.aload_n hC te_84_4 rfl ?_
  refine Tx.virtV hC te_84_5 mt_69 (args := [.inr 0]) (rest := []) (c' := 2) (s' := 12) rfl rfl rfl rfl rfl rfl rfl rfl rfl rfl ?_
  refine f_69 hI (fun m5 r4R hF6 => ?_) (fun m5 r4C hF6 => HE 1 _ (by omega) r4C (Frm.rf.tr hF6))
  have r4w := r4R.1.w.2
  have hF6n : Frm pNb mem m5 := Frm.rf.tr hF6
  refine Tx.aload_n hC te_84_8 rfl ?_
  refine Tx.iload_n hC te_84_9 rfl ?_
  refine Tx.virtR hC te_84_10 mt_85 (args := [.inr 0, .inl p0]) (rest := []) (c' := 2) (s' := 12) rfl rfl rfl rfl rfl rfl rfl rfl rfl rfl ?_
  refine f_85 r4R (by omega) (fun Q m8 hQ r7R hF9 => ?_)
  have hq8 := hQ.rg
  have r7o := (r7R.1.ch Q hQ).1
  have hF9n : Frm pNb mem m8 := hF6n.tr hF9
  refine Tx.getI hC te_84_13 hQ.s0 rfl rfl (fun v10 v10e v10i => ?_)
  unfold InI at v10i
  exact Tx.bret hC te_84_16 rfl (by omega) (show K v10 m8 from H _ _ r7R.cs hF9n)
theorem f_112 {S : Nat × (Nat → Int32)} {n : Nat} {mem : MM} {K : Int → MM → Prop} {E : Nat → MM → Prop} (hI : ClS mem) (H : ∀ r m', ClS m' → Frm pNb mem m' → K r m') (HE : ∀ e m', (e = 1) → ClS m' → Frm pNb mem m' → E e m') : CQI (Ex S (n + 17)) 112 [.inr 0] mem K E := by
  refine CY.of (k := 1) mt_112 rfl rfl (fun hv => ?_)
  have hC := Ex.mono S (n + 16)
  clear hv
  have h8 := hI.1.b.1
  show Tx (Ex S (n + 16)) S M_112 (kI K E) 0 0 0 [some (.inr 0), none] [] mem
  have l_6 : ∀ (N : Nat) (x1 : Int) (m_6 : MM), (1 ≤ x1) → (Rdy m_6) → ((13 - x1).toNat) < N → Frm pNb mem m_6 → Tx (Ex S (n + 16)) S M_112 (kI K E) 1 6 6 [some (.inr 0), some (.inl x1)] [] m_6 := by
    intro N
    induction N with
    | zero => intros; omega
    | succ N ih_6 =>
      intro x1 m_6 i6_0 i6_1 hN_6 hF_6
      refine Tx.iload_n hC te_112_6 rfl ?_
      refine Tx.bipush hC te_112_7 rfl rfl ?_
      refine Tx.icmp hC (t := 31) te_112_9 (by decide) (fun q1 => ?_) (fun q1 => ?_)
      · replace q1 : 12 < (x1 : Int) := q1
        refine Tx.iconst hC te_112_31 rfl ?_
        exact Tx.ireturn hC te_112_32 rfl (fun hr => show K (-1) m_6 from H _ _ i6_1.cs hF_6)
      · replace q1 : ¬ (12 < (x1 : Int)) := q1
        refine Tx.aload_n hC te_112_12 rfl ?_
        refine Tx.iload_n hC te_112_13 rfl ?_
        refine Tx.virtR hC te_112_14 mt_85 (args := [.inr 0, .inl x1]) (rest := []) (c' := 1) (s' := 6) rfl rfl rfl rfl rfl rfl rfl rfl rfl rfl ?_
        refine f_85 i6_1 (by omega) (fun Q m3 hQ r2R hF4 => ?_)
        have hq8 := hQ.rg
        have r2o := (r2R.1.ch Q hQ).1
        have hF4n : Frm pNb mem m3 := hF_6.tr hF4
        refine Tx.getI hC te_112_17 hQ.s0 rfl rfl (fun v5 v5e v5i => ?_)
        unfold InI at v5i
        refine Tx.ifc hC (t := 25) te_112_20 (by decide) (fun q6 => ?_) (fun q6 => ?_)
        · replace q6 : (v5 : Int) = 0 := q6
          refine Tx.iincW hC te_112_25 rfl rfl (fun z7 z7i z7e => ?_)
          unfold InI at z7i z7e
          first | replace z7e := z7e (by omega) | clear z7e
          refine Tx.goto hC (t := 6) te_112_28 (by decide) ?_
          exact ih_6 z7 m3 (by omega) (r2R) (by omega) hF4n
        · replace q6 : ¬ ((v5 : Int) = 0) := q6
          refine Tx.iload_n hC te_112_23 rfl ?_
          exact Tx.ireturn hC te_112_24 rfl (fun hr => show K x1 m3 from H _ _ r2R.cs hF4n)
  refine Tx.aload_n hC te_112_0 rfl ?_
  refine Tx.virtV hC te_112_1 mt_69 (args := [.inr 0]) (rest := []) (c' := 1) (s' := 6) rfl rfl rfl rfl rfl rfl rfl rfl rfl rfl ?_
  refine f_69 hI (fun m9 r8R hF10 => ?_) (fun m9 r8C hF10 => HE 1 _ (by omega) r8C (Frm.rf.tr hF10))
  have r8w := r8R.1.w.2
  have hF10n : Frm pNb mem m9 := Frm.rf.tr hF10
  refine Tx.iconst hC te_112_4 rfl ?_
  refine Tx.istore_n hC te_112_5 rfl ?_
  exact l_6 _ 1 m9 (by omega) (r8R) (Nat.lt_succ_self _) hF10n
theorem f_114 {S : Nat × (Nat → Int32)} {n : Nat} {mem : MM} {K : Int → MM → Prop} {E : Nat → MM → Prop} (hI : ClS mem) {p0 p1 : Int} (H : ∀ r m', ClS m' → Frm pNb mem m' → K r m') (HE : ∀ e m', (e = 2 ∨ e = 0 ∨ e = 1) → ClS m' → Frm pNb mem m' → E e m') : CQI (Ex S (n + 17)) 114 [.inr 0, .inl p0, .inl p1] mem K E := by
  refine CY.of (k := 0) mt_114 rfl rfl (fun hv => ?_)
  have hC := Ex.mono S (n + 16)
  have ii_p0 : InI p0 := hv (.inl p0) (by simp)
  unfold InI at ii_p0
  have ii_p1 : InI p1 := hv (.inl p1) (by simp)
  unfold InI at ii_p1
  clear hv
  have h8 := hI.1.b.1
  show Tx (Ex S (n + 16)) S M_114 (kI K E) 0 0 0 [some (.inr 0), some (.inl p0), some (.inl p1)] [] mem
  refine Tx.aload_n hC te_114_0 rfl ?_
  refine Tx.iload_n hC te_114_1 rfl ?_
  refine Tx.virtV hC te_114_2 mt_57 (args := [.inr 0, .inl p0]) (rest := []) (c' := 1) (s' := 6) rfl rfl rfl rfl rfl rfl rfl rfl rfl rfl ?_
  refine f_57 (fun r1a r1b => ?_) (HE 2 _ (by omega) hI Frm.rf)
  refine Tx.aload_n hC te_114_5 rfl ?_
  refine Tx.iload_n hC te_114_6 rfl ?_
  refine Tx.virtR hC te_114_7 mt_115 (args := [.inr 0, .inl p1]) (rest := []) (c' := 4) (s' := 24) rfl rfl rfl rfl rfl rfl rfl rfl rfl rfl ?_
  refine f_115 hI (fun Q m5 hQ r4R hF6 r4a r4b => ?_) (fun r4e m5 r4q r4C hF6 => HE _ _ (by omega) r4C (Frm.rf.tr hF6))
  have hq8 := hQ.rg
  have r4o := (r4R.1.ch Q hQ).1
  have r4w := r4R.1.w.2
  have hF6n : Frm pNb mem m5 := Frm.rf.tr hF6
  refine Tx.getR hC te_114_10 hQ.s0 rfl rfl ?_
  refine Tx.iload_n hC te_114_13 rfl ?_
  refine Tx.iald hC te_114_14 hQ.s2 (by omega) (fun v7 v7e v7i => ?_)
  unfold InI at v7i
  have f8 := (r4R.1.ch Q hQ).2 (Int.toNat p0) (by omega)
  exact Tx.ireturn hC te_114_15 rfl (fun hr => show K v7 m5 from H _ _ r4R.cs hF6n)
theorem f_117 {S : Nat × (Nat → Int32)} {n : Nat} {mem : MM} {K : Int → MM → Prop} {E : Nat → MM → Prop} (hI : ClS mem) {p0 p1 p2 : Int} (H : ∀ r m', ClS m' → Frm pNb mem m' → K r m') (HE : ∀ e m', (e = 2 ∨ e = 0 ∨ e = 1) → ClS m' → Frm pNb mem m' → E e m') : CQI (Ex S (n + 17)) 117 [.inr 0, .inl p0, .inl p1, .inl p2] mem K E := by
  refine CY.of (k := 0) mt_117 rfl rfl (fun hv => ?_)
  have hC := Ex.mono S (n + 16)
  have ii_p0 : InI p0 := hv (.inl p0) (by simp)
  unfold InI at ii_p0
  have ii_p1 : InI p1 := hv (.inl p1) (by simp)
  unfold InI at ii_p1
  have ii_p2 : InI p2 := hv (.inl p2) (by simp)
  unfold InI at ii_p2
  clear hv
  have h8 := hI.1.b.1
  show Tx (Ex S (n + 16)) S M_117 (kI K E) 0 0 0 [some (.inr 0), some (.inl p0), some (.inl p1), some (.inl p2)] [] mem
  refine Tx.aload_n hC te_117_0 rfl ?_
  refine Tx.iload_n hC te_117_1 rfl ?_
  refine Tx.virtV hC te_117_2 mt_63 (args := [.inr 0, .inl p0]) (rest := []) (c' := 1) (s' := 6) rfl rfl rfl rfl rfl rfl rfl rfl rfl rfl ?_
  refine f_63 (fun r1a r1b => ?_) (HE 2 _ (by omega) hI Frm.rf)
  refine Tx.iload_n hC te_117_5 rfl ?_
  refine Tx.statV hC te_117_6 (by decide) mt_74 (args := [.inl p2]) (rest := []) (c' := 2) (s' := 12) rfl rfl rfl rfl rfl rfl rfl ?_
  refine f_74 (fun r4a r4b => ?_) (HE 0 _ (by omega) hI Frm.rf)
  refine Tx.iload_n hC te_117_9 rfl ?_
  refine Tx.iload_n hC te_117_10 rfl ?_
  refine Tx.statV hC te_117_11 (by decide) mt_118 (args := [.inl p1, .inl p2]) (rest := []) (c' := 3) (s' := 18) rfl rfl rfl rfl rfl rfl rfl ?_
  refine f_118 (fun r7a r7b => ?_) (HE 0 _ (by omega) hI Frm.rf)
  refine Tx.aload_n hC te_117_14 rfl ?_
  refine Tx.iload_n hC te_117_15 rfl ?_
  refine Tx.virtR hC te_117_16 mt_115 (args := [.inr 0, .inl p2]) (rest := []) (c' := 6) (s' := 36) rfl rfl rfl rfl rfl rfl rfl rfl rfl rfl ?_
  refine f_115 hI (fun Q m11 hQ r10R hF12 r10a r10b => ?_) (fun r10e m11 r10q r10C hF12 => HE _ _ (by omega) r10C (Frm.rf.tr hF12))
  have hq8 := hQ.rg
  have r10o := (r10R.1.ch Q hQ).1
  have r10w := r10R.1.w.2
  have hF12n : Frm pNb mem m11 := Frm.rf.tr hF12
  refine Tx.aload_n hC te_117_19 rfl ?_
  refine Tx.getR hC te_117_20 rfl rfl rfl ?_
  refine Tx.iload_n hC te_117_23 rfl ?_
  refine Tx.iload_n hC te_117_24 rfl ?_
  refine Tx.virtI hC te_117_25 mt_119 (args := [.inr Q, .inr 1, .inl p0, .inl p1]) (rest := []) (c' := 6) (s' := 36) rfl rfl rfl rfl rfl rfl rfl rfl hQ.s0 rfl ?_
  refine f_119 hQ (r10R.1.ch Q hQ) r10R.cs.1.b (fun r13 r13i => ?_)
  unfold InI at r13i
  exact Tx.ireturn hC te_117_28 rfl (fun hr => show K r13 m11 from H _ _ r10R.cs hF12n)
theorem f_122 {S : Nat × (Nat → Int32)} {n : Nat} {mem : MM} {K : Int → MM → Prop} {E : Nat → MM → Prop} (hI : ClS mem) {p0 p1 : Int} (H : ∀ r m', ClS m' → Frm pNb mem m' → K r m') (HE : ∀ e m', (e = 2 ∨ e = 0 ∨ e = 1) → ClS m' → Frm pNb mem m' → E e m') : CQI (Ex S (n + 17)) 122 [.inr 0, .inl p0, .inl p1] mem K E := by
  refine CY.of (k := 0) mt_122 rfl rfl (fun hv => ?_)
  have hC := Ex.mono S (n + 16)
  have ii_p0 : InI p0 := hv (.inl p0) (by simp)
  unfold InI at ii_p0
  have ii_p1 : InI p1 := hv (.inl p1) (by simp)
  unfold InI at ii_p1
  clear hv
  have h8 := hI.1.b.1
  show Tx (Ex S (n + 16)) S M_122 (kI K E) 0 0 0 [some (.inr 0), some (.inl p0), some (.inl p1)] [] mem
  refine Tx.aload_n hC te_122_0 rfl ?_
  refine Tx.iload_n hC te_122_1 rfl ?_
  refine Tx.virtV hC te_122_2 mt_57 (args := [.inr 0, .inl p0]) (rest := []) (c' := 1) (s' := 6) rfl rfl rfl rfl rfl rfl rfl rfl rfl rfl ?_
  refine f_57 (fun r1a r1b => ?_) (HE 2 _ (by omega) hI Frm.rf)
  refine Tx.aload_n hC te_122_5 rfl ?_
  refine Tx.iload_n hC te_122_6 rfl ?_
  refine Tx.virtV hC te_122_7 mt_73 (args := [.inr 0, .inl p1]) (rest := []) (c' := 4) (s' := 24) rfl rfl rfl rfl rfl rfl rfl rfl rfl rfl ?_
  refine f_73 hI (fun m5 r4R hF6 r4a r4b => ?_) (fun r4e m5 r4q r4C hF6 => HE _ _ (by omega) r4C (Frm.rf.tr hF6))
  have r4w := r4R.1.w.2
  have r4y := r4R.1.r
  have hF6n : Frm pNb mem m5 := Frm.rf.tr hF6
  refine Tx.aload_n hC te_122_10 rfl ?_
  refine Tx.getR hC te_122_11 rfl rfl rfl ?_
  refine Tx.aload_n hC te_122_14 rfl ?_
  refine Tx.getR hC te_122_15 rfl rfl rfl ?_
  refine Tx.aload_n hC te_122_18 rfl ?_
  refine Tx.getR hC te_122_19 rfl rfl rfl ?_
  refine Tx.aload_n hC te_122_22 rfl ?_
  refine Tx.getR hC te_122_23 rfl rfl rfl ?_
  refine Tx.iload_n hC te_122_26 rfl ?_
  refine Tx.virtV hC te_122_27 mt_123 (args := [.inr 129, .inr 1, .inr 9, .inr 19, .inl p1]) (rest := []) (c' := 4) (s' := 24) rfl rfl rfl rfl rfl rfl rfl rfl rfl rfl ?_
  refine CWV.q hC (f_123 r4R.1.b r4R.1.w r4R.1.r r4R.1.hs (by omega) (fun m8 hF9 r7h => ?_))
  have r7R := Rdy.e_seek r4R hF9 r7h
  have hF9n : Frm pNb mem m8 := hF6n.tr (Frm.mono (P := pHs) hF9 (fun A i q => by unfold pHs at q; unfold pNb; omega))
  refine Tx.aload_n hC te_122_30 rfl ?_
  refine Tx.getR hC te_122_31 rfl rfl rfl ?_
  refine Tx.getI hC te_122_34 rfl rfl rfl (fun v10 v10e v10i => ?_)
  unfold InI at v10i
  refine Tx.ifc hC (t := 52) te_122_37 (by decide) (fun q11 => ?_) (fun q11 => ?_)
  · replace q11 : (v10 : Int) = 0 := q11
    refine Tx.iconst hC te_122_52 rfl ?_
    exact Tx.ireturn hC te_122_53 rfl (fun hr => show K (-1) m8 from H _ _ r7R.cs hF9n)
  · replace q11 : ¬ ((v10 : Int) = 0) := q11
    refine Tx.aload_n hC te_122_40 rfl ?_
    refine Tx.getR hC te_122_41 rfl rfl rfl ?_
    refine Tx.getR hC te_122_44 rfl rfl rfl ?_
    refine Tx.iload_n hC te_122_47 rfl ?_
    refine Tx.iald hC te_122_48 rfl (by omega) (fun v12 v12e v12i => ?_)
    unfold InI at v12i
    refine Tx.goto hC (t := 53) te_122_49 (by decide) ?_
    exact Tx.ireturn hC te_122_53 rfl (fun hr => show K v12 m8 from H _ _ r7R.cs hF9n)
theorem f_136 {S : Nat × (Nat → Int32)} {n : Nat} {mem : MM} {K : Int → MM → Prop} {E : Nat → MM → Prop} (hI : ClS mem) {p0 : Int} (H : ∀ r m', ClS m' → Frm pNb mem m' → K r m') (HE : ∀ e m', (e = 0 ∨ e = 1) → ClS m' → Frm pNb mem m' → E e m') : CQI (Ex S (n + 17)) 136 [.inr 0, .inl p0] mem K E := by
  refine CY.of (k := 0) mt_136 rfl rfl (fun hv => ?_)
  have hC := Ex.mono S (n + 16)
  have ii_p0 : InI p0 := hv (.inl p0) (by simp)
  unfold InI at ii_p0
  clear hv
  have h8 := hI.1.b.1
  show Tx (Ex S (n + 16)) S M_136 (kI K E) 0 0 0 [some (.inr 0), some (.inl p0)] [] mem
  refine Tx.aload_n hC te_136_0 rfl ?_
  refine Tx.iload_n hC te_136_1 rfl ?_
  refine Tx.virtV hC te_136_2 mt_73 (args := [.inr 0, .inl p0]) (rest := []) (c' := 3) (s' := 18) rfl rfl rfl rfl rfl rfl rfl rfl rfl rfl ?_
  refine f_73 hI (fun m2 r1R hF3 r1a r1b => ?_) (fun r1e m2 r1q r1C hF3 => HE _ _ (by omega) r1C (Frm.rf.tr hF3))
  have r1w := r1R.1.w.2
  have r1y := r1R.1.r
  have hF3n : Frm pNb mem m2 := Frm.rf.tr hF3
  refine Tx.aload_n hC te_136_5 rfl ?_
  refine Tx.getR hC te_136_6 rfl rfl rfl ?_
  refine Tx.aload_n hC te_136_9 rfl ?_
  refine Tx.getR hC te_136_10 rfl rfl rfl ?_
  refine Tx.aload_n hC te_136_13 rfl ?_
  refine Tx.getR hC te_136_14 rfl rfl rfl ?_
  refine Tx.aload_n hC te_136_17 rfl ?_
  refine Tx.getR hC te_136_18 rfl rfl rfl ?_
  refine Tx.iload_n hC te_136_21 rfl ?_
  refine Tx.virtV hC te_136_22 mt_123 (args := [.inr 129, .inr 1, .inr 9, .inr 19, .inl p0]) (rest := []) (c' := 3) (s' := 18) rfl rfl rfl rfl rfl rfl rfl rfl rfl rfl ?_
  refine CWV.q hC (f_123 r1R.1.b r1R.1.w r1R.1.r r1R.1.hs (by omega) (fun m5 hF6 r4h => ?_))
  have r4R := Rdy.e_seek r1R hF6 r4h
  have hF6n : Frm pNb mem m5 := hF3n.tr (Frm.mono (P := pHs) hF6 (fun A i q => by unfold pHs at q; unfold pNb; omega))
  refine Tx.aload_n hC te_136_25 rfl ?_
  refine Tx.getR hC te_136_26 rfl rfl rfl ?_
  refine Tx.getI hC te_136_29 rfl rfl rfl (fun v7 v7e v7i => ?_)
  unfold InI at v7i
  refine Tx.ifc hC (t := 45) te_136_32 (by decide) (fun q8 => ?_) (fun q8 => ?_)
  · replace q8 : (v7 : Int) = 0 := q8
    refine Tx.iconst hC te_136_45 rfl ?_
    exact Tx.ireturn hC te_136_46 rfl (fun hr => show K (-1) m5 from H _ _ r4R.cs hF6n)
  · replace q8 : ¬ ((v7 : Int) = 0) := q8
    refine Tx.aload_n hC te_136_35 rfl ?_
    refine Tx.getR hC te_136_36 rfl rfl rfl ?_
    refine Tx.getI hC te_136_39 rfl rfl rfl (fun v9 v9e v9i => ?_)
    unfold InI at v9i
    refine Tx.goto hC (t := 46) te_136_42 (by decide) ?_
    exact Tx.ireturn hC te_136_46 rfl (fun hr => show K v9 m5 from H _ _ r4R.cs hF6n)
theorem f_138 {S : Nat × (Nat → Int32)} {n : Nat} {mem : MM} {K : Int → MM → Prop} {E : Nat → MM → Prop} (hI : ClS mem) (H : ∀ r m', ClS m' → Frm pNb mem m' → K r m') (HE : ∀ e m', (e = 1) → ClS m' → Frm pNb mem m' → E e m') : CQI (Ex S (n + 17)) 138 [.inr 0] mem K E := by
  refine CY.of (k := 1) mt_138 rfl rfl (fun hv => ?_)
  have hC := Ex.mono S (n + 16)
  clear hv
  have h8 := hI.1.b.1
  show Tx (Ex S (n + 16)) S M_138 (kI K E) 0 0 0 [some (.inr 0), none] [] mem
  have l_16 : ∀ (N : Nat) (x1 : Int) (m_16 : MM), (1 ≤ x1) → (Rdy m_16) → ((13 - x1).toNat) < N → Frm pNb mem m_16 → Tx (Ex S (n + 16)) S M_138 (kI K E) 1 6 16 [some (.inr 0), some (.inl x1)] [] m_16 := by
    intro N
    induction N with
    | zero => intros; omega
    | succ N ih_16 =>
      intro x1 m_16 i16_0 i16_1 hN_16 hF_16
      refine Tx.iload_n hC te_138_16 rfl ?_
      refine Tx.bipush hC te_138_17 rfl rfl ?_
      refine Tx.icmp hC (t := 76) te_138_19 (by decide) (fun q1 => ?_) (fun q1 => ?_)
      · replace q1 : 12 < (x1 : Int) := q1
        refine Tx.iconst hC te_138_76 rfl ?_
        exact Tx.ireturn hC te_138_77 rfl (fun hr => show K (-1) m_16 from H _ _ i16_1.cs hF_16)
      · replace q1 : ¬ (12 < (x1 : Int)) := q1
        refine Tx.aload_n hC te_138_22 rfl ?_
        refine Tx.getR hC te_138_23 rfl rfl rfl ?_
        refine Tx.aload_n hC te_138_26 rfl ?_
        refine Tx.getR hC te_138_27 rfl rfl rfl ?_
        refine Tx.aload_n hC te_138_30 rfl ?_
        refine Tx.getR hC te_138_31 rfl rfl rfl ?_
        refine Tx.iload_n hC te_138_34 rfl ?_
        refine Tx.virtV hC te_138_35 mt_75 (args := [.inr 19, .inr 1, .inr 9, .inl x1]) (rest := []) (c' := 1) (s' := 6) rfl rfl rfl rfl rfl rfl rfl rfl rfl rfl ?_
        refine f_75 i16_1.1.b i16_1.1.w i16_1.1.r (fun m3 hF4 r2z => ?_)
        have r2R := Rdy.e_span i16_1 hF4 r2z
        have hF4n : Frm pNb mem m3 := hF_16.tr (hF4.mono (fun A i q => by unfold pRe at q; unfold pNb; omega))
        refine Tx.aload_n hC te_138_38 rfl ?_
        refine Tx.getR hC te_138_39 rfl rfl rfl ?_
        refine Tx.aload_n hC te_138_42 rfl ?_
        refine Tx.getR hC te_138_43 rfl rfl rfl ?_
        refine Tx.aload_n hC te_138_46 rfl ?_
        refine Tx.getR hC te_138_47 rfl rfl rfl ?_
        refine Tx.aload_n hC te_138_50 rfl ?_
        refine Tx.getR hC te_138_51 rfl rfl rfl ?_
        refine Tx.iload_n hC te_138_54 rfl ?_
        refine Tx.virtV hC te_138_55 mt_123 (args := [.inr 129, .inr 1, .inr 9, .inr 19, .inl x1]) (rest := []) (c' := 1) (s' := 6) rfl rfl rfl rfl rfl rfl rfl rfl rfl rfl ?_
        refine CWV.q hC (f_123 r2R.1.b r2R.1.w r2R.1.r r2R.1.hs (by omega) (fun m6 hF7 r5h => ?_))
        have r5R := Rdy.e_seek r2R hF7 r5h
        have hF7n : Frm pNb mem m6 := hF4n.tr (Frm.mono (P := pHs) hF7 (fun A i q => by unfold pHs at q; unfold pNb; omega))
        refine Tx.aload_n hC te_138_58 rfl ?_
        refine Tx.getR hC te_138_59 rfl rfl rfl ?_
        refine Tx.getI hC te_138_62 rfl rfl rfl (fun v8 v8e v8i => ?_)
        unfold InI at v8i
        refine Tx.ifc hC (t := 70) te_138_65 (by decide) (fun q9 => ?_) (fun q9 => ?_)
        · replace q9 : (v8 : Int) = 0 := q9
          refine Tx.iincW hC te_138_70 rfl rfl (fun z10 z10i z10e => ?_)
          unfold InI at z10i z10e
          first | replace z10e := z10e (by omega) | clear z10e
          refine Tx.goto hC (t := 16) te_138_73 (by decide) ?_
          exact ih_16 z10 m6 (by omega) (r5R) (by omega) hF7n
        · replace q9 : ¬ ((v8 : Int) = 0) := q9
          refine Tx.iload_n hC te_138_68 rfl ?_
          exact Tx.ireturn hC te_138_69 rfl (fun hr => show K x1 m6 from H _ _ r5R.cs hF7n)
  refine Tx.aload_n hC te_138_0 rfl ?_
  refine Tx.virtV hC te_138_1 mt_69 (args := [.inr 0]) (rest := []) (c' := 1) (s' := 6) rfl rfl rfl rfl rfl rfl rfl rfl rfl rfl ?_
  refine f_69 hI (fun m12 r11R hF13 => ?_) (fun m12 r11C hF13 => HE 1 _ (by omega) r11C (Frm.rf.tr hF13))
  have r11w := r11R.1.w.2
  have hF13n : Frm pNb mem m12 := Frm.rf.tr hF13
  refine Tx.iconst hC te_138_4 rfl ?_
  refine Tx.aload_n hC te_138_5 rfl ?_
  refine Tx.getR hC te_138_6 rfl rfl rfl ?_
  refine Tx.virtI hC te_138_9 mt_32 (args := [.inr 9]) (rest := [.inl 1]) (c' := 1) (s' := 6) rfl rfl rfl rfl rfl rfl rfl rfl rfl rfl ?_
  refine f_32 (W := 9) ⟨rfl, rfl, rfl, rfl, rfl⟩ (fun r14 r14i => ?_)
  unfold InI at r14i
  refine Tx.statI hC te_138_12 (by decide) mt_40 (args := [.inl 1, .inl r14]) (rest := []) (c' := 1) (s' := 6) rfl rfl rfl rfl rfl rfl rfl ?_
  refine f_40q (fun r17 r17a r17b r17c r17i => ?_)
  unfold InI at r17i
  refine Tx.istore_n hC te_138_15 rfl ?_
  exact l_16 _ r17 m12 (by omega) (r11R) (Nat.lt_succ_self _) hF13n
theorem f_140 {S : Nat × (Nat → Int32)} {n : Nat} {mem : MM} {K : Int → MM → Prop} {E : Nat → MM → Prop} (hI : ClS mem) {p0 p1 : Int} (H : ∀ r m', ClS m' → Frm pNb mem m' → K r m') (HE : ∀ e m', (e = 3 ∨ e = 0 ∨ e = 1) → ClS m' → Frm pNb mem m' → E e m') : CQI (Ex S (n + 17)) 140 [.inr 0, .inl p0, .inl p1] mem K E := by
  refine CY.of (k := 1) mt_140 rfl rfl (fun hv => ?_)
  have hC := Ex.mono S (n + 16)
  have ii_p0 : InI p0 := hv (.inl p0) (by simp)
  unfold InI at ii_p0
  have ii_p1 : InI p1 := hv (.inl p1) (by simp)
  unfold InI at ii_p1
  clear hv
  have h8 := hI.1.b.1
  show Tx (Ex S (n + 16)) S M_140 (kI K E) 0 0 0 [some (.inr 0), some (.inl p0), some (.inl p1), none] [] mem
  refine Tx.iload_n hC te_140_0 rfl ?_
  refine Tx.bipush hC te_140_1 rfl rfl ?_
  refine Tx.statV hC te_140_3 (by decide) mt_66 (args := [.inl p1, .inl 6]) (rest := []) (c' := 1) (s' := 6) rfl rfl rfl rfl rfl rfl rfl ?_
  refine f_66 (fun r1a r1b => ?_) (HE 3 _ (by omega) hI Frm.rf)
  refine Tx.aload_n hC te_140_6 rfl ?_
  refine Tx.iload_n hC te_140_7 rfl ?_
  refine Tx.virtR hC te_140_8 mt_115 (args := [.inr 0, .inl p0]) (rest := []) (c' := 4) (s' := 24) rfl rfl rfl rfl rfl rfl rfl rfl rfl rfl ?_
  refine f_115 hI (fun Q m5 hQ r4R hF6 r4a r4b => ?_) (fun r4e m5 r4q r4C hF6 => HE _ _ (by omega) r4C (Frm.rf.tr hF6))
  have hq8 := hQ.rg
  have r4o := (r4R.1.ch Q hQ).1
  have r4w := r4R.1.w.2
  have hF6n : Frm pNb mem m5 := Frm.rf.tr hF6
  refine Tx.astore_n hC te_140_11 rfl ?_
  refine Tx.iload_n hC te_140_12 rfl ?_
  refine Tx.tsw hC (t := 86) (ts := [52, 57, 62, 67, 72, 77]) te_140_13 rfl (by decide) rfl (fun q7 => ?_) (fun i t e q7 => ?_)
  · skip
    refine Tx.aload_n hC te_140_86 rfl ?_
    refine Tx.virtI hC te_140_87 mt_142 (args := [.inr Q]) (rest := []) (c' := 4) (s' := 24) rfl rfl rfl rfl rfl rfl rfl rfl hQ.s0 rfl ?_
    refine f_142 hQ (r4R.1.ch Q hQ) (fun r8 r8i => ?_)
    unfold InI at r8i
    exact Tx.ireturn hC te_140_90 rfl (fun hr => show K r8 m5 from H _ _ r4R.cs hF6n)
  · have hi : i = 0 ∨ i = 1 ∨ i = 2 ∨ i = 3 ∨ i = 4 ∨ i = 5 := by
      have := (List.getElem?_eq_some_iff.mp e).1
      simp only [List.length_cons, List.length_nil] at this
      omega
    rcases hi with hi | hi | hi | hi | hi | hi
    · subst hi
      cases (show some 52 = some t from e)
      refine Tx.aload_n hC te_140_52 rfl ?_
      refine Tx.getI hC te_140_53 hQ.s0 rfl rfl (fun v11 v11e v11i => ?_)
      unfold InI at v11i
      exact Tx.ireturn hC te_140_56 rfl (fun hr => show K v11 m5 from H _ _ r4R.cs hF6n)
    · subst hi
      cases (show some 57 = some t from e)
      refine Tx.aload_n hC te_140_57 rfl ?_
      refine Tx.getI hC te_140_58 hQ.s0 rfl rfl (fun v12 v12e v12i => ?_)
      unfold InI at v12i
      exact Tx.ireturn hC te_140_61 rfl (fun hr => show K v12 m5 from H _ _ r4R.cs hF6n)
    · subst hi
      cases (show some 62 = some t from e)
      refine Tx.aload_n hC te_140_62 rfl ?_
      refine Tx.getI hC te_140_63 hQ.s0 rfl rfl (fun v13 v13e v13i => ?_)
      unfold InI at v13i
      exact Tx.ireturn hC te_140_66 rfl (fun hr => show K v13 m5 from H _ _ r4R.cs hF6n)
    · subst hi
      cases (show some 67 = some t from e)
      refine Tx.aload_n hC te_140_67 rfl ?_
      refine Tx.getI hC te_140_68 hQ.s0 rfl rfl (fun v14 v14e v14i => ?_)
      unfold InI at v14i
      exact Tx.ireturn hC te_140_71 rfl (fun hr => show K v14 m5 from H _ _ r4R.cs hF6n)
    · subst hi
      cases (show some 72 = some t from e)
      refine Tx.aload_n hC te_140_72 rfl ?_
      refine Tx.virtI hC te_140_73 mt_141 (args := [.inr Q]) (rest := []) (c' := 4) (s' := 24) rfl rfl rfl rfl rfl rfl rfl rfl hQ.s0 rfl ?_
      refine f_141 hQ (r4R.1.ch Q hQ) (fun r15 r15i => ?_)
      unfold InI at r15i
      exact Tx.ireturn hC te_140_76 rfl (fun hr => show K r15 m5 from H _ _ r4R.cs hF6n)
    · subst hi
      cases (show some 77 = some t from e)
      refine Tx.aload_n hC te_140_77 rfl ?_
      refine Tx.aload_n hC te_140_78 rfl ?_
      refine Tx.virtI hC te_140_79 mt_142 (args := [.inr Q]) (rest := [.inr Q]) (c' := 4) (s' := 24) rfl rfl rfl rfl rfl rfl rfl rfl hQ.s0 rfl ?_
      refine f_142 hQ (r4R.1.ch Q hQ) (fun r18 r18i => ?_)
      unfold InI at r18i
      refine Tx.virtI hC te_140_82 mt_143 (args := [.inr Q, .inl r18]) (rest := []) (c' := 4) (s' := 24) rfl rfl rfl rfl rfl rfl rfl rfl hQ.s0 rfl ?_
      refine f_143 hQ (r4R.1.ch Q hQ) (fun r21 r21i => ?_)
      unfold InI at r21i
      exact Tx.ireturn hC te_140_85 rfl (fun hr => show K r21 m5 from H _ _ r4R.cs hF6n)
theorem f_145 {S : Nat × (Nat → Int32)} {n : Nat} {mem : MM} {K : Int → MM → Prop} {E : Nat → MM → Prop} (hI : ClS mem) {p0 p1 p2 : Int} (H : ∀ r m', ClS m' → Frm pNb mem m' → K r m') (HE : ∀ e m', (e = 2 ∨ e = 3 ∨ e = 0 ∨ e = 1) → ClS m' → Frm pNb mem m' → E e m') : CQI (Ex S (n + 17)) 145 [.inr 0, .inl p0, .inl p1, .inl p2] mem K E := by
  refine CY.of (k := 1) mt_145 rfl rfl (fun hv => ?_)
  have hC := Ex.mono S (n + 16)
  have ii_p0 : InI p0 := hv (.inl p0) (by simp)
  unfold InI at ii_p0
  have ii_p1 : InI p1 := hv (.inl p1) (by simp)
  unfold InI at ii_p1
  have ii_p2 : InI p2 := hv (.inl p2) (by simp)
  unfold InI at ii_p2
  clear hv
  have h8 := hI.1.b.1
  show Tx (Ex S (n + 16)) S M_145 (kI K E) 0 0 0 [some (.inr 0), some (.inl p0), some (.inl p1), some (.inl p2), none] [] mem
  refine Tx.aload_n hC te_145_0 rfl ?_
  refine Tx.iload_n hC te_145_1 rfl ?_
  refine Tx.virtV hC te_145_2 mt_57 (args := [.inr 0, .inl p0]) (rest := []) (c' := 1) (s' := 6) rfl rfl rfl rfl rfl rfl rfl rfl rfl rfl ?_
  refine f_57 (fun r1a r1b => ?_) (HE 2 _ (by omega) hI Frm.rf)
  refine Tx.iload_n hC te_145_5 rfl ?_
  refine Tx.iconst hC te_145_6 rfl ?_
  refine Tx.statV hC te_145_7 (by decide) mt_66 (args := [.inl p2, .inl 5]) (rest := []) (c' := 2) (s' := 12) rfl rfl rfl rfl rfl rfl rfl ?_
  refine f_66 (fun r4a r4b => ?_) (HE 3 _ (by omega) hI Frm.rf)
  refine Tx.aload_n hC te_145_10 rfl ?_
  refine Tx.iload_n hC te_145_11 rfl ?_
  refine Tx.virtR hC te_145_12 mt_115 (args := [.inr 0, .inl p1]) (rest := []) (c' := 5) (s' := 30) rfl rfl rfl rfl rfl rfl rfl rfl rfl rfl ?_
  refine f_115 hI (fun Q m8 hQ r7R hF9 r7a r7b => ?_) (fun r7e m8 r7q r7C hF9 => HE _ _ (by omega) r7C (Frm.rf.tr hF9))
  have hq8 := hQ.rg
  have r7o := (r7R.1.ch Q hQ).1
  have r7w := r7R.1.w.2
  have hF9n : Frm pNb mem m8 := Frm.rf.tr hF9
  refine Tx.astore hC te_145_15 rfl ?_
  refine Tx.iload_n hC te_145_17 rfl ?_
  refine Tx.tsw hC (t := 91) (ts := [52, 59, 67, 75, 83]) te_145_18 rfl (by decide) rfl (fun q10 => ?_) (fun i t e q10 => ?_)
  · skip
    refine Tx.aload hC te_145_91 rfl ?_
    refine Tx.aload_n hC te_145_93 rfl ?_
    refine Tx.getR hC te_145_94 rfl rfl rfl ?_
    refine Tx.iload_n hC te_145_97 rfl ?_
    refine Tx.virtI hC te_145_98 mt_146 (args := [.inr Q, .inr 9, .inl p0]) (rest := []) (c' := 5) (s' := 30) rfl rfl rfl rfl rfl rfl rfl rfl hQ.s0 rfl ?_
    refine f_146 hQ (r7R.1.ch Q hQ) r7R.1.w (by omega) (fun r11 r11i => ?_)
    unfold InI at r11i
    exact Tx.ireturn hC te_145_101 rfl (fun hr => show K r11 m8 from H _ _ r7R.cs hF9n)
  · have hi : i = 0 ∨ i = 1 ∨ i = 2 ∨ i = 3 ∨ i = 4 := by
      have := (List.getElem?_eq_some_iff.mp e).1
      simp only [List.length_cons, List.length_nil] at this
      omega
    rcases hi with hi | hi | hi | hi | hi
    · subst hi
      cases (show some 52 = some t from e)
      refine Tx.aload hC te_145_52 rfl ?_
      refine Tx.iload_n hC te_145_54 rfl ?_
      refine Tx.virtI hC te_145_55 mt_108 (args := [.inr Q, .inl p0]) (rest := []) (c' := 5) (s' := 30) rfl rfl rfl rfl rfl rfl rfl rfl hQ.s0 rfl ?_
      refine f_108 hQ (r7R.1.ch Q hQ) (by omega) (fun r14 r14i => ?_)
      unfold InI at r14i
      exact Tx.ireturn hC te_145_58 rfl (fun hr => show K r14 m8 from H _ _ r7R.cs hF9n)
    · subst hi
      cases (show some 59 = some t from e)
      refine Tx.aload hC te_145_59 rfl ?_
      refine Tx.getR hC te_145_61 hQ.s0 rfl rfl ?_
      refine Tx.iload_n hC te_145_64 rfl ?_
      refine Tx.iald hC te_145_65 hQ.s1 (by omega) (fun v17 v17e v17i => ?_)
      unfold InI at v17i
      have f18 := (r7R.1.ch Q hQ).2 (Int.toNat p0) (by omega)
      exact Tx.ireturn hC te_145_66 rfl (fun hr => show K v17 m8 from H _ _ r7R.cs hF9n)
    · subst hi
      cases (show some 67 = some t from e)
      refine Tx.aload hC te_145_67 rfl ?_
      refine Tx.getR hC te_145_69 hQ.s0 rfl rfl ?_
      refine Tx.iload_n hC te_145_72 rfl ?_
      refine Tx.iald hC te_145_73 hQ.s4 (by omega) (fun v19 v19e v19i => ?_)
      unfold InI at v19i
      exact Tx.ireturn hC te_145_74 rfl (fun hr => show K v19 m8 from H _ _ r7R.cs hF9n)
    · subst hi
      cases (show some 75 = some t from e)
      refine Tx.aload hC te_145_75 rfl ?_
      refine Tx.getR hC te_145_77 hQ.s0 rfl rfl ?_
      refine Tx.iload_n hC te_145_80 rfl ?_
      refine Tx.iald hC te_145_81 hQ.s5 (by omega) (fun v20 v20e v20i => ?_)
      unfold InI at v20i
      exact Tx.ireturn hC te_145_82 rfl (fun hr => show K v20 m8 from H _ _ r7R.cs hF9n)
    · subst hi
      cases (show some 83 = some t from e)
      refine Tx.aload hC te_145_83 rfl ?_
      refine Tx.getR hC te_145_85 hQ.s0 rfl rfl ?_
      refine Tx.iload_n hC te_145_88 rfl ?_
      refine Tx.iald hC te_145_89 hQ.s6 (by omega) (fun v21 v21e v21i => ?_)
      unfold InI at v21i
      exact Tx.ireturn hC te_145_90 rfl (fun hr => show K v21 m8 from H _ _ r7R.cs hF9n)
theorem f_148 {S : Nat × (Nat → Int32)} {n : Nat} {mem : MM} {K : Int → MM → Prop} {E : Nat → MM → Prop} (hI : ClS mem) {p0 p1 : Int} (H : ∀ r m', ClS m' → Frm pNb mem m' → K r m') (HE : ∀ e m', (e = 0 ∨ e = 1) → ClS m' → Frm pNb mem m' → E e m') : CQI (Ex S (n + 17)) 148 [.inr 0, .inl p0, .inl p1] mem K E := by
  refine CY.of (k := 0) mt_148 rfl rfl (fun hv => ?_)
  have hC := Ex.mono S (n + 16)
  have ii_p0 : InI p0 := hv (.inl p0) (by simp)
  unfold InI at ii_p0
  have ii_p1 : InI p1 := hv (.inl p1) (by simp)
  unfold InI at ii_p1
  clear hv
  have h8 := hI.1.b.1
  show Tx (Ex S (n + 16)) S M_148 (kI K E) 0 0 0 [some (.inr 0), some (.inl p0), some (.inl p1)] [] mem
  refine Tx.iload_n hC te_148_0 rfl ?_
  refine Tx.statV hC te_148_1 (by decide) mt_74 (args := [.inl p1]) (rest := []) (c' := 1) (s' := 6) rfl rfl rfl rfl rfl rfl rfl ?_
  refine f_74 (fun r1a r1b => ?_) (HE 0 _ (by omega) hI Frm.rf)
  refine Tx.iload_n hC te_148_4 rfl ?_
  refine Tx.iload_n hC te_148_5 rfl ?_
  refine Tx.statV hC te_148_6 (by decide) mt_118 (args := [.inl p0, .inl p1]) (rest := []) (c' := 2) (s' := 12) rfl rfl rfl rfl rfl rfl rfl ?_
  refine f_118 (fun r4a r4b => ?_) (HE 0 _ (by omega) hI Frm.rf)
  refine Tx.aload_n hC te_148_9 rfl ?_
  refine Tx.iload_n hC te_148_10 rfl ?_
  refine Tx.virtR hC te_148_11 mt_115 (args := [.inr 0, .inl p1]) (rest := []) (c' := 5) (s' := 30) rfl rfl rfl rfl rfl rfl rfl rfl rfl rfl ?_
  refine f_115 hI (fun Q m8 hQ r7R hF9 r7a r7b => ?_) (fun r7e m8 r7q r7C hF9 => HE _ _ (by omega) r7C (Frm.rf.tr hF9))
  have hq8 := hQ.rg
  have r7o := (r7R.1.ch Q hQ).1
  have r7w := r7R.1.w.2
  have hF9n : Frm pNb mem m8 := Frm.rf.tr hF9
  refine Tx.iload_n hC te_148_14 rfl ?_
  refine Tx.virtI hC te_148_15 mt_143 (args := [.inr Q, .inl p0]) (rest := []) (c' := 5) (s' := 30) rfl rfl rfl rfl rfl rfl rfl rfl hQ.s0 rfl ?_
  refine f_143 hQ (r7R.1.ch Q hQ) (fun r10 r10i => ?_)
  unfold InI at r10i
  exact Tx.ireturn hC te_148_18 rfl (fun hr => show K r10 m8 from H _ _ r7R.cs hF9n)
theorem f_150 {S : Nat × (Nat → Int32)} {n : Nat} {mem : MM} {K : Int → MM → Prop} {E : Nat → MM → Prop} (hI : ClS mem) {p0 p1 p2 p3 : Int} (H : ∀ r m', ClS m' → Frm pNb mem m' → K r m') (HE : ∀ e m', (e = 2 ∨ e = 0 ∨ e = 1) → ClS m' → Frm pNb mem m' → E e m') : CQI (Ex S (n + 17)) 150 [.inr 0, .inl p0, .inl p1, .inl p2, .inl p3] mem K E := by
  refine CY.of (k := 0) mt_150 rfl rfl (fun hv => ?_)
  have hC := Ex.mono S (n + 16)
  have ii_p0 : InI p0 := hv (.inl p0) (by simp)
  unfold InI at ii_p0
  have ii_p1 : InI p1 := hv (.inl p1) (by simp)
  unfold InI at ii_p1
  have ii_p2 : InI p2 := hv (.inl p2) (by simp)
  unfold InI at ii_p2
  have ii_p3 : InI p3 := hv (.inl p3) (by simp)
  unfold InI at ii_p3
  clear hv
  have h8 := hI.1.b.1
  show Tx (Ex S (n + 16)) S M_150 (kI K E) 0 0 0 [some (.inr 0), some (.inl p0), some (.inl p1), some (.inl p2), some (.inl p3)] [] mem
  refine Tx.aload_n hC te_150_0 rfl ?_
  refine Tx.iload_n hC te_150_1 rfl ?_
  refine Tx.virtV hC te_150_2 mt_57 (args := [.inr 0, .inl p0]) (rest := []) (c' := 1) (s' := 6) rfl rfl rfl rfl rfl rfl rfl rfl rfl rfl ?_
  refine f_57 (fun r1a r1b => ?_) (HE 2 _ (by omega) hI Frm.rf)
  refine Tx.iload_n hC te_150_5 rfl ?_
  refine Tx.statV hC te_150_6 (by decide) mt_74 (args := [.inl p2]) (rest := []) (c' := 2) (s' := 12) rfl rfl rfl rfl rfl rfl rfl ?_
  refine f_74 (fun r4a r4b => ?_) (HE 0 _ (by omega) hI Frm.rf)
  refine Tx.iload hC te_150_9 rfl ?_
  refine Tx.statV hC te_150_11 (by decide) mt_151 (args := [.inl p3]) (rest := []) (c' := 3) (s' := 18) rfl rfl rfl rfl rfl rfl rfl ?_
  refine f_151 (fun r7a r7b => ?_) (HE 0 _ (by omega) hI Frm.rf)
  refine Tx.iload_n hC te_150_14 rfl ?_
  refine Tx.ifc hC (t := 29) te_150_15 (by decide) (fun q10 => ?_) (fun q10 => ?_)
  · replace q10 : 0 ≤ (p1 : Int) := q10
    refine Tx.aload_n hC te_150_29 rfl ?_
    refine Tx.iload_n hC te_150_30 rfl ?_
    refine Tx.virtR hC te_150_31 mt_115 (args := [.inr 0, .inl p2]) (rest := []) (c' := 6) (s' := 36) rfl rfl rfl rfl rfl rfl rfl rfl rfl rfl ?_
    refine f_115 hI (fun Q m12 hQ r11R hF13 r11a r11b => ?_) (fun r11e m12 r11q r11C hF13 => HE _ _ (by omega) r11C (Frm.rf.tr hF13))
    have hq8 := hQ.rg
    have r11o := (r11R.1.ch Q hQ).1
    have r11w := r11R.1.w.2
    have hF13n : Frm pNb mem m12 := Frm.rf.tr hF13
    refine Tx.iload_n hC te_150_34 rfl ?_
    refine Tx.iload_n hC te_150_35 rfl ?_
    refine Tx.iload hC te_150_36 rfl ?_
    refine Tx.virtI hC te_150_38 mt_152 (args := [.inr Q, .inl p0, .inl p1, .inl p3]) (rest := []) (c' := 6) (s' := 36) rfl rfl rfl rfl rfl rfl rfl rfl hQ.s0 rfl ?_
    refine f_152 hQ (r11R.1.ch Q hQ) (by omega) (fun r14 r14i => ?_)
    unfold InI at r14i
    exact Tx.ireturn hC te_150_41 rfl (fun hr => show K r14 m12 from H _ _ r11R.cs hF13n)
  · replace q10 : ¬ (0 ≤ (p1 : Int)) := q10
    exact Tx.thr hC te_150_18 rfl rfl rfl rfl rfl (show E 0 mem from HE _ _ (by omega) hI Frm.rf)
theorem f_154 {S : Nat × (Nat → Int32)} {n : Nat} {mem : MM} {K : Int → MM → Prop} {E : Nat → MM → Prop} (hI : ClS mem) {p0 p1 p2 : Int} (H : ∀ r m', ClS m' → Frm pNb mem m' → K r m') (HE : ∀ e m', (e = 3 ∨ e = 0 ∨ e = 1) → ClS m' → Frm pNb mem m' → E e m') : CQI (Ex S (n + 17)) 154 [.inr 0, .inl p0, .inl p1, .inl p2] mem K E := by
  refine CY.of (k := 1) mt_154 rfl rfl (fun hv => ?_)
  have hC := Ex.mono S (n + 16)
  have ii_p0 : InI p0 := hv (.inl p0) (by simp)
  unfold InI at ii_p0
  have ii_p1 : InI p1 := hv (.inl p1) (by simp)
  unfold InI at ii_p1
  have ii_p2 : InI p2 := hv (.inl p2) (by simp)
  unfold InI at ii_p2
  clear hv
  have h8 := hI.1.b.1
  show Tx (Ex S (n + 16)) S M_154 (kI K E) 0 0 0 [some (.inr 0), some (.inl p0), some (.inl p1), some (.inl p2), none] [] mem
  refine Tx.iload_n hC te_154_0 rfl ?_
  refine Tx.iconst hC te_154_1 rfl ?_
  refine Tx.statV hC te_154_2 (by decide) mt_66 (args := [.inl p2, .inl 3]) (rest := []) (c' := 1) (s' := 6) rfl rfl rfl rfl rfl rfl rfl ?_
  refine f_66 (fun r1a r1b => ?_) (HE 3 _ (by omega) hI Frm.rf)
  refine Tx.iload_n hC te_154_5 rfl ?_
  refine Tx.statV hC te_154_6 (by decide) mt_74 (args := [.inl p0]) (rest := []) (c' := 2) (s' := 12) rfl rfl rfl rfl rfl rfl rfl ?_
  refine f_74 (fun r4a r4b => ?_) (HE 0 _ (by omega) hI Frm.rf)
  refine Tx.iload_n hC te_154_9 rfl ?_
  refine Tx.statV hC te_154_10 (by decide) mt_151 (args := [.inl p1]) (rest := []) (c' := 3) (s' := 18) rfl rfl rfl rfl rfl rfl rfl ?_
  refine f_151 (fun r7a r7b => ?_) (HE 0 _ (by omega) hI Frm.rf)
  refine Tx.aload_n hC te_154_13 rfl ?_
  refine Tx.iload_n hC te_154_14 rfl ?_
  refine Tx.virtR hC te_154_15 mt_115 (args := [.inr 0, .inl p0]) (rest := []) (c' := 6) (s' := 36) rfl rfl rfl rfl rfl rfl rfl rfl rfl rfl ?_
  refine f_115 hI (fun Q m11 hQ r10R hF12 r10a r10b => ?_) (fun r10e m11 r10q r10C hF12 => HE _ _ (by omega) r10C (Frm.rf.tr hF12))
  have hq8 := hQ.rg
  have r10o := (r10R.1.ch Q hQ).1
  have r10w := r10R.1.w.2
  have hF12n : Frm pNb mem m11 := Frm.rf.tr hF12
  refine Tx.astore hC te_154_18 rfl ?_
  refine Tx.iload_n hC te_154_20 rfl ?_
  refine Tx.tsw hC (t := 69) (ts := [48, 55, 62]) te_154_21 rfl (by decide) rfl (fun q13 => ?_) (fun i t e q13 => ?_)
  · skip
    refine Tx.aload hC te_154_69 rfl ?_
    refine Tx.iload_n hC te_154_71 rfl ?_
    refine Tx.virtI hC te_154_72 mt_155 (args := [.inr Q, .inl p1]) (rest := []) (c' := 6) (s' := 36) rfl rfl rfl rfl rfl rfl rfl rfl hQ.s0 rfl ?_
    refine f_155 hQ (fun r14 r14i => ?_)
    unfold InI at r14i
    refine Tx.aload hC te_154_75 rfl ?_
    refine Tx.iload_n hC te_154_77 rfl ?_
    refine Tx.virtI hC te_154_78 mt_156 (args := [.inr Q, .inl p1]) (rest := [.inl r14]) (c' := 6) (s' := 36) rfl rfl rfl rfl rfl rfl rfl rfl hQ.s0 rfl ?_
    refine f_156 hQ (fun r17 r17i => ?_)
    unfold InI at r17i
    refine Tx.isubW hC te_154_81 (fun z20 z20i z20e => ?_)
    unfold InI at z20i z20e
    first | replace z20e := z20e (by omega) | clear z20e
    refine Tx.aload hC te_154_82 rfl ?_
    refine Tx.iload_n hC te_154_84 rfl ?_
    refine Tx.virtI hC te_154_85 mt_157 (args := [.inr Q, .inl p1]) (rest := [.inl z20]) (c' := 6) (s' := 36) rfl rfl rfl rfl rfl rfl rfl rfl hQ.s0 rfl ?_
    refine f_157 hQ (fun r21 r21i => ?_)
    unfold InI at r21i
    refine Tx.isubW hC te_154_88 (fun z24 z24i z24e => ?_)
    unfold InI at z24i z24e
    first | replace z24e := z24e (by omega) | clear z24e
    exact Tx.ireturn hC te_154_89 rfl (fun hr => show K z24 m11 from H _ _ r10R.cs hF12n)
  · have hi : i = 0 ∨ i = 1 ∨ i = 2 := by
      have := (List.getElem?_eq_some_iff.mp e).1
      simp only [List.length_cons, List.length_nil] at this
      omega
    rcases hi with hi | hi | hi
    · subst hi
      cases (show some 48 = some t from e)
      refine Tx.aload hC te_154_48 rfl ?_
      refine Tx.iload_n hC te_154_50 rfl ?_
      refine Tx.virtI hC te_154_51 mt_155 (args := [.inr Q, .inl p1]) (rest := []) (c' := 6) (s' := 36) rfl rfl rfl rfl rfl rfl rfl rfl hQ.s0 rfl ?_
      refine f_155 hQ (fun r25 r25i => ?_)
      unfold InI at r25i
      exact Tx.ireturn hC te_154_54 rfl (fun hr => show K r25 m11 from H _ _ r10R.cs hF12n)
    · subst hi
      cases (show some 55 = some t from e)
      refine Tx.aload hC te_154_55 rfl ?_
      refine Tx.iload_n hC te_154_57 rfl ?_
      refine Tx.virtI hC te_154_58 mt_156 (args := [.inr Q, .inl p1]) (rest := []) (c' := 6) (s' := 36) rfl rfl rfl rfl rfl rfl rfl rfl hQ.s0 rfl ?_
      refine f_156 hQ (fun r28 r28i => ?_)
      unfold InI at r28i
      exact Tx.ireturn hC te_154_61 rfl (fun hr => show K r28 m11 from H _ _ r10R.cs hF12n)
    · subst hi
      cases (show some 62 = some t from e)
      refine Tx.aload hC te_154_62 rfl ?_
      refine Tx.iload_n hC te_154_64 rfl ?_
      refine Tx.virtI hC te_154_65 mt_157 (args := [.inr Q, .inl p1]) (rest := []) (c' := 6) (s' := 36) rfl rfl rfl rfl rfl rfl rfl rfl hQ.s0 rfl ?_
      refine f_157 hQ (fun r31 r31i => ?_)
      unfold InI at r31i
      exact Tx.ireturn hC te_154_68 rfl (fun hr => show K r31 m11 from H _ _ r10R.cs hF12n)
theorem f_159 {S : Nat × (Nat → Int32)} {n : Nat} {mem : MM} {K : Int → MM → Prop} {E : Nat → MM → Prop} (hI : ClS mem) {p0 p1 p2 p3 : Int} (H : ∀ r m', ClS m' → Frm pNb mem m' → K r m') (HE : ∀ e m', (e = 0 ∨ e = 1) → ClS m' → Frm pNb mem m' → E e m') : CQI (Ex S (n + 17)) 159 [.inr 0, .inl p0, .inl p1, .inl p2, .inl p3] mem K E := by
  refine CY.of (k := 0) mt_159 rfl rfl (fun hv => ?_)
  have hC := Ex.mono S (n + 16)
  have ii_p0 : InI p0 := hv (.inl p0) (by simp)
  unfold InI at ii_p0
  have ii_p1 : InI p1 := hv (.inl p1) (by simp)
  unfold InI at ii_p1
  have ii_p2 : InI p2 := hv (.inl p2) (by simp)
  unfold InI at ii_p2
  have ii_p3 : InI p3 := hv (.inl p3) (by simp)
  unfold InI at ii_p3
  clear hv
  have h8 := hI.1.b.1
  show Tx (Ex S (n + 16)) S M_159 (kI K E) 0 0 0 [some (.inr 0), some (.inl p0), some (.inl p1), some (.inl p2), some (.inl p3)] [] mem
  refine Tx.iload_n hC te_159_0 rfl ?_
  refine Tx.iload_n hC te_159_1 rfl ?_
  refine Tx.statV hC te_159_2 (by decide) mt_160 (args := [.inl p0, .inl p1]) (rest := []) (c' := 1) (s' := 6) rfl rfl rfl rfl rfl rfl rfl ?_
  refine f_160 (fun r1a r1b => ?_) (HE 0 _ (by omega) hI Frm.rf)
  refine Tx.iload_n hC te_159_5 rfl ?_
  refine Tx.statV hC te_159_6 (by decide) mt_74 (args := [.inl p2]) (rest := []) (c' := 2) (s' := 12) rfl rfl rfl rfl rfl rfl rfl ?_
  refine f_74 (fun r4a r4b => ?_) (HE 0 _ (by omega) hI Frm.rf)
  refine Tx.iload hC te_159_9 rfl ?_
  refine Tx.statV hC te_159_11 (by decide) mt_151 (args := [.inl p3]) (rest := []) (c' := 3) (s' := 18) rfl rfl rfl rfl rfl rfl rfl ?_
  refine f_151 (fun r7a r7b => ?_) (HE 0 _ (by omega) hI Frm.rf)
  refine Tx.aload_n hC te_159_14 rfl ?_
  refine Tx.iload_n hC te_159_15 rfl ?_
  refine Tx.virtR hC te_159_16 mt_115 (args := [.inr 0, .inl p2]) (rest := []) (c' := 6) (s' := 36) rfl rfl rfl rfl rfl rfl rfl rfl rfl rfl ?_
  refine f_115 hI (fun Q m11 hQ r10R hF12 r10a r10b => ?_) (fun r10e m11 r10q r10C hF12 => HE _ _ (by omega) r10C (Frm.rf.tr hF12))
  have hq8 := hQ.rg
  have r10o := (r10R.1.ch Q hQ).1
  have r10w := r10R.1.w.2
  have hF12n : Frm pNb mem m11 := Frm.rf.tr hF12
  refine Tx.pop hC te_159_19 ?_
  refine Tx.aload_n hC te_159_20 rfl ?_
  refine Tx.getR hC te_159_21 rfl rfl rfl ?_
  refine Tx.aload_n hC te_159_24 rfl ?_
  refine Tx.getR hC te_159_25 rfl rfl rfl ?_
  refine Tx.iload hC te_159_28 rfl ?_
  refine Tx.virtV hC te_159_30 mt_161 (args := [.inr 134, .inr 1, .inl p3]) (rest := []) (c' := 6) (s' := 36) rfl rfl rfl rfl rfl rfl rfl rfl rfl rfl ?_
  refine f_161 r10R.cs.1.b (by omega) (fun m14 hF15 => ?_)
  have r13R := Rdy.e_play r10R hF15
  have hF15n : Frm pNb mem m14 := hF12n.tr (hF15.mono (fun A i q => by unfold pPl at q; unfold pNb; omega))
  refine Tx.aload_n hC te_159_33 rfl ?_
  refine Tx.getR hC te_159_34 rfl rfl rfl ?_
  refine Tx.getR hC te_159_37 rfl rfl rfl ?_
  refine Tx.iload_n hC te_159_40 rfl ?_
  refine Tx.aaldP hC te_159_41 (by omega) (fun R eR => ?_)
  have hR : shA R = some (.inl 64) := rowP eR (by omega)
  refine Tx.iload_n hC te_159_42 rfl ?_
  refine Tx.iald hC te_159_43 hR (by omega) (fun v16 v16e v16i => ?_)
  unfold InI at v16i
  exact Tx.ireturn hC te_159_44 rfl (fun hr => show K v16 m14 from H _ _ r13R.cs hF15n)
theorem f_166 {S : Nat × (Nat → Int32)} {n : Nat} {mem : MM} {K : Int → MM → Prop} {E : Nat → MM → Prop} (hI : ClS mem) {p0 p1 p2 : Int} (H : ∀ r m', ClS m' → Frm pNb mem m' → K r m') (HE : ∀ e m', (e = 2 ∨ e = 0 ∨ e = 1) → ClS m' → Frm pNb mem m' → E e m') : CQI (Ex S (n + 17)) 166 [.inr 0, .inl p0, .inl p1, .inl p2] mem K E := by
  refine CY.of (k := 0) mt_166 rfl rfl (fun hv => ?_)
  have hC := Ex.mono S (n + 16)
  have ii_p0 : InI p0 := hv (.inl p0) (by simp)
  unfold InI at ii_p0
  have ii_p1 : InI p1 := hv (.inl p1) (by simp)
  unfold InI at ii_p1
  have ii_p2 : InI p2 := hv (.inl p2) (by simp)
  unfold InI at ii_p2
  clear hv
  have h8 := hI.1.b.1
  show Tx (Ex S (n + 16)) S M_166 (kI K E) 0 0 0 [some (.inr 0), some (.inl p0), some (.inl p1), some (.inl p2)] [] mem
  refine Tx.aload_n hC te_166_0 rfl ?_
  refine Tx.iload_n hC te_166_1 rfl ?_
  refine Tx.virtV hC te_166_2 mt_57 (args := [.inr 0, .inl p0]) (rest := []) (c' := 1) (s' := 6) rfl rfl rfl rfl rfl rfl rfl rfl rfl rfl ?_
  refine f_57 (fun r1a r1b => ?_) (HE 2 _ (by omega) hI Frm.rf)
  refine Tx.aload_n hC te_166_5 rfl ?_
  refine Tx.iload_n hC te_166_6 rfl ?_
  refine Tx.virtV hC te_166_7 mt_167 (args := [.inr 0, .inl p0]) (rest := []) (c' := 2) (s' := 12) rfl rfl rfl rfl rfl rfl rfl rfl rfl rfl ?_
  refine f_167 (by omega) (fun r4a => ?_) (HE 0 _ (by omega) hI Frm.rf)
  refine Tx.iload_n hC te_166_10 rfl ?_
  refine Tx.statV hC te_166_11 (by decide) mt_74 (args := [.inl p1]) (rest := []) (c' := 3) (s' := 18) rfl rfl rfl rfl rfl rfl rfl ?_
  refine f_74 (fun r7a r7b => ?_) (HE 0 _ (by omega) hI Frm.rf)
  refine Tx.iload_n hC te_166_14 rfl ?_
  refine Tx.statV hC te_166_15 (by decide) mt_151 (args := [.inl p2]) (rest := []) (c' := 4) (s' := 24) rfl rfl rfl rfl rfl rfl rfl ?_
  refine f_151 (fun r10a r10b => ?_) (HE 0 _ (by omega) hI Frm.rf)
  refine Tx.aload_n hC te_166_18 rfl ?_
  refine Tx.iload_n hC te_166_19 rfl ?_
  refine Tx.virtR hC te_166_20 mt_115 (args := [.inr 0, .inl p1]) (rest := []) (c' := 7) (s' := 42) rfl rfl rfl rfl rfl rfl rfl rfl rfl rfl ?_
  refine f_115 hI (fun Q m14 hQ r13R hF15 r13a r13b => ?_) (fun r13e m14 r13q r13C hF15 => HE _ _ (by omega) r13C (Frm.rf.tr hF15))
  have hq8 := hQ.rg
  have r13o := (r13R.1.ch Q hQ).1
  have r13w := r13R.1.w.2
  have hF15n : Frm pNb mem m14 := Frm.rf.tr hF15
  refine Tx.pop hC te_166_23 ?_
  refine Tx.aload_n hC te_166_24 rfl ?_
  refine Tx.getR hC te_166_25 rfl rfl rfl ?_
  refine Tx.aload_n hC te_166_28 rfl ?_
  refine Tx.getR hC te_166_29 rfl rfl rfl ?_
  refine Tx.iload_n hC te_166_32 rfl ?_
  refine Tx.virtV hC te_166_33 mt_161 (args := [.inr 134, .inr 1, .inl p2]) (rest := []) (c' := 7) (s' := 42) rfl rfl rfl rfl rfl rfl rfl rfl rfl rfl ?_
  refine f_161 r13R.cs.1.b (by omega) (fun m17 hF18 => ?_)
  have r16R := Rdy.e_play r13R hF18
  have hF18n : Frm pNb mem m17 := hF15n.tr (hF18.mono (fun A i q => by unfold pPl at q; unfold pNb; omega))
  refine Tx.aload_n hC te_166_36 rfl ?_
  refine Tx.getR hC te_166_37 rfl rfl rfl ?_
  refine Tx.aload_n hC te_166_40 rfl ?_
  refine Tx.getR hC te_166_41 rfl rfl rfl ?_
  refine Tx.iload_n hC te_166_44 rfl ?_
  refine Tx.iload_n hC te_166_45 rfl ?_
  refine Tx.iconst hC te_166_46 rfl ?_
  refine Tx.isubW hC te_166_47 (fun z19 z19i z19e => ?_)
  unfold InI at z19i z19e
  first | replace z19e := z19e (by omega) | clear z19e
  refine Tx.virtI hC te_166_48 mt_164 (args := [.inr 134, .inr 1, .inl p0, .inl z19]) (rest := []) (c' := 7) (s' := 42) rfl rfl rfl rfl rfl rfl rfl rfl rfl rfl ?_
  refine f_164 (by omega) (by omega) (fun r20 r20i => ?_)
  unfold InI at r20i
  exact Tx.ireturn hC te_166_51 rfl (fun hr => show K r20 m17 from H _ _ r16R.cs hF18n)
theorem f_169 {S : Nat × (Nat → Int32)} {n : Nat} {mem : MM} {K : Int → MM → Prop} {E : Nat → MM → Prop} (hI : ClS mem) {p0 p1 p2 : Int} (H : ∀ r m', ClS m' → Frm pNb mem m' → K r m') (HE : ∀ e m', (e = 0 ∨ e = 1) → ClS m' → Frm pNb mem m' → E e m') : CQI (Ex S (n + 17)) 169 [.inr 0, .inl p0, .inl p1, .inl p2] mem K E := by
  refine CY.of (k := 0) mt_169 rfl rfl (fun hv => ?_)
  have hC := Ex.mono S (n + 16)
  have ii_p0 : InI p0 := hv (.inl p0) (by simp)
  unfold InI at ii_p0
  have ii_p1 : InI p1 := hv (.inl p1) (by simp)
  unfold InI at ii_p1
  have ii_p2 : InI p2 := hv (.inl p2) (by simp)
  unfold InI at ii_p2
  clear hv
  have h8 := hI.1.b.1
  show Tx (Ex S (n + 16)) S M_169 (kI K E) 0 0 0 [some (.inr 0), some (.inl p0), some (.inl p1), some (.inl p2)] [] mem
  refine Tx.iload_n hC te_169_0 rfl ?_
  refine Tx.iload_n hC te_169_1 rfl ?_
  refine Tx.statV hC te_169_2 (by decide) mt_160 (args := [.inl p0, .inl p1]) (rest := []) (c' := 1) (s' := 6) rfl rfl rfl rfl rfl rfl rfl ?_
  refine f_160 (fun r1a r1b => ?_) (HE 0 _ (by omega) hI Frm.rf)
  refine Tx.iload_n hC te_169_5 rfl ?_
  refine Tx.statV hC te_169_6 (by decide) mt_151 (args := [.inl p2]) (rest := []) (c' := 2) (s' := 12) rfl rfl rfl rfl rfl rfl rfl ?_
  refine f_151 (fun r4a r4b => ?_) (HE 0 _ (by omega) hI Frm.rf)
  refine Tx.aload_n hC te_169_9 rfl ?_
  refine Tx.virtV hC te_169_10 mt_69 (args := [.inr 0]) (rest := []) (c' := 3) (s' := 18) rfl rfl rfl rfl rfl rfl rfl rfl rfl rfl ?_
  refine f_69 hI (fun m8 r7R hF9 => ?_) (fun m8 r7C hF9 => HE 1 _ (by omega) r7C (Frm.rf.tr hF9))
  have r7w := r7R.1.w.2
  have hF9n : Frm pNb mem m8 := Frm.rf.tr hF9
  refine Tx.aload_n hC te_169_13 rfl ?_
  refine Tx.getR hC te_169_14 rfl rfl rfl ?_
  refine Tx.aload_n hC te_169_17 rfl ?_
  refine Tx.getR hC te_169_18 rfl rfl rfl ?_
  refine Tx.iload_n hC te_169_21 rfl ?_
  refine Tx.virtV hC te_169_22 mt_161 (args := [.inr 134, .inr 1, .inl p2]) (rest := []) (c' := 3) (s' := 18) rfl rfl rfl rfl rfl rfl rfl rfl rfl rfl ?_
  refine f_161 r7R.cs.1.b (by omega) (fun m11 hF12 => ?_)
  have r10R := Rdy.e_play r7R hF12
  have hF12n : Frm pNb mem m11 := hF9n.tr (hF12.mono (fun A i q => by unfold pPl at q; unfold pNb; omega))
  refine Tx.aload_n hC te_169_25 rfl ?_
  refine Tx.getR hC te_169_26 rfl rfl rfl ?_
  refine Tx.getR hC te_169_29 rfl rfl rfl ?_
  refine Tx.iload_n hC te_169_32 rfl ?_
  refine Tx.aaldP hC te_169_33 (by omega) (fun R eR => ?_)
  have hR : shA R = some (.inl 64) := rowP eR (by omega)
  refine Tx.iload_n hC te_169_34 rfl ?_
  refine Tx.iald hC te_169_35 hR (by omega) (fun v13 v13e v13i => ?_)
  unfold InI at v13i
  exact Tx.ireturn hC te_169_36 rfl (fun hr => show K v13 m11 from H _ _ r10R.cs hF12n)
theorem f_171 {S : Nat × (Nat → Int32)} {n : Nat} {mem : MM} {K : Int → MM → Prop} {E : Nat → MM → Prop} (hI : ClS mem) {p0 p1 p2 p3 : Int} (H : ∀ r m', ClS m' → Frm pNb mem m' → K r m') (HE : ∀ e m', (e = 2 ∨ e = 0 ∨ e = 1) → ClS m' → Frm pNb mem m' → E e m') : CQI (Ex S (n + 17)) 171 [.inr 0, .inl p0, .inl p1, .inl p2, .inl p3] mem K E := by
  refine CY.of (k := 2) mt_171 rfl rfl (fun hv => ?_)
  have hC := Ex.mono S (n + 16)
  have ii_p0 : InI p0 := hv (.inl p0) (by simp)
  unfold InI at ii_p0
  have ii_p1 : InI p1 := hv (.inl p1) (by simp)
  unfold InI at ii_p1
  have ii_p2 : InI p2 := hv (.inl p2) (by simp)
  unfold InI at ii_p2
  have ii_p3 : InI p3 := hv (.inl p3) (by simp)
  unfold InI at ii_p3
  clear hv
  have h8 := hI.1.b.1
  show Tx (Ex S (n + 16)) S M_171 (kI K E) 0 0 0 [some (.inr 0), some (.inl p0), some (.inl p1), some (.inl p2), some (.inl p3), none, none] [] mem
  refine Tx.aload_n hC te_171_0 rfl ?_
  refine Tx.iload_n hC te_171_1 rfl ?_
  refine Tx.virtV hC te_171_2 mt_57 (args := [.inr 0, .inl p0]) (rest := []) (c' := 1) (s' := 6) rfl rfl rfl rfl rfl rfl rfl rfl rfl rfl ?_
  refine f_57 (fun r1a r1b => ?_) (HE 2 _ (by omega) hI Frm.rf)
  refine Tx.iload_n hC te_171_5 rfl ?_
  refine Tx.statV hC te_171_6 (by decide) mt_74 (args := [.inl p2]) (rest := []) (c' := 2) (s' := 12) rfl rfl rfl rfl rfl rfl rfl ?_
  refine f_74 (fun r4a r4b => ?_) (HE 0 _ (by omega) hI Frm.rf)
  refine Tx.iload hC te_171_9 rfl ?_
  refine Tx.statV hC te_171_11 (by decide) mt_151 (args := [.inl p3]) (rest := []) (c' := 3) (s' := 18) rfl rfl rfl rfl rfl rfl rfl ?_
  refine f_151 (fun r7a r7b => ?_) (HE 0 _ (by omega) hI Frm.rf)
  refine Tx.iload_n hC te_171_14 rfl ?_
  refine Tx.ifc hC (t := 23) te_171_15 (by decide) (fun q10 => ?_) (fun q10 => ?_)
  · replace q10 : (p1 : Int) < 0 := q10
    exact Tx.thr hC te_171_23 rfl rfl rfl rfl rfl (show E 0 mem from HE _ _ (by omega) hI Frm.rf)
  · replace q10 : ¬ ((p1 : Int) < 0) := q10
    refine Tx.iload hC te_171_18 rfl ?_
    refine Tx.ifc hC (t := 34) te_171_20 (by decide) (fun q11 => ?_) (fun q11 => ?_)
    · replace q11 : ¬ (p3 : Int) = 0 := q11
      refine Tx.aload_n hC te_171_34 rfl ?_
      refine Tx.iload_n hC te_171_35 rfl ?_
      refine Tx.virtR hC te_171_36 mt_115 (args := [.inr 0, .inl p2]) (rest := []) (c' := 6) (s' := 36) rfl rfl rfl rfl rfl rfl rfl rfl rfl rfl ?_
      refine f_115 hI (fun Q m13 hQ r12R hF14 r12a r12b => ?_) (fun r12e m13 r12q r12C hF14 => HE _ _ (by omega) r12C (Frm.rf.tr hF14))
      have hq8 := hQ.rg
      have r12o := (r12R.1.ch Q hQ).1
      have r12w := r12R.1.w.2
      have hF14n : Frm pNb mem m13 := Frm.rf.tr hF14
      refine Tx.astore hC te_171_39 rfl ?_
      refine Tx.iload_n hC te_171_41 rfl ?_
      refine Tx.iload hC te_171_42 rfl ?_
      refine Tx.aload hC te_171_44 rfl ?_
      refine Tx.getI hC te_171_46 hQ.s0 rfl rfl (fun v15 v15e v15i => ?_)
      unfold InI at v15i
      refine Tx.iaddW hC te_171_49 (fun z16 z16i z16e => ?_)
      unfold InI at z16i z16e
      first | replace z16e := z16e (by omega) | clear z16e
      refine Tx.iconst hC te_171_50 rfl ?_
      refine Tx.isubW hC te_171_51 (fun z17 z17i z17e => ?_)
      unfold InI at z17i z17e
      first | replace z17e := z17e (by omega) | clear z17e
      refine Tx.icmp hC (t := 66) te_171_52 (by decide) (fun q18 => ?_) (fun q18 => ?_)
      · replace q18 : (p1 : Int) < z17 := q18
        refine Tx.iload_n hC te_171_66 rfl ?_
        refine Tx.aload hC te_171_67 rfl ?_
        refine Tx.iload_n hC te_171_69 rfl ?_
        refine Tx.virtI hC te_171_70 mt_108 (args := [.inr Q, .inl p0]) (rest := [.inl p1]) (c' := 6) (s' := 36) rfl rfl rfl rfl rfl rfl rfl rfl hQ.s0 rfl ?_
        refine f_108 hQ (r12R.1.ch Q hQ) (by omega) (fun r19 r19i => ?_)
        unfold InI at r19i
        refine Tx.isubW hC te_171_73 (fun z22 z22i z22e => ?_)
        unfold InI at z22i z22e
        first | replace z22e := z22e (by omega) | clear z22e
        refine Tx.istore hC te_171_74 rfl ?_
        refine Tx.iload hC te_171_76 rfl ?_
        refine Tx.ifc hC (t := 92) te_171_78 (by decide) (fun q23 => ?_) (fun q23 => ?_)
        · replace q23 : (z22 : Int) < 0 := q23
          refine Tx.iconst hC te_171_92 rfl ?_
          exact Tx.bret hC te_171_93 rfl (by omega) (show K 0 m13 from H _ _ r12R.cs hF14n)
        · replace q23 : ¬ ((z22 : Int) < 0) := q23
          refine Tx.iload hC te_171_81 rfl ?_
          refine Tx.iload hC te_171_83 rfl ?_
          refine Tx.icmp hC (t := 92) te_171_85 (by decide) (fun q24 => ?_) (fun q24 => ?_)
          · replace q24 : p3 ≤ (z22 : Int) := q24
            refine Tx.iconst hC te_171_92 rfl ?_
            exact Tx.bret hC te_171_93 rfl (by omega) (show K 0 m13 from H _ _ r12R.cs hF14n)
          · replace q24 : ¬ (p3 ≤ (z22 : Int)) := q24
            refine Tx.iconst hC te_171_88 rfl ?_
            refine Tx.goto hC (t := 93) te_171_89 (by decide) ?_
            exact Tx.bret hC te_171_93 rfl (by omega) (show K 1 m13 from H _ _ r12R.cs hF14n)
      · replace q18 : ¬ ((p1 : Int) < z17) := q18
        exact Tx.thr hC te_171_55 rfl rfl rfl rfl rfl (show E 0 m13 from HE _ _ (by omega) r12R.cs hF14n)
    · replace q11 : ¬ (¬ (p3 : Int) = 0) := q11
      exact Tx.thr hC te_171_23 rfl rfl rfl rfl rfl (show E 0 mem from HE _ _ (by omega) hI Frm.rf)
theorem f_173 {S : Nat × (Nat → Int32)} {n : Nat} {mem : MM} {K : Int → MM → Prop} {E : Nat → MM → Prop} (hI : ClS mem) {p0 p1 : Int} (H : ∀ r m', ClS m' → Frm pNb mem m' → K r m') (HE : ∀ e m', (e = 0 ∨ e = 1) → ClS m' → Frm pNb mem m' → E e m') : CQI (Ex S (n + 17)) 173 [.inr 0, .inl p0, .inl p1] mem K E := by
  refine CY.of (k := 1) mt_173 rfl rfl (fun hv => ?_)
  have hC := Ex.mono S (n + 16)
  have ii_p0 : InI p0 := hv (.inl p0) (by simp)
  unfold InI at ii_p0
  have ii_p1 : InI p1 := hv (.inl p1) (by simp)
  unfold InI at ii_p1
  clear hv
  have h8 := hI.1.b.1
  show Tx (Ex S (n + 16)) S M_173 (kI K E) 0 0 0 [some (.inr 0), some (.inl p0), some (.inl p1), none] [] mem
  refine Tx.aload_n hC te_173_0 rfl ?_
  refine Tx.iload_n hC te_173_1 rfl ?_
  refine Tx.virtR hC te_173_2 mt_115 (args := [.inr 0, .inl p0]) (rest := []) (c' := 3) (s' := 18) rfl rfl rfl rfl rfl rfl rfl rfl rfl rfl ?_
  refine f_115 hI (fun Q m2 hQ r1R hF3 r1a r1b => ?_) (fun r1e m2 r1q r1C hF3 => HE _ _ (by omega) r1C (Frm.rf.tr hF3))
  have hq8 := hQ.rg
  have r1o := (r1R.1.ch Q hQ).1
  have r1w := r1R.1.w.2
  have hF3n : Frm pNb mem m2 := Frm.rf.tr hF3
  refine Tx.astore_n hC te_173_5 rfl ?_
  refine Tx.iload_n hC te_173_6 rfl ?_
  refine Tx.ifc hC (t := 18) te_173_7 (by decide) (fun q4 => ?_) (fun q4 => ?_)
  · replace q4 : (p1 : Int) = 0 := q4
    refine Tx.aload_n hC te_173_18 rfl ?_
    refine Tx.getR hC te_173_19 rfl rfl rfl ?_
    refine Tx.getI hC te_173_22 rfl rfl rfl (fun v5 v5e v5i => ?_)
    unfold InI at v5i
    rw [hF3n 1 _ (by unfold pNb; omega)] at v5e
    refine Tx.aload_n hC te_173_25 rfl ?_
    refine Tx.getI hC te_173_26 hQ.s0 rfl rfl (fun v6 v6e v6i => ?_)
    unfold InI at v6i
    refine Tx.iconst hC te_173_29 rfl ?_
    refine Tx.isubW hC te_173_30 (fun z7 z7i z7e => ?_)
    unfold InI at z7i z7e
    first | replace z7e := z7e (by omega) | clear z7e
    refine Tx.imulW hC te_173_31 (fun z8 z8i z8e => ?_)
    unfold InI at z8i z8e
    first | replace z8e := z8e (by omega) | clear z8e
    refine Tx.aload_n hC te_173_32 rfl ?_
    refine Tx.getR hC te_173_33 rfl rfl rfl ?_
    refine Tx.getI hC te_173_36 rfl rfl rfl (fun v9 v9e v9i => ?_)
    unfold InI at v9i
    rw [hF3n 1 _ (by unfold pNb; omega)] at v9e
    refine Tx.aload_n hC te_173_39 rfl ?_
    refine Tx.getI hC te_173_40 hQ.s0 rfl rfl (fun v10 v10e v10i => ?_)
    unfold InI at v10i
    refine Tx.imulW hC te_173_43 (fun z11 z11i z11e => ?_)
    unfold InI at z11i z11e
    first | replace z11e := z11e (by omega) | clear z11e
    refine Tx.iaddW hC te_173_44 (fun z12 z12i z12e => ?_)
    unfold InI at z12i z12e
    first | replace z12e := z12e (by omega) | clear z12e
    exact Tx.ireturn hC te_173_45 rfl (fun hr => show K z12 m2 from H _ _ r1R.cs hF3n)
  · replace q4 : ¬ ((p1 : Int) = 0) := q4
    refine Tx.aload_n hC te_173_10 rfl ?_
    refine Tx.getR hC te_173_11 rfl rfl rfl ?_
    refine Tx.getI hC te_173_14 rfl rfl rfl (fun v13 v13e v13i => ?_)
    unfold InI at v13i
    rw [hF3n 1 _ (by unfold pNb; omega)] at v13e
    exact Tx.ireturn hC te_173_17 rfl (fun hr => show K v13 m2 from H _ _ r1R.cs hF3n)
theorem f_175 {S : Nat × (Nat → Int32)} {n : Nat} {mem : MM} {K : Int → MM → Prop} {E : Nat → MM → Prop} (hI : ClS mem) {p0 p1 p2 : Int} (H : ∀ r m', ClS m' → Frm pNb mem m' → K r m') (HE : ∀ e m', (e = 0 ∨ e = 1) → ClS m' → Frm pNb mem m' → E e m') : CQI (Ex S (n + 17)) 175 [.inr 0, .inl p0, .inl p1, .inl p2] mem K E := by
  refine CY.of (k := 2) mt_175 rfl rfl (fun hv => ?_)
  have hC := Ex.mono S (n + 16)
  have ii_p0 : InI p0 := hv (.inl p0) (by simp)
  unfold InI at ii_p0
  have ii_p1 : InI p1 := hv (.inl p1) (by simp)
  unfold InI at ii_p1
  have ii_p2 : InI p2 := hv (.inl p2) (by simp)
  unfold InI at ii_p2
  clear hv
  have h8 := hI.1.b.1
  show Tx (Ex S (n + 16)) S M_175 (kI K E) 0 0 0 [some (.inr 0), some (.inl p0), some (.inl p1), some (.inl p2), none, none] [] mem
  refine Tx.iload_n hC te_175_0 rfl ?_
  refine Tx.statV hC te_175_1 (by decide) mt_74 (args := [.inl p0]) (rest := []) (c' := 1) (s' := 6) rfl rfl rfl rfl rfl rfl rfl ?_
  refine f_74 (fun r1a r1b => ?_) (HE 0 _ (by omega) hI Frm.rf)
  refine Tx.iload_n hC te_175_4 rfl ?_
  refine Tx.statV hC te_175_5 (by decide) mt_151 (args := [.inl p1]) (rest := []) (c' := 2) (s' := 12) rfl rfl rfl rfl rfl rfl rfl ?_
  refine f_151 (fun r4a r4b => ?_) (HE 0 _ (by omega) hI Frm.rf)
  refine Tx.aload_n hC te_175_8 rfl ?_
  refine Tx.iload_n hC te_175_9 rfl ?_
  refine Tx.virtR hC te_175_10 mt_115 (args := [.inr 0, .inl p0]) (rest := []) (c' := 5) (s' := 30) rfl rfl rfl rfl rfl rfl rfl rfl rfl rfl ?_
  refine f_115 hI (fun Q m8 hQ r7R hF9 r7a r7b => ?_) (fun r7e m8 r7q r7C hF9 => HE _ _ (by omega) r7C (Frm.rf.tr hF9))
  have hq8 := hQ.rg
  have r7o := (r7R.1.ch Q hQ).1
  have r7w := r7R.1.w.2
  have hF9n : Frm pNb mem m8 := Frm.rf.tr hF9
  refine Tx.astore hC te_175_13 rfl ?_
  refine Tx.aload hC te_175_15 rfl ?_
  refine Tx.iload_n hC te_175_17 rfl ?_
  refine Tx.virtI hC te_175_18 mt_176 (args := [.inr Q, .inl p1]) (rest := []) (c' := 5) (s' := 30) rfl rfl rfl rfl rfl rfl rfl rfl hQ.s0 rfl ?_
  refine f_176 hQ (fun r10 r10i => ?_)
  unfold InI at r10i
  refine Tx.istore hC te_175_21 rfl ?_
  refine Tx.iload_n hC te_175_23 rfl ?_
  refine Tx.ifc hC (t := 30) te_175_24 (by decide) (fun q13 => ?_) (fun q13 => ?_)
  · replace q13 : ¬ (p2 : Int) = 0 := q13
    refine Tx.iload hC te_175_30 rfl ?_
    refine Tx.aload_n hC te_175_32 rfl ?_
    refine Tx.getR hC te_175_33 rfl rfl rfl ?_
    refine Tx.virtI hC te_175_36 mt_42 (args := [.inr 1]) (rest := [.inl r10]) (c' := 5) (s' := 30) rfl rfl rfl rfl rfl rfl rfl rfl rfl rfl ?_
    refine f_42 r7R.cs.1.b (fun r14 r14i => ?_)
    unfold InI at r14i
    refine Tx.imulW hC te_175_39 (fun z17 z17i z17e => ?_)
    unfold InI at z17i z17e
    first | replace z17e := z17e (by omega) | clear z17e
    refine Tx.aload hC te_175_40 rfl ?_
    refine Tx.iload_n hC te_175_42 rfl ?_
    refine Tx.iload hC te_175_43 rfl ?_
    refine Tx.isubW hC te_175_45 (fun z18 z18i z18e => ?_)
    unfold InI at z18i z18e
    first | replace z18e := z18e (by omega) | clear z18e
    refine Tx.virtI hC te_175_46 mt_155 (args := [.inr Q, .inl z18]) (rest := [.inl z17]) (c' := 5) (s' := 30) rfl rfl rfl rfl rfl rfl rfl rfl hQ.s0 rfl ?_
    refine f_155 hQ (fun r19 r19i => ?_)
    unfold InI at r19i
    refine Tx.iaddW hC te_175_49 (fun z22 z22i z22e => ?_)
    unfold InI at z22i z22e
    first | replace z22e := z22e (by omega) | clear z22e
    exact Tx.ireturn hC te_175_50 rfl (fun hr => show K z22 m8 from H _ _ r7R.cs hF9n)
  · replace q13 : ¬ (¬ (p2 : Int) = 0) := q13
    refine Tx.iload hC te_175_27 rfl ?_
    exact Tx.ireturn hC te_175_29 rfl (fun hr => show K r10 m8 from H _ _ r7R.cs hF9n)
theorem f_178 {S : Nat × (Nat → Int32)} {n : Nat} {mem : MM} {K : Int → MM → Prop} {E : Nat → MM → Prop} (hI : ClS mem) {p0 : Int} (H : ∀ r m', ClS m' → Frm pNb mem m' → K r m') (HE : ∀ e m', (e = 0 ∨ e = 1) → ClS m' → Frm pNb mem m' → E e m') : CQI (Ex S (n + 17)) 178 [.inr 0, .inl p0] mem K E := by
  refine CY.of (k := 2) mt_178 rfl rfl (fun hv => ?_)
  have hC := Ex.mono S (n + 16)
  have ii_p0 : InI p0 := hv (.inl p0) (by simp)
  unfold InI at ii_p0
  clear hv
  have h8 := hI.1.b.1
  show Tx (Ex S (n + 16)) S M_178 (kI K E) 0 0 0 [some (.inr 0), some (.inl p0), none, none] [] mem
  have l_8 : ∀ (N : Nat) (x3 : Int) (Q : Nat) (hQ : ChSh Q) (m_8 : MM), (1 ≤ x3) → (Rdy m_8) → ((41 - x3).toNat) < N → Frm pNb mem m_8 → Tx (Ex S (n + 16)) S M_178 (kI K E) 3 18 8 [some (.inr 0), some (.inl p0), some (.inr Q), some (.inl x3)] [] m_8 := by
    intro N
    induction N with
    | zero => intros; omega
    | succ N ih_8 =>
      intro x3 Q hQ m_8 i8_0 i8_1 hN_8 hF_8
      have hq8 := hQ.rg
      refine Tx.iload_n hC te_178_8 rfl ?_
      refine Tx.bipush hC te_178_9 rfl rfl ?_
      refine Tx.icmp hC (t := 34) te_178_11 (by decide) (fun q1 => ?_) (fun q1 => ?_)
      · replace q1 : 40 < (x3 : Int) := q1
        refine Tx.iconst hC te_178_34 rfl ?_
        exact Tx.ireturn hC te_178_35 rfl (fun hr => show K (-1) m_8 from H _ _ i8_1.cs hF_8)
      · replace q1 : ¬ (40 < (x3 : Int)) := q1
        refine Tx.aload_n hC te_178_14 rfl ?_
        refine Tx.getR hC te_178_15 rfl rfl rfl ?_
        refine Tx.aload_n hC te_178_18 rfl ?_
        refine Tx.iload_n hC te_178_19 rfl ?_
        refine Tx.virtI hC te_178_20 mt_179 (args := [.inr 139, .inr Q, .inl x3]) (rest := []) (c' := 3) (s' := 18) rfl rfl rfl rfl rfl rfl rfl rfl rfl rfl ?_
        refine f_179 hQ (i8_1.1.ch Q hQ) (by omega) (fun r2 m3 r2b hF4 r2i => ?_)
        have r2R := Rdy.e_whl i8_1 hF4
        have hF4n : Frm pNb mem m3 := hF_8.tr (hF4.mono (fun A i q => by unfold p140 at q; unfold pNb; omega))
        unfold InI at r2i
        refine Tx.ifc hC (t := 28) te_178_23 (by decide) (fun q5 => ?_) (fun q5 => ?_)
        · replace q5 : (r2 : Int) = 0 := q5
          refine Tx.iincW hC te_178_28 rfl rfl (fun z6 z6i z6e => ?_)
          unfold InI at z6i z6e
          first | replace z6e := z6e (by omega) | clear z6e
          refine Tx.goto hC (t := 8) te_178_31 (by decide) ?_
          exact ih_8 z6 (Q) (hQ) m3 (by omega) (r2R) (by omega) hF4n
        · replace q5 : ¬ ((r2 : Int) = 0) := q5
          refine Tx.iload_n hC te_178_26 rfl ?_
          exact Tx.ireturn hC te_178_27 rfl (fun hr => show K x3 m3 from H _ _ r2R.cs hF4n)
  refine Tx.aload_n hC te_178_0 rfl ?_
  refine Tx.iload_n hC te_178_1 rfl ?_
  refine Tx.virtR hC te_178_2 mt_115 (args := [.inr 0, .inl p0]) (rest := []) (c' := 3) (s' := 18) rfl rfl rfl rfl rfl rfl rfl rfl rfl rfl ?_
  refine f_115 hI (fun Q m8 hQ r7R hF9 r7a r7b => ?_) (fun r7e m8 r7q r7C hF9 => HE _ _ (by omega) r7C (Frm.rf.tr hF9))
  have hq8 := hQ.rg
  have r7o := (r7R.1.ch Q hQ).1
  have r7w := r7R.1.w.2
  have hF9n : Frm pNb mem m8 := Frm.rf.tr hF9
  refine Tx.astore_n hC te_178_5 rfl ?_
  refine Tx.iconst hC te_178_6 rfl ?_
  refine Tx.istore_n hC te_178_7 rfl ?_
  exact l_8 _ 1 (Q) (hQ) m8 (by omega) (r7R) (Nat.lt_succ_self _) hF9n
theorem f_183 {S : Nat × (Nat → Int32)} {n : Nat} {mem : MM} {K : Int → MM → Prop} {E : Nat → MM → Prop} (hI : ClS mem) {p0 p1 p2 : Int} (H : ∀ r m', ClS m' → Frm pNb mem m' → K r m') (HE : ∀ e m', (e = 2 ∨ e = 0 ∨ e = 1) → ClS m' → Frm pNb mem m' → E e m') : CQI (Ex S (n + 17)) 183 [.inr 0, .inl p0, .inl p1, .inl p2] mem K E := by
  refine CY.of (k := 0) mt_183 rfl rfl (fun hv => ?_)
  have hC := Ex.mono S (n + 16)
  have ii_p0 : InI p0 := hv (.inl p0) (by simp)
  unfold InI at ii_p0
  have ii_p1 : InI p1 := hv (.inl p1) (by simp)
  unfold InI at ii_p1
  have ii_p2 : InI p2 := hv (.inl p2) (by simp)
  unfold InI at ii_p2
  clear hv
  have h8 := hI.1.b.1
  show Tx (Ex S (n + 16)) S M_183 (kI K E) 0 0 0 [some (.inr 0), some (.inl p0), some (.inl p1), some (.inl p2)] [] mem
  refine Tx.aload_n hC te_183_0 rfl ?_
  refine Tx.iload_n hC te_183_1 rfl ?_
  refine Tx.virtV hC te_183_2 mt_57 (args := [.inr 0, .inl p0]) (rest := []) (c' := 1) (s' := 6) rfl rfl rfl rfl rfl rfl rfl rfl rfl rfl ?_
  refine f_57 (fun r1a r1b => ?_) (HE 2 _ (by omega) hI Frm.rf)
  refine Tx.iload_n hC te_183_5 rfl ?_
  refine Tx.statV hC te_183_6 (by decide) mt_74 (args := [.inl p1]) (rest := []) (c' := 2) (s' := 12) rfl rfl rfl rfl rfl rfl rfl ?_
  refine f_74 (fun r4a r4b => ?_) (HE 0 _ (by omega) hI Frm.rf)
  refine Tx.iload_n hC te_183_9 rfl ?_
  refine Tx.iconst hC te_183_10 rfl ?_
  refine Tx.icmp hC (t := 20) te_183_11 (by decide) (fun q7 => ?_) (fun q7 => ?_)
  · replace q7 : (p2 : Int) < 1 := q7
    exact Tx.thr hC te_183_20 rfl rfl rfl rfl rfl (show E 0 mem from HE _ _ (by omega) hI Frm.rf)
  · replace q7 : ¬ ((p2 : Int) < 1) := q7
    refine Tx.iload_n hC te_183_14 rfl ?_
    refine Tx.bipush hC te_183_15 rfl rfl ?_
    refine Tx.icmp hC (t := 31) te_183_17 (by decide) (fun q8 => ?_) (fun q8 => ?_)
    · replace q8 : (p2 : Int) ≤ 40 := q8
      refine Tx.aload_n hC te_183_31 rfl ?_
      refine Tx.getR hC te_183_32 rfl rfl rfl ?_
      refine Tx.aload_n hC te_183_35 rfl ?_
      refine Tx.iload_n hC te_183_36 rfl ?_
      refine Tx.virtR hC te_183_37 mt_115 (args := [.inr 0, .inl p1]) (rest := [.inr 139]) (c' := 5) (s' := 30) rfl rfl rfl rfl rfl rfl rfl rfl rfl rfl ?_
      refine f_115 hI (fun Q m10 hQ r9R hF11 r9a r9b => ?_) (fun r9e m10 r9q r9C hF11 => HE _ _ (by omega) r9C (Frm.rf.tr hF11))
      have hq8 := hQ.rg
      have r9o := (r9R.1.ch Q hQ).1
      have r9w := r9R.1.w.2
      have hF11n : Frm pNb mem m10 := Frm.rf.tr hF11
      refine Tx.iload_n hC te_183_40 rfl ?_
      refine Tx.virtI hC te_183_41 mt_179 (args := [.inr 139, .inr Q, .inl p2]) (rest := []) (c' := 5) (s' := 30) rfl rfl rfl rfl rfl rfl rfl rfl rfl rfl ?_
      refine f_179 hQ (r9R.1.ch Q hQ) (by omega) (fun r12 m13 r12b hF14 r12i => ?_)
      have r12R := Rdy.e_whl r9R hF14
      have hF14n : Frm pNb mem m13 := hF11n.tr (hF14.mono (fun A i q => by unfold p140 at q; unfold pNb; omega))
      unfold InI at r12i
      refine Tx.pop hC te_183_44 ?_
      refine Tx.aload_n hC te_183_45 rfl ?_
      refine Tx.getR hC te_183_46 rfl rfl rfl ?_
      refine Tx.getR hC te_183_49 rfl rfl rfl ?_
      refine Tx.iload_n hC te_183_52 rfl ?_
      refine Tx.iald hC te_183_53 rfl (by omega) (fun v15 v15e v15i => ?_)
      unfold InI at v15i
      exact Tx.ireturn hC te_183_54 rfl (fun hr => show K v15 m13 from H _ _ r12R.cs hF14n)
    · replace q8 : ¬ ((p2 : Int) ≤ 40) := q8
      exact Tx.thr hC te_183_20 rfl rfl rfl rfl rfl (show E 0 mem from HE _ _ (by omega) hI Frm.rf)
theorem f_185 {S : Nat × (Nat → Int32)} {n : Nat} {mem : MM} {K : Int → MM → Prop} {E : Nat → MM → Prop} (hI : ClS mem) {p0 p1 p2 p3 p4 : Int} (H : ∀ r m', ClS m' → Frm pNb mem m' → K r m') (HE : ∀ e m', (e = 2 ∨ e = 0 ∨ e = 1) → ClS m' → Frm pNb mem m' → E e m') : CQI (Ex S (n + 17)) 185 [.inr 0, .inl p0, .inl p1, .inl p2, .inl p3, .inl p4] mem K E := by
  refine CY.of (k := 1) mt_185 rfl rfl (fun hv => ?_)
  have hC := Ex.mono S (n + 16)
  have ii_p0 : InI p0 := hv (.inl p0) (by simp)
  unfold InI at ii_p0
  have ii_p1 : InI p1 := hv (.inl p1) (by simp)
  unfold InI at ii_p1
  have ii_p2 : InI p2 := hv (.inl p2) (by simp)
  unfold InI at ii_p2
  have ii_p3 : InI p3 := hv (.inl p3) (by simp)
  unfold InI at ii_p3
  have ii_p4 : InI p4 := hv (.inl p4) (by simp)
  unfold InI at ii_p4
  clear hv
  have h8 := hI.1.b.1
  show Tx (Ex S (n + 16)) S M_185 (kI K E) 0 0 0 [some (.inr 0), some (.inl p0), some (.inl p1), some (.inl p2), some (.inl p3), some (.inl p4), none] [] mem
  refine Tx.aload_n hC te_185_0 rfl ?_
  refine Tx.iload_n hC te_185_1 rfl ?_
  refine Tx.virtV hC te_185_2 mt_57 (args := [.inr 0, .inl p0]) (rest := []) (c' := 1) (s' := 6) rfl rfl rfl rfl rfl rfl rfl rfl rfl rfl ?_
  refine f_57 (fun r1a r1b => ?_) (HE 2 _ (by omega) hI Frm.rf)
  refine Tx.aload_n hC te_185_5 rfl ?_
  refine Tx.iload_n hC te_185_6 rfl ?_
  refine Tx.virtV hC te_185_7 mt_167 (args := [.inr 0, .inl p0]) (rest := []) (c' := 2) (s' := 12) rfl rfl rfl rfl rfl rfl rfl rfl rfl rfl ?_
  refine f_167 (by omega) (fun r4a => ?_) (HE 0 _ (by omega) hI Frm.rf)
  refine Tx.iload hC te_185_10 rfl ?_
  refine Tx.statV hC te_185_12 (by decide) mt_74 (args := [.inl p3]) (rest := []) (c' := 3) (s' := 18) rfl rfl rfl rfl rfl rfl rfl ?_
  refine f_74 (fun r7a r7b => ?_) (HE 0 _ (by omega) hI Frm.rf)
  refine Tx.iload hC te_185_15 rfl ?_
  refine Tx.statV hC te_185_17 (by decide) mt_151 (args := [.inl p4]) (rest := []) (c' := 4) (s' := 24) rfl rfl rfl rfl rfl rfl rfl ?_
  refine f_151 (fun r10a r10b => ?_) (HE 0 _ (by omega) hI Frm.rf)
  refine Tx.iload_n hC te_185_20 rfl ?_
  refine Tx.ifc hC (t := 37) te_185_21 (by decide) (fun q13 => ?_) (fun q13 => ?_)
  · replace q13 : (p1 : Int) < 0 := q13
    exact Tx.thr hC te_185_37 rfl rfl rfl rfl rfl (show E 0 mem from HE _ _ (by omega) hI Frm.rf)
  · replace q13 : ¬ ((p1 : Int) < 0) := q13
    refine Tx.iload_n hC te_185_24 rfl ?_
    refine Tx.ifc hC (t := 37) te_185_25 (by decide) (fun q14 => ?_) (fun q14 => ?_)
    · replace q14 : (p2 : Int) < 0 := q14
      exact Tx.thr hC te_185_37 rfl rfl rfl rfl rfl (show E 0 mem from HE _ _ (by omega) hI Frm.rf)
    · replace q14 : ¬ ((p2 : Int) < 0) := q14
      refine Tx.iload hC te_185_28 rfl ?_
      refine Tx.ifc hC (t := 48) te_185_30 (by decide) (fun q15 => ?_) (fun q15 => ?_)
      · replace q15 : ¬ (p4 : Int) = 0 := q15
        refine Tx.aload_n hC te_185_48 rfl ?_
        refine Tx.iload hC te_185_49 rfl ?_
        refine Tx.virtR hC te_185_51 mt_115 (args := [.inr 0, .inl p3]) (rest := []) (c' := 7) (s' := 42) rfl rfl rfl rfl rfl rfl rfl rfl rfl rfl ?_
        refine f_115 hI (fun Q m17 hQ r16R hF18 r16a r16b => ?_) (fun r16e m17 r16q r16C hF18 => HE _ _ (by omega) r16C (Frm.rf.tr hF18))
        have hq8 := hQ.rg
        have r16o := (r16R.1.ch Q hQ).1
        have r16w := r16R.1.w.2
        have hF18n : Frm pNb mem m17 := Frm.rf.tr hF18
        refine Tx.astore hC te_185_54 rfl ?_
        refine Tx.iload_n hC te_185_56 rfl ?_
        refine Tx.aload hC te_185_57 rfl ?_
        refine Tx.getR hC te_185_59 hQ.s0 rfl rfl ?_
        refine Tx.iload_n hC te_185_62 rfl ?_
        refine Tx.iald hC te_185_63 hQ.s6 (by omega) (fun v19 v19e v19i => ?_)
        unfold InI at v19i
        refine Tx.icmp hC (t := 78) te_185_64 (by decide) (fun q20 => ?_) (fun q20 => ?_)
        · replace q20 : v19 ≤ (p1 : Int) := q20
          exact Tx.thr hC te_185_78 rfl rfl rfl rfl rfl (show E 0 m17 from HE _ _ (by omega) r16R.cs hF18n)
        · replace q20 : ¬ (v19 ≤ (p1 : Int)) := q20
          refine Tx.iload_n hC te_185_67 rfl ?_
          refine Tx.aload hC te_185_68 rfl ?_
          refine Tx.iload hC te_185_70 rfl ?_
          refine Tx.virtI hC te_185_72 mt_155 (args := [.inr Q, .inl p4]) (rest := [.inl p2]) (c' := 7) (s' := 42) rfl rfl rfl rfl rfl rfl rfl rfl hQ.s0 rfl ?_
          refine f_155 hQ (fun r21 r21i => ?_)
          unfold InI at r21i
          refine Tx.icmp hC (t := 89) te_185_75 (by decide) (fun q24 => ?_) (fun q24 => ?_)
          · replace q24 : (p2 : Int) ≤ r21 := q24
            refine Tx.aload_n hC te_185_89 rfl ?_
            refine Tx.getR hC te_185_90 rfl rfl rfl ?_
            refine Tx.aload_n hC te_185_93 rfl ?_
            refine Tx.getR hC te_185_94 rfl rfl rfl ?_
            refine Tx.iload hC te_185_97 rfl ?_
            refine Tx.virtV hC te_185_99 mt_161 (args := [.inr 134, .inr 1, .inl p4]) (rest := []) (c' := 7) (s' := 42) rfl rfl rfl rfl rfl rfl rfl rfl rfl rfl ?_
            refine f_161 r16R.cs.1.b (by omega) (fun m26 hF27 => ?_)
            have r25R := Rdy.e_play r16R hF27
            have hF27n : Frm pNb mem m26 := hF18n.tr (hF27.mono (fun A i q => by unfold pPl at q; unfold pNb; omega))
            refine Tx.aload_n hC te_185_102 rfl ?_
            refine Tx.getR hC te_185_103 rfl rfl rfl ?_
            refine Tx.aload_n hC te_185_106 rfl ?_
            refine Tx.getR hC te_185_107 rfl rfl rfl ?_
            refine Tx.iload_n hC te_185_110 rfl ?_
            refine Tx.aload hC te_185_111 rfl ?_
            refine Tx.iload_n hC te_185_113 rfl ?_
            refine Tx.iload_n hC te_185_114 rfl ?_
            refine Tx.iload_n hC te_185_115 rfl ?_
            refine Tx.iload hC te_185_116 rfl ?_
            refine Tx.virtI hC te_185_118 mt_186 (args := [.inr Q, .inl p0, .inl p1, .inl p2, .inl p4]) (rest := [.inl p0, .inr 1, .inr 134]) (c' := 7) (s' := 42) rfl rfl rfl rfl rfl rfl rfl rfl hQ.s0 rfl ?_
            refine f_186 hQ (r25R.1.ch Q hQ) (by omega) (by omega) (by omega) (fun r28 r28b r28i => ?_)
            unfold InI at r28i
            refine Tx.virtI hC te_185_121 mt_164 (args := [.inr 134, .inr 1, .inl p0, .inl r28]) (rest := []) (c' := 7) (s' := 42) rfl rfl rfl rfl rfl rfl rfl rfl rfl rfl ?_
            refine f_164 (by omega) (by omega) (fun r31 r31i => ?_)
            unfold InI at r31i
            exact Tx.ireturn hC te_185_124 rfl (fun hr => show K r31 m26 from H _ _ r25R.cs hF27n)
          · replace q24 : ¬ ((p2 : Int) ≤ r21) := q24
            exact Tx.thr hC te_185_78 rfl rfl rfl rfl rfl (show E 0 m17 from HE _ _ (by omega) r16R.cs hF18n)
      · replace q15 : ¬ (¬ (p4 : Int) = 0) := q15
        refine Tx.iload_n hC te_185_33 rfl ?_
        refine Tx.ifc hC (t := 48) te_185_34 (by decide) (fun q34 => ?_) (fun q34 => ?_)
        · replace q34 : (p2 : Int) ≤ 0 := q34
          refine Tx.aload_n hC te_185_48 rfl ?_
          refine Tx.iload hC te_185_49 rfl ?_
          refine Tx.virtR hC te_185_51 mt_115 (args := [.inr 0, .inl p3]) (rest := []) (c' := 7) (s' := 42) rfl rfl rfl rfl rfl rfl rfl rfl rfl rfl ?_
          refine f_115 hI (fun Q m36 hQ r35R hF37 r35a r35b => ?_) (fun r35e m36 r35q r35C hF37 => HE _ _ (by omega) r35C (Frm.rf.tr hF37))
          have hq8 := hQ.rg
          have r35o := (r35R.1.ch Q hQ).1
          have r35w := r35R.1.w.2
          have hF37n : Frm pNb mem m36 := Frm.rf.tr hF37
          refine Tx.astore hC te_185_54 rfl ?_
          refine Tx.iload_n hC te_185_56 rfl ?_
          refine Tx.aload hC te_185_57 rfl ?_
          refine Tx.getR hC te_185_59 hQ.s0 rfl rfl ?_
          refine Tx.iload_n hC te_185_62 rfl ?_
          refine Tx.iald hC te_185_63 hQ.s6 (by omega) (fun v38 v38e v38i => ?_)
          unfold InI at v38i
          refine Tx.icmp hC (t := 78) te_185_64 (by decide) (fun q39 => ?_) (fun q39 => ?_)
          · replace q39 : v38 ≤ (p1 : Int) := q39
            exact Tx.thr hC te_185_78 rfl rfl rfl rfl rfl (show E 0 m36 from HE _ _ (by omega) r35R.cs hF37n)
          · replace q39 : ¬ (v38 ≤ (p1 : Int)) := q39
            refine Tx.iload_n hC te_185_67 rfl ?_
            refine Tx.aload hC te_185_68 rfl ?_
            refine Tx.iload hC te_185_70 rfl ?_
            refine Tx.virtI hC te_185_72 mt_155 (args := [.inr Q, .inl p4]) (rest := [.inl p2]) (c' := 7) (s' := 42) rfl rfl rfl rfl rfl rfl rfl rfl hQ.s0 rfl ?_
            refine f_155 hQ (fun r40 r40i => ?_)
            unfold InI at r40i
            refine Tx.icmp hC (t := 89) te_185_75 (by decide) (fun q43 => ?_) (fun q43 => ?_)
            · replace q43 : (p2 : Int) ≤ r40 := q43
              refine Tx.aload_n hC te_185_89 rfl ?_
              refine Tx.getR hC te_185_90 rfl rfl rfl ?_
              refine Tx.aload_n hC te_185_93 rfl ?_
              refine Tx.getR hC te_185_94 rfl rfl rfl ?_
              refine Tx.iload hC te_185_97 rfl ?_
              refine Tx.virtV hC te_185_99 mt_161 (args := [.inr 134, .inr 1, .inl p4]) (rest := []) (c' := 7) (s' := 42) rfl rfl rfl rfl rfl rfl rfl rfl rfl rfl ?_
              refine f_161 r35R.cs.1.b (by omega) (fun m45 hF46 => ?_)
              have r44R := Rdy.e_play r35R hF46
              have hF46n : Frm pNb mem m45 := hF37n.tr (hF46.mono (fun A i q => by unfold pPl at q; unfold pNb; omega))
              refine Tx.aload_n hC te_185_102 rfl ?_
              refine Tx.getR hC te_185_103 rfl rfl rfl ?_
              refine Tx.aload_n hC te_185_106 rfl ?_
              refine Tx.getR hC te_185_107 rfl rfl rfl ?_
              refine Tx.iload_n hC te_185_110 rfl ?_
              refine Tx.aload hC te_185_111 rfl ?_
              refine Tx.iload_n hC te_185_113 rfl ?_
              refine Tx.iload_n hC te_185_114 rfl ?_
              refine Tx.iload_n hC te_185_115 rfl ?_
              refine Tx.iload hC te_185_116 rfl ?_
              refine Tx.virtI hC te_185_118 mt_186 (args := [.inr Q, .inl p0, .inl p1, .inl p2, .inl p4]) (rest := [.inl p0, .inr 1, .inr 134]) (c' := 7) (s' := 42) rfl rfl rfl rfl rfl rfl rfl rfl hQ.s0 rfl ?_
              refine f_186 hQ (r44R.1.ch Q hQ) (by omega) (by omega) (by omega) (fun r47 r47b r47i => ?_)
              unfold InI at r47i
              refine Tx.virtI hC te_185_121 mt_164 (args := [.inr 134, .inr 1, .inl p0, .inl r47]) (rest := []) (c' := 7) (s' := 42) rfl rfl rfl rfl rfl rfl rfl rfl rfl rfl ?_
              refine f_164 (by omega) (by omega) (fun r50 r50i => ?_)
              unfold InI at r50i
              exact Tx.ireturn hC te_185_124 rfl (fun hr => show K r50 m45 from H _ _ r44R.cs hF46n)
            · replace q43 : ¬ ((p2 : Int) ≤ r40) := q43
              exact Tx.thr hC te_185_78 rfl rfl rfl rfl rfl (show E 0 m36 from HE _ _ (by omega) r35R.cs hF37n)
        · replace q34 : ¬ ((p2 : Int) ≤ 0) := q34
          exact Tx.thr hC te_185_37 rfl rfl rfl rfl rfl (show E 0 mem from HE _ _ (by omega) hI Frm.rf)
theorem f_188 {S : Nat × (Nat → Int32)} {n : Nat} {mem : MM} {K : Int → MM → Prop} {E : Nat → MM → Prop} (hI : ClS mem) {p0 : Int} (H : ∀ r m', ClS m' → Frm pNb mem m' → K r m') (HE : ∀ e m', (e = 1) → ClS m' → Frm pNb mem m' → E e m') : CQI (Ex S (n + 17)) 188 [.inr 0, .inl p0] mem K E := by
  refine CY.of (k := 0) mt_188 rfl rfl (fun hv => ?_)
  have hC := Ex.mono S (n + 16)
  have ii_p0 : InI p0 := hv (.inl p0) (by simp)
  unfold InI at ii_p0
  clear hv
  have h8 := hI.1.b.1
  show Tx (Ex S (n + 16)) S M_188 (kI K E) 0 0 0 [some (.inr 0), some (.inl p0)] [] mem
  refine Tx.aload_n hC te_188_0 rfl ?_
  refine Tx.virtV hC te_188_1 mt_69 (args := [.inr 0]) (rest := []) (c' := 1) (s' := 6) rfl rfl rfl rfl rfl rfl rfl rfl rfl rfl ?_
  refine f_69 hI (fun m2 r1R hF3 => ?_) (fun m2 r1C hF3 => HE 1 _ (by omega) r1C (Frm.rf.tr hF3))
  have r1w := r1R.1.w.2
  have hF3n : Frm pNb mem m2 := Frm.rf.tr hF3
  refine Tx.iload_n hC te_188_4 rfl ?_
  refine Tx.ifc hC (t := 18) te_188_5 (by decide) (fun q4 => ?_) (fun q4 => ?_)
  · replace q4 : (p0 : Int) = 0 := q4
    refine Tx.aload_n hC te_188_18 rfl ?_
    refine Tx.getR hC te_188_19 rfl rfl rfl ?_
    refine Tx.getI hC te_188_22 rfl rfl rfl (fun v5 v5e v5i => ?_)
    unfold InI at v5i
    exact Tx.ireturn hC te_188_25 rfl (fun hr => show K v5 m2 from H _ _ r1R.cs hF3n)
  · replace q4 : ¬ ((p0 : Int) = 0) := q4
    refine Tx.aload_n hC te_188_8 rfl ?_
    refine Tx.getR hC te_188_9 rfl rfl rfl ?_
    refine Tx.getI hC te_188_12 rfl rfl rfl (fun v6 v6e v6i => ?_)
    unfold InI at v6i
    refine Tx.goto hC (t := 25) te_188_15 (by decide) ?_
    exact Tx.ireturn hC te_188_25 rfl (fun hr => show K v6 m2 from H _ _ r1R.cs hF3n)
theorem f_190 {S : Nat × (Nat → Int32)} {n : Nat} {mem : MM} {K : Int → MM → Prop} {E : Nat → MM → Prop} (hI : ClS mem) (H : ∀ r m', ClS m' → Frm pNb mem m' → K r m') (HE : ∀ e m', (e = 1) → ClS m' → Frm pNb mem m' → E e m') : CQI (Ex S (n + 17)) 190 [.inr 0] mem K E := by
  refine CY.of (k := 0) mt_190 rfl rfl (fun hv => ?_)
  have hC := Ex.mono S (n + 16)
  clear hv
  have h8 := hI.1.b.1
  show Tx (Ex S (n + 16)) S M_190 (kI K E) 0 0 0 [some (.inr 0)] [] mem
  refine Tx.aload_n hC te_190_0 rfl ?_
  refine Tx.virtV hC te_190_1 mt_69 (args := [.inr 0]) (rest := []) (c' := 1) (s' := 6) rfl rfl rfl rfl rfl rfl rfl rfl rfl rfl ?_
  refine f_69 hI (fun m2 r1R hF3 => ?_) (fun m2 r1C hF3 => HE 1 _ (by omega) r1C (Frm.rf.tr hF3))
  have r1w := r1R.1.w.2
  have hF3n : Frm pNb mem m2 := Frm.rf.tr hF3
  refine Tx.aload_n hC te_190_4 rfl ?_
  refine Tx.getR hC te_190_5 rfl rfl rfl ?_
  refine Tx.getI hC te_190_8 rfl rfl rfl (fun v4 v4e v4i => ?_)
  unfold InI at v4i
  exact Tx.ireturn hC te_190_11 rfl (fun hr => show K v4 m2 from H _ _ r1R.cs hF3n)
theorem f_192 {S : Nat × (Nat → Int32)} {n : Nat} {mem : MM} {K : Int → MM → Prop} {E : Nat → MM → Prop} (hI : ClS mem) {p0 : Int} (H : ∀ r m', ClS m' → Frm pNb mem m' → K r m') (HE : ∀ e m', (e = 0 ∨ e = 1) → ClS m' → Frm pNb mem m' → E e m') : CQI (Ex S (n + 17)) 192 [.inr 0, .inl p0] mem K E := by
  refine CY.of (k := 0) mt_192 rfl rfl (fun hv => ?_)
  have hC := Ex.mono S (n + 16)
  have ii_p0 : InI p0 := hv (.inl p0) (by simp)
  unfold InI at ii_p0
  clear hv
  have h8 := hI.1.b.1
  show Tx (Ex S (n + 16)) S M_192 (kI K E) 0 0 0 [some (.inr 0), some (.inl p0)] [] mem
  refine Tx.iload_n hC te_192_0 rfl ?_
  refine Tx.iconst hC te_192_1 rfl ?_
  refine Tx.icmp hC (t := 10) te_192_2 (by decide) (fun q1 => ?_) (fun q1 => ?_)
  · replace q1 : (p0 : Int) < 1 := q1
    exact Tx.thr hC te_192_10 rfl rfl rfl rfl rfl (show E 0 mem from HE _ _ (by omega) hI Frm.rf)
  · replace q1 : ¬ ((p0 : Int) < 1) := q1
    refine Tx.iload_n hC te_192_5 rfl ?_
    refine Tx.iconst hC te_192_6 rfl ?_
    refine Tx.icmp hC (t := 21) te_192_7 (by decide) (fun q2 => ?_) (fun q2 => ?_)
    · replace q2 : (p0 : Int) ≤ 4 := q2
      refine Tx.aload_n hC te_192_21 rfl ?_
      refine Tx.virtV hC te_192_22 mt_69 (args := [.inr 0]) (rest := []) (c' := 1) (s' := 6) rfl rfl rfl rfl rfl rfl rfl rfl rfl rfl ?_
      refine f_69 hI (fun m4 r3R hF5 => ?_) (fun m4 r3C hF5 => HE 1 _ (by omega) r3C (Frm.rf.tr hF5))
      have r3w := r3R.1.w.2
      have hF5n : Frm pNb mem m4 := Frm.rf.tr hF5
      refine Tx.aload_n hC te_192_25 rfl ?_
      refine Tx.iload_n hC te_192_26 rfl ?_
      refine Tx.virtI hC te_192_27 mt_41 (args := [.inr 0, .inl p0]) (rest := []) (c' := 1) (s' := 6) rfl rfl rfl rfl rfl rfl rfl rfl rfl rfl ?_
      refine f_41 r3R.cs.1.b (fun r6 r6i => ?_)
      unfold InI at r6i
      exact Tx.ireturn hC te_192_30 rfl (fun hr => show K r6 m4 from H _ _ r3R.cs hF5n)
    · replace q2 : ¬ ((p0 : Int) ≤ 4) := q2
      exact Tx.thr hC te_192_10 rfl rfl rfl rfl rfl (show E 0 mem from HE _ _ (by omega) hI Frm.rf)
theorem f_194 {S : Nat × (Nat → Int32)} {n : Nat} {mem : MM} {K : Int → MM → Prop} {E : Nat → MM → Prop} (hI : ClS mem) (H : ∀ r m', ClS m' → Frm pNb mem m' → K r m') (HE : ∀ e m', (e = 1) → ClS m' → Frm pNb mem m' → E e m') : CQI (Ex S (n + 17)) 194 [.inr 0] mem K E := by
  refine CY.of (k := 4) mt_194 rfl rfl (fun hv => ?_)
  have hC := Ex.mono S (n + 16)
  clear hv
  have h8 := hI.1.b.1
  show Tx (Ex S (n + 16)) S M_194 (kI K E) 0 0 0 [some (.inr 0), none, none, none, none] [] mem
  have l_14 : ∀ (N : Nat) (x1 x2 x3 : Int) (m_14 : MM), (2 ≤ x3) → (Rdy m_14) → ((5 - x3).toNat) < N → Frm pNb mem m_14 → Tx (Ex S (n + 16)) S M_194 (kI K E) 1 6 14 [some (.inr 0), some (.inl x1), some (.inl x2), some (.inl x3), none] [] m_14 := by
    intro N
    induction N with
    | zero => intros; omega
    | succ N ih_14 =>
      intro x1 x2 x3 m_14 i14_0 i14_1 hN_14 hF_14
      refine Tx.iload_n hC te_194_14 rfl ?_
      refine Tx.iconst hC te_194_15 rfl ?_
      refine Tx.icmp hC (t := 47) te_194_16 (by decide) (fun q1 => ?_) (fun q1 => ?_)
      · replace q1 : 4 < (x3 : Int) := q1
        refine Tx.iload_n hC te_194_47 rfl ?_
        exact Tx.ireturn hC te_194_48 rfl (fun hr => show K x1 m_14 from H _ _ i14_1.cs hF_14)
      · replace q1 : ¬ (4 < (x3 : Int)) := q1
        refine Tx.aload_n hC te_194_19 rfl ?_
        refine Tx.iload_n hC te_194_20 rfl ?_
        refine Tx.virtI hC te_194_21 mt_41 (args := [.inr 0, .inl x3]) (rest := []) (c' := 1) (s' := 6) rfl rfl rfl rfl rfl rfl rfl rfl rfl rfl ?_
        refine f_41 i14_1.cs.1.b (fun r2 r2i => ?_)
        unfold InI at r2i
        refine Tx.istore hC te_194_24 rfl ?_
        refine Tx.iload hC te_194_26 rfl ?_
        refine Tx.iload_n hC te_194_28 rfl ?_
        refine Tx.imulW hC te_194_29 (fun z5 z5i z5e => ?_)
        unfold InI at z5i z5e
        first | replace z5e := z5e (by omega) | clear z5e
        refine Tx.iload_n hC te_194_30 rfl ?_
        refine Tx.iload_n hC te_194_31 rfl ?_
        refine Tx.imulW hC te_194_32 (fun z6 z6i z6e => ?_)
        unfold InI at z6i z6e
        first | replace z6e := z6e (by omega) | clear z6e
        refine Tx.icmp hC (t := 41) te_194_33 (by decide) (fun q7 => ?_) (fun q7 => ?_)
        · replace q7 : z6 ≤ (z5 : Int) := q7
          refine Tx.iincW hC te_194_41 rfl rfl (fun z8 z8i z8e => ?_)
          unfold InI at z8i z8e
          first | replace z8e := z8e (by omega) | clear z8e
          refine Tx.goto hC (t := 14) te_194_44 (by decide) ?_
          exact Tx.weak (by repeat' (first | exact trivial | exact rfl | constructor)) (ih_14 x1 x2 z8 m_14 (by omega) (i14_1) (by omega) hF_14)
        · replace q7 : ¬ (z6 ≤ (z5 : Int)) := q7
          refine Tx.iload_n hC te_194_36 rfl ?_
          refine Tx.istore_n hC te_194_37 rfl ?_
          refine Tx.iload hC te_194_38 rfl ?_
          refine Tx.istore_n hC te_194_40 rfl ?_
          refine Tx.iincW hC te_194_41 rfl rfl (fun z9 z9i z9e => ?_)
          unfold InI at z9i z9e
          first | replace z9e := z9e (by omega) | clear z9e
          refine Tx.goto hC (t := 14) te_194_44 (by decide) ?_
          exact Tx.weak (by repeat' (first | exact trivial | exact rfl | constructor)) (ih_14 x3 r2 z9 m_14 (by omega) (i14_1) (by omega) hF_14)
  refine Tx.aload_n hC te_194_0 rfl ?_
  refine Tx.virtV hC te_194_1 mt_69 (args := [.inr 0]) (rest := []) (c' := 1) (s' := 6) rfl rfl rfl rfl rfl rfl rfl rfl rfl rfl ?_
  refine f_69 hI (fun m11 r10R hF12 => ?_) (fun m11 r10C hF12 => HE 1 _ (by omega) r10C (Frm.rf.tr hF12))
  have r10w := r10R.1.w.2
  have hF12n : Frm pNb mem m11 := Frm.rf.tr hF12
  refine Tx.iconst hC te_194_4 rfl ?_
  refine Tx.istore_n hC te_194_5 rfl ?_
  refine Tx.aload_n hC te_194_6 rfl ?_
  refine Tx.iconst hC te_194_7 rfl ?_
  refine Tx.virtI hC te_194_8 mt_41 (args := [.inr 0, .inl 1]) (rest := []) (c' := 1) (s' := 6) rfl rfl rfl rfl rfl rfl rfl rfl rfl rfl ?_
  refine f_41 r10R.cs.1.b (fun r13 r13i => ?_)
  unfold InI at r13i
  refine Tx.istore_n hC te_194_11 rfl ?_
  refine Tx.iconst hC te_194_12 rfl ?_
  refine Tx.istore_n hC te_194_13 rfl ?_
  exact l_14 _ 1 r13 2 m11 (by omega) (r10R) (Nat.lt_succ_self _) hF12n
theorem f_196 {S : Nat × (Nat → Int32)} {n : Nat} {mem : MM} {K : Int → MM → Prop} {E : Nat → MM → Prop} (hI : ClS mem) {p0 : Int} (H : ∀ r m', ClS m' → Frm pNb mem m' → K r m') (HE : ∀ e m', (e = 2 ∨ e = 1) → ClS m' → Frm pNb mem m' → E e m') : CQI (Ex S (n + 17)) 196 [.inr 0, .inl p0] mem K E := by
  refine CY.of (k := 0) mt_196 rfl rfl (fun hv => ?_)
  have hC := Ex.mono S (n + 16)
  have ii_p0 : InI p0 := hv (.inl p0) (by simp)
  unfold InI at ii_p0
  clear hv
  have h8 := hI.1.b.1
  show Tx (Ex S (n + 16)) S M_196 (kI K E) 0 0 0 [some (.inr 0), some (.inl p0)] [] mem
  refine Tx.aload_n hC te_196_0 rfl ?_
  refine Tx.iload_n hC te_196_1 rfl ?_
  refine Tx.virtV hC te_196_2 mt_60 (args := [.inr 0, .inl p0]) (rest := []) (c' := 1) (s' := 6) rfl rfl rfl rfl rfl rfl rfl rfl rfl rfl ?_
  refine f_60 (fun r1a r1b => ?_) (HE 2 _ (by omega) hI Frm.rf)
  refine Tx.aload_n hC te_196_5 rfl ?_
  refine Tx.virtV hC te_196_6 mt_69 (args := [.inr 0]) (rest := []) (c' := 2) (s' := 12) rfl rfl rfl rfl rfl rfl rfl rfl rfl rfl ?_
  refine f_69 hI (fun m5 r4R hF6 => ?_) (fun m5 r4C hF6 => HE 1 _ (by omega) r4C (Frm.rf.tr hF6))
  have r4w := r4R.1.w.2
  have hF6n : Frm pNb mem m5 := Frm.rf.tr hF6
  refine Tx.aload_n hC te_196_9 rfl ?_
  refine Tx.getR hC te_196_10 rfl rfl rfl ?_
  refine Tx.getR hC te_196_13 rfl rfl rfl ?_
  refine Tx.iload_n hC te_196_16 rfl ?_
  refine Tx.iald hC te_196_17 rfl (by omega) (fun v7 v7e v7i => ?_)
  unfold InI at v7i
  rw [hF6n 6 _ (by unfold pNb; omega)] at v7e
  have f8 := hI.1.b.la (o := (Int.toNat p0)) (by omega)
  refine Tx.iconst hC te_196_18 rfl ?_
  refine Tx.icmp hC (t := 33) te_196_19 (by decide) (fun q9 => ?_) (fun q9 => ?_)
  · replace q9 : ¬ (v7 : Int) = 1 := q9
    refine Tx.aload_n hC te_196_33 rfl ?_
    refine Tx.getR hC te_196_34 rfl rfl rfl ?_
    refine Tx.aload_n hC te_196_37 rfl ?_
    refine Tx.getR hC te_196_38 rfl rfl rfl ?_
    refine Tx.iload_n hC te_196_41 rfl ?_
    refine Tx.virtV hC te_196_42 mt_17 (args := [.inr 14, .inr 1, .inl p0]) (rest := []) (c' := 2) (s' := 12) rfl rfl rfl rfl rfl rfl rfl rfl rfl rfl ?_
    refine CWV.q hC (f_17 (W := 14) ⟨rfl, rfl, rfl, rfl, rfl⟩ (Or.inr rfl) r4R.1.b r4R.1.w2.1 (fun m11 hF12 r10w => ?_))
    have hF12p : Frm p14 m5 m11 := fun A i q => hF12 A i (by unfold p14 at q; omega) (by unfold p14 at q; omega)
    have r10R := Rdy.e_sp1 r4R hF12p r10w
    have hF12n : Frm pNb mem m11 := hF6n.tr (Frm.mono hF12p (fun A i q => by unfold p14 at q; unfold pNb; omega))
    refine Tx.aload_n hC te_196_45 rfl ?_
    refine Tx.getR hC te_196_46 rfl rfl rfl ?_
    refine Tx.aload_n hC te_196_49 rfl ?_
    refine Tx.getR hC te_196_50 rfl rfl rfl ?_
    refine Tx.getI hC te_196_53 rfl rfl rfl (fun v13 v13e v13i => ?_)
    unfold InI at v13i
    rw [hF12n 1 _ (by unfold pNb; omega)] at v13e
    refine Tx.virtV hC te_196_56 mt_26 (args := [.inr 14, .inl v13]) (rest := []) (c' := 2) (s' := 12) rfl rfl rfl rfl rfl rfl rfl rfl rfl rfl ?_
    refine CWV.q hC (f_26 (W := 14) ⟨rfl, rfl, rfl, rfl, rfl⟩ r10R.1.w2 (by omega) (fun m15 hF16 r14t => ?_))
    have r14R := Rdy.e_sp2 r10R hF16
    have hF16n : Frm pNb mem m15 := hF12n.tr (Frm.mono (P := pW14c) hF16 (fun A i q => by unfold pW14c at q; unfold pNb; omega))
    refine Tx.iconst hC te_196_59 rfl ?_
    refine Tx.aload_n hC te_196_60 rfl ?_
    refine Tx.getR hC te_196_61 rfl rfl rfl ?_
    refine Tx.virtI hC te_196_64 mt_32 (args := [.inr 14]) (rest := [.inl 1]) (c' := 2) (s' := 12) rfl rfl rfl rfl rfl rfl rfl rfl rfl rfl ?_
    refine f_32 (W := 14) ⟨rfl, rfl, rfl, rfl, rfl⟩ (fun r17 r17i => ?_)
    unfold InI at r17i
    refine Tx.aload_n hC te_196_67 rfl ?_
    refine Tx.getR hC te_196_68 rfl rfl rfl ?_
    refine Tx.iconst hC te_196_71 rfl ?_
    refine Tx.iconst hC te_196_72 rfl ?_
    refine Tx.virtI hC te_196_73 mt_35 (args := [.inr 1, .inl (-1), .inl 1]) (rest := [.inl r17, .inl 1]) (c' := 2) (s' := 12) rfl rfl rfl rfl rfl rfl rfl rfl rfl rfl ?_
    refine f_35 r14R.cs.1.b (fun r20 r20i => ?_)
    unfold InI at r20i
    refine Tx.statI hC te_196_76 (by decide) mt_40 (args := [.inl r17, .inl r20]) (rest := [.inl 1]) (c' := 2) (s' := 12) rfl rfl rfl rfl rfl rfl rfl ?_
    refine f_40q (fun r23 r23a r23b r23c r23i => ?_)
    unfold InI at r23i
    refine Tx.statI hC te_196_79 (by decide) mt_40 (args := [.inl 1, .inl r23]) (rest := []) (c' := 2) (s' := 12) rfl rfl rfl rfl rfl rfl rfl ?_
    refine f_40q (fun r26 r26a r26b r26c r26i => ?_)
    unfold InI at r26i
    exact Tx.ireturn hC te_196_82 rfl (fun hr => show K r26 m15 from H _ _ r14R.cs hF16n)
  · replace q9 : ¬ (¬ (v7 : Int) = 1) := q9
    exact Tx.thr hC te_196_22 rfl rfl rfl rfl rfl (show E 1 m5 from HE _ _ (by omega) r4R.cs hF6n)
theorem f_198 {S : Nat × (Nat → Int32)} {n : Nat} {mem : MM} {K : Int → MM → Prop} {E : Nat → MM → Prop} (hI : ClS mem) {p0 : Int} (H : ∀ r m', ClS m' → Frm pNb mem m' → K r m') (HE : ∀ e m', (e = 1 ∨ e = 2) → ClS m' → Frm pNb mem m' → E e m') : CQI (Ex S (n + 17)) 198 [.inr 0, .inl p0] mem K E := by
  refine CY.of (k := 0) mt_198 rfl rfl (fun hv => ?_)
  have hC := Ex.mono S (n + 16)
  have ii_p0 : InI p0 := hv (.inl p0) (by simp)
  unfold InI at ii_p0
  clear hv
  have h8 := hI.1.b.1
  show Tx (Ex S (n + 16)) S M_198 (kI K E) 0 0 0 [some (.inr 0), some (.inl p0)] [] mem
  refine Tx.aload_n hC te_198_0 rfl ?_
  refine Tx.virtV hC te_198_1 mt_69 (args := [.inr 0]) (rest := []) (c' := 1) (s' := 6) rfl rfl rfl rfl rfl rfl rfl rfl rfl rfl ?_
  refine f_69 hI (fun m2 r1R hF3 => ?_) (fun m2 r1C hF3 => HE 1 _ (by omega) r1C (Frm.rf.tr hF3))
  have r1w := r1R.1.w.2
  have hF3n : Frm pNb mem m2 := Frm.rf.tr hF3
  refine Tx.aload_n hC te_198_4 rfl ?_
  refine Tx.iload_n hC te_198_5 rfl ?_
  refine Tx.virtV hC te_198_6 mt_70 (args := [.inr 0, .inl p0]) (rest := []) (c' := 2) (s' := 12) rfl rfl rfl rfl rfl rfl rfl rfl rfl rfl ?_
  refine f_70 (fun r4a r4b => ?_) (HE 2 _ (by omega) r1R.cs hF3n)
  refine Tx.aload_n hC te_198_9 rfl ?_
  refine Tx.getR hC te_198_10 rfl rfl rfl ?_
  refine Tx.aload_n hC te_198_13 rfl ?_
  refine Tx.getR hC te_198_14 rfl rfl rfl ?_
  refine Tx.iload_n hC te_198_17 rfl ?_
  refine Tx.virtV hC te_198_18 mt_199 (args := [.inr 14, .inr 9, .inl p0]) (rest := []) (c' := 2) (s' := 12) rfl rfl rfl rfl rfl rfl rfl rfl rfl rfl ?_
  refine f_199 r1R.1.w r1R.1.w2.1 (fun m8 hF9 r7w => ?_)
  have r7R := Rdy.e_sp1 r1R hF9 r7w
  have hF9n : Frm pNb mem m8 := hF3n.tr (hF9.mono (fun A i q => by unfold p14 at q; unfold pNb; omega))
  refine Tx.aload_n hC te_198_21 rfl ?_
  refine Tx.getR hC te_198_22 rfl rfl rfl ?_
  refine Tx.aload_n hC te_198_25 rfl ?_
  refine Tx.getR hC te_198_26 rfl rfl rfl ?_
  refine Tx.getI hC te_198_29 rfl rfl rfl (fun v10 v10e v10i => ?_)
  unfold InI at v10i
  rw [hF9n 1 _ (by unfold pNb; omega)] at v10e
  refine Tx.virtV hC te_198_32 mt_26 (args := [.inr 14, .inl v10]) (rest := []) (c' := 2) (s' := 12) rfl rfl rfl rfl rfl rfl rfl rfl rfl rfl ?_
  refine CWV.q hC (f_26 (W := 14) ⟨rfl, rfl, rfl, rfl, rfl⟩ r7R.1.w2 (by omega) (fun m12 hF13 r11t => ?_))
  have r11R := Rdy.e_sp2 r7R hF13
  have hF13n : Frm pNb mem m12 := hF9n.tr (Frm.mono (P := pW14c) hF13 (fun A i q => by unfold pW14c at q; unfold pNb; omega))
  refine Tx.aload_n hC te_198_35 rfl ?_
  refine Tx.getR hC te_198_36 rfl rfl rfl ?_
  refine Tx.virtI hC te_198_39 mt_32 (args := [.inr 14]) (rest := []) (c' := 2) (s' := 12) rfl rfl rfl rfl rfl rfl rfl rfl rfl rfl ?_
  refine f_32 (W := 14) ⟨rfl, rfl, rfl, rfl, rfl⟩ (fun r14 r14i => ?_)
  unfold InI at r14i
  exact Tx.ireturn hC te_198_42 rfl (fun hr => show K r14 m12 from H _ _ r11R.cs hF13n)
theorem f_201 {S : Nat × (Nat → Int32)} {n : Nat} {mem : MM} {K : Int → MM → Prop} {E : Nat → MM → Prop} (hI : ClS mem) {p0 p1 : Int} (H : ∀ r m', ClS m' → Frm pNb mem m' → K r m') (HE : ∀ e m', (e = 2 ∨ e = 0 ∨ e = 1) → ClS m' → Frm pNb mem m' → E e m') : CQI (Ex S (n + 17)) 201 [.inr 0, .inl p0, .inl p1] mem K E := by
  refine CY.of (k := 0) mt_201 rfl rfl (fun hv => ?_)
  have hC := Ex.mono S (n + 16)
  have ii_p0 : InI p0 := hv (.inl p0) (by simp)
  unfold InI at ii_p0
  have ii_p1 : InI p1 := hv (.inl p1) (by simp)
  unfold InI at ii_p1
  clear hv
  have h8 := hI.1.b.1
  show Tx (Ex S (n + 16)) S M_201 (kI K E) 0 0 0 [some (.inr 0), some (.inl p0), some (.inl p1)] [] mem
  refine Tx.aload_n hC te_201_0 rfl ?_
  refine Tx.iload_n hC te_201_1 rfl ?_
  refine Tx.virtV hC te_201_2 mt_63 (args := [.inr 0, .inl p0]) (rest := []) (c' := 1) (s' := 6) rfl rfl rfl rfl rfl rfl rfl rfl rfl rfl ?_
  refine f_63 (fun r1a r1b => ?_) (HE 2 _ (by omega) hI Frm.rf)
  refine Tx.aload_n hC te_201_5 rfl ?_
  refine Tx.iload_n hC te_201_6 rfl ?_
  refine Tx.virtR hC te_201_7 mt_115 (args := [.inr 0, .inl p1]) (rest := []) (c' := 4) (s' := 24) rfl rfl rfl rfl rfl rfl rfl rfl rfl rfl ?_
  refine f_115 hI (fun Q m5 hQ r4R hF6 r4a r4b => ?_) (fun r4e m5 r4q r4C hF6 => HE _ _ (by omega) r4C (Frm.rf.tr hF6))
  have hq8 := hQ.rg
  have r4o := (r4R.1.ch Q hQ).1
  have r4w := r4R.1.w.2
  have hF6n : Frm pNb mem m5 := Frm.rf.tr hF6
  refine Tx.pop hC te_201_10 ?_
  refine Tx.iload_n hC te_201_11 rfl ?_
  refine Tx.aload_n hC te_201_12 rfl ?_
  refine Tx.getR hC te_201_13 rfl rfl rfl ?_
  refine Tx.getR hC te_201_16 rfl rfl rfl ?_
  refine Tx.iload_n hC te_201_19 rfl ?_
  refine Tx.iald hC te_201_20 rfl (by omega) (fun v7 v7e v7i => ?_)
  unfold InI at v7i
  rw [hF6n 8 _ (by unfold pNb; omega)] at v7e
  have f8 := hI.1.b.cn (o := (Int.toNat p0)) (by omega)
  refine Tx.imulW hC te_201_21 (fun z9 z9i z9e => ?_)
  unfold InI at z9i z9e
  first | replace z9e := z9e (by omega) | clear z9e
  refine Tx.aload_n hC te_201_22 rfl ?_
  refine Tx.getR hC te_201_23 rfl rfl rfl ?_
  refine Tx.iload_n hC te_201_26 rfl ?_
  refine Tx.virtI hC te_201_27 mt_36 (args := [.inr 1, .inl p0]) (rest := [.inl z9]) (c' := 4) (s' := 24) rfl rfl rfl rfl rfl rfl rfl rfl rfl rfl ?_
  refine f_36 r4R.cs.1.b (fun r10 r10i => ?_)
  unfold InI at r10i
  refine Tx.isubW hC te_201_30 (fun z13 z13i z13e => ?_)
  unfold InI at z13i z13e
  first | replace z13e := z13e (by omega) | clear z13e
  exact Tx.ireturn hC te_201_31 rfl (fun hr => show K z13 m5 from H _ _ r4R.cs hF6n)
theorem f_203 {S : Nat × (Nat → Int32)} {n : Nat} {mem : MM} {K : Int → MM → Prop} {E : Nat → MM → Prop} (hI : ClS mem) {p0 p1 p2 : Int} (H : ∀ r m', ClS m' → Frm pNb mem m' → K r m') (HE : ∀ e m', (e = 2 ∨ e = 0 ∨ e = 1) → ClS m' → Frm pNb mem m' → E e m') : CQI (Ex S (n + 17)) 203 [.inr 0, .inl p0, .inl p1, .inl p2] mem K E := by
  refine CY.of (k := 0) mt_203 rfl rfl (fun hv => ?_)
  have hC := Ex.mono S (n + 16)
  have ii_p0 : InI p0 := hv (.inl p0) (by simp)
  unfold InI at ii_p0
  have ii_p1 : InI p1 := hv (.inl p1) (by simp)
  unfold InI at ii_p1
  have ii_p2 : InI p2 := hv (.inl p2) (by simp)
  unfold InI at ii_p2
  clear hv
  have h8 := hI.1.b.1
  show Tx (Ex S (n + 16)) S M_203 (kI K E) 0 0 0 [some (.inr 0), some (.inl p0), some (.inl p1), some (.inl p2)] [] mem
  refine Tx.aload_n hC te_203_0 rfl ?_
  refine Tx.iload_n hC te_203_1 rfl ?_
  refine Tx.virtV hC te_203_2 mt_57 (args := [.inr 0, .inl p0]) (rest := []) (c' := 1) (s' := 6) rfl rfl rfl rfl rfl rfl rfl rfl rfl rfl ?_
  refine f_57 (fun r1a r1b => ?_) (HE 2 _ (by omega) hI Frm.rf)
  refine Tx.aload_n hC te_203_5 rfl ?_
  refine Tx.iload_n hC te_203_6 rfl ?_
  refine Tx.virtV hC te_203_7 mt_73 (args := [.inr 0, .inl p1]) (rest := []) (c' := 4) (s' := 24) rfl rfl rfl rfl rfl rfl rfl rfl rfl rfl ?_
  refine f_73 hI (fun m5 r4R hF6 r4a r4b => ?_) (fun r4e m5 r4q r4C hF6 => HE _ _ (by omega) r4C (Frm.rf.tr hF6))
  have r4w := r4R.1.w.2
  have r4y := r4R.1.r
  have hF6n : Frm pNb mem m5 := Frm.rf.tr hF6
  refine Tx.iload_n hC te_203_10 rfl ?_
  refine Tx.ifc hC (t := 29) te_203_11 (by decide) (fun q7 => ?_) (fun q7 => ?_)
  · replace q7 : (p2 : Int) = 0 := q7
    refine Tx.aload_n hC te_203_29 rfl ?_
    refine Tx.getR hC te_203_30 rfl rfl rfl ?_
    refine Tx.iload_n hC te_203_33 rfl ?_
    refine Tx.virtI hC te_203_34 mt_205 (args := [.inr 19, .inl p0]) (rest := []) (c' := 4) (s' := 24) rfl rfl rfl rfl rfl rfl rfl rfl rfl rfl ?_
    refine f_205 r4R.1.r (by omega) (fun r8 r8i => ?_)
    unfold InI at r8i
    exact Tx.ireturn hC te_203_37 rfl (fun hr => show K r8 m5 from H _ _ r4R.cs hF6n)
  · replace q7 : ¬ ((p2 : Int) = 0) := q7
    refine Tx.aload_n hC te_203_14 rfl ?_
    refine Tx.getR hC te_203_15 rfl rfl rfl ?_
    refine Tx.aload_n hC te_203_18 rfl ?_
    refine Tx.getR hC te_203_19 rfl rfl rfl ?_
    refine Tx.iload_n hC te_203_22 rfl ?_
    refine Tx.virtI hC te_203_23 mt_204 (args := [.inr 19, .inr 1, .inl p0]) (rest := []) (c' := 4) (s' := 24) rfl rfl rfl rfl rfl rfl rfl rfl rfl rfl ?_
    refine f_204 r4R.1.r r4R.cs.1.b (by omega) (fun r11 r11i => ?_)
    unfold InI at r11i
    refine Tx.goto hC (t := 37) te_203_26 (by decide) ?_
    exact Tx.ireturn hC te_203_37 rfl (fun hr => show K r11 m5 from H _ _ r4R.cs hF6n)
theorem f_207 {S : Nat × (Nat → Int32)} {n : Nat} {mem : MM} {K : Int → MM → Prop} {E : Nat → MM → Prop} (hI : ClS mem) {p0 p1 p2 : Int} (H : ∀ r m', ClS m' → Frm pNb mem m' → K r m') (HE : ∀ e m', (e = 2 ∨ e = 0 ∨ e = 1) → ClS m' → Frm pNb mem m' → E e m') : CQI (Ex S (n + 17)) 207 [.inr 0, .inl p0, .inl p1, .inl p2] mem K E := by
  refine CY.of (k := 0) mt_207 rfl rfl (fun hv => ?_)
  have hC := Ex.mono S (n + 16)
  have ii_p0 : InI p0 := hv (.inl p0) (by simp)
  unfold InI at ii_p0
  have ii_p1 : InI p1 := hv (.inl p1) (by simp)
  unfold InI at ii_p1
  have ii_p2 : InI p2 := hv (.inl p2) (by simp)
  unfold InI at ii_p2
  clear hv
  have h8 := hI.1.b.1
  show Tx (Ex S (n + 16)) S M_207 (kI K E) 0 0 0 [some (.inr 0), some (.inl p0), some (.inl p1), some (.inl p2)] [] mem
  refine Tx.aload_n hC te_207_0 rfl ?_
  refine Tx.iload_n hC te_207_1 rfl ?_
  refine Tx.virtV hC te_207_2 mt_63 (args := [.inr 0, .inl p0]) (rest := []) (c' := 1) (s' := 6) rfl rfl rfl rfl rfl rfl rfl rfl rfl rfl ?_
  refine f_63 (fun r1a r1b => ?_) (HE 2 _ (by omega) hI Frm.rf)
  refine Tx.iload_n hC te_207_5 rfl ?_
  refine Tx.statV hC te_207_6 (by decide) mt_74 (args := [.inl p2]) (rest := []) (c' := 2) (s' := 12) rfl rfl rfl rfl rfl rfl rfl ?_
  refine f_74 (fun r4a r4b => ?_) (HE 0 _ (by omega) hI Frm.rf)
  refine Tx.iload_n hC te_207_9 rfl ?_
  refine Tx.iload_n hC te_207_10 rfl ?_
  refine Tx.statV hC te_207_11 (by decide) mt_118 (args := [.inl p1, .inl p2]) (rest := []) (c' := 3) (s' := 18) rfl rfl rfl rfl rfl rfl rfl ?_
  refine f_118 (fun r7a r7b => ?_) (HE 0 _ (by omega) hI Frm.rf)
  refine Tx.aload_n hC te_207_14 rfl ?_
  refine Tx.iload_n hC te_207_15 rfl ?_
  refine Tx.virtR hC te_207_16 mt_115 (args := [.inr 0, .inl p2]) (rest := []) (c' := 6) (s' := 36) rfl rfl rfl rfl rfl rfl rfl rfl rfl rfl ?_
  refine f_115 hI (fun Q m11 hQ r10R hF12 r10a r10b => ?_) (fun r10e m11 r10q r10C hF12 => HE _ _ (by omega) r10C (Frm.rf.tr hF12))
  have hq8 := hQ.rg
  have r10o := (r10R.1.ch Q hQ).1
  have r10w := r10R.1.w.2
  have hF12n : Frm pNb mem m11 := Frm.rf.tr hF12
  refine Tx.aload_n hC te_207_19 rfl ?_
  refine Tx.getR hC te_207_20 rfl rfl rfl ?_
  refine Tx.iload_n hC te_207_23 rfl ?_
  refine Tx.iload_n hC te_207_24 rfl ?_
  refine Tx.virtI hC te_207_25 mt_208 (args := [.inr Q, .inr 1, .inl p0, .inl p1]) (rest := []) (c' := 6) (s' := 36) rfl rfl rfl rfl rfl rfl rfl rfl hQ.s0 rfl ?_
  refine f_208 hQ (r10R.1.ch Q hQ) r10R.cs.1.b (fun r13 r13i => ?_)
  unfold InI at r13i
  exact Tx.ireturn hC te_207_28 rfl (fun hr => show K r13 m11 from H _ _ r10R.cs hF12n)
theorem f_210 {S : Nat × (Nat → Int32)} {n : Nat} {mem : MM} {K : Int → MM → Prop} {E : Nat → MM → Prop} (hI : ClS mem) {p0 p1 : Int} (H : ∀ r m', ClS m' → Frm pNb mem m' → K r m') (HE : ∀ e m', (e = 0 ∨ e = 1) → ClS m' → Frm pNb mem m' → E e m') : CQI (Ex S (n + 17)) 210 [.inr 0, .inl p0, .inl p1] mem K E := by
  refine CY.of (k := 0) mt_210 rfl rfl (fun hv => ?_)
  have hC := Ex.mono S (n + 16)
  have ii_p0 : InI p0 := hv (.inl p0) (by simp)
  unfold InI at ii_p0
  have ii_p1 : InI p1 := hv (.inl p1) (by simp)
  unfold InI at ii_p1
  clear hv
  have h8 := hI.1.b.1
  show Tx (Ex S (n + 16)) S M_210 (kI K E) 0 0 0 [some (.inr 0), some (.inl p0), some (.inl p1)] [] mem
  refine Tx.iload_n hC te_210_0 rfl ?_
  refine Tx.statV hC te_210_1 (by decide) mt_74 (args := [.inl p0]) (rest := []) (c' := 1) (s' := 6) rfl rfl rfl rfl rfl rfl rfl ?_
  refine f_74 (fun r1a r1b => ?_) (HE 0 _ (by omega) hI Frm.rf)
  refine Tx.iload_n hC te_210_4 rfl ?_
  refine Tx.statV hC te_210_5 (by decide) mt_151 (args := [.inl p1]) (rest := []) (c' := 2) (s' := 12) rfl rfl rfl rfl rfl rfl rfl ?_
  refine f_151 (fun r4a r4b => ?_) (HE 0 _ (by omega) hI Frm.rf)
  refine Tx.aload_n hC te_210_8 rfl ?_
  refine Tx.iload_n hC te_210_9 rfl ?_
  refine Tx.virtR hC te_210_10 mt_115 (args := [.inr 0, .inl p0]) (rest := []) (c' := 5) (s' := 30) rfl rfl rfl rfl rfl rfl rfl rfl rfl rfl ?_
  refine f_115 hI (fun Q m8 hQ r7R hF9 r7a r7b => ?_) (fun r7e m8 r7q r7C hF9 => HE _ _ (by omega) r7C (Frm.rf.tr hF9))
  have hq8 := hQ.rg
  have r7o := (r7R.1.ch Q hQ).1
  have r7w := r7R.1.w.2
  have hF9n : Frm pNb mem m8 := Frm.rf.tr hF9
  refine Tx.iload_n hC te_210_13 rfl ?_
  refine Tx.virtI hC te_210_14 mt_211 (args := [.inr Q, .inl p1]) (rest := []) (c' := 5) (s' := 30) rfl rfl rfl rfl rfl rfl rfl rfl hQ.s0 rfl ?_
  refine f_211 hQ (r7R.1.ch Q hQ) (fun r10 r10i => ?_)
  unfold InI at r10i
  exact Tx.ireturn hC te_210_17 rfl (fun hr => show K r10 m8 from H _ _ r7R.cs hF9n)
theorem f_214 {S : Nat × (Nat → Int32)} {n : Nat} {mem : MM} {K : Int → MM → Prop} {E : Nat → MM → Prop} (hI : ClS mem) {p0 p1 p2 p3 : Int} (H : ∀ r m', ClS m' → Frm pNb mem m' → K r m') (HE : ∀ e m', (e = 0 ∨ e = 1) → ClS m' → Frm pNb mem m' → E e m') : CQI (Ex S (n + 17)) 214 [.inr 0, .inl p0, .inl p1, .inl p2, .inl p3] mem K E := by
  refine CY.of (k := 0) mt_214 rfl rfl (fun hv => ?_)
  have hC := Ex.mono S (n + 16)
  have ii_p0 : InI p0 := hv (.inl p0) (by simp)
  unfold InI at ii_p0
  have ii_p1 : InI p1 := hv (.inl p1) (by simp)
  unfold InI at ii_p1
  have ii_p2 : InI p2 := hv (.inl p2) (by simp)
  unfold InI at ii_p2
  have ii_p3 : InI p3 := hv (.inl p3) (by simp)
  unfold InI at ii_p3
  clear hv
  have h8 := hI.1.b.1
  show Tx (Ex S (n + 16)) S M_214 (kI K E) 0 0 0 [some (.inr 0), some (.inl p0), some (.inl p1), some (.inl p2), some (.inl p3)] [] mem
  refine Tx.iload_n hC te_214_0 rfl ?_
  refine Tx.statV hC te_214_1 (by decide) mt_74 (args := [.inl p0]) (rest := []) (c' := 1) (s' := 6) rfl rfl rfl rfl rfl rfl rfl ?_
  refine f_74 (fun r1a r1b => ?_) (HE 0 _ (by omega) hI Frm.rf)
  refine Tx.iload_n hC te_214_4 rfl ?_
  refine Tx.statV hC te_214_5 (by decide) mt_151 (args := [.inl p1]) (rest := []) (c' := 2) (s' := 12) rfl rfl rfl rfl rfl rfl rfl ?_
  refine f_151 (fun r4a r4b => ?_) (HE 0 _ (by omega) hI Frm.rf)
  refine Tx.iload_n hC te_214_8 rfl ?_
  refine Tx.iconst hC te_214_9 rfl ?_
  refine Tx.icmp hC (t := 32) te_214_10 (by decide) (fun q7 => ?_) (fun q7 => ?_)
  · replace q7 : (p2 : Int) < 1 := q7
    exact Tx.thr hC te_214_32 rfl rfl rfl rfl rfl (show E 0 mem from HE _ _ (by omega) hI Frm.rf)
  · replace q7 : ¬ ((p2 : Int) < 1) := q7
    refine Tx.iload_n hC te_214_13 rfl ?_
    refine Tx.bipush hC te_214_14 rfl rfl ?_
    refine Tx.icmp hC (t := 32) te_214_16 (by decide) (fun q8 => ?_) (fun q8 => ?_)
    · replace q8 : 9 < (p2 : Int) := q8
      exact Tx.thr hC te_214_32 rfl rfl rfl rfl rfl (show E 0 mem from HE _ _ (by omega) hI Frm.rf)
    · replace q8 : ¬ (9 < (p2 : Int)) := q8
      refine Tx.iload hC te_214_19 rfl ?_
      refine Tx.iconst hC te_214_21 rfl ?_
      refine Tx.icmp hC (t := 32) te_214_22 (by decide) (fun q9 => ?_) (fun q9 => ?_)
      · replace q9 : (p3 : Int) < 1 := q9
        exact Tx.thr hC te_214_32 rfl rfl rfl rfl rfl (show E 0 mem from HE _ _ (by omega) hI Frm.rf)
      · replace q9 : ¬ ((p3 : Int) < 1) := q9
        refine Tx.iload hC te_214_25 rfl ?_
        refine Tx.bipush hC te_214_27 rfl rfl ?_
        refine Tx.icmp hC (t := 43) te_214_29 (by decide) (fun q10 => ?_) (fun q10 => ?_)
        · replace q10 : (p3 : Int) ≤ 9 := q10
          refine Tx.aload_n hC te_214_43 rfl ?_
          refine Tx.getR hC te_214_44 rfl rfl rfl ?_
          refine Tx.aload_n hC te_214_47 rfl ?_
          refine Tx.getR hC te_214_48 rfl rfl rfl ?_
          refine Tx.aload_n hC te_214_51 rfl ?_
          refine Tx.iload_n hC te_214_52 rfl ?_
          refine Tx.virtR hC te_214_53 mt_115 (args := [.inr 0, .inl p0]) (rest := [.inr 1, .inr 141]) (c' := 5) (s' := 30) rfl rfl rfl rfl rfl rfl rfl rfl rfl rfl ?_
          refine f_115 hI (fun Q m12 hQ r11R hF13 r11a r11b => ?_) (fun r11e m12 r11q r11C hF13 => HE _ _ (by omega) r11C (Frm.rf.tr hF13))
          have hq8 := hQ.rg
          have r11o := (r11R.1.ch Q hQ).1
          have r11w := r11R.1.w.2
          have hF13n : Frm pNb mem m12 := Frm.rf.tr hF13
          refine Tx.iload_n hC te_214_56 rfl ?_
          refine Tx.iload_n hC te_214_57 rfl ?_
          refine Tx.iload hC te_214_58 rfl ?_
          refine Tx.virtI hC te_214_60 mt_215 (args := [.inr 141, .inr 1, .inr Q, .inl p1, .inl p2, .inl p3]) (rest := []) (c' := 5) (s' := 30) rfl rfl rfl rfl rfl rfl rfl rfl rfl rfl ?_
          refine f_215 hQ (r11R.1.ch Q hQ) r11R.cs.1.b (fun r14 m15 hF16 r14i => ?_)
          have r14R := Rdy.e_pat r11R hF16
          have hF16n : Frm pNb mem m15 := hF13n.tr (hF16.mono (fun A i q => by unfold pPa at q; unfold pNb; omega))
          unfold InI at r14i
          exact Tx.ireturn hC te_214_63 rfl (fun hr => show K r14 m15 from H _ _ r14R.cs hF16n)
        · replace q10 : ¬ ((p3 : Int) ≤ 9) := q10
          exact Tx.thr hC te_214_32 rfl rfl rfl rfl rfl (show E 0 mem from HE _ _ (by omega) hI Frm.rf)
theorem f_219 {S : Nat × (Nat → Int32)} {n : Nat} {mem : MM} {K : Int → MM → Prop} {E : Nat → MM → Prop} (hI : ClS mem) {p0 : Int} (H : ∀ r m', ClS m' → Frm pNb mem m' → K r m') (HE : ∀ e m', (e = 0 ∨ e = 1) → ClS m' → Frm pNb mem m' → E e m') : CQI (Ex S (n + 17)) 219 [.inr 0, .inl p0] mem K E := by
  refine CY.of (k := 3) mt_219 rfl rfl (fun hv => ?_)
  have hC := Ex.mono S (n + 16)
  have ii_p0 : InI p0 := hv (.inl p0) (by simp)
  unfold InI at ii_p0
  clear hv
  have h8 := hI.1.b.1
  show Tx (Ex S (n + 16)) S M_219 (kI K E) 0 0 0 [some (.inr 0), some (.inl p0), none, none, none] [] mem
  have l_17 : ∀ (N : Nat) (x3 x4 : Int) (Q : Nat) (hQ : ChSh Q) (m_17 : MM), (1 ≤ x4) → (Rdy m_17) → ((41 - x4).toNat) < N → Frm pNb mem m_17 → Tx (Ex S (n + 16)) S M_219 (kI K E) 3 18 17 [some (.inr 0), some (.inl p0), some (.inr Q), some (.inl x3), some (.inl x4)] [] m_17 := by
    intro N
    induction N with
    | zero => intros; omega
    | succ N ih_17 =>
      intro x3 x4 Q hQ m_17 i17_0 i17_1 hN_17 hF_17
      have hq8 := hQ.rg
      refine Tx.iload hC te_219_17 rfl ?_
      refine Tx.bipush hC te_219_19 rfl rfl ?_
      refine Tx.icmp hC (t := 46) te_219_21 (by decide) (fun q1 => ?_) (fun q1 => ?_)
      · replace q1 : 40 < (x4 : Int) := q1
        refine Tx.iconst hC te_219_46 rfl ?_
        exact Tx.ireturn hC te_219_47 rfl (fun hr => show K (-1) m_17 from H _ _ i17_1.cs hF_17)
      · replace q1 : ¬ (40 < (x4 : Int)) := q1
        refine Tx.aload_n hC te_219_24 rfl ?_
        refine Tx.iload hC te_219_25 rfl ?_
        refine Tx.virtI hC te_219_27 mt_155 (args := [.inr Q, .inl x4]) (rest := []) (c' := 3) (s' := 18) rfl rfl rfl rfl rfl rfl rfl rfl hQ.s0 rfl ?_
        refine f_155 hQ (fun r2 r2i => ?_)
        unfold InI at r2i
        refine Tx.iload hC te_219_30 rfl ?_
        refine Tx.iload_n hC te_219_32 rfl ?_
        refine Tx.imulW hC te_219_33 (fun z5 z5i z5e => ?_)
        unfold InI at z5i z5e
        first | replace z5e := z5e (by omega) | clear z5e
        refine Tx.icmp hC (t := 40) te_219_34 (by decide) (fun q6 => ?_) (fun q6 => ?_)
        · replace q6 : z5 ≤ (r2 : Int) := q6
          refine Tx.iincW hC te_219_40 rfl rfl (fun z7 z7i z7e => ?_)
          unfold InI at z7i z7e
          first | replace z7e := z7e (by omega) | clear z7e
          refine Tx.goto hC (t := 17) te_219_43 (by decide) ?_
          exact ih_17 x3 z7 (Q) (hQ) m_17 (by omega) (i17_1) (by omega) hF_17
        · replace q6 : ¬ (z5 ≤ (r2 : Int)) := q6
          refine Tx.iload hC te_219_37 rfl ?_
          exact Tx.ireturn hC te_219_39 rfl (fun hr => show K x4 m_17 from H _ _ i17_1.cs hF_17)
  refine Tx.aload_n hC te_219_0 rfl ?_
  refine Tx.iload_n hC te_219_1 rfl ?_
  refine Tx.virtR hC te_219_2 mt_115 (args := [.inr 0, .inl p0]) (rest := []) (c' := 3) (s' := 18) rfl rfl rfl rfl rfl rfl rfl rfl rfl rfl ?_
  refine f_115 hI (fun Q m9 hQ r8R hF10 r8a r8b => ?_) (fun r8e m9 r8q r8C hF10 => HE _ _ (by omega) r8C (Frm.rf.tr hF10))
  have hq8 := hQ.rg
  have r8o := (r8R.1.ch Q hQ).1
  have r8w := r8R.1.w.2
  have hF10n : Frm pNb mem m9 := Frm.rf.tr hF10
  refine Tx.astore_n hC te_219_5 rfl ?_
  refine Tx.aload_n hC te_219_6 rfl ?_
  refine Tx.getR hC te_219_7 rfl rfl rfl ?_
  refine Tx.virtI hC te_219_10 mt_42 (args := [.inr 1]) (rest := []) (c' := 3) (s' := 18) rfl rfl rfl rfl rfl rfl rfl rfl rfl rfl ?_
  refine f_42 r8R.cs.1.b (fun r11 r11i => ?_)
  unfold InI at r11i
  refine Tx.istore_n hC te_219_13 rfl ?_
  refine Tx.iconst hC te_219_14 rfl ?_
  refine Tx.istore hC te_219_15 rfl ?_
  exact l_17 _ r11 1 (Q) (hQ) m9 (by omega) (r8R) (Nat.lt_succ_self _) hF10n
theorem f_221 {S : Nat × (Nat → Int32)} {n : Nat} {mem : MM} {K : Int → MM → Prop} {E : Nat → MM → Prop} (hI : ClS mem) {p0 : Int} (H : ∀ r m', ClS m' → Frm pNb mem m' → K r m') (HE : ∀ e m', (e = 2 ∨ e = 1) → ClS m' → Frm pNb mem m' → E e m') : CQI (Ex S (n + 17)) 221 [.inr 0, .inl p0] mem K E := by
  refine CY.of (k := 0) mt_221 rfl rfl (fun hv => ?_)
  have hC := Ex.mono S (n + 16)
  have ii_p0 : InI p0 := hv (.inl p0) (by simp)
  unfold InI at ii_p0
  clear hv
  have h8 := hI.1.b.1
  show Tx (Ex S (n + 16)) S M_221 (kI K E) 0 0 0 [some (.inr 0), some (.inl p0)] [] mem
  refine Tx.aload_n hC te_221_0 rfl ?_
  refine Tx.iload_n hC te_221_1 rfl ?_
  refine Tx.virtV hC te_221_2 mt_63 (args := [.inr 0, .inl p0]) (rest := []) (c' := 1) (s' := 6) rfl rfl rfl rfl rfl rfl rfl rfl rfl rfl ?_
  refine f_63 (fun r1a r1b => ?_) (HE 2 _ (by omega) hI Frm.rf)
  refine Tx.aload_n hC te_221_5 rfl ?_
  refine Tx.virtV hC te_221_6 mt_69 (args := [.inr 0]) (rest := []) (c' := 2) (s' := 12) rfl rfl rfl rfl rfl rfl rfl rfl rfl rfl ?_
  refine f_69 hI (fun m5 r4R hF6 => ?_) (fun m5 r4C hF6 => HE 1 _ (by omega) r4C (Frm.rf.tr hF6))
  have r4w := r4R.1.w.2
  have hF6n : Frm pNb mem m5 := Frm.rf.tr hF6
  refine Tx.iconst hC te_221_9 rfl ?_
  refine Tx.aload_n hC te_221_10 rfl ?_
  refine Tx.getR hC te_221_11 rfl rfl rfl ?_
  refine Tx.virtI hC te_221_14 mt_32 (args := [.inr 9]) (rest := [.inl 1]) (c' := 2) (s' := 12) rfl rfl rfl rfl rfl rfl rfl rfl rfl rfl ?_
  refine f_32 (W := 9) ⟨rfl, rfl, rfl, rfl, rfl⟩ (fun r7 r7i => ?_)
  unfold InI at r7i
  refine Tx.aload_n hC te_221_17 rfl ?_
  refine Tx.getR hC te_221_18 rfl rfl rfl ?_
  refine Tx.iload_n hC te_221_21 rfl ?_
  refine Tx.iconst hC te_221_22 rfl ?_
  refine Tx.virtI hC te_221_23 mt_35 (args := [.inr 1, .inl p0, .inl 1]) (rest := [.inl r7, .inl 1]) (c' := 2) (s' := 12) rfl rfl rfl rfl rfl rfl rfl rfl rfl rfl ?_
  refine f_35 r4R.cs.1.b (fun r10 r10i => ?_)
  unfold InI at r10i
  refine Tx.statI hC te_221_26 (by decide) mt_40 (args := [.inl r7, .inl r10]) (rest := [.inl 1]) (c' := 2) (s' := 12) rfl rfl rfl rfl rfl rfl rfl ?_
  refine f_40q (fun r13 r13a r13b r13c r13i => ?_)
  unfold InI at r13i
  refine Tx.statI hC te_221_29 (by decide) mt_40 (args := [.inl 1, .inl r13]) (rest := []) (c' := 2) (s' := 12) rfl rfl rfl rfl rfl rfl rfl ?_
  refine f_40q (fun r16 r16a r16b r16c r16i => ?_)
  unfold InI at r16i
  exact Tx.ireturn hC te_221_32 rfl (fun hr => show K r16 m5 from H _ _ r4R.cs hF6n)
theorem f_223 {S : Nat × (Nat → Int32)} {n : Nat} {mem : MM} {K : Int → MM → Prop} {E : Nat → MM → Prop} (hI : ClS mem) {p0 : Int} (H : ∀ r m', ClS m' → Frm pNb mem m' → K r m') (HE : ∀ e m', (e = 0 ∨ e = 1) → ClS m' → Frm pNb mem m' → E e m') : CQI (Ex S (n + 17)) 223 [.inr 0, .inl p0] mem K E := by
  refine CY.of (k := 2) mt_223 rfl rfl (fun hv => ?_)
  have hC := Ex.mono S (n + 16)
  have ii_p0 : InI p0 := hv (.inl p0) (by simp)
  unfold InI at ii_p0
  clear hv
  have h8 := hI.1.b.1
  show Tx (Ex S (n + 16)) S M_223 (kI K E) 0 0 0 [some (.inr 0), some (.inl p0), none, none] [] mem
  have l_27 : ∀ (N : Nat) (x2 : Int) (m_27 : MM), (1 ≤ x2) → (Rdy m_27) → ((13 - x2).toNat) < N → Frm pNb mem m_27 → Tx (Ex S (n + 16)) S M_223 (kI K E) 1 6 27 [some (.inr 0), some (.inl p0), some (.inl x2), none] [] m_27 := by
    intro N
    induction N with
    | zero => intros; omega
    | succ N ih_27 =>
      intro x2 m_27 i27_0 i27_1 hN_27 hF_27
      refine Tx.iload_n hC te_223_27 rfl ?_
      refine Tx.bipush hC te_223_28 rfl rfl ?_
      refine Tx.icmp hC (t := 62) te_223_30 (by decide) (fun q1 => ?_) (fun q1 => ?_)
      · replace q1 : 12 < (x2 : Int) := q1
        refine Tx.iconst hC te_223_62 rfl ?_
        exact Tx.ireturn hC te_223_63 rfl (fun hr => show K (-1) m_27 from H _ _ i27_1.cs hF_27)
      · replace q1 : ¬ (12 < (x2 : Int)) := q1
        refine Tx.aload_n hC te_223_33 rfl ?_
        refine Tx.iload_n hC te_223_34 rfl ?_
        refine Tx.virtR hC te_223_35 mt_85 (args := [.inr 0, .inl x2]) (rest := []) (c' := 1) (s' := 6) rfl rfl rfl rfl rfl rfl rfl rfl rfl rfl ?_
        refine f_85 i27_1 (by omega) (fun Q m3 hQ r2R hF4 => ?_)
        have hq8 := hQ.rg
        have r2o := (r2R.1.ch Q hQ).1
        have hF4n : Frm pNb mem m3 := hF_27.tr hF4
        refine Tx.astore_n hC te_223_38 rfl ?_
        refine Tx.aload_n hC te_223_39 rfl ?_
        refine Tx.getI hC te_223_40 hQ.s0 rfl rfl (fun v5 v5e v5i => ?_)
        unfold InI at v5i
        refine Tx.ifc hC (t := 56) te_223_43 (by decide) (fun q6 => ?_) (fun q6 => ?_)
        · replace q6 : (v5 : Int) = 0 := q6
          refine Tx.iincW hC te_223_56 rfl rfl (fun z7 z7i z7e => ?_)
          unfold InI at z7i z7e
          first | replace z7e := z7e (by omega) | clear z7e
          refine Tx.goto hC (t := 27) te_223_59 (by decide) ?_
          exact Tx.weak (by repeat' (first | exact trivial | exact rfl | constructor)) (ih_27 z7 m3 (by omega) (r2R) (by omega) hF4n)
        · replace q6 : ¬ ((v5 : Int) = 0) := q6
          refine Tx.aload_n hC te_223_46 rfl ?_
          refine Tx.getI hC te_223_47 hQ.s0 rfl rfl (fun v8 v8e v8i => ?_)
          unfold InI at v8i
          refine Tx.iload_n hC te_223_50 rfl ?_
          refine Tx.icmp hC (t := 56) te_223_51 (by decide) (fun q9 => ?_) (fun q9 => ?_)
          · replace q9 : p0 < (v8 : Int) := q9
            refine Tx.iincW hC te_223_56 rfl rfl (fun z10 z10i z10e => ?_)
            unfold InI at z10i z10e
            first | replace z10e := z10e (by omega) | clear z10e
            refine Tx.goto hC (t := 27) te_223_59 (by decide) ?_
            exact Tx.weak (by repeat' (first | exact trivial | exact rfl | constructor)) (ih_27 z10 m3 (by omega) (r2R) (by omega) hF4n)
          · replace q9 : ¬ (p0 < (v8 : Int)) := q9
            refine Tx.iload_n hC te_223_54 rfl ?_
            exact Tx.ireturn hC te_223_55 rfl (fun hr => show K x2 m3 from H _ _ r2R.cs hF4n)
  refine Tx.iload_n hC te_223_0 rfl ?_
  refine Tx.ifc hC (t := 10) te_223_1 (by decide) (fun q11 => ?_) (fun q11 => ?_)
  · replace q11 : (p0 : Int) < 0 := q11
    exact Tx.thr hC te_223_10 rfl rfl rfl rfl rfl (show E 0 mem from HE _ _ (by omega) hI Frm.rf)
  · replace q11 : ¬ ((p0 : Int) < 0) := q11
    refine Tx.iload_n hC te_223_4 rfl ?_
    refine Tx.bipush hC te_223_5 rfl rfl ?_
    refine Tx.icmp hC (t := 21) te_223_7 (by decide) (fun q12 => ?_) (fun q12 => ?_)
    · replace q12 : (p0 : Int) ≤ 99 := q12
      refine Tx.aload_n hC te_223_21 rfl ?_
      refine Tx.virtV hC te_223_22 mt_69 (args := [.inr 0]) (rest := []) (c' := 1) (s' := 6) rfl rfl rfl rfl rfl rfl rfl rfl rfl rfl ?_
      refine f_69 hI (fun m14 r13R hF15 => ?_) (fun m14 r13C hF15 => HE 1 _ (by omega) r13C (Frm.rf.tr hF15))
      have r13w := r13R.1.w.2
      have hF15n : Frm pNb mem m14 := Frm.rf.tr hF15
      refine Tx.iconst hC te_223_25 rfl ?_
      refine Tx.istore_n hC te_223_26 rfl ?_
      exact l_27 _ 1 m14 (by omega) (r13R) (Nat.lt_succ_self _) hF15n
    · replace q12 : ¬ ((p0 : Int) ≤ 99) := q12
      exact Tx.thr hC te_223_10 rfl rfl rfl rfl rfl (show E 0 mem from HE _ _ (by omega) hI Frm.rf)
/-! laid by wip/hand/tg.py: public methods that change the ops -/
/-- one op more -/
def putM (mem : MM) (n : Nat) (k a b c e : Int) : MM := upm (upm (upm (upm (upm (upm (upm mem 2 n k) 3 (4 * n) a) 3 (4 * n + 1) b) 3 (4 * n + 2) c) 3 (4 * n + 3) e) 4 n 0) 1 0 (mem 1 0 + 1)
theorem putM_ne {mem : MM} {n A i : Nat} {k a b c e : Int} (h : ¬ (A = 1 ∧ i = 0) ∧ ¬ (A = 2 ∧ i = n) ∧ ¬ (A = 3 ∧ 4 * n ≤ i ∧ i < 4 * n + 4) ∧ ¬ (A = 4 ∧ i = n)) : putM mem n k a b c e A i = mem A i := by
  unfold putM
  rw [upm_ne (by omega), upm_ne (by omega), upm_ne (by omega), upm_ne (by omega), upm_ne (by omega), upm_ne (by omega), upm_ne (by omega)]
theorem putM_at {mem : MM} {n : Nat} {k a b c e : Int} : putM mem n k a b c e 2 n = k ∧ putM mem n k a b c e 3 (4 * n) = a ∧ putM mem n k a b c e 3 (4 * n + 1) = b ∧ putM mem n k a b c e 3 (4 * n + 2) = c ∧ putM mem n k a b c e 3 (4 * n + 3) = e ∧ putM mem n k a b c e 4 n = 0 ∧ putM mem n k a b c e 1 0 = mem 1 0 + 1 := by
  unfold putM
  refine ⟨?_, ?_, ?_, ?_, ?_, ?_, upm_eq⟩
  · rw [upm_ne (by omega), upm_ne (by omega), upm_ne (by omega), upm_ne (by omega), upm_ne (by omega), upm_ne (by omega), upm_eq]
  · rw [upm_ne (by omega), upm_ne (by omega), upm_ne (by omega), upm_ne (by omega), upm_ne (by omega), upm_eq]
  · rw [upm_ne (by omega), upm_ne (by omega), upm_ne (by omega), upm_ne (by omega), upm_eq]
  · rw [upm_ne (by omega), upm_ne (by omega), upm_ne (by omega), upm_eq]
  · rw [upm_ne (by omega), upm_ne (by omega), upm_eq]
  · rw [upm_ne (by omega), upm_eq]
theorem putM_ok {mem : MM} {n : Nat} {k a b c e : Int} (hB : BodyOK mem) (h8 : mem 1 0 < 8) (hn : (n : Int) = mem 1 0) (hk : 0 ≤ k ∧ k ≤ 5) (h3 : k ≤ 3 → srcOK a b ∧ srcOK c e) (h4 : k = 4 → 0 ≤ a ∧ a ≤ 1 ∧ 0 ≤ b ∧ b ≤ 7) (h5 : k = 5 → srcOK a b ∧ 0 ≤ c ∧ c ≤ 1 ∧ 0 ≤ e ∧ e ≤ 7) : BodyOK (putM mem n k a b c e) := by
  obtain ⟨b1, b2, b3, b4, b5, b6⟩ := hB
  obtain ⟨g1, g2, g3, g4, g5, -, g7⟩ := putM_at (mem := mem) (n := n) (k := k) (a := a) (b := b) (c := c) (e := e)
  refine ⟨by omega, fun o ho => ?_, fun j hj => by rw [putM_ne (by omega)]; exact b3 j hj, fun j hj => by rw [putM_ne (by omega)]; exact b4 j hj, fun j hj => by rw [putM_ne (by omega)]; exact b5 j hj, fun j hj => by rw [putM_ne (by omega)]; exact b6 j hj⟩
  unfold BOp
  by_cases q : o = n
  · subst q
    rw [g1, g2, g3, g4, g5]
    exact ⟨hk, h3, h4, h5⟩
  · rw [putM_ne (by omega), putM_ne (by omega), putM_ne (by omega), putM_ne (by omega), putM_ne (by omega)]; exact b2 o ho
theorem BodyOK.sz {m : MM} {z : Int} (h : BodyOK m) (hz : 0 ≤ z ∧ z ≤ 8) : BodyOK (upm m 1 0 z) := by
  obtain ⟨b1, b2, b3, b4, b5, b6⟩ := h
  refine ⟨by rw [upm_eq]; exact hz, fun o ho => ?_, fun j hj => by rw [upm_ne (by omega)]; exact b3 j hj, fun j hj => by rw [upm_ne (by omega)]; exact b4 j hj, fun j hj => by rw [upm_ne (by omega)]; exact b5 j hj, fun j hj => by rw [upm_ne (by omega)]; exact b6 j hj⟩
  unfold BOp
  rw [upm_ne (by omega), upm_ne (by omega), upm_ne (by omega), upm_ne (by omega), upm_ne (by omega)]; exact b2 o ho
theorem BodyOK.up {m : MM} {A i : Nat} {x : Int} (h : BodyOK m) (q : (A = 5 ∧ 0 ≤ x ∧ x ≤ 2) ∨ (A = 6 ∧ 1 ≤ x ∧ x ≤ 6) ∨ (A = 7 ∧ 1 ≤ x ∧ x ≤ 15) ∨ (A = 8 ∧ 1 ≤ x ∧ x ≤ 3) ∨ A = 0) : BodyOK (upm m A i x) := by
  obtain ⟨b1, b2, b3, b4, b5, b6⟩ := h
  refine ⟨by rw [upm_ne (by omega)]; exact b1, fun o ho => ?_, fun j hj => upm_rg (fun z => by omega) (fun _ => b3 j hj), fun j hj => upm_rg (fun z => by omega) (fun _ => b4 j hj), fun j hj => upm_rg (fun z => by omega) (fun _ => b5 j hj), fun j hj => upm_rg (fun z => by omega) (fun _ => b6 j hj)⟩
  unfold BOp
  rw [upm_ne (by omega), upm_ne (by omega), upm_ne (by omega), upm_ne (by omega), upm_ne (by omega)]; exact b2 o ho
def pBp (A _i : Nat) : Prop := A = 2 ∨ A = 3 ∨ A = 4
set_option maxRecDepth 100000 in
theorem mt_44 : MT[44]? = some M_44 := rfl
set_option maxRecDepth 100000 in
theorem mt_46 : MT[46]? = some M_46 := rfl
set_option maxRecDepth 100000 in
theorem mt_47 : MT[47]? = some M_47 := rfl
set_option maxRecDepth 100000 in
theorem mt_49 : MT[49]? = some M_49 := rfl
set_option maxRecDepth 100000 in
theorem mt_52 : MT[52]? = some M_52 := rfl
set_option maxRecDepth 100000 in
theorem mt_54 : MT[54]? = some M_54 := rfl
set_option maxRecDepth 100000 in
theorem mt_56 : MT[56]? = some M_56 := rfl
set_option maxRecDepth 100000 in
theorem mt_59 : MT[59]? = some M_59 := rfl
set_option maxRecDepth 100000 in
theorem mt_62 : MT[62]? = some M_62 := rfl
theorem te_44_0 : (pT M_44).find? (fun e => e.1 == 0) = some (0, .iload_n 1, 0, 0) := rfl
theorem te_44_1 : (pT M_44).find? (fun e => e.1 == 1) = some (1, .ifCond .lt 26, 0, 0) := rfl
theorem te_44_4 : (pT M_44).find? (fun e => e.1 == 4) = some (4, .iload_n 1, 0, 0) := rfl
theorem te_44_5 : (pT M_44).find? (fun e => e.1 == 5) = some (5, .iconst 4, 0, 0) := rfl
theorem te_44_6 : (pT M_44).find? (fun e => e.1 == 6) = some (6, .if_icmp .ge 21, 0, 0) := rfl
theorem te_44_9 : (pT M_44).find? (fun e => e.1 == 9) = some (9, .iload_n 2, 0, 0) := rfl
theorem te_44_10 : (pT M_44).find? (fun e => e.1 == 10) = some (10, .iload_n 3, 0, 0) := rfl
theorem te_44_11 : (pT M_44).find? (fun e => e.1 == 11) = some (11, .invokestatic 79, 45, 2) := rfl
theorem te_44_14 : (pT M_44).find? (fun e => e.1 == 14) = some (14, .ifCond .eq 13, 0, 0) := rfl
theorem te_44_17 : (pT M_44).find? (fun e => e.1 == 17) = some (17, .iload 4, 0, 0) := rfl
theorem te_44_19 : (pT M_44).find? (fun e => e.1 == 19) = some (19, .iload 5, 0, 0) := rfl
theorem te_44_21 : (pT M_44).find? (fun e => e.1 == 21) = some (21, .invokestatic 79, 45, 2) := rfl
theorem te_44_24 : (pT M_44).find? (fun e => e.1 == 24) = some (24, .ifCond .ne 13, 0, 0) := rfl
theorem te_44_27 : (pT M_44).find? (fun e => e.1 == 27) = some (27, .new 83, 0, 1) := rfl
theorem te_44_37 : (pT M_44).find? (fun e => e.1 == 37) = some (37, .aload_n 0, 0, 0) := rfl
theorem te_44_38 : (pT M_44).find? (fun e => e.1 == 38) = some (38, .iload_n 1, 0, 0) := rfl
theorem te_44_39 : (pT M_44).find? (fun e => e.1 == 39) = some (39, .iload_n 2, 0, 0) := rfl
theorem te_44_40 : (pT M_44).find? (fun e => e.1 == 40) = some (40, .iload_n 3, 0, 0) := rfl
theorem te_44_41 : (pT M_44).find? (fun e => e.1 == 41) = some (41, .iload 4, 0, 0) := rfl
theorem te_44_43 : (pT M_44).find? (fun e => e.1 == 43) = some (43, .iload 5, 0, 0) := rfl
theorem te_44_45 : (pT M_44).find? (fun e => e.1 == 45) = some (45, .invokevirtual 90, 46, 0) := rfl
theorem te_44_48 : (pT M_44).find? (fun e => e.1 == 48) = some (48, .ireturn, 0, 0) := rfl
theorem te_46_0 : (pT M_46).find? (fun e => e.1 == 0) = some (0, .aload_n 0, 0, 0) := rfl
theorem te_46_1 : (pT M_46).find? (fun e => e.1 == 1) = some (1, .getfield 12, 9, 0) := rfl
theorem te_46_4 : (pT M_46).find? (fun e => e.1 == 4) = some (4, .getfield 101, 0, 0) := rfl
theorem te_46_7 : (pT M_46).find? (fun e => e.1 == 7) = some (7, .bipush 8, 0, 0) := rfl
theorem te_46_9 : (pT M_46).find? (fun e => e.1 == 9) = some (9, .if_icmp .lt 14, 0, 0) := rfl
theorem te_46_12 : (pT M_46).find? (fun e => e.1 == 12) = some (12, .new 105, 19, 1) := rfl
theorem te_46_23 : (pT M_46).find? (fun e => e.1 == 23) = some (23, .aload_n 0, 0, 0) := rfl
theorem te_46_24 : (pT M_46).find? (fun e => e.1 == 24) = some (24, .getfield 12, 9, 0) := rfl
theorem te_46_27 : (pT M_46).find? (fun e => e.1 == 27) = some (27, .iload_n 1, 0, 0) := rfl
theorem te_46_28 : (pT M_46).find? (fun e => e.1 == 28) = some (28, .iload_n 2, 0, 0) := rfl
theorem te_46_29 : (pT M_46).find? (fun e => e.1 == 29) = some (29, .iload_n 3, 0, 0) := rfl
theorem te_46_30 : (pT M_46).find? (fun e => e.1 == 30) = some (30, .iload 4, 0, 0) := rfl
theorem te_46_32 : (pT M_46).find? (fun e => e.1 == 32) = some (32, .iload 5, 0, 0) := rfl
theorem te_46_34 : (pT M_46).find? (fun e => e.1 == 34) = some (34, .invokevirtual 389, 47, 1) := rfl
theorem te_46_37 : (pT M_46).find? (fun e => e.1 == 37) = some (37, .aload_n 0, 0, 0) := rfl
theorem te_46_38 : (pT M_46).find? (fun e => e.1 == 38) = some (38, .iconst 1, 0, 0) := rfl
theorem te_46_39 : (pT M_46).find? (fun e => e.1 == 39) = some (39, .putfield 75, 9, 11) := rfl
theorem te_46_42 : (pT M_46).find? (fun e => e.1 == 42) = some (42, .aload_n 0, 0, 0) := rfl
theorem te_46_43 : (pT M_46).find? (fun e => e.1 == 43) = some (43, .getfield 12, 9, 0) := rfl
theorem te_46_46 : (pT M_46).find? (fun e => e.1 == 46) = some (46, .getfield 101, 0, 0) := rfl
theorem te_46_49 : (pT M_46).find? (fun e => e.1 == 49) = some (49, .iconst 1, 0, 0) := rfl
theorem te_46_50 : (pT M_46).find? (fun e => e.1 == 50) = some (50, .isub, 0, 0) := rfl
theorem te_46_51 : (pT M_46).find? (fun e => e.1 == 51) = some (51, .ireturn, 0, 0) := rfl
theorem te_47_0 : (pT M_47).find? (fun e => e.1 == 0) = some (0, .aload_n 0, 0, 0) := rfl
theorem te_47_1 : (pT M_47).find? (fun e => e.1 == 1) = some (1, .getfield 9, 0, 1) := rfl
theorem te_47_4 : (pT M_47).find? (fun e => e.1 == 4) = some (4, .aload_n 0, 0, 0) := rfl
theorem te_47_5 : (pT M_47).find? (fun e => e.1 == 5) = some (5, .getfield 33, 0, 0) := rfl
theorem te_47_8 : (pT M_47).find? (fun e => e.1 == 8) = some (8, .iload_n 1, 0, 0) := rfl
theorem te_47_9 : (pT M_47).find? (fun e => e.1 == 9) = some (9, .iastore, 0, 0) := rfl
theorem te_47_10 : (pT M_47).find? (fun e => e.1 == 10) = some (10, .aload_n 0, 0, 0) := rfl
theorem te_47_11 : (pT M_47).find? (fun e => e.1 == 11) = some (11, .getfield 15, 0, 2) := rfl
theorem te_47_14 : (pT M_47).find? (fun e => e.1 == 14) = some (14, .aload_n 0, 0, 0) := rfl
theorem te_47_15 : (pT M_47).find? (fun e => e.1 == 15) = some (15, .getfield 33, 0, 0) := rfl
theorem te_47_18 : (pT M_47).find? (fun e => e.1 == 18) = some (18, .iconst 4, 0, 0) := rfl
theorem te_47_19 : (pT M_47).find? (fun e => e.1 == 19) = some (19, .imul, 0, 0) := rfl
theorem te_47_20 : (pT M_47).find? (fun e => e.1 == 20) = some (20, .iload_n 2, 0, 0) := rfl
theorem te_47_21 : (pT M_47).find? (fun e => e.1 == 21) = some (21, .iastore, 0, 0) := rfl
theorem te_47_22 : (pT M_47).find? (fun e => e.1 == 22) = some (22, .aload_n 0, 0, 0) := rfl
theorem te_47_23 : (pT M_47).find? (fun e => e.1 == 23) = some (23, .getfield 15, 0, 2) := rfl
theorem te_47_26 : (pT M_47).find? (fun e => e.1 == 26) = some (26, .aload_n 0, 0, 0) := rfl
theorem te_47_27 : (pT M_47).find? (fun e => e.1 == 27) = some (27, .getfield 33, 0, 0) := rfl
theorem te_47_30 : (pT M_47).find? (fun e => e.1 == 30) = some (30, .iconst 4, 0, 0) := rfl
theorem te_47_31 : (pT M_47).find? (fun e => e.1 == 31) = some (31, .imul, 0, 0) := rfl
theorem te_47_32 : (pT M_47).find? (fun e => e.1 == 32) = some (32, .iconst 1, 0, 0) := rfl
theorem te_47_33 : (pT M_47).find? (fun e => e.1 == 33) = some (33, .iadd, 0, 0) := rfl
theorem te_47_34 : (pT M_47).find? (fun e => e.1 == 34) = some (34, .iload_n 3, 0, 0) := rfl
theorem te_47_35 : (pT M_47).find? (fun e => e.1 == 35) = some (35, .iastore, 0, 0) := rfl
theorem te_47_36 : (pT M_47).find? (fun e => e.1 == 36) = some (36, .aload_n 0, 0, 0) := rfl
theorem te_47_37 : (pT M_47).find? (fun e => e.1 == 37) = some (37, .getfield 15, 0, 2) := rfl
theorem te_47_40 : (pT M_47).find? (fun e => e.1 == 40) = some (40, .aload_n 0, 0, 0) := rfl
theorem te_47_41 : (pT M_47).find? (fun e => e.1 == 41) = some (41, .getfield 33, 0, 0) := rfl
theorem te_47_44 : (pT M_47).find? (fun e => e.1 == 44) = some (44, .iconst 4, 0, 0) := rfl
theorem te_47_45 : (pT M_47).find? (fun e => e.1 == 45) = some (45, .imul, 0, 0) := rfl
theorem te_47_46 : (pT M_47).find? (fun e => e.1 == 46) = some (46, .iconst 2, 0, 0) := rfl
theorem te_47_47 : (pT M_47).find? (fun e => e.1 == 47) = some (47, .iadd, 0, 0) := rfl
theorem te_47_48 : (pT M_47).find? (fun e => e.1 == 48) = some (48, .iload 4, 0, 0) := rfl
theorem te_47_50 : (pT M_47).find? (fun e => e.1 == 50) = some (50, .iastore, 0, 0) := rfl
theorem te_47_51 : (pT M_47).find? (fun e => e.1 == 51) = some (51, .aload_n 0, 0, 0) := rfl
theorem te_47_52 : (pT M_47).find? (fun e => e.1 == 52) = some (52, .getfield 15, 0, 2) := rfl
theorem te_47_55 : (pT M_47).find? (fun e => e.1 == 55) = some (55, .aload_n 0, 0, 0) := rfl
theorem te_47_56 : (pT M_47).find? (fun e => e.1 == 56) = some (56, .getfield 33, 0, 0) := rfl
theorem te_47_59 : (pT M_47).find? (fun e => e.1 == 59) = some (59, .iconst 4, 0, 0) := rfl
theorem te_47_60 : (pT M_47).find? (fun e => e.1 == 60) = some (60, .imul, 0, 0) := rfl
theorem te_47_61 : (pT M_47).find? (fun e => e.1 == 61) = some (61, .iconst 3, 0, 0) := rfl
theorem te_47_62 : (pT M_47).find? (fun e => e.1 == 62) = some (62, .iadd, 0, 0) := rfl
theorem te_47_63 : (pT M_47).find? (fun e => e.1 == 63) = some (63, .iload 5, 0, 0) := rfl
theorem te_47_65 : (pT M_47).find? (fun e => e.1 == 65) = some (65, .iastore, 0, 0) := rfl
theorem te_47_66 : (pT M_47).find? (fun e => e.1 == 66) = some (66, .aload_n 0, 0, 0) := rfl
theorem te_47_67 : (pT M_47).find? (fun e => e.1 == 67) = some (67, .getfield 18, 0, 3) := rfl
theorem te_47_70 : (pT M_47).find? (fun e => e.1 == 70) = some (70, .aload_n 0, 0, 0) := rfl
theorem te_47_71 : (pT M_47).find? (fun e => e.1 == 71) = some (71, .getfield 33, 0, 0) := rfl
theorem te_47_74 : (pT M_47).find? (fun e => e.1 == 74) = some (74, .iconst 0, 0, 0) := rfl
theorem te_47_75 : (pT M_47).find? (fun e => e.1 == 75) = some (75, .iastore, 0, 0) := rfl
theorem te_47_76 : (pT M_47).find? (fun e => e.1 == 76) = some (76, .aload_n 0, 0, 0) := rfl
theorem te_47_77 : (pT M_47).find? (fun e => e.1 == 77) = some (77, .dup, 0, 0) := rfl
theorem te_47_78 : (pT M_47).find? (fun e => e.1 == 78) = some (78, .getfield 33, 0, 0) := rfl
theorem te_47_81 : (pT M_47).find? (fun e => e.1 == 81) = some (81, .iconst 1, 0, 0) := rfl
theorem te_47_82 : (pT M_47).find? (fun e => e.1 == 82) = some (82, .iadd, 0, 0) := rfl
theorem te_47_83 : (pT M_47).find? (fun e => e.1 == 83) = some (83, .putfield 33, 0, 0) := rfl
theorem te_47_86 : (pT M_47).find? (fun e => e.1 == 86) = some (86, .return_, 0, 0) := rfl
theorem te_49_0 : (pT M_49).find? (fun e => e.1 == 0) = some (0, .iload_n 1, 0, 0) := rfl
theorem te_49_1 : (pT M_49).find? (fun e => e.1 == 1) = some (1, .iload_n 2, 0, 0) := rfl
theorem te_49_2 : (pT M_49).find? (fun e => e.1 == 2) = some (2, .invokestatic 94, 50, 2) := rfl
theorem te_49_5 : (pT M_49).find? (fun e => e.1 == 5) = some (5, .ifCond .ne 13, 0, 0) := rfl
theorem te_49_8 : (pT M_49).find? (fun e => e.1 == 8) = some (8, .new 83, 1, 1) := rfl
theorem te_49_18 : (pT M_49).find? (fun e => e.1 == 18) = some (18, .aload_n 0, 0, 0) := rfl
theorem te_49_19 : (pT M_49).find? (fun e => e.1 == 19) = some (19, .iconst 4, 0, 0) := rfl
theorem te_49_20 : (pT M_49).find? (fun e => e.1 == 20) = some (20, .iload_n 1, 0, 0) := rfl
theorem te_49_21 : (pT M_49).find? (fun e => e.1 == 21) = some (21, .iload_n 2, 0, 0) := rfl
theorem te_49_22 : (pT M_49).find? (fun e => e.1 == 22) = some (22, .iconst 0, 0, 0) := rfl
theorem te_49_23 : (pT M_49).find? (fun e => e.1 == 23) = some (23, .iconst 0, 0, 0) := rfl
theorem te_49_24 : (pT M_49).find? (fun e => e.1 == 24) = some (24, .invokevirtual 90, 46, 0) := rfl
theorem te_49_27 : (pT M_49).find? (fun e => e.1 == 27) = some (27, .ireturn, 0, 0) := rfl
theorem te_52_0 : (pT M_52).find? (fun e => e.1 == 0) = some (0, .iload_n 1, 0, 0) := rfl
theorem te_52_1 : (pT M_52).find? (fun e => e.1 == 1) = some (1, .iload_n 2, 0, 0) := rfl
theorem te_52_2 : (pT M_52).find? (fun e => e.1 == 2) = some (2, .invokestatic 79, 45, 2) := rfl
theorem te_52_5 : (pT M_52).find? (fun e => e.1 == 5) = some (5, .ifCond .eq 12, 0, 0) := rfl
theorem te_52_8 : (pT M_52).find? (fun e => e.1 == 8) = some (8, .iload_n 3, 0, 0) := rfl
theorem te_52_9 : (pT M_52).find? (fun e => e.1 == 9) = some (9, .iload 4, 0, 0) := rfl
theorem te_52_11 : (pT M_52).find? (fun e => e.1 == 11) = some (11, .invokestatic 94, 50, 2) := rfl
theorem te_52_14 : (pT M_52).find? (fun e => e.1 == 14) = some (14, .ifCond .ne 13, 0, 0) := rfl
theorem te_52_17 : (pT M_52).find? (fun e => e.1 == 17) = some (17, .new 83, 2, 1) := rfl
theorem te_52_27 : (pT M_52).find? (fun e => e.1 == 27) = some (27, .aload_n 0, 0, 0) := rfl
theorem te_52_28 : (pT M_52).find? (fun e => e.1 == 28) = some (28, .iconst 5, 0, 0) := rfl
theorem te_52_29 : (pT M_52).find? (fun e => e.1 == 29) = some (29, .iload_n 1, 0, 0) := rfl
theorem te_52_30 : (pT M_52).find? (fun e => e.1 == 30) = some (30, .iload_n 2, 0, 0) := rfl
theorem te_52_31 : (pT M_52).find? (fun e => e.1 == 31) = some (31, .iload_n 3, 0, 0) := rfl
theorem te_52_32 : (pT M_52).find? (fun e => e.1 == 32) = some (32, .iload 4, 0, 0) := rfl
theorem te_52_34 : (pT M_52).find? (fun e => e.1 == 34) = some (34, .invokevirtual 90, 46, 0) := rfl
theorem te_52_37 : (pT M_52).find? (fun e => e.1 == 37) = some (37, .ireturn, 0, 0) := rfl
theorem te_54_0 : (pT M_54).find? (fun e => e.1 == 0) = some (0, .aload_n 0, 0, 0) := rfl
theorem te_54_1 : (pT M_54).find? (fun e => e.1 == 1) = some (1, .getfield 12, 9, 0) := rfl
theorem te_54_4 : (pT M_54).find? (fun e => e.1 == 4) = some (4, .getfield 101, 0, 0) := rfl
theorem te_54_7 : (pT M_54).find? (fun e => e.1 == 7) = some (7, .ifCond .ne 13, 0, 0) := rfl
theorem te_54_10 : (pT M_54).find? (fun e => e.1 == 10) = some (10, .new 105, 17, 1) := rfl
theorem te_54_20 : (pT M_54).find? (fun e => e.1 == 20) = some (20, .aload_n 0, 0, 0) := rfl
theorem te_54_21 : (pT M_54).find? (fun e => e.1 == 21) = some (21, .getfield 12, 9, 0) := rfl
theorem te_54_24 : (pT M_54).find? (fun e => e.1 == 24) = some (24, .dup, 0, 0) := rfl
theorem te_54_25 : (pT M_54).find? (fun e => e.1 == 25) = some (25, .getfield 101, 0, 0) := rfl
theorem te_54_28 : (pT M_54).find? (fun e => e.1 == 28) = some (28, .iconst 1, 0, 0) := rfl
theorem te_54_29 : (pT M_54).find? (fun e => e.1 == 29) = some (29, .isub, 0, 0) := rfl
theorem te_54_30 : (pT M_54).find? (fun e => e.1 == 30) = some (30, .putfield 101, 0, 0) := rfl
theorem te_54_33 : (pT M_54).find? (fun e => e.1 == 33) = some (33, .aload_n 0, 0, 0) := rfl
theorem te_54_34 : (pT M_54).find? (fun e => e.1 == 34) = some (34, .iconst 1, 0, 0) := rfl
theorem te_54_35 : (pT M_54).find? (fun e => e.1 == 35) = some (35, .putfield 75, 9, 11) := rfl
theorem te_54_38 : (pT M_54).find? (fun e => e.1 == 38) = some (38, .aload_n 0, 0, 0) := rfl
theorem te_54_39 : (pT M_54).find? (fun e => e.1 == 39) = some (39, .getfield 12, 9, 0) := rfl
theorem te_54_42 : (pT M_54).find? (fun e => e.1 == 42) = some (42, .getfield 101, 0, 0) := rfl
theorem te_54_45 : (pT M_54).find? (fun e => e.1 == 45) = some (45, .ireturn, 0, 0) := rfl
theorem te_56_0 : (pT M_56).find? (fun e => e.1 == 0) = some (0, .aload_n 0, 0, 0) := rfl
theorem te_56_1 : (pT M_56).find? (fun e => e.1 == 1) = some (1, .iload_n 1, 0, 0) := rfl
theorem te_56_2 : (pT M_56).find? (fun e => e.1 == 2) = some (2, .invokevirtual 110, 57, 0) := rfl
theorem te_56_5 : (pT M_56).find? (fun e => e.1 == 5) = some (5, .iload_n 2, 0, 0) := rfl
theorem te_56_6 : (pT M_56).find? (fun e => e.1 == 6) = some (6, .sipush (-9999), 0, 0) := rfl
theorem te_56_9 : (pT M_56).find? (fun e => e.1 == 9) = some (9, .if_icmp .lt 10, 0, 0) := rfl
theorem te_56_12 : (pT M_56).find? (fun e => e.1 == 12) = some (12, .iload_n 2, 0, 0) := rfl
theorem te_56_13 : (pT M_56).find? (fun e => e.1 == 13) = some (13, .sipush 9999, 0, 0) := rfl
theorem te_56_16 : (pT M_56).find? (fun e => e.1 == 16) = some (16, .if_icmp .le 13, 0, 0) := rfl
theorem te_56_19 : (pT M_56).find? (fun e => e.1 == 19) = some (19, .new 83, 3, 1) := rfl
theorem te_56_29 : (pT M_56).find? (fun e => e.1 == 29) = some (29, .aload_n 0, 0, 0) := rfl
theorem te_56_30 : (pT M_56).find? (fun e => e.1 == 30) = some (30, .getfield 12, 9, 0) := rfl
theorem te_56_33 : (pT M_56).find? (fun e => e.1 == 33) = some (33, .getfield 116, 0, 3) := rfl
theorem te_56_36 : (pT M_56).find? (fun e => e.1 == 36) = some (36, .iload_n 1, 0, 0) := rfl
theorem te_56_37 : (pT M_56).find? (fun e => e.1 == 37) = some (37, .iaload, 0, 0) := rfl
theorem te_56_38 : (pT M_56).find? (fun e => e.1 == 38) = some (38, .istore_n 3, 0, 0) := rfl
theorem te_56_39 : (pT M_56).find? (fun e => e.1 == 39) = some (39, .aload_n 0, 0, 0) := rfl
theorem te_56_40 : (pT M_56).find? (fun e => e.1 == 40) = some (40, .getfield 12, 9, 0) := rfl
theorem te_56_43 : (pT M_56).find? (fun e => e.1 == 43) = some (43, .getfield 116, 0, 3) := rfl
theorem te_56_46 : (pT M_56).find? (fun e => e.1 == 46) = some (46, .iload_n 1, 0, 0) := rfl
theorem te_56_47 : (pT M_56).find? (fun e => e.1 == 47) = some (47, .iload_n 2, 0, 0) := rfl
theorem te_56_48 : (pT M_56).find? (fun e => e.1 == 48) = some (48, .iastore, 0, 0) := rfl
theorem te_56_49 : (pT M_56).find? (fun e => e.1 == 49) = some (49, .iload_n 3, 0, 0) := rfl
theorem te_56_50 : (pT M_56).find? (fun e => e.1 == 50) = some (50, .ireturn, 0, 0) := rfl
theorem te_59_0 : (pT M_59).find? (fun e => e.1 == 0) = some (0, .aload_n 0, 0, 0) := rfl
theorem te_59_1 : (pT M_59).find? (fun e => e.1 == 1) = some (1, .iload_n 1, 0, 0) := rfl
theorem te_59_2 : (pT M_59).find? (fun e => e.1 == 2) = some (2, .invokevirtual 120, 60, 0) := rfl
theorem te_59_5 : (pT M_59).find? (fun e => e.1 == 5) = some (5, .iload_n 2, 0, 0) := rfl
theorem te_59_6 : (pT M_59).find? (fun e => e.1 == 6) = some (6, .ifCond .lt 23, 0, 0) := rfl
theorem te_59_9 : (pT M_59).find? (fun e => e.1 == 9) = some (9, .iload_n 2, 0, 0) := rfl
theorem te_59_10 : (pT M_59).find? (fun e => e.1 == 10) = some (10, .iconst 3, 0, 0) := rfl
theorem te_59_11 : (pT M_59).find? (fun e => e.1 == 11) = some (11, .if_icmp .ge 18, 0, 0) := rfl
theorem te_59_14 : (pT M_59).find? (fun e => e.1 == 14) = some (14, .iload_n 3, 0, 0) := rfl
theorem te_59_15 : (pT M_59).find? (fun e => e.1 == 15) = some (15, .iconst 1, 0, 0) := rfl
theorem te_59_16 : (pT M_59).find? (fun e => e.1 == 16) = some (16, .if_icmp .lt 13, 0, 0) := rfl
theorem te_59_19 : (pT M_59).find? (fun e => e.1 == 19) = some (19, .iload_n 3, 0, 0) := rfl
theorem te_59_20 : (pT M_59).find? (fun e => e.1 == 20) = some (20, .bipush 6, 0, 0) := rfl
theorem te_59_22 : (pT M_59).find? (fun e => e.1 == 22) = some (22, .if_icmp .gt 7, 0, 0) := rfl
theorem te_59_25 : (pT M_59).find? (fun e => e.1 == 25) = some (25, .iconst 1, 0, 0) := rfl
theorem te_59_26 : (pT M_59).find? (fun e => e.1 == 26) = some (26, .goto 4, 0, 0) := rfl
theorem te_59_29 : (pT M_59).find? (fun e => e.1 == 29) = some (29, .iconst 0, 0, 0) := rfl
theorem te_59_30 : (pT M_59).find? (fun e => e.1 == 30) = some (30, .istore 5, 0, 0) := rfl
theorem te_59_32 : (pT M_59).find? (fun e => e.1 == 32) = some (32, .iload 5, 0, 0) := rfl
theorem te_59_34 : (pT M_59).find? (fun e => e.1 == 34) = some (34, .ifCond .eq 16, 0, 0) := rfl
theorem te_59_37 : (pT M_59).find? (fun e => e.1 == 37) = some (37, .iload 4, 0, 0) := rfl
theorem te_59_39 : (pT M_59).find? (fun e => e.1 == 39) = some (39, .iconst 1, 0, 0) := rfl
theorem te_59_40 : (pT M_59).find? (fun e => e.1 == 40) = some (40, .if_icmp .lt 10, 0, 0) := rfl
theorem te_59_43 : (pT M_59).find? (fun e => e.1 == 43) = some (43, .iload 4, 0, 0) := rfl
theorem te_59_45 : (pT M_59).find? (fun e => e.1 == 45) = some (45, .bipush 15, 0, 0) := rfl
theorem te_59_47 : (pT M_59).find? (fun e => e.1 == 47) = some (47, .if_icmp .le 13, 0, 0) := rfl
theorem te_59_50 : (pT M_59).find? (fun e => e.1 == 50) = some (50, .new 83, 4, 1) := rfl
theorem te_59_60 : (pT M_59).find? (fun e => e.1 == 60) = some (60, .aload_n 0, 0, 0) := rfl
theorem te_59_61 : (pT M_59).find? (fun e => e.1 == 61) = some (61, .getfield 12, 9, 0) := rfl
theorem te_59_64 : (pT M_59).find? (fun e => e.1 == 64) = some (64, .getfield 125, 0, 4) := rfl
theorem te_59_67 : (pT M_59).find? (fun e => e.1 == 67) = some (67, .iload_n 1, 0, 0) := rfl
theorem te_59_68 : (pT M_59).find? (fun e => e.1 == 68) = some (68, .iload_n 2, 0, 0) := rfl
theorem te_59_69 : (pT M_59).find? (fun e => e.1 == 69) = some (69, .iastore, 0, 0) := rfl
theorem te_59_70 : (pT M_59).find? (fun e => e.1 == 70) = some (70, .aload_n 0, 0, 0) := rfl
theorem te_59_71 : (pT M_59).find? (fun e => e.1 == 71) = some (71, .getfield 12, 9, 0) := rfl
theorem te_59_74 : (pT M_59).find? (fun e => e.1 == 74) = some (74, .getfield 128, 0, 5) := rfl
theorem te_59_77 : (pT M_59).find? (fun e => e.1 == 77) = some (77, .iload_n 1, 0, 0) := rfl
theorem te_59_78 : (pT M_59).find? (fun e => e.1 == 78) = some (78, .iload_n 3, 0, 0) := rfl
theorem te_59_79 : (pT M_59).find? (fun e => e.1 == 79) = some (79, .iastore, 0, 0) := rfl
theorem te_59_80 : (pT M_59).find? (fun e => e.1 == 80) = some (80, .aload_n 0, 0, 0) := rfl
theorem te_59_81 : (pT M_59).find? (fun e => e.1 == 81) = some (81, .getfield 12, 9, 0) := rfl
theorem te_59_84 : (pT M_59).find? (fun e => e.1 == 84) = some (84, .getfield 131, 0, 6) := rfl
theorem te_59_87 : (pT M_59).find? (fun e => e.1 == 87) = some (87, .iload_n 1, 0, 0) := rfl
theorem te_59_88 : (pT M_59).find? (fun e => e.1 == 88) = some (88, .iload 4, 0, 0) := rfl
theorem te_59_90 : (pT M_59).find? (fun e => e.1 == 90) = some (90, .iastore, 0, 0) := rfl
theorem te_59_91 : (pT M_59).find? (fun e => e.1 == 91) = some (91, .aload_n 0, 0, 0) := rfl
theorem te_59_92 : (pT M_59).find? (fun e => e.1 == 92) = some (92, .iconst 1, 0, 0) := rfl
theorem te_59_93 : (pT M_59).find? (fun e => e.1 == 93) = some (93, .putfield 75, 9, 11) := rfl
theorem te_59_96 : (pT M_59).find? (fun e => e.1 == 96) = some (96, .return_, 0, 0) := rfl
theorem te_62_0 : (pT M_62).find? (fun e => e.1 == 0) = some (0, .aload_n 0, 0, 0) := rfl
theorem te_62_1 : (pT M_62).find? (fun e => e.1 == 1) = some (1, .iload_n 1, 0, 0) := rfl
theorem te_62_2 : (pT M_62).find? (fun e => e.1 == 2) = some (2, .invokevirtual 134, 63, 0) := rfl
theorem te_62_5 : (pT M_62).find? (fun e => e.1 == 5) = some (5, .iload_n 2, 0, 0) := rfl
theorem te_62_6 : (pT M_62).find? (fun e => e.1 == 6) = some (6, .iconst 1, 0, 0) := rfl
theorem te_62_7 : (pT M_62).find? (fun e => e.1 == 7) = some (7, .if_icmp .lt 8, 0, 0) := rfl
theorem te_62_10 : (pT M_62).find? (fun e => e.1 == 10) = some (10, .iload_n 2, 0, 0) := rfl
theorem te_62_11 : (pT M_62).find? (fun e => e.1 == 11) = some (11, .iconst 3, 0, 0) := rfl
theorem te_62_12 : (pT M_62).find? (fun e => e.1 == 12) = some (12, .if_icmp .le 13, 0, 0) := rfl
theorem te_62_15 : (pT M_62).find? (fun e => e.1 == 15) = some (15, .new 83, 5, 1) := rfl
theorem te_62_25 : (pT M_62).find? (fun e => e.1 == 25) = some (25, .aload_n 0, 0, 0) := rfl
theorem te_62_26 : (pT M_62).find? (fun e => e.1 == 26) = some (26, .getfield 12, 9, 0) := rfl
theorem te_62_29 : (pT M_62).find? (fun e => e.1 == 29) = some (29, .getfield 139, 0, 7) := rfl
theorem te_62_32 : (pT M_62).find? (fun e => e.1 == 32) = some (32, .iload_n 1, 0, 0) := rfl
theorem te_62_33 : (pT M_62).find? (fun e => e.1 == 33) = some (33, .iaload, 0, 0) := rfl
theorem te_62_34 : (pT M_62).find? (fun e => e.1 == 34) = some (34, .istore_n 3, 0, 0) := rfl
theorem te_62_35 : (pT M_62).find? (fun e => e.1 == 35) = some (35, .aload_n 0, 0, 0) := rfl
theorem te_62_36 : (pT M_62).find? (fun e => e.1 == 36) = some (36, .getfield 12, 9, 0) := rfl
theorem te_62_39 : (pT M_62).find? (fun e => e.1 == 39) = some (39, .getfield 139, 0, 7) := rfl
theorem te_62_42 : (pT M_62).find? (fun e => e.1 == 42) = some (42, .iload_n 1, 0, 0) := rfl
theorem te_62_43 : (pT M_62).find? (fun e => e.1 == 43) = some (43, .iload_n 2, 0, 0) := rfl
theorem te_62_44 : (pT M_62).find? (fun e => e.1 == 44) = some (44, .iastore, 0, 0) := rfl
theorem te_62_45 : (pT M_62).find? (fun e => e.1 == 45) = some (45, .aload_n 0, 0, 0) := rfl
theorem te_62_46 : (pT M_62).find? (fun e => e.1 == 46) = some (46, .iconst 1, 0, 0) := rfl
theorem te_62_47 : (pT M_62).find? (fun e => e.1 == 47) = some (47, .putfield 75, 9, 11) := rfl
theorem te_62_50 : (pT M_62).find? (fun e => e.1 == 50) = some (50, .iload_n 3, 0, 0) := rfl
theorem te_62_51 : (pT M_62).find? (fun e => e.1 == 51) = some (51, .ireturn, 0, 0) := rfl
theorem f_60n {S : Nat × (Nat → Int32)} {n : Nat} {mem : MM} {K : MM → Prop} {E : Nat → MM → Prop} {o : Int} (H : 0 ≤ o → o < 6 → K mem) (HE : ¬ (0 ≤ o ∧ o < 6) → E 2 mem) : CQV (Ex S (n + 1)) 60 [.inr 0, .inl o] mem K E := by
  refine CY.of (k := 0) mt_60 rfl rfl (fun hv => ?_)
  have hC := Ex.mono S n
  have ii_o : InI o := hv (.inl o) (by simp)
  unfold InI at ii_o
  clear hv
  show Tx (Ex S n) S M_60 (kV K E) 0 0 0 [some (.inr 0), some (.inl o)] [] mem
  refine Tx.iload_n hC te_60_0 rfl ?_
  refine Tx.ifc hC (t := 10) te_60_1 (by decide) (fun q1 => ?_) (fun q1 => ?_)
  · replace q1 : (o : Int) < 0 := q1
    exact Tx.thr hC te_60_10 rfl rfl rfl rfl rfl (show E 2 mem from HE (by omega))
  · replace q1 : ¬ ((o : Int) < 0) := q1
    refine Tx.iload_n hC te_60_4 rfl ?_
    refine Tx.bipush hC te_60_5 rfl rfl ?_
    refine Tx.icmp hC (t := 21) te_60_7 (by decide) (fun q2 => ?_) (fun q2 => ?_)
    · replace q2 : (o : Int) < 6 := q2
      exact Tx.vret hC te_60_21 rfl (show K mem from H (by omega) (by omega))
    · replace q2 : ¬ ((o : Int) < 6) := q2
      exact Tx.thr hC te_60_10 rfl rfl rfl rfl rfl (show E 2 mem from HE (by omega))
theorem f_47 {S : Nat × (Nat → Int32)} {n : Nat} {mem : MM} {K : MM → Prop} {E : Nat → MM → Prop} {k a b c e : Int} (hs : 0 ≤ mem 1 0 ∧ mem 1 0 < 8) (H : K (putM mem (mem 1 0).toNat k a b c e)) : CQV (Ex S (n + 1)) 47 [.inr 1, .inl k, .inl a, .inl b, .inl c, .inl e] mem K E := by
  refine CY.of (k := 0) mt_47 rfl rfl (fun hv => ?_)
  have hC := Ex.mono S n
  have ii_k : InI k := hv (.inl k) (by simp)
  unfold InI at ii_k
  have ii_a : InI a := hv (.inl a) (by simp)
  unfold InI at ii_a
  have ii_b : InI b := hv (.inl b) (by simp)
  unfold InI at ii_b
  have ii_c : InI c := hv (.inl c) (by simp)
  unfold InI at ii_c
  have ii_e : InI e := hv (.inl e) (by simp)
  unfold InI at ii_e
  clear hv
  obtain ⟨nn, hn⟩ : ∃ nn : Nat, nn = (mem 1 0).toNat := ⟨_, rfl⟩
  rw [← hn] at H
  show Tx (Ex S n) S M_47 (kV K E) 0 0 0 [some (.inr 1), some (.inl k), some (.inl a), some (.inl b), some (.inl c), some (.inl e)] [] mem
  refine Tx.aload_n hC te_47_0 rfl ?_
  refine Tx.getR hC te_47_1 rfl rfl rfl ?_
  refine Tx.aload_n hC te_47_4 rfl ?_
  refine Tx.getI hC te_47_5 rfl rfl rfl (fun v1 v1e v1i => ?_)
  unfold InI at v1i
  refine Tx.iload_n hC te_47_8 rfl ?_
  refine Tx.iast hC te_47_9 rfl (by omega) ?_
  rw [show (Int.toNat v1) = (nn) by omega]
  have hF3 : Frm pBp mem (upm mem 2 (nn) k) := Frm.up Frm.rf (by unfold pBp; omega)
  refine Tx.aload_n hC te_47_10 rfl ?_
  refine Tx.getR hC te_47_11 rfl rfl rfl ?_
  refine Tx.aload_n hC te_47_14 rfl ?_
  refine Tx.getI hC te_47_15 rfl rfl rfl (fun v4 v4e v4i => ?_)
  unfold InI at v4i
  rw [hF3 1 _ (by unfold pBp; omega)] at v4e
  refine Tx.iconst hC te_47_18 rfl ?_
  refine Tx.imulW hC te_47_19 (fun z5 z5i z5e => ?_)
  unfold InI at z5i z5e
  first | replace z5e := z5e (by omega) | clear z5e
  refine Tx.iload_n hC te_47_20 rfl ?_
  refine Tx.iast hC te_47_21 rfl (by omega) ?_
  rw [show (Int.toNat z5) = (4 * nn) by omega]
  have hF7 : Frm pBp mem (upm (upm mem 2 (nn) k) 3 (4 * nn) a) := Frm.up hF3 (by unfold pBp; omega)
  refine Tx.aload_n hC te_47_22 rfl ?_
  refine Tx.getR hC te_47_23 rfl rfl rfl ?_
  refine Tx.aload_n hC te_47_26 rfl ?_
  refine Tx.getI hC te_47_27 rfl rfl rfl (fun v8 v8e v8i => ?_)
  unfold InI at v8i
  rw [hF7 1 _ (by unfold pBp; omega)] at v8e
  refine Tx.iconst hC te_47_30 rfl ?_
  refine Tx.imulW hC te_47_31 (fun z9 z9i z9e => ?_)
  unfold InI at z9i z9e
  first | replace z9e := z9e (by omega) | clear z9e
  refine Tx.iconst hC te_47_32 rfl ?_
  refine Tx.iaddW hC te_47_33 (fun z10 z10i z10e => ?_)
  unfold InI at z10i z10e
  first | replace z10e := z10e (by omega) | clear z10e
  refine Tx.iload_n hC te_47_34 rfl ?_
  refine Tx.iast hC te_47_35 rfl (by omega) ?_
  rw [show (Int.toNat z10) = (4 * nn + 1) by omega]
  have hF12 : Frm pBp mem (upm (upm (upm mem 2 (nn) k) 3 (4 * nn) a) 3 (4 * nn + 1) b) := Frm.up hF7 (by unfold pBp; omega)
  refine Tx.aload_n hC te_47_36 rfl ?_
  refine Tx.getR hC te_47_37 rfl rfl rfl ?_
  refine Tx.aload_n hC te_47_40 rfl ?_
  refine Tx.getI hC te_47_41 rfl rfl rfl (fun v13 v13e v13i => ?_)
  unfold InI at v13i
  rw [hF12 1 _ (by unfold pBp; omega)] at v13e
  refine Tx.iconst hC te_47_44 rfl ?_
  refine Tx.imulW hC te_47_45 (fun z14 z14i z14e => ?_)
  unfold InI at z14i z14e
  first | replace z14e := z14e (by omega) | clear z14e
  refine Tx.iconst hC te_47_46 rfl ?_
  refine Tx.iaddW hC te_47_47 (fun z15 z15i z15e => ?_)
  unfold InI at z15i z15e
  first | replace z15e := z15e (by omega) | clear z15e
  refine Tx.iload hC te_47_48 rfl ?_
  refine Tx.iast hC te_47_50 rfl (by omega) ?_
  rw [show (Int.toNat z15) = (4 * nn + 2) by omega]
  have hF17 : Frm pBp mem (upm (upm (upm (upm mem 2 (nn) k) 3 (4 * nn) a) 3 (4 * nn + 1) b) 3 (4 * nn + 2) c) := Frm.up hF12 (by unfold pBp; omega)
  refine Tx.aload_n hC te_47_51 rfl ?_
  refine Tx.getR hC te_47_52 rfl rfl rfl ?_
  refine Tx.aload_n hC te_47_55 rfl ?_
  refine Tx.getI hC te_47_56 rfl rfl rfl (fun v18 v18e v18i => ?_)
  unfold InI at v18i
  rw [hF17 1 _ (by unfold pBp; omega)] at v18e
  refine Tx.iconst hC te_47_59 rfl ?_
  refine Tx.imulW hC te_47_60 (fun z19 z19i z19e => ?_)
  unfold InI at z19i z19e
  first | replace z19e := z19e (by omega) | clear z19e
  refine Tx.iconst hC te_47_61 rfl ?_
  refine Tx.iaddW hC te_47_62 (fun z20 z20i z20e => ?_)
  unfold InI at z20i z20e
  first | replace z20e := z20e (by omega) | clear z20e
  refine Tx.iload hC te_47_63 rfl ?_
  refine Tx.iast hC te_47_65 rfl (by omega) ?_
  rw [show (Int.toNat z20) = (4 * nn + 3) by omega]
  have hF22 : Frm pBp mem (upm (upm (upm (upm (upm mem 2 (nn) k) 3 (4 * nn) a) 3 (4 * nn + 1) b) 3 (4 * nn + 2) c) 3 (4 * nn + 3) e) := Frm.up hF17 (by unfold pBp; omega)
  refine Tx.aload_n hC te_47_66 rfl ?_
  refine Tx.getR hC te_47_67 rfl rfl rfl ?_
  refine Tx.aload_n hC te_47_70 rfl ?_
  refine Tx.getI hC te_47_71 rfl rfl rfl (fun v23 v23e v23i => ?_)
  unfold InI at v23i
  rw [hF22 1 _ (by unfold pBp; omega)] at v23e
  refine Tx.iconst hC te_47_74 rfl ?_
  refine Tx.iast hC te_47_75 rfl (by omega) ?_
  rw [show (Int.toNat v23) = (nn) by omega]
  have hF25 : Frm pBp mem (upm (upm (upm (upm (upm (upm mem 2 (nn) k) 3 (4 * nn) a) 3 (4 * nn + 1) b) 3 (4 * nn + 2) c) 3 (4 * nn + 3) e) 4 (nn) 0) := Frm.up hF22 (by unfold pBp; omega)
  refine Tx.aload_n hC te_47_76 rfl ?_
  refine Tx.dup hC te_47_77 ?_
  refine Tx.getI hC te_47_78 rfl rfl rfl (fun v26 v26e v26i => ?_)
  unfold InI at v26i
  rw [hF25 1 _ (by unfold pBp; omega)] at v26e
  refine Tx.iconst hC te_47_81 rfl ?_
  refine Tx.iaddW hC te_47_82 (fun z27 z27i z27e => ?_)
  unfold InI at z27i z27e
  first | replace z27e := z27e (by omega) | clear z27e
  refine Tx.putI hC te_47_83 rfl rfl rfl rfl ?_
  have ez : z27 = mem 1 0 + 1 := by omega
  rw [ez]
  exact Tx.vret hC te_47_86 rfl (show K (upm (upm (upm (upm (upm (upm (upm mem 2 (nn) k) 3 (4 * nn) a) 3 (4 * nn + 1) b) 3 (4 * nn + 2) c) 3 (4 * nn + 3) e) 4 (nn) 0) 1 0 (mem 1 0 + 1)) from H)
theorem f_46 {S : Nat × (Nat → Int32)} {n : Nat} {mem : MM} {K : Int → MM → Prop} {E : Nat → MM → Prop} (hI : ClS mem) {k a b c e : Int} (hk : 0 ≤ k ∧ k ≤ 5) (h3 : k ≤ 3 → srcOK a b ∧ srcOK c e) (h4 : k = 4 → 0 ≤ a ∧ a ≤ 1 ∧ 0 ≤ b ∧ b ≤ 7) (h5 : k = 5 → srcOK a b ∧ 0 ≤ c ∧ c ≤ 1 ∧ 0 ≤ e ∧ e ≤ 7) (H : ∀ r m', ClS m' → Frm pCl mem m' → K r m') (HE : ClS mem → E 1 mem) : CQI (Ex S (n + 2)) 46 [.inr 0, .inl k, .inl a, .inl b, .inl c, .inl e] mem K E := by
  refine CY.of (k := 0) mt_46 rfl rfl (fun hv => ?_)
  have hC := Ex.mono S (n + 1)
  have ii_k : InI k := hv (.inl k) (by simp)
  unfold InI at ii_k
  have ii_a : InI a := hv (.inl a) (by simp)
  unfold InI at ii_a
  have ii_b : InI b := hv (.inl b) (by simp)
  unfold InI at ii_b
  have ii_c : InI c := hv (.inl c) (by simp)
  unfold InI at ii_c
  have ii_e : InI e := hv (.inl e) (by simp)
  unfold InI at ii_e
  clear hv
  have h8 := hI.1.b.1
  show Tx (Ex S (n + 1)) S M_46 (kI K E) 0 0 0 [some (.inr 0), some (.inl k), some (.inl a), some (.inl b), some (.inl c), some (.inl e)] [] mem
  refine Tx.aload_n hC te_46_0 rfl ?_
  refine Tx.getR hC te_46_1 rfl rfl rfl ?_
  refine Tx.getI hC te_46_4 rfl rfl rfl (fun v1 v1e v1i => ?_)
  unfold InI at v1i
  refine Tx.bipush hC te_46_7 rfl rfl ?_
  refine Tx.icmp hC (t := 23) te_46_9 (by decide) (fun q2 => ?_) (fun q2 => ?_)
  · replace q2 : (v1 : Int) < 8 := q2
    refine Tx.aload_n hC te_46_23 rfl ?_
    refine Tx.getR hC te_46_24 rfl rfl rfl ?_
    refine Tx.iload_n hC te_46_27 rfl ?_
    refine Tx.iload_n hC te_46_28 rfl ?_
    refine Tx.iload_n hC te_46_29 rfl ?_
    refine Tx.iload hC te_46_30 rfl ?_
    refine Tx.iload hC te_46_32 rfl ?_
    refine Tx.virtV hC te_46_34 mt_47 (args := [.inr 1, .inl k, .inl a, .inl b, .inl c, .inl e]) (rest := []) (c' := 0) (s' := 0) rfl rfl rfl rfl rfl rfl rfl rfl rfl rfl ?_
    refine f_47 (by omega) ?_
    have r3b := putM_ok (n := (mem 1 0).toNat) hI.1.b (by omega) (by omega) hk h3 h4 h5
    have r3f : Frm pBd mem (putM mem (mem 1 0).toNat k a b c e) := fun A i q => putM_ne (by unfold pBd at q; omega)
    generalize putM mem (mem 1 0).toNat k a b c e = m4 at r3b r3f ⊢
    have hF5n : Frm pCl mem m4 := r3f.mono (fun A i q => by unfold pBd at q; unfold pCl; omega)
    refine Tx.aload_n hC te_46_37 rfl ?_
    refine Tx.iconst hC te_46_38 rfl ?_
    refine Tx.putB hC te_46_39 rfl rfl rfl rfl (by omega) ?_
    have hF7 : Frm pCl mem (upm m4 0 11 1) := Frm.up hF5n (by unfold pCl; omega)
    have hC_8 : ClS (upm m4 0 11 1) := ClS.bd hI (Frm.up r3f (by unfold pBd; omega)) (BodyOK.up r3b (by omega)) upm_eq
    generalize upm m4 0 11 1 = m6 at hF7 hC_8 ⊢
    refine Tx.aload_n hC te_46_42 rfl ?_
    refine Tx.getR hC te_46_43 rfl rfl rfl ?_
    refine Tx.getI hC te_46_46 rfl rfl rfl (fun v9 v9e v9i => ?_)
    unfold InI at v9i
    refine Tx.iconst hC te_46_49 rfl ?_
    refine Tx.isubW hC te_46_50 (fun z10 z10i z10e => ?_)
    unfold InI at z10i z10e
    first | replace z10e := z10e (by omega) | clear z10e
    exact Tx.ireturn hC te_46_51 rfl (fun hr => show K z10 m6 from H _ _ hC_8 hF7)
  · replace q2 : ¬ ((v1 : Int) < 8) := q2
    exact Tx.thr hC te_46_12 rfl rfl rfl rfl rfl (show E 1 mem from HE hI)
theorem f_44 {S : Nat × (Nat → Int32)} {n : Nat} {mem : MM} {K : Int → MM → Prop} {E : Nat → MM → Prop} (hI : ClS mem) {p0 p1 p2 p3 p4 : Int} (H : ∀ r m', ClS m' → Frm pCl mem m' → K r m') (HE : ∀ e m', (e = 0 ∨ e = 1) → ClS m' → Frm pCl mem m' → E e m') : CQI (Ex S (n + 3)) 44 [.inr 0, .inl p0, .inl p1, .inl p2, .inl p3, .inl p4] mem K E := by
  refine CY.of (k := 0) mt_44 rfl rfl (fun hv => ?_)
  have hC := Ex.mono S (n + 2)
  have ii_p0 : InI p0 := hv (.inl p0) (by simp)
  unfold InI at ii_p0
  have ii_p1 : InI p1 := hv (.inl p1) (by simp)
  unfold InI at ii_p1
  have ii_p2 : InI p2 := hv (.inl p2) (by simp)
  unfold InI at ii_p2
  have ii_p3 : InI p3 := hv (.inl p3) (by simp)
  unfold InI at ii_p3
  have ii_p4 : InI p4 := hv (.inl p4) (by simp)
  unfold InI at ii_p4
  clear hv
  have h8 := hI.1.b.1
  show Tx (Ex S (n + 2)) S M_44 (kI K E) 0 0 0 [some (.inr 0), some (.inl p0), some (.inl p1), some (.inl p2), some (.inl p3), some (.inl p4)] [] mem
  refine Tx.iload_n hC te_44_0 rfl ?_
  refine Tx.ifc hC (t := 27) te_44_1 (by decide) (fun q1 => ?_) (fun q1 => ?_)
  · replace q1 : (p0 : Int) < 0 := q1
    exact Tx.thr hC te_44_27 rfl rfl rfl rfl rfl (show E 0 mem from HE _ _ (by omega) hI Frm.rf)
  · replace q1 : ¬ ((p0 : Int) < 0) := q1
    refine Tx.iload_n hC te_44_4 rfl ?_
    refine Tx.iconst hC te_44_5 rfl ?_
    refine Tx.icmp hC (t := 27) te_44_6 (by decide) (fun q2 => ?_) (fun q2 => ?_)
    · replace q2 : 4 ≤ (p0 : Int) := q2
      exact Tx.thr hC te_44_27 rfl rfl rfl rfl rfl (show E 0 mem from HE _ _ (by omega) hI Frm.rf)
    · replace q2 : ¬ (4 ≤ (p0 : Int)) := q2
      refine Tx.iload_n hC te_44_9 rfl ?_
      refine Tx.iload_n hC te_44_10 rfl ?_
      refine Tx.statI hC te_44_11 (by decide) mt_45 (args := [.inl p1, .inl p2]) (rest := []) (c' := 0) (s' := 0) rfl rfl rfl rfl rfl rfl rfl ?_
      refine f_45 (fun r3 r3b r3s r3i => ?_)
      unfold InI at r3i
      refine Tx.ifc hC (t := 27) te_44_14 (by decide) (fun q6 => ?_) (fun q6 => ?_)
      · replace q6 : (r3 : Int) = 0 := q6
        exact Tx.thr hC te_44_27 rfl rfl rfl rfl rfl (show E 0 mem from HE _ _ (by omega) hI Frm.rf)
      · replace q6 : ¬ ((r3 : Int) = 0) := q6
        refine Tx.iload hC te_44_17 rfl ?_
        refine Tx.iload hC te_44_19 rfl ?_
        refine Tx.statI hC te_44_21 (by decide) mt_45 (args := [.inl p3, .inl p4]) (rest := []) (c' := 0) (s' := 0) rfl rfl rfl rfl rfl rfl rfl ?_
        refine f_45 (fun r7 r7b r7s r7i => ?_)
        unfold InI at r7i
        refine Tx.ifc hC (t := 37) te_44_24 (by decide) (fun q10 => ?_) (fun q10 => ?_)
        · replace q10 : ¬ (r7 : Int) = 0 := q10
          refine Tx.aload_n hC te_44_37 rfl ?_
          refine Tx.iload_n hC te_44_38 rfl ?_
          refine Tx.iload_n hC te_44_39 rfl ?_
          refine Tx.iload_n hC te_44_40 rfl ?_
          refine Tx.iload hC te_44_41 rfl ?_
          refine Tx.iload hC te_44_43 rfl ?_
          refine Tx.virtI hC te_44_45 mt_46 (args := [.inr 0, .inl p0, .inl p1, .inl p2, .inl p3, .inl p4]) (rest := []) (c' := 1) (s' := 6) rfl rfl rfl rfl rfl rfl rfl rfl rfl rfl ?_
          refine f_46 hI (by omega) (fun z => ⟨r3s (by omega), r7s (by omega)⟩) (fun z => absurd z (by omega)) (fun z => absurd z (by omega)) (fun r11 m12 r11C hF13 r11i => ?_) (fun r11C => HE 1 _ (by omega) r11C Frm.rf)
          have hF13n : Frm pCl mem m12 := hF13
          unfold InI at r11i
          exact Tx.ireturn hC te_44_48 rfl (fun hr => show K r11 m12 from H _ _ r11C hF13n)
        · replace q10 : ¬ (¬ (r7 : Int) = 0) := q10
          exact Tx.thr hC te_44_27 rfl rfl rfl rfl rfl (show E 0 mem from HE _ _ (by omega) hI Frm.rf)
theorem f_49 {S : Nat × (Nat → Int32)} {n : Nat} {mem : MM} {K : Int → MM → Prop} {E : Nat → MM → Prop} (hI : ClS mem) {p0 p1 : Int} (H : ∀ r m', ClS m' → Frm pCl mem m' → K r m') (HE : ∀ e m', (e = 0 ∨ e = 1) → ClS m' → Frm pCl mem m' → E e m') : CQI (Ex S (n + 3)) 49 [.inr 0, .inl p0, .inl p1] mem K E := by
  refine CY.of (k := 0) mt_49 rfl rfl (fun hv => ?_)
  have hC := Ex.mono S (n + 2)
  have ii_p0 : InI p0 := hv (.inl p0) (by simp)
  unfold InI at ii_p0
  have ii_p1 : InI p1 := hv (.inl p1) (by simp)
  unfold InI at ii_p1
  clear hv
  have h8 := hI.1.b.1
  show Tx (Ex S (n + 2)) S M_49 (kI K E) 0 0 0 [some (.inr 0), some (.inl p0), some (.inl p1)] [] mem
  refine Tx.iload_n hC te_49_0 rfl ?_
  refine Tx.iload_n hC te_49_1 rfl ?_
  refine Tx.statI hC te_49_2 (by decide) mt_50 (args := [.inl p0, .inl p1]) (rest := []) (c' := 0) (s' := 0) rfl rfl rfl rfl rfl rfl rfl ?_
  refine f_50 (fun r1 r1b r1s r1i => ?_)
  unfold InI at r1i
  refine Tx.ifc hC (t := 18) te_49_5 (by decide) (fun q4 => ?_) (fun q4 => ?_)
  · replace q4 : ¬ (r1 : Int) = 0 := q4
    refine Tx.aload_n hC te_49_18 rfl ?_
    refine Tx.iconst hC te_49_19 rfl ?_
    refine Tx.iload_n hC te_49_20 rfl ?_
    refine Tx.iload_n hC te_49_21 rfl ?_
    refine Tx.iconst hC te_49_22 rfl ?_
    refine Tx.iconst hC te_49_23 rfl ?_
    refine Tx.virtI hC te_49_24 mt_46 (args := [.inr 0, .inl 4, .inl p0, .inl p1, .inl 0, .inl 0]) (rest := []) (c' := 1) (s' := 6) rfl rfl rfl rfl rfl rfl rfl rfl rfl rfl ?_
    refine f_46 hI (by omega) (fun z => absurd z (by omega)) (fun z => by have := r1s (by omega); omega) (fun z => absurd z (by omega)) (fun r5 m6 r5C hF7 r5i => ?_) (fun r5C => HE 1 _ (by omega) r5C Frm.rf)
    have hF7n : Frm pCl mem m6 := hF7
    unfold InI at r5i
    exact Tx.ireturn hC te_49_27 rfl (fun hr => show K r5 m6 from H _ _ r5C hF7n)
  · replace q4 : ¬ (¬ (r1 : Int) = 0) := q4
    exact Tx.thr hC te_49_8 rfl rfl rfl rfl rfl (show E 0 mem from HE _ _ (by omega) hI Frm.rf)
theorem f_52 {S : Nat × (Nat → Int32)} {n : Nat} {mem : MM} {K : Int → MM → Prop} {E : Nat → MM → Prop} (hI : ClS mem) {p0 p1 p2 p3 : Int} (H : ∀ r m', ClS m' → Frm pCl mem m' → K r m') (HE : ∀ e m', (e = 0 ∨ e = 1) → ClS m' → Frm pCl mem m' → E e m') : CQI (Ex S (n + 3)) 52 [.inr 0, .inl p0, .inl p1, .inl p2, .inl p3] mem K E := by
  refine CY.of (k := 0) mt_52 rfl rfl (fun hv => ?_)
  have hC := Ex.mono S (n + 2)
  have ii_p0 : InI p0 := hv (.inl p0) (by simp)
  unfold InI at ii_p0
  have ii_p1 : InI p1 := hv (.inl p1) (by simp)
  unfold InI at ii_p1
  have ii_p2 : InI p2 := hv (.inl p2) (by simp)
  unfold InI at ii_p2
  have ii_p3 : InI p3 := hv (.inl p3) (by simp)
  unfold InI at ii_p3
  clear hv
  have h8 := hI.1.b.1
  show Tx (Ex S (n + 2)) S M_52 (kI K E) 0 0 0 [some (.inr 0), some (.inl p0), some (.inl p1), some (.inl p2), some (.inl p3)] [] mem
  refine Tx.iload_n hC te_52_0 rfl ?_
  refine Tx.iload_n hC te_52_1 rfl ?_
  refine Tx.statI hC te_52_2 (by decide) mt_45 (args := [.inl p0, .inl p1]) (rest := []) (c' := 0) (s' := 0) rfl rfl rfl rfl rfl rfl rfl ?_
  refine f_45 (fun r1 r1b r1s r1i => ?_)
  unfold InI at r1i
  refine Tx.ifc hC (t := 17) te_52_5 (by decide) (fun q4 => ?_) (fun q4 => ?_)
  · replace q4 : (r1 : Int) = 0 := q4
    exact Tx.thr hC te_52_17 rfl rfl rfl rfl rfl (show E 0 mem from HE _ _ (by omega) hI Frm.rf)
  · replace q4 : ¬ ((r1 : Int) = 0) := q4
    refine Tx.iload_n hC te_52_8 rfl ?_
    refine Tx.iload hC te_52_9 rfl ?_
    refine Tx.statI hC te_52_11 (by decide) mt_50 (args := [.inl p2, .inl p3]) (rest := []) (c' := 0) (s' := 0) rfl rfl rfl rfl rfl rfl rfl ?_
    refine f_50 (fun r5 r5b r5s r5i => ?_)
    unfold InI at r5i
    refine Tx.ifc hC (t := 27) te_52_14 (by decide) (fun q8 => ?_) (fun q8 => ?_)
    · replace q8 : ¬ (r5 : Int) = 0 := q8
      refine Tx.aload_n hC te_52_27 rfl ?_
      refine Tx.iconst hC te_52_28 rfl ?_
      refine Tx.iload_n hC te_52_29 rfl ?_
      refine Tx.iload_n hC te_52_30 rfl ?_
      refine Tx.iload_n hC te_52_31 rfl ?_
      refine Tx.iload hC te_52_32 rfl ?_
      refine Tx.virtI hC te_52_34 mt_46 (args := [.inr 0, .inl 5, .inl p0, .inl p1, .inl p2, .inl p3]) (rest := []) (c' := 1) (s' := 6) rfl rfl rfl rfl rfl rfl rfl rfl rfl rfl ?_
      refine f_46 hI (by omega) (fun z => absurd z (by omega)) (fun z => absurd z (by omega)) (fun z => ⟨r1s (by omega), by have := r5s (by omega); omega⟩) (fun r9 m10 r9C hF11 r9i => ?_) (fun r9C => HE 1 _ (by omega) r9C Frm.rf)
      have hF11n : Frm pCl mem m10 := hF11
      unfold InI at r9i
      exact Tx.ireturn hC te_52_37 rfl (fun hr => show K r9 m10 from H _ _ r9C hF11n)
    · replace q8 : ¬ (¬ (r5 : Int) = 0) := q8
      exact Tx.thr hC te_52_17 rfl rfl rfl rfl rfl (show E 0 mem from HE _ _ (by omega) hI Frm.rf)
theorem f_54 {S : Nat × (Nat → Int32)} {n : Nat} {mem : MM} {K : Int → MM → Prop} {E : Nat → MM → Prop} (hI : ClS mem) (H : ∀ r m', ClS m' → Frm pCl mem m' → K r m') (HE : ∀ e m', (e = 1) → ClS m' → Frm pCl mem m' → E e m') : CQI (Ex S (n + 1)) 54 [.inr 0] mem K E := by
  refine CY.of (k := 0) mt_54 rfl rfl (fun hv => ?_)
  have hC := Ex.mono S n
  clear hv
  have h8 := hI.1.b.1
  show Tx (Ex S n) S M_54 (kI K E) 0 0 0 [some (.inr 0)] [] mem
  refine Tx.aload_n hC te_54_0 rfl ?_
  refine Tx.getR hC te_54_1 rfl rfl rfl ?_
  refine Tx.getI hC te_54_4 rfl rfl rfl (fun v1 v1e v1i => ?_)
  unfold InI at v1i
  have f2 := hI.1.b.1
  refine Tx.ifc hC (t := 20) te_54_7 (by decide) (fun q3 => ?_) (fun q3 => ?_)
  · replace q3 : ¬ (v1 : Int) = 0 := q3
    refine Tx.aload_n hC te_54_20 rfl ?_
    refine Tx.getR hC te_54_21 rfl rfl rfl ?_
    refine Tx.dup hC te_54_24 ?_
    refine Tx.getI hC te_54_25 rfl rfl rfl (fun v4 v4e v4i => ?_)
    unfold InI at v4i
    have f5 := hI.1.b.1
    refine Tx.iconst hC te_54_28 rfl ?_
    refine Tx.isubW hC te_54_29 (fun z6 z6i z6e => ?_)
    unfold InI at z6i z6e
    first | replace z6e := z6e (by omega) | clear z6e
    refine Tx.putI hC te_54_30 rfl rfl rfl rfl ?_
    have hF8 : Frm pCl mem (upm mem 1 0 z6) := Frm.up Frm.rf (by unfold pCl; omega)
    have hb9 : BodyOK (upm mem 1 0 z6) := BodyOK.sz hI.1.b (by omega)
    have hf10 : Frm pBd mem (upm mem 1 0 z6) := Frm.up Frm.rf (by unfold pBd; omega)
    generalize upm mem 1 0 z6 = m7 at hF8 hb9 hf10 ⊢
    refine Tx.aload_n hC te_54_33 rfl ?_
    refine Tx.iconst hC te_54_34 rfl ?_
    refine Tx.putB hC te_54_35 rfl rfl rfl rfl (by omega) ?_
    have hF12 : Frm pCl mem (upm m7 0 11 1) := Frm.up hF8 (by unfold pCl; omega)
    have hb13 : BodyOK (upm m7 0 11 1) := BodyOK.up hb9 (by omega)
    have hf14 : Frm pBd mem (upm m7 0 11 1) := Frm.up hf10 (by unfold pBd; omega)
    have hC_15 : ClS (upm m7 0 11 1) := ClS.bd hI hf14 hb13 upm_eq
    generalize upm m7 0 11 1 = m11 at hF12 hb13 hf14 hC_15 ⊢
    refine Tx.aload_n hC te_54_38 rfl ?_
    refine Tx.getR hC te_54_39 rfl rfl rfl ?_
    refine Tx.getI hC te_54_42 rfl rfl rfl (fun v16 v16e v16i => ?_)
    unfold InI at v16i
    have f17 := hI.1.b.1
    exact Tx.ireturn hC te_54_45 rfl (fun hr => show K v16 m11 from H _ _ hC_15 hF12)
  · replace q3 : ¬ (¬ (v1 : Int) = 0) := q3
    exact Tx.thr hC te_54_10 rfl rfl rfl rfl rfl (show E 1 mem from HE _ _ (by omega) hI Frm.rf)
theorem f_56 {S : Nat × (Nat → Int32)} {n : Nat} {mem : MM} {K : Int → MM → Prop} {E : Nat → MM → Prop} (hI : ClS mem) {p0 p1 : Int} (H : ∀ r m', ClS m' → Frm pCl mem m' → K r m') (HE : ∀ e m', (e = 2 ∨ e = 0) → ClS m' → Frm pCl mem m' → E e m') : CQI (Ex S (n + 2)) 56 [.inr 0, .inl p0, .inl p1] mem K E := by
  refine CY.of (k := 1) mt_56 rfl rfl (fun hv => ?_)
  have hC := Ex.mono S (n + 1)
  have ii_p0 : InI p0 := hv (.inl p0) (by simp)
  unfold InI at ii_p0
  have ii_p1 : InI p1 := hv (.inl p1) (by simp)
  unfold InI at ii_p1
  clear hv
  have h8 := hI.1.b.1
  show Tx (Ex S (n + 1)) S M_56 (kI K E) 0 0 0 [some (.inr 0), some (.inl p0), some (.inl p1), none] [] mem
  refine Tx.aload_n hC te_56_0 rfl ?_
  refine Tx.iload_n hC te_56_1 rfl ?_
  refine Tx.virtV hC te_56_2 mt_57 (args := [.inr 0, .inl p0]) (rest := []) (c' := 1) (s' := 6) rfl rfl rfl rfl rfl rfl rfl rfl rfl rfl ?_
  refine f_57 (fun r1a r1b => ?_) (HE 2 _ (by omega) hI Frm.rf)
  refine Tx.iload_n hC te_56_5 rfl ?_
  refine Tx.sipush hC te_56_6 rfl rfl ?_
  refine Tx.icmp hC (t := 19) te_56_9 (by decide) (fun q4 => ?_) (fun q4 => ?_)
  · replace q4 : (p1 : Int) < (-9999) := q4
    exact Tx.thr hC te_56_19 rfl rfl rfl rfl rfl (show E 0 mem from HE _ _ (by omega) hI Frm.rf)
  · replace q4 : ¬ ((p1 : Int) < (-9999)) := q4
    refine Tx.iload_n hC te_56_12 rfl ?_
    refine Tx.sipush hC te_56_13 rfl rfl ?_
    refine Tx.icmp hC (t := 29) te_56_16 (by decide) (fun q5 => ?_) (fun q5 => ?_)
    · replace q5 : (p1 : Int) ≤ 9999 := q5
      refine Tx.aload_n hC te_56_29 rfl ?_
      refine Tx.getR hC te_56_30 rfl rfl rfl ?_
      refine Tx.getR hC te_56_33 rfl rfl rfl ?_
      refine Tx.iload_n hC te_56_36 rfl ?_
      refine Tx.iald hC te_56_37 rfl (by omega) (fun v6 v6e v6i => ?_)
      unfold InI at v6i
      refine Tx.istore_n hC te_56_38 rfl ?_
      refine Tx.aload_n hC te_56_39 rfl ?_
      refine Tx.getR hC te_56_40 rfl rfl rfl ?_
      refine Tx.getR hC te_56_43 rfl rfl rfl ?_
      refine Tx.iload_n hC te_56_46 rfl ?_
      refine Tx.iload_n hC te_56_47 rfl ?_
      refine Tx.iast hC te_56_48 rfl (by omega) ?_
      have hF8 : Frm pCl mem (upm mem 4 (Int.toNat p0) p1) := Frm.up Frm.rf (by unfold pCl; omega)
      have hC_11 : ClS (upm mem 4 (Int.toNat p0) p1) := ClS.fi hI (up1F (by unfold p4f; omega))
      generalize upm mem 4 (Int.toNat p0) p1 = m7 at hF8 hC_11 ⊢
      refine Tx.iload_n hC te_56_49 rfl ?_
      exact Tx.ireturn hC te_56_50 rfl (fun hr => show K v6 m7 from H _ _ hC_11 hF8)
    · replace q5 : ¬ ((p1 : Int) ≤ 9999) := q5
      exact Tx.thr hC te_56_19 rfl rfl rfl rfl rfl (show E 0 mem from HE _ _ (by omega) hI Frm.rf)
theorem f_62 {S : Nat × (Nat → Int32)} {n : Nat} {mem : MM} {K : Int → MM → Prop} {E : Nat → MM → Prop} (hI : ClS mem) {p0 p1 : Int} (H : ∀ r m', ClS m' → Frm pCl mem m' → K r m') (HE : ∀ e m', (e = 2 ∨ e = 0) → ClS m' → Frm pCl mem m' → E e m') : CQI (Ex S (n + 2)) 62 [.inr 0, .inl p0, .inl p1] mem K E := by
  refine CY.of (k := 1) mt_62 rfl rfl (fun hv => ?_)
  have hC := Ex.mono S (n + 1)
  have ii_p0 : InI p0 := hv (.inl p0) (by simp)
  unfold InI at ii_p0
  have ii_p1 : InI p1 := hv (.inl p1) (by simp)
  unfold InI at ii_p1
  clear hv
  have h8 := hI.1.b.1
  show Tx (Ex S (n + 1)) S M_62 (kI K E) 0 0 0 [some (.inr 0), some (.inl p0), some (.inl p1), none] [] mem
  refine Tx.aload_n hC te_62_0 rfl ?_
  refine Tx.iload_n hC te_62_1 rfl ?_
  refine Tx.virtV hC te_62_2 mt_63 (args := [.inr 0, .inl p0]) (rest := []) (c' := 1) (s' := 6) rfl rfl rfl rfl rfl rfl rfl rfl rfl rfl ?_
  refine f_63 (fun r1a r1b => ?_) (HE 2 _ (by omega) hI Frm.rf)
  refine Tx.iload_n hC te_62_5 rfl ?_
  refine Tx.iconst hC te_62_6 rfl ?_
  refine Tx.icmp hC (t := 15) te_62_7 (by decide) (fun q4 => ?_) (fun q4 => ?_)
  · replace q4 : (p1 : Int) < 1 := q4
    exact Tx.thr hC te_62_15 rfl rfl rfl rfl rfl (show E 0 mem from HE _ _ (by omega) hI Frm.rf)
  · replace q4 : ¬ ((p1 : Int) < 1) := q4
    refine Tx.iload_n hC te_62_10 rfl ?_
    refine Tx.iconst hC te_62_11 rfl ?_
    refine Tx.icmp hC (t := 25) te_62_12 (by decide) (fun q5 => ?_) (fun q5 => ?_)
    · replace q5 : (p1 : Int) ≤ 3 := q5
      refine Tx.aload_n hC te_62_25 rfl ?_
      refine Tx.getR hC te_62_26 rfl rfl rfl ?_
      refine Tx.getR hC te_62_29 rfl rfl rfl ?_
      refine Tx.iload_n hC te_62_32 rfl ?_
      refine Tx.iald hC te_62_33 rfl (by omega) (fun v6 v6e v6i => ?_)
      unfold InI at v6i
      refine Tx.istore_n hC te_62_34 rfl ?_
      refine Tx.aload_n hC te_62_35 rfl ?_
      refine Tx.getR hC te_62_36 rfl rfl rfl ?_
      refine Tx.getR hC te_62_39 rfl rfl rfl ?_
      refine Tx.iload_n hC te_62_42 rfl ?_
      refine Tx.iload_n hC te_62_43 rfl ?_
      refine Tx.iast hC te_62_44 rfl (by omega) ?_
      have hF8 : Frm pCl mem (upm mem 8 (Int.toNat p0) p1) := Frm.up Frm.rf (by unfold pCl; omega)
      have hb9 : BodyOK (upm mem 8 (Int.toNat p0) p1) := BodyOK.up hI.1.b (by omega)
      have hf10 : Frm pBd mem (upm mem 8 (Int.toNat p0) p1) := Frm.up Frm.rf (by unfold pBd; omega)
      generalize upm mem 8 (Int.toNat p0) p1 = m7 at hF8 hb9 hf10 ⊢
      refine Tx.aload_n hC te_62_45 rfl ?_
      refine Tx.iconst hC te_62_46 rfl ?_
      refine Tx.putB hC te_62_47 rfl rfl rfl rfl (by omega) ?_
      have hF12 : Frm pCl mem (upm m7 0 11 1) := Frm.up hF8 (by unfold pCl; omega)
      have hb13 : BodyOK (upm m7 0 11 1) := BodyOK.up hb9 (by omega)
      have hf14 : Frm pBd mem (upm m7 0 11 1) := Frm.up hf10 (by unfold pBd; omega)
      have hC_15 : ClS (upm m7 0 11 1) := ClS.bd hI hf14 hb13 upm_eq
      generalize upm m7 0 11 1 = m11 at hF12 hb13 hf14 hC_15 ⊢
      refine Tx.iload_n hC te_62_50 rfl ?_
      exact Tx.ireturn hC te_62_51 rfl (fun hr => show K v6 m11 from H _ _ hC_15 hF12)
    · replace q5 : ¬ ((p1 : Int) ≤ 3) := q5
      exact Tx.thr hC te_62_15 rfl rfl rfl rfl rfl (show E 0 mem from HE _ _ (by omega) hI Frm.rf)
theorem f_59 {S : Nat × (Nat → Int32)} {n : Nat} {mem : MM} {K : MM → Prop} {E : Nat → MM → Prop} (hI : ClS mem) {p0 p1 p2 p3 : Int} (H : 0 ≤ p0 ∧ p0 < 6 → (0 ≤ p1 ∧ p1 < 3) ∧ (1 ≤ p2 ∧ p2 ≤ 6) ∧ 1 ≤ p3 ∧ p3 ≤ 15 → ∀ m', ClS m' → Frm pCl mem m' → K m') (HE2 : ¬ (0 ≤ p0 ∧ p0 < 6) → E 2 mem) (HE0 : 0 ≤ p0 ∧ p0 < 6 → ¬ ((0 ≤ p1 ∧ p1 < 3) ∧ (1 ≤ p2 ∧ p2 ≤ 6) ∧ 1 ≤ p3 ∧ p3 ≤ 15) → E 0 mem) : CQV (Ex S (n + 2)) 59 [.inr 0, .inl p0, .inl p1, .inl p2, .inl p3] mem K E := by
  refine CY.of (k := 1) mt_59 rfl rfl (fun hv => ?_)
  have hC := Ex.mono S (n + 1)
  have ii_p0 : InI p0 := hv (.inl p0) (by simp)
  unfold InI at ii_p0
  have ii_p1 : InI p1 := hv (.inl p1) (by simp)
  unfold InI at ii_p1
  have ii_p2 : InI p2 := hv (.inl p2) (by simp)
  unfold InI at ii_p2
  have ii_p3 : InI p3 := hv (.inl p3) (by simp)
  unfold InI at ii_p3
  clear hv
  have h8 := hI.1.b.1
  show Tx (Ex S (n + 1)) S M_59 (kV K E) 0 0 0 [some (.inr 0), some (.inl p0), some (.inl p1), some (.inl p2), some (.inl p3), none] [] mem
  refine Tx.aload_n hC te_59_0 rfl ?_
  refine Tx.iload_n hC te_59_1 rfl ?_
  refine Tx.virtV hC te_59_2 mt_60 (args := [.inr 0, .inl p0]) (rest := []) (c' := 1) (s' := 6) rfl rfl rfl rfl rfl rfl rfl rfl rfl rfl ?_
  refine f_60n (fun r1a r1b => ?_) (fun r1n => HE2 r1n)
  refine Tx.iload_n hC te_59_5 rfl ?_
  refine Tx.ifc hC (t := 29) te_59_6 (by decide) (fun q4 => ?_) (fun q4 => ?_)
  · replace q4 : (p1 : Int) < 0 := q4
    refine Tx.iconst hC te_59_29 rfl ?_
    refine Tx.istore hC te_59_30 rfl ?_
    refine Tx.iload hC te_59_32 rfl ?_
    refine Tx.ifc hC (t := 50) te_59_34 (by decide) (fun q => ?_) (fun q => absurd (show (0 : Int) = 0 by decide) q)
    exact Tx.thr hC te_59_50 rfl rfl rfl rfl rfl (show E 0 mem from HE0 (by omega) (by omega))
  · replace q4 : ¬ ((p1 : Int) < 0) := q4
    refine Tx.iload_n hC te_59_9 rfl ?_
    refine Tx.iconst hC te_59_10 rfl ?_
    refine Tx.icmp hC (t := 29) te_59_11 (by decide) (fun q5 => ?_) (fun q5 => ?_)
    · replace q5 : 3 ≤ (p1 : Int) := q5
      refine Tx.iconst hC te_59_29 rfl ?_
      refine Tx.istore hC te_59_30 rfl ?_
      refine Tx.iload hC te_59_32 rfl ?_
      refine Tx.ifc hC (t := 50) te_59_34 (by decide) (fun q => ?_) (fun q => absurd (show (0 : Int) = 0 by decide) q)
      exact Tx.thr hC te_59_50 rfl rfl rfl rfl rfl (show E 0 mem from HE0 (by omega) (by omega))
    · replace q5 : ¬ (3 ≤ (p1 : Int)) := q5
      refine Tx.iload_n hC te_59_14 rfl ?_
      refine Tx.iconst hC te_59_15 rfl ?_
      refine Tx.icmp hC (t := 29) te_59_16 (by decide) (fun q6 => ?_) (fun q6 => ?_)
      · replace q6 : (p2 : Int) < 1 := q6
        refine Tx.iconst hC te_59_29 rfl ?_
        refine Tx.istore hC te_59_30 rfl ?_
        refine Tx.iload hC te_59_32 rfl ?_
        refine Tx.ifc hC (t := 50) te_59_34 (by decide) (fun q => ?_) (fun q => absurd (show (0 : Int) = 0 by decide) q)
        exact Tx.thr hC te_59_50 rfl rfl rfl rfl rfl (show E 0 mem from HE0 (by omega) (by omega))
      · replace q6 : ¬ ((p2 : Int) < 1) := q6
        refine Tx.iload_n hC te_59_19 rfl ?_
        refine Tx.bipush hC te_59_20 rfl rfl ?_
        refine Tx.icmp hC (t := 29) te_59_22 (by decide) (fun q7 => ?_) (fun q7 => ?_)
        · replace q7 : 6 < (p2 : Int) := q7
          refine Tx.iconst hC te_59_29 rfl ?_
          refine Tx.istore hC te_59_30 rfl ?_
          refine Tx.iload hC te_59_32 rfl ?_
          refine Tx.ifc hC (t := 50) te_59_34 (by decide) (fun q => ?_) (fun q => absurd (show (0 : Int) = 0 by decide) q)
          exact Tx.thr hC te_59_50 rfl rfl rfl rfl rfl (show E 0 mem from HE0 (by omega) (by omega))
        · replace q7 : ¬ (6 < (p2 : Int)) := q7
          refine Tx.iconst hC te_59_25 rfl ?_
          refine Tx.goto hC (t := 30) te_59_26 (by decide) ?_
          refine Tx.istore hC te_59_30 rfl ?_
          refine Tx.iload hC te_59_32 rfl ?_
          refine Tx.ifc hC (t := 50) te_59_34 (by decide) (fun q => absurd q (show ¬ ((1 : Int) = 0) by decide)) (fun q => ?_)
          refine Tx.iload hC te_59_37 rfl ?_
          refine Tx.iconst hC te_59_39 rfl ?_
          refine Tx.icmp hC (t := 50) te_59_40 (by decide) (fun q8 => ?_) (fun q8 => ?_)
          · replace q8 : (p3 : Int) < 1 := q8
            exact Tx.thr hC te_59_50 rfl rfl rfl rfl rfl (show E 0 mem from HE0 (by omega) (by omega))
          · replace q8 : ¬ ((p3 : Int) < 1) := q8
            refine Tx.iload hC te_59_43 rfl ?_
            refine Tx.bipush hC te_59_45 rfl rfl ?_
            refine Tx.icmp hC (t := 60) te_59_47 (by decide) (fun q9 => ?_) (fun q9 => ?_)
            · replace q9 : (p3 : Int) ≤ 15 := q9
              refine Tx.aload_n hC te_59_60 rfl ?_
              refine Tx.getR hC te_59_61 rfl rfl rfl ?_
              refine Tx.getR hC te_59_64 rfl rfl rfl ?_
              refine Tx.iload_n hC te_59_67 rfl ?_
              refine Tx.iload_n hC te_59_68 rfl ?_
              refine Tx.iast hC te_59_69 rfl (by omega) ?_
              have hF11 : Frm pCl mem (upm mem 5 (Int.toNat p0) p1) := Frm.up Frm.rf (by unfold pCl; omega)
              have hb12 : BodyOK (upm mem 5 (Int.toNat p0) p1) := BodyOK.up hI.1.b (by omega)
              have hf13 : Frm pBd mem (upm mem 5 (Int.toNat p0) p1) := Frm.up Frm.rf (by unfold pBd; omega)
              generalize upm mem 5 (Int.toNat p0) p1 = m10 at hF11 hb12 hf13 ⊢
              refine Tx.aload_n hC te_59_70 rfl ?_
              refine Tx.getR hC te_59_71 rfl rfl rfl ?_
              refine Tx.getR hC te_59_74 rfl rfl rfl ?_
              refine Tx.iload_n hC te_59_77 rfl ?_
              refine Tx.iload_n hC te_59_78 rfl ?_
              refine Tx.iast hC te_59_79 rfl (by omega) ?_
              have hF15 : Frm pCl mem (upm m10 6 (Int.toNat p0) p2) := Frm.up hF11 (by unfold pCl; omega)
              have hb16 : BodyOK (upm m10 6 (Int.toNat p0) p2) := BodyOK.up hb12 (by omega)
              have hf17 : Frm pBd mem (upm m10 6 (Int.toNat p0) p2) := Frm.up hf13 (by unfold pBd; omega)
              generalize upm m10 6 (Int.toNat p0) p2 = m14 at hF15 hb16 hf17 ⊢
              refine Tx.aload_n hC te_59_80 rfl ?_
              refine Tx.getR hC te_59_81 rfl rfl rfl ?_
              refine Tx.getR hC te_59_84 rfl rfl rfl ?_
              refine Tx.iload_n hC te_59_87 rfl ?_
              refine Tx.iload hC te_59_88 rfl ?_
              refine Tx.iast hC te_59_90 rfl (by omega) ?_
              have hF19 : Frm pCl mem (upm m14 7 (Int.toNat p0) p3) := Frm.up hF15 (by unfold pCl; omega)
              have hb20 : BodyOK (upm m14 7 (Int.toNat p0) p3) := BodyOK.up hb16 (by omega)
              have hf21 : Frm pBd mem (upm m14 7 (Int.toNat p0) p3) := Frm.up hf17 (by unfold pBd; omega)
              generalize upm m14 7 (Int.toNat p0) p3 = m18 at hF19 hb20 hf21 ⊢
              refine Tx.aload_n hC te_59_91 rfl ?_
              refine Tx.iconst hC te_59_92 rfl ?_
              refine Tx.putB hC te_59_93 rfl rfl rfl rfl (by omega) ?_
              have hF23 : Frm pCl mem (upm m18 0 11 1) := Frm.up hF19 (by unfold pCl; omega)
              have hb24 : BodyOK (upm m18 0 11 1) := BodyOK.up hb20 (by omega)
              have hf25 : Frm pBd mem (upm m18 0 11 1) := Frm.up hf21 (by unfold pBd; omega)
              have hC_26 : ClS (upm m18 0 11 1) := ClS.bd hI hf25 hb24 upm_eq
              generalize upm m18 0 11 1 = m22 at hF23 hb24 hf25 hC_26 ⊢
              exact Tx.vret hC te_59_96 rfl (show K m22 from H (by omega) (by omega) _ hC_26 hF23)
            · replace q9 : ¬ ((p3 : Int) ≤ 15) := q9
              exact Tx.thr hC te_59_50 rfl rfl rfl rfl rfl (show E 0 mem from HE0 (by omega) (by omega))
/-! laid by wip/hand/tg.py: the seven that change the ops, exactly -/
/-- a source, exactly -/
def srcX (a b : Int) : Prop := a = -1 ∨ (a = -2 ∧ -99 ≤ b ∧ b ≤ 99) ∨ (0 ≤ a ∧ a ≤ 7 ∧ 0 ≤ b ∧ b ≤ 3)
def rowX (a b : Int) : Prop := (0 ≤ a ∧ a ≤ 1) ∧ 0 ≤ b ∧ b ≤ 7
theorem rowX.w {a b : Int} (h : rowX a b) : 0 ≤ a ∧ a ≤ 1 ∧ 0 ≤ b ∧ b ≤ 7 := by unfold rowX at h; omega
theorem srcX.ok {a b : Int} (h : srcX a b) : srcOK a b := by unfold srcX at h; unfold srcOK; omega
/-- one op more, in the reference -/
def addM (mem : MM) (n : Nat) (k a b c e : Int) : MM := upm (upm (upm (upm (upm (upm (upm mem 144 n k) 145 n a) 146 n b) 147 n c) 148 n e) 149 n 0) 143 1 (mem 143 1 + 1)
theorem addM_ne {mem : MM} {n A i : Nat} {k a b c e : Int} (h : ¬ (A = 143 ∧ i = 1) ∧ ¬ (144 ≤ A ∧ A ≤ 149 ∧ i = n)) : addM mem n k a b c e A i = mem A i := by
  unfold addM
  rw [upm_ne (by omega), upm_ne (by omega), upm_ne (by omega), upm_ne (by omega), upm_ne (by omega), upm_ne (by omega), upm_ne (by omega)]
theorem addM_at {mem : MM} {n : Nat} {k a b c e : Int} : addM mem n k a b c e 144 n = k ∧ addM mem n k a b c e 145 n = a ∧ addM mem n k a b c e 146 n = b ∧ addM mem n k a b c e 147 n = c ∧ addM mem n k a b c e 148 n = e ∧ addM mem n k a b c e 149 n = 0 ∧ addM mem n k a b c e 143 1 = mem 143 1 + 1 := by
  unfold addM
  refine ⟨?_, ?_, ?_, ?_, ?_, ?_, upm_eq⟩
  · rw [upm_ne (by omega), upm_ne (by omega), upm_ne (by omega), upm_ne (by omega), upm_ne (by omega), upm_ne (by omega), upm_eq]
  · rw [upm_ne (by omega), upm_ne (by omega), upm_ne (by omega), upm_ne (by omega), upm_ne (by omega), upm_eq]
  · rw [upm_ne (by omega), upm_ne (by omega), upm_ne (by omega), upm_ne (by omega), upm_eq]
  · rw [upm_ne (by omega), upm_ne (by omega), upm_ne (by omega), upm_eq]
  · rw [upm_ne (by omega), upm_ne (by omega), upm_eq]
  · rw [upm_ne (by omega), upm_eq]
def pAd (A _i : Nat) : Prop := 144 ≤ A ∧ A ≤ 149
theorem f_45x {S : Nat × (Nat → Int32)} {n : Nat} {mem : MM} {K : Int → MM → Prop} {E : Nat → MM → Prop} {a b : Int} (H1 : srcX a b → K 1 mem) (H0 : ¬ (srcX a b) → K 0 mem) : CQI (Ex S (n + 1)) 45 [.inl a, .inl b] mem K E := by
  refine CY.of (k := 0) mt_45 rfl rfl (fun hv => ?_)
  have hC := Ex.mono S n
  have ii_a : InI a := hv (.inl a) (by simp)
  unfold InI at ii_a
  have ii_b : InI b := hv (.inl b) (by simp)
  unfold InI at ii_b
  clear hv
  show Tx (Ex S n) S M_45 (kI K E) 0 0 0 [some (.inl a), some (.inl b)] [] mem
  refine Tx.iload_n hC te_45_0 rfl ?_
  refine Tx.iconst hC te_45_1 rfl ?_
  refine Tx.icmp hC (t := 7) te_45_2 (by decide) (fun q1 => ?_) (fun q1 => ?_)
  · replace q1 : ¬ (a : Int) = (-1) := q1
    refine Tx.iload_n hC te_45_7 rfl ?_
    refine Tx.bipush hC te_45_8 rfl rfl ?_
    refine Tx.icmp hC (t := 31) te_45_10 (by decide) (fun q2 => ?_) (fun q2 => ?_)
    · replace q2 : ¬ (a : Int) = (-2) := q2
      refine Tx.iload_n hC te_45_31 rfl ?_
      refine Tx.ifc hC (t := 54) te_45_32 (by decide) (fun q3 => ?_) (fun q3 => ?_)
      · replace q3 : (a : Int) < 0 := q3
        refine Tx.iconst hC te_45_54 rfl ?_
        exact Tx.bret hC te_45_55 rfl (by omega) (show K 0 mem from H0 (by unfold srcX; omega))
      · replace q3 : ¬ ((a : Int) < 0) := q3
        refine Tx.iload_n hC te_45_35 rfl ?_
        refine Tx.bipush hC te_45_36 rfl rfl ?_
        refine Tx.icmp hC (t := 54) te_45_38 (by decide) (fun q4 => ?_) (fun q4 => ?_)
        · replace q4 : 8 ≤ (a : Int) := q4
          refine Tx.iconst hC te_45_54 rfl ?_
          exact Tx.bret hC te_45_55 rfl (by omega) (show K 0 mem from H0 (by unfold srcX; omega))
        · replace q4 : ¬ (8 ≤ (a : Int)) := q4
          refine Tx.iload_n hC te_45_41 rfl ?_
          refine Tx.ifc hC (t := 54) te_45_42 (by decide) (fun q5 => ?_) (fun q5 => ?_)
          · replace q5 : (b : Int) < 0 := q5
            refine Tx.iconst hC te_45_54 rfl ?_
            exact Tx.bret hC te_45_55 rfl (by omega) (show K 0 mem from H0 (by unfold srcX; omega))
          · replace q5 : ¬ ((b : Int) < 0) := q5
            refine Tx.iload_n hC te_45_45 rfl ?_
            refine Tx.iconst hC te_45_46 rfl ?_
            refine Tx.icmp hC (t := 54) te_45_47 (by decide) (fun q6 => ?_) (fun q6 => ?_)
            · replace q6 : 3 < (b : Int) := q6
              refine Tx.iconst hC te_45_54 rfl ?_
              exact Tx.bret hC te_45_55 rfl (by omega) (show K 0 mem from H0 (by unfold srcX; omega))
            · replace q6 : ¬ (3 < (b : Int)) := q6
              refine Tx.iconst hC te_45_50 rfl ?_
              refine Tx.goto hC (t := 55) te_45_51 (by decide) ?_
              exact Tx.bret hC te_45_55 rfl (by omega) (show K 1 mem from H1 (by unfold srcX; omega))
    · replace q2 : ¬ (¬ (a : Int) = (-2)) := q2
      refine Tx.iload_n hC te_45_13 rfl ?_
      refine Tx.bipush hC te_45_14 rfl rfl ?_
      refine Tx.icmp hC (t := 29) te_45_16 (by decide) (fun q7 => ?_) (fun q7 => ?_)
      · replace q7 : (b : Int) < (-99) := q7
        refine Tx.iconst hC te_45_29 rfl ?_
        exact Tx.bret hC te_45_30 rfl (by omega) (show K 0 mem from H0 (by unfold srcX; omega))
      · replace q7 : ¬ ((b : Int) < (-99)) := q7
        refine Tx.iload_n hC te_45_19 rfl ?_
        refine Tx.bipush hC te_45_20 rfl rfl ?_
        refine Tx.icmp hC (t := 29) te_45_22 (by decide) (fun q8 => ?_) (fun q8 => ?_)
        · replace q8 : 99 < (b : Int) := q8
          refine Tx.iconst hC te_45_29 rfl ?_
          exact Tx.bret hC te_45_30 rfl (by omega) (show K 0 mem from H0 (by unfold srcX; omega))
        · replace q8 : ¬ (99 < (b : Int)) := q8
          refine Tx.iconst hC te_45_25 rfl ?_
          refine Tx.goto hC (t := 30) te_45_26 (by decide) ?_
          exact Tx.bret hC te_45_30 rfl (by omega) (show K 1 mem from H1 (by unfold srcX; omega))
  · replace q1 : ¬ (¬ (a : Int) = (-1)) := q1
    refine Tx.iconst hC te_45_5 rfl ?_
    exact Tx.bret hC te_45_6 rfl (by omega) (show K 1 mem from H1 (by unfold srcX; omega))
theorem f_50x {S : Nat × (Nat → Int32)} {n : Nat} {mem : MM} {K : Int → MM → Prop} {E : Nat → MM → Prop} {a b : Int} (H1 : rowX a b → K 1 mem) (H0 : ¬ (rowX a b) → K 0 mem) : CQI (Ex S (n + 1)) 50 [.inl a, .inl b] mem K E := by
  refine CY.of (k := 0) mt_50 rfl rfl (fun hv => ?_)
  have hC := Ex.mono S n
  have ii_a : InI a := hv (.inl a) (by simp)
  unfold InI at ii_a
  have ii_b : InI b := hv (.inl b) (by simp)
  unfold InI at ii_b
  clear hv
  show Tx (Ex S n) S M_50 (kI K E) 0 0 0 [some (.inl a), some (.inl b)] [] mem
  refine Tx.iload_n hC te_50_0 rfl ?_
  refine Tx.ifc hC (t := 23) te_50_1 (by decide) (fun q1 => ?_) (fun q1 => ?_)
  · replace q1 : (a : Int) < 0 := q1
    refine Tx.iconst hC te_50_23 rfl ?_
    exact Tx.bret hC te_50_24 rfl (by omega) (show K 0 mem from H0 (by unfold rowX; omega))
  · replace q1 : ¬ ((a : Int) < 0) := q1
    refine Tx.iload_n hC te_50_4 rfl ?_
    refine Tx.iconst hC te_50_5 rfl ?_
    refine Tx.icmp hC (t := 23) te_50_6 (by decide) (fun q2 => ?_) (fun q2 => ?_)
    · replace q2 : 1 < (a : Int) := q2
      refine Tx.iconst hC te_50_23 rfl ?_
      exact Tx.bret hC te_50_24 rfl (by omega) (show K 0 mem from H0 (by unfold rowX; omega))
    · replace q2 : ¬ (1 < (a : Int)) := q2
      refine Tx.iload_n hC te_50_9 rfl ?_
      refine Tx.ifc hC (t := 23) te_50_10 (by decide) (fun q3 => ?_) (fun q3 => ?_)
      · replace q3 : (b : Int) < 0 := q3
        refine Tx.iconst hC te_50_23 rfl ?_
        exact Tx.bret hC te_50_24 rfl (by omega) (show K 0 mem from H0 (by unfold rowX; omega))
      · replace q3 : ¬ ((b : Int) < 0) := q3
        refine Tx.iload_n hC te_50_13 rfl ?_
        refine Tx.bipush hC te_50_14 rfl rfl ?_
        refine Tx.icmp hC (t := 23) te_50_16 (by decide) (fun q4 => ?_) (fun q4 => ?_)
        · replace q4 : 7 < (b : Int) := q4
          refine Tx.iconst hC te_50_23 rfl ?_
          exact Tx.bret hC te_50_24 rfl (by omega) (show K 0 mem from H0 (by unfold rowX; omega))
        · replace q4 : ¬ (7 < (b : Int)) := q4
          refine Tx.iconst hC te_50_19 rfl ?_
          refine Tx.goto hC (t := 24) te_50_20 (by decide) ?_
          exact Tx.bret hC te_50_24 rfl (by omega) (show K 1 mem from H1 (by unfold rowX; omega))
theorem f_228x {S : Nat × (Nat → Int32)} {n : Nat} {mem : MM} {K : Int → MM → Prop} {E : Nat → MM → Prop} {a b : Int} (H1 : srcX a b → K 1 mem) (H0 : ¬ (srcX a b) → K 0 mem) : CQI (Ex S (n + 2)) 228 [.inl a, .inl b] mem K E := by
  refine CY.of (k := 0) mt_228 rfl rfl (fun hv => ?_)
  have hC := Ex.mono S (n + 1)
  have ii_a : InI a := hv (.inl a) (by simp)
  unfold InI at ii_a
  have ii_b : InI b := hv (.inl b) (by simp)
  unfold InI at ii_b
  clear hv
  show Tx (Ex S (n + 1)) S M_228 (kI K E) 0 0 0 [some (.inl a), some (.inl b)] [] mem
  refine Tx.iload_n hC te_228_0 rfl ?_
  refine Tx.bipush hC te_228_1 rfl rfl ?_
  refine Tx.icmp hC (t := 17) te_228_3 (by decide) (fun q1 => ?_) (fun q1 => ?_)
  · replace q1 : ¬ (a : Int) = (-2) := q1
    refine Tx.iload_n hC te_228_17 rfl ?_
    refine Tx.iconst hC te_228_18 rfl ?_
    refine Tx.icmp hC (t := 41) te_228_19 (by decide) (fun q2 => ?_) (fun q2 => ?_)
    · replace q2 : (a : Int) = (-1) := q2
      refine Tx.iconst hC te_228_41 rfl ?_
      refine Tx.goto hC (t := 46) te_228_42 (by decide) ?_
      exact Tx.bret hC te_228_46 rfl (by omega) (show K 1 mem from H1 (by unfold srcX; omega))
    · replace q2 : ¬ ((a : Int) = (-1)) := q2
      refine Tx.iload_n hC te_228_22 rfl ?_
      refine Tx.iconst hC te_228_23 rfl ?_
      refine Tx.bipush hC te_228_24 rfl rfl ?_
      refine Tx.statI hC te_228_26 (by decide) mt_227 (args := [.inl a, .inl 0, .inl 7]) (rest := []) (c' := 0) (s' := 0) rfl rfl rfl rfl rfl rfl rfl ?_
      refine CWI.q hC (f_227 (fun r3a r3b r3i => ?_) (fun r3q r3i => ?_))
      · skip
        refine Tx.ifc hC (t := 45) te_228_29 (by decide) (fun q => absurd q (show ¬ ((1 : Int) = 0) by decide)) (fun q => ?_)
        refine Tx.iload_n hC te_228_32 rfl ?_
        refine Tx.iconst hC te_228_33 rfl ?_
        refine Tx.iconst hC te_228_34 rfl ?_
        refine Tx.statI hC te_228_35 (by decide) mt_227 (args := [.inl b, .inl 0, .inl 3]) (rest := []) (c' := 0) (s' := 0) rfl rfl rfl rfl rfl rfl rfl ?_
        refine CWI.q hC (f_227 (fun r6a r6b r6i => ?_) (fun r6q r6i => ?_))
        · skip
          refine Tx.ifc hC (t := 45) te_228_38 (by decide) (fun q => absurd q (show ¬ ((1 : Int) = 0) by decide)) (fun q => ?_)
          refine Tx.iconst hC te_228_41 rfl ?_
          refine Tx.goto hC (t := 46) te_228_42 (by decide) ?_
          exact Tx.bret hC te_228_46 rfl (by omega) (show K 1 mem from H1 (by unfold srcX; omega))
        · skip
          refine Tx.ifc hC (t := 45) te_228_38 (by decide) (fun q => ?_) (fun q => absurd (show (0 : Int) = 0 by decide) q)
          refine Tx.iconst hC te_228_45 rfl ?_
          exact Tx.bret hC te_228_46 rfl (by omega) (show K 0 mem from H0 (by unfold srcX; omega))
      · skip
        refine Tx.ifc hC (t := 45) te_228_29 (by decide) (fun q => ?_) (fun q => absurd (show (0 : Int) = 0 by decide) q)
        refine Tx.iconst hC te_228_45 rfl ?_
        exact Tx.bret hC te_228_46 rfl (by omega) (show K 0 mem from H0 (by unfold srcX; omega))
  · replace q1 : ¬ (¬ (a : Int) = (-2)) := q1
    refine Tx.iload_n hC te_228_6 rfl ?_
    refine Tx.bipush hC te_228_7 rfl rfl ?_
    refine Tx.bipush hC te_228_9 rfl rfl ?_
    refine Tx.statI hC te_228_11 (by decide) mt_227 (args := [.inl b, .inl (-99), .inl 99]) (rest := []) (c' := 0) (s' := 0) rfl rfl rfl rfl rfl rfl rfl ?_
    refine CWI.q hC (f_227 (fun r9a r9b r9i => ?_) (fun r9q r9i => ?_))
    · skip
      refine Tx.goto hC (t := 46) te_228_14 (by decide) ?_
      exact Tx.bret hC te_228_46 rfl (by omega) (show K 1 mem from H1 (by unfold srcX; omega))
    · skip
      refine Tx.goto hC (t := 46) te_228_14 (by decide) ?_
      exact Tx.bret hC te_228_46 rfl (by omega) (show K 0 mem from H0 (by unfold srcX; omega))
theorem f_231x {S : Nat × (Nat → Int32)} {n : Nat} {mem : MM} {K : Int → MM → Prop} {E : Nat → MM → Prop} {a b : Int} (H1 : rowX a b → K 1 mem) (H0 : ¬ (rowX a b) → K 0 mem) : CQI (Ex S (n + 2)) 231 [.inl a, .inl b] mem K E := by
  refine CY.of (k := 0) mt_231 rfl rfl (fun hv => ?_)
  have hC := Ex.mono S (n + 1)
  have ii_a : InI a := hv (.inl a) (by simp)
  unfold InI at ii_a
  have ii_b : InI b := hv (.inl b) (by simp)
  unfold InI at ii_b
  clear hv
  show Tx (Ex S (n + 1)) S M_231 (kI K E) 0 0 0 [some (.inl a), some (.inl b)] [] mem
  refine Tx.iload_n hC te_231_0 rfl ?_
  refine Tx.iconst hC te_231_1 rfl ?_
  refine Tx.iconst hC te_231_2 rfl ?_
  refine Tx.statI hC te_231_3 (by decide) mt_227 (args := [.inl a, .inl 0, .inl 1]) (rest := []) (c' := 0) (s' := 0) rfl rfl rfl rfl rfl rfl rfl ?_
  refine CWI.q hC (f_227 (fun r1a r1b r1i => ?_) (fun r1q r1i => ?_))
  · skip
    refine Tx.ifc hC (t := 23) te_231_6 (by decide) (fun q => absurd q (show ¬ ((1 : Int) = 0) by decide)) (fun q => ?_)
    refine Tx.iload_n hC te_231_9 rfl ?_
    refine Tx.iconst hC te_231_10 rfl ?_
    refine Tx.bipush hC te_231_11 rfl rfl ?_
    refine Tx.statI hC te_231_13 (by decide) mt_227 (args := [.inl b, .inl 0, .inl 7]) (rest := []) (c' := 0) (s' := 0) rfl rfl rfl rfl rfl rfl rfl ?_
    refine CWI.q hC (f_227 (fun r4a r4b r4i => ?_) (fun r4q r4i => ?_))
    · skip
      refine Tx.ifc hC (t := 23) te_231_16 (by decide) (fun q => absurd q (show ¬ ((1 : Int) = 0) by decide)) (fun q => ?_)
      refine Tx.iconst hC te_231_19 rfl ?_
      refine Tx.goto hC (t := 24) te_231_20 (by decide) ?_
      exact Tx.bret hC te_231_24 rfl (by omega) (show K 1 mem from H1 (by unfold rowX; omega))
    · skip
      refine Tx.ifc hC (t := 23) te_231_16 (by decide) (fun q => ?_) (fun q => absurd (show (0 : Int) = 0 by decide) q)
      refine Tx.iconst hC te_231_23 rfl ?_
      exact Tx.bret hC te_231_24 rfl (by omega) (show K 0 mem from H0 (by unfold rowX; omega))
  · skip
    refine Tx.ifc hC (t := 23) te_231_6 (by decide) (fun q => ?_) (fun q => absurd (show (0 : Int) = 0 by decide) q)
    refine Tx.iconst hC te_231_23 rfl ?_
    exact Tx.bret hC te_231_24 rfl (by omega) (show K 0 mem from H0 (by unfold rowX; omega))
theorem f_46x {S : Nat × (Nat → Int32)} {n : Nat} {mem : MM} {K : Int → MM → Prop} {E : Nat → MM → Prop} (hI : ClS mem) {k a b c e : Int} (hk : 0 ≤ k ∧ k ≤ 5) (h3 : k ≤ 3 → srcOK a b ∧ srcOK c e) (h4 : k = 4 → 0 ≤ a ∧ a ≤ 1 ∧ 0 ≤ b ∧ b ≤ 7) (h5 : k = 5 → srcOK a b ∧ 0 ≤ c ∧ c ≤ 1 ∧ 0 ≤ e ∧ e ≤ 7) (H : mem 1 0 < 8 → ∀ r m', r = mem 1 0 → ClS m' → m' = upm (putM mem (mem 1 0).toNat k a b c e) 0 11 1 → K r m') (HE : ¬ mem 1 0 < 8 → E 1 mem) : CQI (Ex S (n + 2)) 46 [.inr 0, .inl k, .inl a, .inl b, .inl c, .inl e] mem K E := by
  refine CY.of (k := 0) mt_46 rfl rfl (fun hv => ?_)
  have hC := Ex.mono S (n + 1)
  have ii_k : InI k := hv (.inl k) (by simp)
  unfold InI at ii_k
  have ii_a : InI a := hv (.inl a) (by simp)
  unfold InI at ii_a
  have ii_b : InI b := hv (.inl b) (by simp)
  unfold InI at ii_b
  have ii_c : InI c := hv (.inl c) (by simp)
  unfold InI at ii_c
  have ii_e : InI e := hv (.inl e) (by simp)
  unfold InI at ii_e
  clear hv
  have h8 := hI.1.b.1
  show Tx (Ex S (n + 1)) S M_46 (kI K E) 0 0 0 [some (.inr 0), some (.inl k), some (.inl a), some (.inl b), some (.inl c), some (.inl e)] [] mem
  refine Tx.aload_n hC te_46_0 rfl ?_
  refine Tx.getR hC te_46_1 rfl rfl rfl ?_
  refine Tx.getI hC te_46_4 rfl rfl rfl (fun v1 v1e v1i => ?_)
  unfold InI at v1i
  first | rw [upm_ne (by omega), putM_at.2.2.2.2.2.2] at v1e | skip
  refine Tx.bipush hC te_46_7 rfl rfl ?_
  refine Tx.icmp hC (t := 23) te_46_9 (by decide) (fun q3 => ?_) (fun q3 => ?_)
  · replace q3 : (v1 : Int) < 8 := q3
    refine Tx.aload_n hC te_46_23 rfl ?_
    refine Tx.getR hC te_46_24 rfl rfl rfl ?_
    refine Tx.iload_n hC te_46_27 rfl ?_
    refine Tx.iload_n hC te_46_28 rfl ?_
    refine Tx.iload_n hC te_46_29 rfl ?_
    refine Tx.iload hC te_46_30 rfl ?_
    refine Tx.iload hC te_46_32 rfl ?_
    refine Tx.virtV hC te_46_34 mt_47 (args := [.inr 1, .inl k, .inl a, .inl b, .inl c, .inl e]) (rest := []) (c' := 0) (s' := 0) rfl rfl rfl rfl rfl rfl rfl rfl rfl rfl ?_
    refine f_47 (by omega) ?_
    have r4b := putM_ok (n := (mem 1 0).toNat) hI.1.b (by omega) (by omega) hk h3 h4 h5
    have r4f : Frm pBd mem (putM mem (mem 1 0).toNat k a b c e) := fun A i q => putM_ne (by unfold pBd at q; omega)
    refine Tx.aload_n hC te_46_37 rfl ?_
    refine Tx.iconst hC te_46_38 rfl ?_
    refine Tx.putB hC te_46_39 rfl rfl rfl rfl (by omega) ?_
    have hC_9 : ClS (upm (putM mem (mem 1 0).toNat k a b c e) 0 11 1) := ClS.bd hI (Frm.up r4f (by unfold pBd; omega)) (BodyOK.up r4b (by omega)) upm_eq
    refine Tx.aload_n hC te_46_42 rfl ?_
    refine Tx.getR hC te_46_43 rfl rfl rfl ?_
    refine Tx.getI hC te_46_46 rfl rfl rfl (fun v10 v10e v10i => ?_)
    unfold InI at v10i
    first | rw [upm_ne (by omega), putM_at.2.2.2.2.2.2] at v10e | skip
    refine Tx.iconst hC te_46_49 rfl ?_
    refine Tx.isubW hC te_46_50 (fun z12 z12i z12e => ?_)
    unfold InI at z12i z12e
    first | replace z12e := z12e (by omega) | clear z12e
    exact Tx.ireturn hC te_46_51 rfl (fun hr => show K z12 (upm (putM mem (mem 1 0).toNat k a b c e) 0 11 1) from H (by omega) _ _ (by omega) hC_9 rfl)
  · replace q3 : ¬ ((v1 : Int) < 8) := q3
    exact Tx.thr hC te_46_12 rfl rfl rfl rfl rfl (show E 1 mem from HE (by omega))
theorem f_44x {S : Nat × (Nat → Int32)} {n : Nat} {mem : MM} {K : Int → MM → Prop} {E : Nat → MM → Prop} (hI : ClS mem) {p0 p1 p2 p3 p4 : Int} (H : (0 ≤ p0 ∧ p0 < 4) ∧ srcX p1 p2 ∧ srcX p3 p4 → mem 1 0 < 8 → ∀ r m', r = mem 1 0 → ClS m' → m' = upm (putM mem (mem 1 0).toNat p0 p1 p2 p3 p4) 0 11 1 → K r m') (HE0 : ¬ ((0 ≤ p0 ∧ p0 < 4) ∧ srcX p1 p2 ∧ srcX p3 p4) → E 0 mem) (HE1 : (0 ≤ p0 ∧ p0 < 4) ∧ srcX p1 p2 ∧ srcX p3 p4 → ¬ mem 1 0 < 8 → E 1 mem) : CQI (Ex S (n + 3)) 44 [.inr 0, .inl p0, .inl p1, .inl p2, .inl p3, .inl p4] mem K E := by
  refine CY.of (k := 0) mt_44 rfl rfl (fun hv => ?_)
  have hC := Ex.mono S (n + 2)
  have ii_p0 : InI p0 := hv (.inl p0) (by simp)
  unfold InI at ii_p0
  have ii_p1 : InI p1 := hv (.inl p1) (by simp)
  unfold InI at ii_p1
  have ii_p2 : InI p2 := hv (.inl p2) (by simp)
  unfold InI at ii_p2
  have ii_p3 : InI p3 := hv (.inl p3) (by simp)
  unfold InI at ii_p3
  have ii_p4 : InI p4 := hv (.inl p4) (by simp)
  unfold InI at ii_p4
  clear hv
  have h8 := hI.1.b.1
  show Tx (Ex S (n + 2)) S M_44 (kI K E) 0 0 0 [some (.inr 0), some (.inl p0), some (.inl p1), some (.inl p2), some (.inl p3), some (.inl p4)] [] mem
  refine Tx.iload_n hC te_44_0 rfl ?_
  refine Tx.ifc hC (t := 27) te_44_1 (by decide) (fun q1 => ?_) (fun q1 => ?_)
  · replace q1 : (p0 : Int) < 0 := q1
    exact Tx.thr hC te_44_27 rfl rfl rfl rfl rfl (show E 0 mem from HE0 (by intro w; first | (have := w.1; omega) | exact absurd w (by assumption) | exact absurd w.1 (by assumption) | exact absurd w.2 (by assumption) | exact absurd w.2.1 (by assumption) | exact absurd w.2.2 (by assumption)))
  · replace q1 : ¬ ((p0 : Int) < 0) := q1
    refine Tx.iload_n hC te_44_4 rfl ?_
    refine Tx.iconst hC te_44_5 rfl ?_
    refine Tx.icmp hC (t := 27) te_44_6 (by decide) (fun q2 => ?_) (fun q2 => ?_)
    · replace q2 : 4 ≤ (p0 : Int) := q2
      exact Tx.thr hC te_44_27 rfl rfl rfl rfl rfl (show E 0 mem from HE0 (by intro w; first | (have := w.1; omega) | exact absurd w (by assumption) | exact absurd w.1 (by assumption) | exact absurd w.2 (by assumption) | exact absurd w.2.1 (by assumption) | exact absurd w.2.2 (by assumption)))
    · replace q2 : ¬ (4 ≤ (p0 : Int)) := q2
      refine Tx.iload_n hC te_44_9 rfl ?_
      refine Tx.iload_n hC te_44_10 rfl ?_
      refine Tx.statI hC te_44_11 (by decide) mt_45 (args := [.inl p1, .inl p2]) (rest := []) (c' := 0) (s' := 0) rfl rfl rfl rfl rfl rfl rfl ?_
      refine f_45x (fun r3s r3i => ?_) (fun r3s r3i => ?_)
      · skip
        refine Tx.ifc hC (t := 27) te_44_14 (by decide) (fun q => absurd q (show ¬ ((1 : Int) = 0) by decide)) (fun q => ?_)
        refine Tx.iload hC te_44_17 rfl ?_
        refine Tx.iload hC te_44_19 rfl ?_
        refine Tx.statI hC te_44_21 (by decide) mt_45 (args := [.inl p3, .inl p4]) (rest := []) (c' := 0) (s' := 0) rfl rfl rfl rfl rfl rfl rfl ?_
        refine f_45x (fun r6s r6i => ?_) (fun r6s r6i => ?_)
        · skip
          refine Tx.ifc hC (t := 37) te_44_24 (by decide) (fun q => ?_) (fun q => absurd (show ¬ (1 : Int) = 0 by decide) q)
          refine Tx.aload_n hC te_44_37 rfl ?_
          refine Tx.iload_n hC te_44_38 rfl ?_
          refine Tx.iload_n hC te_44_39 rfl ?_
          refine Tx.iload_n hC te_44_40 rfl ?_
          refine Tx.iload hC te_44_41 rfl ?_
          refine Tx.iload hC te_44_43 rfl ?_
          refine Tx.virtI hC te_44_45 mt_46 (args := [.inr 0, .inl p0, .inl p1, .inl p2, .inl p3, .inl p4]) (rest := []) (c' := 1) (s' := 6) rfl rfl rfl rfl rfl rfl rfl rfl rfl rfl ?_
          refine f_46x hI (by omega) (fun z => ⟨srcX.ok (by assumption), srcX.ok (by assumption)⟩) (fun z => absurd z (by omega)) (fun z => absurd z (by omega)) (fun r9h r9 m10 r9e r9C r9m r9i => ?_) (fun r9h => HE1 (by exact ⟨⟨by omega, by omega⟩, by assumption, by assumption⟩) r9h)
          have hF11n : Frm pCl mem m10 := by rw [r9m]; exact fun A i q => by rw [upm_ne (by unfold pCl at q; omega), putM_ne (by unfold pCl at q; omega)]
          unfold InI at r9i
          exact Tx.ireturn hC te_44_48 rfl (fun hr => show K r9 m10 from H (by exact ⟨⟨by omega, by omega⟩, by assumption, by assumption⟩) r9h _ _ r9e r9C r9m)
        · skip
          refine Tx.ifc hC (t := 37) te_44_24 (by decide) (fun q => absurd q (show ¬ (¬ (0 : Int) = 0) by decide)) (fun q => ?_)
          exact Tx.thr hC te_44_27 rfl rfl rfl rfl rfl (show E 0 mem from HE0 (by intro w; first | (have := w.1; omega) | exact absurd w (by assumption) | exact absurd w.1 (by assumption) | exact absurd w.2 (by assumption) | exact absurd w.2.1 (by assumption) | exact absurd w.2.2 (by assumption)))
      · skip
        refine Tx.ifc hC (t := 27) te_44_14 (by decide) (fun q => ?_) (fun q => absurd (show (0 : Int) = 0 by decide) q)
        exact Tx.thr hC te_44_27 rfl rfl rfl rfl rfl (show E 0 mem from HE0 (by intro w; first | (have := w.1; omega) | exact absurd w (by assumption) | exact absurd w.1 (by assumption) | exact absurd w.2 (by assumption) | exact absurd w.2.1 (by assumption) | exact absurd w.2.2 (by assumption)))
theorem f_49x {S : Nat × (Nat → Int32)} {n : Nat} {mem : MM} {K : Int → MM → Prop} {E : Nat → MM → Prop} (hI : ClS mem) {p0 p1 : Int} (H : rowX p0 p1 → mem 1 0 < 8 → ∀ r m', r = mem 1 0 → ClS m' → m' = upm (putM mem (mem 1 0).toNat 4 p0 p1 0 0) 0 11 1 → K r m') (HE0 : ¬ (rowX p0 p1) → E 0 mem) (HE1 : rowX p0 p1 → ¬ mem 1 0 < 8 → E 1 mem) : CQI (Ex S (n + 3)) 49 [.inr 0, .inl p0, .inl p1] mem K E := by
  refine CY.of (k := 0) mt_49 rfl rfl (fun hv => ?_)
  have hC := Ex.mono S (n + 2)
  have ii_p0 : InI p0 := hv (.inl p0) (by simp)
  unfold InI at ii_p0
  have ii_p1 : InI p1 := hv (.inl p1) (by simp)
  unfold InI at ii_p1
  clear hv
  have h8 := hI.1.b.1
  show Tx (Ex S (n + 2)) S M_49 (kI K E) 0 0 0 [some (.inr 0), some (.inl p0), some (.inl p1)] [] mem
  refine Tx.iload_n hC te_49_0 rfl ?_
  refine Tx.iload_n hC te_49_1 rfl ?_
  refine Tx.statI hC te_49_2 (by decide) mt_50 (args := [.inl p0, .inl p1]) (rest := []) (c' := 0) (s' := 0) rfl rfl rfl rfl rfl rfl rfl ?_
  refine f_50x (fun r1s r1i => ?_) (fun r1s r1i => ?_)
  · skip
    refine Tx.ifc hC (t := 18) te_49_5 (by decide) (fun q => ?_) (fun q => absurd (show ¬ (1 : Int) = 0 by decide) q)
    refine Tx.aload_n hC te_49_18 rfl ?_
    refine Tx.iconst hC te_49_19 rfl ?_
    refine Tx.iload_n hC te_49_20 rfl ?_
    refine Tx.iload_n hC te_49_21 rfl ?_
    refine Tx.iconst hC te_49_22 rfl ?_
    refine Tx.iconst hC te_49_23 rfl ?_
    refine Tx.virtI hC te_49_24 mt_46 (args := [.inr 0, .inl 4, .inl p0, .inl p1, .inl 0, .inl 0]) (rest := []) (c' := 1) (s' := 6) rfl rfl rfl rfl rfl rfl rfl rfl rfl rfl ?_
    refine f_46x hI (by omega) (fun z => absurd z (by omega)) (fun z => rowX.w (by assumption)) (fun z => absurd z (by omega)) (fun r4h r4 m5 r4e r4C r4m r4i => ?_) (fun r4h => HE1 (by assumption) r4h)
    have hF6n : Frm pCl mem m5 := by rw [r4m]; exact fun A i q => by rw [upm_ne (by unfold pCl at q; omega), putM_ne (by unfold pCl at q; omega)]
    unfold InI at r4i
    exact Tx.ireturn hC te_49_27 rfl (fun hr => show K r4 m5 from H (by assumption) r4h _ _ r4e r4C r4m)
  · skip
    refine Tx.ifc hC (t := 18) te_49_5 (by decide) (fun q => absurd q (show ¬ (¬ (0 : Int) = 0) by decide)) (fun q => ?_)
    exact Tx.thr hC te_49_8 rfl rfl rfl rfl rfl (show E 0 mem from HE0 (by intro w; first | (have := w.1; omega) | exact absurd w (by assumption) | exact absurd w.1 (by assumption) | exact absurd w.2 (by assumption) | exact absurd w.2.1 (by assumption) | exact absurd w.2.2 (by assumption)))
theorem f_52x {S : Nat × (Nat → Int32)} {n : Nat} {mem : MM} {K : Int → MM → Prop} {E : Nat → MM → Prop} (hI : ClS mem) {p0 p1 p2 p3 : Int} (H : srcX p0 p1 ∧ rowX p2 p3 → mem 1 0 < 8 → ∀ r m', r = mem 1 0 → ClS m' → m' = upm (putM mem (mem 1 0).toNat 5 p0 p1 p2 p3) 0 11 1 → K r m') (HE0 : ¬ (srcX p0 p1 ∧ rowX p2 p3) → E 0 mem) (HE1 : srcX p0 p1 ∧ rowX p2 p3 → ¬ mem 1 0 < 8 → E 1 mem) : CQI (Ex S (n + 3)) 52 [.inr 0, .inl p0, .inl p1, .inl p2, .inl p3] mem K E := by
  refine CY.of (k := 0) mt_52 rfl rfl (fun hv => ?_)
  have hC := Ex.mono S (n + 2)
  have ii_p0 : InI p0 := hv (.inl p0) (by simp)
  unfold InI at ii_p0
  have ii_p1 : InI p1 := hv (.inl p1) (by simp)
  unfold InI at ii_p1
  have ii_p2 : InI p2 := hv (.inl p2) (by simp)
  unfold InI at ii_p2
  have ii_p3 : InI p3 := hv (.inl p3) (by simp)
  unfold InI at ii_p3
  clear hv
  have h8 := hI.1.b.1
  show Tx (Ex S (n + 2)) S M_52 (kI K E) 0 0 0 [some (.inr 0), some (.inl p0), some (.inl p1), some (.inl p2), some (.inl p3)] [] mem
  refine Tx.iload_n hC te_52_0 rfl ?_
  refine Tx.iload_n hC te_52_1 rfl ?_
  refine Tx.statI hC te_52_2 (by decide) mt_45 (args := [.inl p0, .inl p1]) (rest := []) (c' := 0) (s' := 0) rfl rfl rfl rfl rfl rfl rfl ?_
  refine f_45x (fun r1s r1i => ?_) (fun r1s r1i => ?_)
  · skip
    refine Tx.ifc hC (t := 17) te_52_5 (by decide) (fun q => absurd q (show ¬ ((1 : Int) = 0) by decide)) (fun q => ?_)
    refine Tx.iload_n hC te_52_8 rfl ?_
    refine Tx.iload hC te_52_9 rfl ?_
    refine Tx.statI hC te_52_11 (by decide) mt_50 (args := [.inl p2, .inl p3]) (rest := []) (c' := 0) (s' := 0) rfl rfl rfl rfl rfl rfl rfl ?_
    refine f_50x (fun r4s r4i => ?_) (fun r4s r4i => ?_)
    · skip
      refine Tx.ifc hC (t := 27) te_52_14 (by decide) (fun q => ?_) (fun q => absurd (show ¬ (1 : Int) = 0 by decide) q)
      refine Tx.aload_n hC te_52_27 rfl ?_
      refine Tx.iconst hC te_52_28 rfl ?_
      refine Tx.iload_n hC te_52_29 rfl ?_
      refine Tx.iload_n hC te_52_30 rfl ?_
      refine Tx.iload_n hC te_52_31 rfl ?_
      refine Tx.iload hC te_52_32 rfl ?_
      refine Tx.virtI hC te_52_34 mt_46 (args := [.inr 0, .inl 5, .inl p0, .inl p1, .inl p2, .inl p3]) (rest := []) (c' := 1) (s' := 6) rfl rfl rfl rfl rfl rfl rfl rfl rfl rfl ?_
      refine f_46x hI (by omega) (fun z => absurd z (by omega)) (fun z => absurd z (by omega)) (fun z => ⟨srcX.ok (by assumption), rowX.w (by assumption)⟩) (fun r7h r7 m8 r7e r7C r7m r7i => ?_) (fun r7h => HE1 (by exact ⟨by assumption, by assumption⟩) r7h)
      have hF9n : Frm pCl mem m8 := by rw [r7m]; exact fun A i q => by rw [upm_ne (by unfold pCl at q; omega), putM_ne (by unfold pCl at q; omega)]
      unfold InI at r7i
      exact Tx.ireturn hC te_52_37 rfl (fun hr => show K r7 m8 from H (by exact ⟨by assumption, by assumption⟩) r7h _ _ r7e r7C r7m)
    · skip
      refine Tx.ifc hC (t := 27) te_52_14 (by decide) (fun q => absurd q (show ¬ (¬ (0 : Int) = 0) by decide)) (fun q => ?_)
      exact Tx.thr hC te_52_17 rfl rfl rfl rfl rfl (show E 0 mem from HE0 (by intro w; first | (have := w.1; omega) | exact absurd w (by assumption) | exact absurd w.1 (by assumption) | exact absurd w.2 (by assumption) | exact absurd w.2.1 (by assumption) | exact absurd w.2.2 (by assumption)))
  · skip
    refine Tx.ifc hC (t := 17) te_52_5 (by decide) (fun q => ?_) (fun q => absurd (show (0 : Int) = 0 by decide) q)
    exact Tx.thr hC te_52_17 rfl rfl rfl rfl rfl (show E 0 mem from HE0 (by intro w; first | (have := w.1; omega) | exact absurd w (by assumption) | exact absurd w.1 (by assumption) | exact absurd w.2 (by assumption) | exact absurd w.2.1 (by assumption) | exact absurd w.2.2 (by assumption)))
/-! laid by wip/hand/tg.py: the seven that change the ops, exactly, second part -/
theorem f_57n {S : Nat × (Nat → Int32)} {n : Nat} {mem : MM} {K : MM → Prop} {E : Nat → MM → Prop} {o : Int} (H : 0 ≤ o ∧ o < mem 1 0 → K mem) (HE : ¬ (0 ≤ o ∧ o < mem 1 0) → E 2 mem) : CQV (Ex S (n + 1)) 57 [.inr 0, .inl o] mem K E := by
  refine CY.of (k := 0) mt_57 rfl rfl (fun hv => ?_)
  have hC := Ex.mono S n
  have ii_o : InI o := hv (.inl o) (by simp)
  unfold InI at ii_o
  clear hv
  show Tx (Ex S n) S M_57 (kV K E) 0 0 0 [some (.inr 0), some (.inl o)] [] mem
  refine Tx.iload_n hC te_57_0 rfl ?_
  refine Tx.ifc hC (t := 15) te_57_1 (by decide) (fun q1 => ?_) (fun q1 => ?_)
  · replace q1 : (o : Int) < 0 := q1
    exact Tx.thr hC te_57_15 rfl rfl rfl rfl rfl (show E 2 mem from HE (by omega))
  · replace q1 : ¬ ((o : Int) < 0) := q1
    refine Tx.iload_n hC te_57_4 rfl ?_
    refine Tx.aload_n hC te_57_5 rfl ?_
    refine Tx.getR hC te_57_6 rfl rfl rfl ?_
    refine Tx.getI hC te_57_9 rfl rfl rfl (fun v2 v2e v2i => ?_)
    unfold InI at v2i
    refine Tx.icmp hC (t := 26) te_57_12 (by decide) (fun q3 => ?_) (fun q3 => ?_)
    · replace q3 : (o : Int) < v2 := q3
      exact Tx.vret hC te_57_26 rfl (show K mem from H (by omega))
    · replace q3 : ¬ ((o : Int) < v2) := q3
      exact Tx.thr hC te_57_15 rfl rfl rfl rfl rfl (show E 2 mem from HE (by omega))
theorem f_63n {S : Nat × (Nat → Int32)} {n : Nat} {mem : MM} {K : MM → Prop} {E : Nat → MM → Prop} {o : Int} (H : 0 ≤ o ∧ o < 3 → K mem) (HE : ¬ (0 ≤ o ∧ o < 3) → E 2 mem) : CQV (Ex S (n + 1)) 63 [.inr 0, .inl o] mem K E := by
  refine CY.of (k := 0) mt_63 rfl rfl (fun hv => ?_)
  have hC := Ex.mono S n
  have ii_o : InI o := hv (.inl o) (by simp)
  unfold InI at ii_o
  clear hv
  show Tx (Ex S n) S M_63 (kV K E) 0 0 0 [some (.inr 0), some (.inl o)] [] mem
  refine Tx.iload_n hC te_63_0 rfl ?_
  refine Tx.ifc hC (t := 9) te_63_1 (by decide) (fun q1 => ?_) (fun q1 => ?_)
  · replace q1 : (o : Int) < 0 := q1
    exact Tx.thr hC te_63_9 rfl rfl rfl rfl rfl (show E 2 mem from HE (by omega))
  · replace q1 : ¬ ((o : Int) < 0) := q1
    refine Tx.iload_n hC te_63_4 rfl ?_
    refine Tx.iconst hC te_63_5 rfl ?_
    refine Tx.icmp hC (t := 20) te_63_6 (by decide) (fun q2 => ?_) (fun q2 => ?_)
    · replace q2 : (o : Int) < 3 := q2
      exact Tx.vret hC te_63_20 rfl (show K mem from H (by omega))
    · replace q2 : ¬ ((o : Int) < 3) := q2
      exact Tx.thr hC te_63_9 rfl rfl rfl rfl rfl (show E 2 mem from HE (by omega))
theorem f_54x {S : Nat × (Nat → Int32)} {n : Nat} {mem : MM} {K : Int → MM → Prop} {E : Nat → MM → Prop} (hI : ClS mem) (H : 0 < mem 1 0 → ∀ r m', r = mem 1 0 - 1 → ClS m' → m' = upm (upm mem 1 0 (mem 1 0 - 1)) 0 11 1 → K r m') (HE1 : ¬ 0 < mem 1 0 → E 1 mem) : CQI (Ex S (n + 2)) 54 [.inr 0] mem K E := by
  refine CY.of (k := 0) mt_54 rfl rfl (fun hv => ?_)
  have hC := Ex.mono S (n + 1)
  clear hv
  have h8 := hI.1.b.1
  show Tx (Ex S (n + 1)) S M_54 (kI K E) 0 0 0 [some (.inr 0)] [] mem
  refine Tx.aload_n hC te_54_0 rfl ?_
  refine Tx.getR hC te_54_1 rfl rfl rfl ?_
  refine Tx.getI hC te_54_4 rfl rfl rfl (fun v1 v1e v1i => ?_)
  unfold InI at v1i
  first | rw [upm_ne (by omega), upm_eq] at v1e | skip
  refine Tx.ifc hC (t := 20) te_54_7 (by decide) (fun q3 => ?_) (fun q3 => ?_)
  · replace q3 : ¬ (v1 : Int) = 0 := q3
    refine Tx.aload_n hC te_54_20 rfl ?_
    refine Tx.getR hC te_54_21 rfl rfl rfl ?_
    refine Tx.dup hC te_54_24 ?_
    refine Tx.getI hC te_54_25 rfl rfl rfl (fun v4 v4e v4i => ?_)
    unfold InI at v4i
    first | rw [upm_ne (by omega), upm_eq] at v4e | skip
    refine Tx.iconst hC te_54_28 rfl ?_
    refine Tx.isubW hC te_54_29 (fun z6 z6i z6e => ?_)
    unfold InI at z6i z6e
    first | replace z6e := z6e (by omega) | clear z6e
    refine Tx.putI hC te_54_30 rfl rfl rfl rfl ?_
    have ez : z6 = mem 1 0 - 1 := by omega
    rw [ez]
    have hb8 : BodyOK (upm mem 1 0 (mem 1 0 - 1)) := BodyOK.sz hI.1.b (by omega)
    have hf9 : Frm pBd mem (upm mem 1 0 (mem 1 0 - 1)) := Frm.up Frm.rf (by unfold pBd; omega)
    refine Tx.aload_n hC te_54_33 rfl ?_
    refine Tx.iconst hC te_54_34 rfl ?_
    refine Tx.putB hC te_54_35 rfl rfl rfl rfl (by omega) ?_
    have hb11 : BodyOK (upm (upm mem 1 0 (mem 1 0 - 1)) 0 11 1) := BodyOK.up hb8 (by omega)
    have hf12 : Frm pBd mem (upm (upm mem 1 0 (mem 1 0 - 1)) 0 11 1) := Frm.up hf9 (by unfold pBd; omega)
    have hC_13 : ClS (upm (upm mem 1 0 (mem 1 0 - 1)) 0 11 1) := ClS.bd hI hf12 hb11 upm_eq
    refine Tx.aload_n hC te_54_38 rfl ?_
    refine Tx.getR hC te_54_39 rfl rfl rfl ?_
    refine Tx.getI hC te_54_42 rfl rfl rfl (fun v14 v14e v14i => ?_)
    unfold InI at v14i
    first | rw [upm_ne (by omega), upm_eq] at v14e | skip
    exact Tx.ireturn hC te_54_45 rfl (fun hr => show K v14 (upm (upm mem 1 0 (mem 1 0 - 1)) 0 11 1) from H (by omega) _ _ (by omega) hC_13 rfl)
  · replace q3 : ¬ (¬ (v1 : Int) = 0) := q3
    exact Tx.thr hC te_54_10 rfl rfl rfl rfl rfl (show E 1 mem from HE1 (by omega))
theorem f_56x {S : Nat × (Nat → Int32)} {n : Nat} {mem : MM} {K : Int → MM → Prop} {E : Nat → MM → Prop} (hI : ClS mem) {p0 p1 : Int} (H : 0 ≤ p0 ∧ p0 < mem 1 0 → -9999 ≤ p1 ∧ p1 ≤ 9999 → ∀ r m', r = mem 4 p0.toNat → ClS m' → m' = upm mem 4 p0.toNat p1 → K r m') (HE2 : ¬ (0 ≤ p0 ∧ p0 < mem 1 0) → E 2 mem) (HE0 : 0 ≤ p0 ∧ p0 < mem 1 0 → ¬ (-9999 ≤ p1 ∧ p1 ≤ 9999) → E 0 mem) : CQI (Ex S (n + 2)) 56 [.inr 0, .inl p0, .inl p1] mem K E := by
  refine CY.of (k := 1) mt_56 rfl rfl (fun hv => ?_)
  have hC := Ex.mono S (n + 1)
  have ii_p0 : InI p0 := hv (.inl p0) (by simp)
  unfold InI at ii_p0
  have ii_p1 : InI p1 := hv (.inl p1) (by simp)
  unfold InI at ii_p1
  clear hv
  have h8 := hI.1.b.1
  show Tx (Ex S (n + 1)) S M_56 (kI K E) 0 0 0 [some (.inr 0), some (.inl p0), some (.inl p1), none] [] mem
  refine Tx.aload_n hC te_56_0 rfl ?_
  refine Tx.iload_n hC te_56_1 rfl ?_
  refine Tx.virtV hC te_56_2 mt_57 (args := [.inr 0, .inl p0]) (rest := []) (c' := 1) (s' := 6) rfl rfl rfl rfl rfl rfl rfl rfl rfl rfl ?_
  refine f_57n (fun r1a => ?_) (fun r1n => HE2 r1n)
  refine Tx.iload_n hC te_56_5 rfl ?_
  refine Tx.sipush hC te_56_6 rfl rfl ?_
  refine Tx.icmp hC (t := 19) te_56_9 (by decide) (fun q4 => ?_) (fun q4 => ?_)
  · replace q4 : (p1 : Int) < (-9999) := q4
    exact Tx.thr hC te_56_19 rfl rfl rfl rfl rfl (show E 0 mem from HE0 (by omega) (by omega))
  · replace q4 : ¬ ((p1 : Int) < (-9999)) := q4
    refine Tx.iload_n hC te_56_12 rfl ?_
    refine Tx.sipush hC te_56_13 rfl rfl ?_
    refine Tx.icmp hC (t := 29) te_56_16 (by decide) (fun q5 => ?_) (fun q5 => ?_)
    · replace q5 : (p1 : Int) ≤ 9999 := q5
      refine Tx.aload_n hC te_56_29 rfl ?_
      refine Tx.getR hC te_56_30 rfl rfl rfl ?_
      refine Tx.getR hC te_56_33 rfl rfl rfl ?_
      refine Tx.iload_n hC te_56_36 rfl ?_
      refine Tx.iald hC te_56_37 rfl (by omega) (fun v6 v6e v6i => ?_)
      unfold InI at v6i
      refine Tx.istore_n hC te_56_38 rfl ?_
      refine Tx.aload_n hC te_56_39 rfl ?_
      refine Tx.getR hC te_56_40 rfl rfl rfl ?_
      refine Tx.getR hC te_56_43 rfl rfl rfl ?_
      refine Tx.iload_n hC te_56_46 rfl ?_
      refine Tx.iload_n hC te_56_47 rfl ?_
      refine Tx.iast hC te_56_48 rfl (by omega) ?_
      have hC_10 : ClS (upm mem 4 (Int.toNat p0) p1) := ClS.fi hI (up1F (by unfold p4f; omega))
      refine Tx.iload_n hC te_56_49 rfl ?_
      exact Tx.ireturn hC te_56_50 rfl (fun hr => show K v6 (upm mem 4 (Int.toNat p0) p1) from H (by omega) (by omega) _ _ (by assumption) hC_10 rfl)
    · replace q5 : ¬ ((p1 : Int) ≤ 9999) := q5
      exact Tx.thr hC te_56_19 rfl rfl rfl rfl rfl (show E 0 mem from HE0 (by omega) (by omega))
theorem f_62x {S : Nat × (Nat → Int32)} {n : Nat} {mem : MM} {K : Int → MM → Prop} {E : Nat → MM → Prop} (hI : ClS mem) {p0 p1 : Int} (H : 0 ≤ p0 ∧ p0 < 3 → 1 ≤ p1 ∧ p1 ≤ 3 → ∀ r m', r = mem 8 p0.toNat → ClS m' → m' = upm (upm mem 8 p0.toNat p1) 0 11 1 → K r m') (HE2 : ¬ (0 ≤ p0 ∧ p0 < 3) → E 2 mem) (HE0 : 0 ≤ p0 ∧ p0 < 3 → ¬ (1 ≤ p1 ∧ p1 ≤ 3) → E 0 mem) : CQI (Ex S (n + 2)) 62 [.inr 0, .inl p0, .inl p1] mem K E := by
  refine CY.of (k := 1) mt_62 rfl rfl (fun hv => ?_)
  have hC := Ex.mono S (n + 1)
  have ii_p0 : InI p0 := hv (.inl p0) (by simp)
  unfold InI at ii_p0
  have ii_p1 : InI p1 := hv (.inl p1) (by simp)
  unfold InI at ii_p1
  clear hv
  have h8 := hI.1.b.1
  show Tx (Ex S (n + 1)) S M_62 (kI K E) 0 0 0 [some (.inr 0), some (.inl p0), some (.inl p1), none] [] mem
  refine Tx.aload_n hC te_62_0 rfl ?_
  refine Tx.iload_n hC te_62_1 rfl ?_
  refine Tx.virtV hC te_62_2 mt_63 (args := [.inr 0, .inl p0]) (rest := []) (c' := 1) (s' := 6) rfl rfl rfl rfl rfl rfl rfl rfl rfl rfl ?_
  refine f_63n (fun r1a => ?_) (fun r1n => HE2 r1n)
  refine Tx.iload_n hC te_62_5 rfl ?_
  refine Tx.iconst hC te_62_6 rfl ?_
  refine Tx.icmp hC (t := 15) te_62_7 (by decide) (fun q4 => ?_) (fun q4 => ?_)
  · replace q4 : (p1 : Int) < 1 := q4
    exact Tx.thr hC te_62_15 rfl rfl rfl rfl rfl (show E 0 mem from HE0 (by omega) (by omega))
  · replace q4 : ¬ ((p1 : Int) < 1) := q4
    refine Tx.iload_n hC te_62_10 rfl ?_
    refine Tx.iconst hC te_62_11 rfl ?_
    refine Tx.icmp hC (t := 25) te_62_12 (by decide) (fun q5 => ?_) (fun q5 => ?_)
    · replace q5 : (p1 : Int) ≤ 3 := q5
      refine Tx.aload_n hC te_62_25 rfl ?_
      refine Tx.getR hC te_62_26 rfl rfl rfl ?_
      refine Tx.getR hC te_62_29 rfl rfl rfl ?_
      refine Tx.iload_n hC te_62_32 rfl ?_
      refine Tx.iald hC te_62_33 rfl (by omega) (fun v6 v6e v6i => ?_)
      unfold InI at v6i
      refine Tx.istore_n hC te_62_34 rfl ?_
      refine Tx.aload_n hC te_62_35 rfl ?_
      refine Tx.getR hC te_62_36 rfl rfl rfl ?_
      refine Tx.getR hC te_62_39 rfl rfl rfl ?_
      refine Tx.iload_n hC te_62_42 rfl ?_
      refine Tx.iload_n hC te_62_43 rfl ?_
      refine Tx.iast hC te_62_44 rfl (by omega) ?_
      have hb8 : BodyOK (upm mem 8 (Int.toNat p0) p1) := BodyOK.up hI.1.b (by omega)
      have hf9 : Frm pBd mem (upm mem 8 (Int.toNat p0) p1) := Frm.up Frm.rf (by unfold pBd; omega)
      refine Tx.aload_n hC te_62_45 rfl ?_
      refine Tx.iconst hC te_62_46 rfl ?_
      refine Tx.putB hC te_62_47 rfl rfl rfl rfl (by omega) ?_
      have hb11 : BodyOK (upm (upm mem 8 (Int.toNat p0) p1) 0 11 1) := BodyOK.up hb8 (by omega)
      have hf12 : Frm pBd mem (upm (upm mem 8 (Int.toNat p0) p1) 0 11 1) := Frm.up hf9 (by unfold pBd; omega)
      have hC_13 : ClS (upm (upm mem 8 (Int.toNat p0) p1) 0 11 1) := ClS.bd hI hf12 hb11 upm_eq
      refine Tx.iload_n hC te_62_50 rfl ?_
      exact Tx.ireturn hC te_62_51 rfl (fun hr => show K v6 (upm (upm mem 8 (Int.toNat p0) p1) 0 11 1) from H (by omega) (by omega) _ _ (by assumption) hC_13 rfl)
    · replace q5 : ¬ ((p1 : Int) ≤ 3) := q5
      exact Tx.thr hC te_62_15 rfl rfl rfl rfl rfl (show E 0 mem from HE0 (by omega) (by omega))
theorem f_59x {S : Nat × (Nat → Int32)} {n : Nat} {mem : MM} {K : MM → Prop} {E : Nat → MM → Prop} (hI : ClS mem) {p0 p1 p2 p3 : Int} (H : 0 ≤ p0 ∧ p0 < 6 → (0 ≤ p1 ∧ p1 < 3) ∧ (1 ≤ p2 ∧ p2 ≤ 6) ∧ 1 ≤ p3 ∧ p3 ≤ 15 → ∀ m', ClS m' → m' = upm (upm (upm (upm mem 5 p0.toNat p1) 6 p0.toNat p2) 7 p0.toNat p3) 0 11 1 → K m') (HE2 : ¬ (0 ≤ p0 ∧ p0 < 6) → E 2 mem) (HE0 : 0 ≤ p0 ∧ p0 < 6 → ¬ ((0 ≤ p1 ∧ p1 < 3) ∧ (1 ≤ p2 ∧ p2 ≤ 6) ∧ 1 ≤ p3 ∧ p3 ≤ 15) → E 0 mem) : CQV (Ex S (n + 2)) 59 [.inr 0, .inl p0, .inl p1, .inl p2, .inl p3] mem K E := by
  refine CY.of (k := 1) mt_59 rfl rfl (fun hv => ?_)
  have hC := Ex.mono S (n + 1)
  have ii_p0 : InI p0 := hv (.inl p0) (by simp)
  unfold InI at ii_p0
  have ii_p1 : InI p1 := hv (.inl p1) (by simp)
  unfold InI at ii_p1
  have ii_p2 : InI p2 := hv (.inl p2) (by simp)
  unfold InI at ii_p2
  have ii_p3 : InI p3 := hv (.inl p3) (by simp)
  unfold InI at ii_p3
  clear hv
  have h8 := hI.1.b.1
  show Tx (Ex S (n + 1)) S M_59 (kV K E) 0 0 0 [some (.inr 0), some (.inl p0), some (.inl p1), some (.inl p2), some (.inl p3), none] [] mem
  refine Tx.aload_n hC te_59_0 rfl ?_
  refine Tx.iload_n hC te_59_1 rfl ?_
  refine Tx.virtV hC te_59_2 mt_60 (args := [.inr 0, .inl p0]) (rest := []) (c' := 1) (s' := 6) rfl rfl rfl rfl rfl rfl rfl rfl rfl rfl ?_
  refine f_60n (fun r1a r1b => ?_) (fun r1n => HE2 r1n)
  refine Tx.iload_n hC te_59_5 rfl ?_
  refine Tx.ifc hC (t := 29) te_59_6 (by decide) (fun q4 => ?_) (fun q4 => ?_)
  · replace q4 : (p1 : Int) < 0 := q4
    refine Tx.iconst hC te_59_29 rfl ?_
    refine Tx.istore hC te_59_30 rfl ?_
    refine Tx.iload hC te_59_32 rfl ?_
    refine Tx.ifc hC (t := 50) te_59_34 (by decide) (fun q => ?_) (fun q => absurd (show (0 : Int) = 0 by decide) q)
    exact Tx.thr hC te_59_50 rfl rfl rfl rfl rfl (show E 0 mem from HE0 (by omega) (by omega))
  · replace q4 : ¬ ((p1 : Int) < 0) := q4
    refine Tx.iload_n hC te_59_9 rfl ?_
    refine Tx.iconst hC te_59_10 rfl ?_
    refine Tx.icmp hC (t := 29) te_59_11 (by decide) (fun q5 => ?_) (fun q5 => ?_)
    · replace q5 : 3 ≤ (p1 : Int) := q5
      refine Tx.iconst hC te_59_29 rfl ?_
      refine Tx.istore hC te_59_30 rfl ?_
      refine Tx.iload hC te_59_32 rfl ?_
      refine Tx.ifc hC (t := 50) te_59_34 (by decide) (fun q => ?_) (fun q => absurd (show (0 : Int) = 0 by decide) q)
      exact Tx.thr hC te_59_50 rfl rfl rfl rfl rfl (show E 0 mem from HE0 (by omega) (by omega))
    · replace q5 : ¬ (3 ≤ (p1 : Int)) := q5
      refine Tx.iload_n hC te_59_14 rfl ?_
      refine Tx.iconst hC te_59_15 rfl ?_
      refine Tx.icmp hC (t := 29) te_59_16 (by decide) (fun q6 => ?_) (fun q6 => ?_)
      · replace q6 : (p2 : Int) < 1 := q6
        refine Tx.iconst hC te_59_29 rfl ?_
        refine Tx.istore hC te_59_30 rfl ?_
        refine Tx.iload hC te_59_32 rfl ?_
        refine Tx.ifc hC (t := 50) te_59_34 (by decide) (fun q => ?_) (fun q => absurd (show (0 : Int) = 0 by decide) q)
        exact Tx.thr hC te_59_50 rfl rfl rfl rfl rfl (show E 0 mem from HE0 (by omega) (by omega))
      · replace q6 : ¬ ((p2 : Int) < 1) := q6
        refine Tx.iload_n hC te_59_19 rfl ?_
        refine Tx.bipush hC te_59_20 rfl rfl ?_
        refine Tx.icmp hC (t := 29) te_59_22 (by decide) (fun q7 => ?_) (fun q7 => ?_)
        · replace q7 : 6 < (p2 : Int) := q7
          refine Tx.iconst hC te_59_29 rfl ?_
          refine Tx.istore hC te_59_30 rfl ?_
          refine Tx.iload hC te_59_32 rfl ?_
          refine Tx.ifc hC (t := 50) te_59_34 (by decide) (fun q => ?_) (fun q => absurd (show (0 : Int) = 0 by decide) q)
          exact Tx.thr hC te_59_50 rfl rfl rfl rfl rfl (show E 0 mem from HE0 (by omega) (by omega))
        · replace q7 : ¬ (6 < (p2 : Int)) := q7
          refine Tx.iconst hC te_59_25 rfl ?_
          refine Tx.goto hC (t := 30) te_59_26 (by decide) ?_
          refine Tx.istore hC te_59_30 rfl ?_
          refine Tx.iload hC te_59_32 rfl ?_
          refine Tx.ifc hC (t := 50) te_59_34 (by decide) (fun q => absurd q (show ¬ ((1 : Int) = 0) by decide)) (fun q => ?_)
          refine Tx.iload hC te_59_37 rfl ?_
          refine Tx.iconst hC te_59_39 rfl ?_
          refine Tx.icmp hC (t := 50) te_59_40 (by decide) (fun q8 => ?_) (fun q8 => ?_)
          · replace q8 : (p3 : Int) < 1 := q8
            exact Tx.thr hC te_59_50 rfl rfl rfl rfl rfl (show E 0 mem from HE0 (by omega) (by omega))
          · replace q8 : ¬ ((p3 : Int) < 1) := q8
            refine Tx.iload hC te_59_43 rfl ?_
            refine Tx.bipush hC te_59_45 rfl rfl ?_
            refine Tx.icmp hC (t := 60) te_59_47 (by decide) (fun q9 => ?_) (fun q9 => ?_)
            · replace q9 : (p3 : Int) ≤ 15 := q9
              refine Tx.aload_n hC te_59_60 rfl ?_
              refine Tx.getR hC te_59_61 rfl rfl rfl ?_
              refine Tx.getR hC te_59_64 rfl rfl rfl ?_
              refine Tx.iload_n hC te_59_67 rfl ?_
              refine Tx.iload_n hC te_59_68 rfl ?_
              refine Tx.iast hC te_59_69 rfl (by omega) ?_
              have hb11 : BodyOK (upm mem 5 (Int.toNat p0) p1) := BodyOK.up hI.1.b (by omega)
              have hf12 : Frm pBd mem (upm mem 5 (Int.toNat p0) p1) := Frm.up Frm.rf (by unfold pBd; omega)
              refine Tx.aload_n hC te_59_70 rfl ?_
              refine Tx.getR hC te_59_71 rfl rfl rfl ?_
              refine Tx.getR hC te_59_74 rfl rfl rfl ?_
              refine Tx.iload_n hC te_59_77 rfl ?_
              refine Tx.iload_n hC te_59_78 rfl ?_
              refine Tx.iast hC te_59_79 rfl (by omega) ?_
              have hb14 : BodyOK (upm (upm mem 5 (Int.toNat p0) p1) 6 (Int.toNat p0) p2) := BodyOK.up hb11 (by omega)
              have hf15 : Frm pBd mem (upm (upm mem 5 (Int.toNat p0) p1) 6 (Int.toNat p0) p2) := Frm.up hf12 (by unfold pBd; omega)
              refine Tx.aload_n hC te_59_80 rfl ?_
              refine Tx.getR hC te_59_81 rfl rfl rfl ?_
              refine Tx.getR hC te_59_84 rfl rfl rfl ?_
              refine Tx.iload_n hC te_59_87 rfl ?_
              refine Tx.iload hC te_59_88 rfl ?_
              refine Tx.iast hC te_59_90 rfl (by omega) ?_
              have hb17 : BodyOK (upm (upm (upm mem 5 (Int.toNat p0) p1) 6 (Int.toNat p0) p2) 7 (Int.toNat p0) p3) := BodyOK.up hb14 (by omega)
              have hf18 : Frm pBd mem (upm (upm (upm mem 5 (Int.toNat p0) p1) 6 (Int.toNat p0) p2) 7 (Int.toNat p0) p3) := Frm.up hf15 (by unfold pBd; omega)
              refine Tx.aload_n hC te_59_91 rfl ?_
              refine Tx.iconst hC te_59_92 rfl ?_
              refine Tx.putB hC te_59_93 rfl rfl rfl rfl (by omega) ?_
              have hb20 : BodyOK (upm (upm (upm (upm mem 5 (Int.toNat p0) p1) 6 (Int.toNat p0) p2) 7 (Int.toNat p0) p3) 0 11 1) := BodyOK.up hb17 (by omega)
              have hf21 : Frm pBd mem (upm (upm (upm (upm mem 5 (Int.toNat p0) p1) 6 (Int.toNat p0) p2) 7 (Int.toNat p0) p3) 0 11 1) := Frm.up hf18 (by unfold pBd; omega)
              have hC_22 : ClS (upm (upm (upm (upm mem 5 (Int.toNat p0) p1) 6 (Int.toNat p0) p2) 7 (Int.toNat p0) p3) 0 11 1) := ClS.bd hI hf21 hb20 upm_eq
              exact Tx.vret hC te_59_96 rfl (show K (upm (upm (upm (upm mem 5 (Int.toNat p0) p1) 6 (Int.toNat p0) p2) 7 (Int.toNat p0) p3) 0 11 1) from H (by omega) (by omega) _ hC_22 rfl)
            · replace q9 : ¬ ((p3 : Int) ≤ 15) := q9
              exact Tx.thr hC te_59_50 rfl rfl rfl rfl rfl (show E 0 mem from HE0 (by omega) (by omega))
theorem f_229x {S : Nat × (Nat → Int32)} {n : Nat} {mem : MM} {K : Int → MM → Prop} {E : Nat → MM → Prop} {k a b c e : Int} (hs : 0 ≤ mem 143 1 ∧ mem 143 1 < 8) (H : ∀ r m', r = mem 143 1 → m' = addM mem (mem 143 1).toNat k a b c e → K r m') : CQI (Ex S (n + 1)) 229 [.inr 143, .inl k, .inl a, .inl b, .inl c, .inl e] mem K E := by
  refine CY.of (k := 0) mt_229 rfl rfl (fun hv => ?_)
  have hC := Ex.mono S n
  have ii_k : InI k := hv (.inl k) (by simp)
  unfold InI at ii_k
  have ii_a : InI a := hv (.inl a) (by simp)
  unfold InI at ii_a
  have ii_b : InI b := hv (.inl b) (by simp)
  unfold InI at ii_b
  have ii_c : InI c := hv (.inl c) (by simp)
  unfold InI at ii_c
  have ii_e : InI e := hv (.inl e) (by simp)
  unfold InI at ii_e
  clear hv
  obtain ⟨nn, hn⟩ : ∃ nn : Nat, nn = (mem 143 1).toNat := ⟨_, rfl⟩
  rw [← hn] at H
  show Tx (Ex S n) S M_229 (kI K E) 0 0 0 [some (.inr 143), some (.inl k), some (.inl a), some (.inl b), some (.inl c), some (.inl e)] [] mem
  refine Tx.aload_n hC te_229_0 rfl ?_
  refine Tx.getR hC te_229_1 rfl rfl rfl ?_
  refine Tx.aload_n hC te_229_4 rfl ?_
  refine Tx.getI hC te_229_5 rfl rfl rfl (fun v1 v1e v1i => ?_)
  unfold InI at v1i
  refine Tx.iload_n hC te_229_8 rfl ?_
  refine Tx.iast hC te_229_9 rfl (by omega) ?_
  rw [show (Int.toNat v1) = nn by omega]
  have hF3 : Frm pAd mem (upm mem 144 nn k) := Frm.up Frm.rf (by unfold pAd; omega)
  refine Tx.aload_n hC te_229_10 rfl ?_
  refine Tx.getR hC te_229_11 rfl rfl rfl ?_
  refine Tx.aload_n hC te_229_14 rfl ?_
  refine Tx.getI hC te_229_15 rfl rfl rfl (fun v4 v4e v4i => ?_)
  unfold InI at v4i
  rw [hF3 143 _ (by unfold pAd; omega)] at v4e
  refine Tx.iload_n hC te_229_18 rfl ?_
  refine Tx.iast hC te_229_19 rfl (by omega) ?_
  rw [show (Int.toNat v4) = nn by omega]
  have hF6 : Frm pAd mem (upm (upm mem 144 nn k) 145 nn a) := Frm.up hF3 (by unfold pAd; omega)
  refine Tx.aload_n hC te_229_20 rfl ?_
  refine Tx.getR hC te_229_21 rfl rfl rfl ?_
  refine Tx.aload_n hC te_229_24 rfl ?_
  refine Tx.getI hC te_229_25 rfl rfl rfl (fun v7 v7e v7i => ?_)
  unfold InI at v7i
  rw [hF6 143 _ (by unfold pAd; omega)] at v7e
  refine Tx.iload_n hC te_229_28 rfl ?_
  refine Tx.iast hC te_229_29 rfl (by omega) ?_
  rw [show (Int.toNat v7) = nn by omega]
  have hF9 : Frm pAd mem (upm (upm (upm mem 144 nn k) 145 nn a) 146 nn b) := Frm.up hF6 (by unfold pAd; omega)
  refine Tx.aload_n hC te_229_30 rfl ?_
  refine Tx.getR hC te_229_31 rfl rfl rfl ?_
  refine Tx.aload_n hC te_229_34 rfl ?_
  refine Tx.getI hC te_229_35 rfl rfl rfl (fun v10 v10e v10i => ?_)
  unfold InI at v10i
  rw [hF9 143 _ (by unfold pAd; omega)] at v10e
  refine Tx.iload hC te_229_38 rfl ?_
  refine Tx.iast hC te_229_40 rfl (by omega) ?_
  rw [show (Int.toNat v10) = nn by omega]
  have hF12 : Frm pAd mem (upm (upm (upm (upm mem 144 nn k) 145 nn a) 146 nn b) 147 nn c) := Frm.up hF9 (by unfold pAd; omega)
  refine Tx.aload_n hC te_229_41 rfl ?_
  refine Tx.getR hC te_229_42 rfl rfl rfl ?_
  refine Tx.aload_n hC te_229_45 rfl ?_
  refine Tx.getI hC te_229_46 rfl rfl rfl (fun v13 v13e v13i => ?_)
  unfold InI at v13i
  rw [hF12 143 _ (by unfold pAd; omega)] at v13e
  refine Tx.iload hC te_229_49 rfl ?_
  refine Tx.iast hC te_229_51 rfl (by omega) ?_
  rw [show (Int.toNat v13) = nn by omega]
  have hF15 : Frm pAd mem (upm (upm (upm (upm (upm mem 144 nn k) 145 nn a) 146 nn b) 147 nn c) 148 nn e) := Frm.up hF12 (by unfold pAd; omega)
  refine Tx.aload_n hC te_229_52 rfl ?_
  refine Tx.getR hC te_229_53 rfl rfl rfl ?_
  refine Tx.aload_n hC te_229_56 rfl ?_
  refine Tx.getI hC te_229_57 rfl rfl rfl (fun v16 v16e v16i => ?_)
  unfold InI at v16i
  rw [hF15 143 _ (by unfold pAd; omega)] at v16e
  refine Tx.iconst hC te_229_60 rfl ?_
  refine Tx.iast hC te_229_61 rfl (by omega) ?_
  rw [show (Int.toNat v16) = nn by omega]
  have hF18 : Frm pAd mem (upm (upm (upm (upm (upm (upm mem 144 nn k) 145 nn a) 146 nn b) 147 nn c) 148 nn e) 149 nn 0) := Frm.up hF15 (by unfold pAd; omega)
  refine Tx.aload_n hC te_229_62 rfl ?_
  refine Tx.dup hC te_229_63 ?_
  refine Tx.getI hC te_229_64 rfl rfl rfl (fun v19 v19e v19i => ?_)
  unfold InI at v19i
  rw [hF18 143 _ (by unfold pAd; omega)] at v19e
  refine Tx.iconst hC te_229_67 rfl ?_
  refine Tx.iaddW hC te_229_68 (fun z20 z20i z20e => ?_)
  unfold InI at z20i z20e
  first | replace z20e := z20e (by omega) | clear z20e
  refine Tx.putI hC te_229_69 rfl rfl rfl rfl ?_
  have ez : z20 = mem 143 1 + 1 := by omega
  rw [ez]
  refine Tx.aload_n hC te_229_72 rfl ?_
  refine Tx.getI hC te_229_73 rfl rfl rfl (fun v22 v22e v22i => ?_)
  unfold InI at v22i
  rw [upm_eq] at v22e
  refine Tx.iconst hC te_229_76 rfl ?_
  refine Tx.isubW hC te_229_77 (fun z23 z23i z23e => ?_)
  unfold InI at z23i z23e
  first | replace z23e := z23e (by omega) | clear z23e
  exact Tx.ireturn hC te_229_78 rfl (fun hr => show K z23 (upm (upm (upm (upm (upm (upm (upm mem 144 nn k) 145 nn a) 146 nn b) 147 nn c) 148 nn e) 149 nn 0) 143 1 (mem 143 1 + 1)) from H _ _ (by omega) rfl)
theorem f_226x {S : Nat × (Nat → Int32)} {n : Nat} {mem : MM} {K : Int → MM → Prop} {E : Nat → MM → Prop} (h8 : 0 ≤ mem 143 1 ∧ mem 143 1 ≤ 8) {p0 p1 p2 p3 p4 : Int} (H0 : (0 ≤ p0 ∧ p0 < 4) ∧ srcX p1 p2 ∧ srcX p3 p4 → mem 143 1 < 8 → ∀ r m', r = mem 143 1 → m' = addM (upm mem 143 0 0) (mem 143 1).toNat p0 p1 p2 p3 p4 → K r m') (H1 : ¬ ((0 ≤ p0 ∧ p0 < 4) ∧ srcX p1 p2 ∧ srcX p3 p4) → K 0 (upm mem 143 0 1)) (H2 : (0 ≤ p0 ∧ p0 < 4) ∧ srcX p1 p2 ∧ srcX p3 p4 → ¬ mem 143 1 < 8 → K 0 (upm mem 143 0 2)) : CQI (Ex S (n + 3)) 226 [.inr 143, .inl p0, .inl p1, .inl p2, .inl p3, .inl p4] mem K E := by
  refine CY.of (k := 0) mt_226 rfl rfl (fun hv => ?_)
  have hC := Ex.mono S (n + 2)
  have ii_p0 : InI p0 := hv (.inl p0) (by simp)
  unfold InI at ii_p0
  have ii_p1 : InI p1 := hv (.inl p1) (by simp)
  unfold InI at ii_p1
  have ii_p2 : InI p2 := hv (.inl p2) (by simp)
  unfold InI at ii_p2
  have ii_p3 : InI p3 := hv (.inl p3) (by simp)
  unfold InI at ii_p3
  have ii_p4 : InI p4 := hv (.inl p4) (by simp)
  unfold InI at ii_p4
  clear hv
  show Tx (Ex S (n + 2)) S M_226 (kI K E) 0 0 0 [some (.inr 143), some (.inl p0), some (.inl p1), some (.inl p2), some (.inl p3), some (.inl p4)] [] mem
  refine Tx.aload_n hC te_226_0 rfl ?_
  refine Tx.iload_n hC te_226_1 rfl ?_
  refine Tx.iconst hC te_226_2 rfl ?_
  refine Tx.iconst hC te_226_3 rfl ?_
  refine Tx.statI hC te_226_4 (by decide) mt_227 (args := [.inl p0, .inl 0, .inl 3]) (rest := [.inr 143]) (c' := 0) (s' := 0) rfl rfl rfl rfl rfl rfl rfl ?_
  refine CWI.q hC (f_227 (fun r1a r1b r1i => ?_) (fun r1q r1i => ?_))
  · skip
    refine Tx.ifc hC (t := 28) te_226_7 (by decide) (fun q => absurd q (show ¬ ((1 : Int) = 0) by decide)) (fun q => ?_)
    refine Tx.iload_n hC te_226_10 rfl ?_
    refine Tx.iload_n hC te_226_11 rfl ?_
    refine Tx.statI hC te_226_12 (by decide) mt_228 (args := [.inl p1, .inl p2]) (rest := [.inr 143]) (c' := 0) (s' := 0) rfl rfl rfl rfl rfl rfl rfl ?_
    refine f_228x (fun r4s r4i => ?_) (fun r4s r4i => ?_)
    · skip
      refine Tx.ifc hC (t := 28) te_226_15 (by decide) (fun q => absurd q (show ¬ ((1 : Int) = 0) by decide)) (fun q => ?_)
      refine Tx.iload hC te_226_18 rfl ?_
      refine Tx.iload hC te_226_20 rfl ?_
      refine Tx.statI hC te_226_22 (by decide) mt_228 (args := [.inl p3, .inl p4]) (rest := [.inr 143]) (c' := 0) (s' := 0) rfl rfl rfl rfl rfl rfl rfl ?_
      refine f_228x (fun r7s r7i => ?_) (fun r7s r7i => ?_)
      · skip
        refine Tx.ifc hC (t := 32) te_226_25 (by decide) (fun q => ?_) (fun q => absurd (show ¬ (1 : Int) = 0 by decide) q)
        refine Tx.aload_n hC te_226_32 rfl ?_
        refine Tx.getI hC te_226_33 rfl rfl rfl (fun v10 v10e v10i => ?_)
        unfold InI at v10i
        refine Tx.bipush hC te_226_36 rfl rfl ?_
        refine Tx.icmp hC (t := 45) te_226_38 (by decide) (fun q11 => ?_) (fun q11 => ?_)
        · replace q11 : ¬ (v10 : Int) = 8 := q11
          refine Tx.iconst hC te_226_45 rfl ?_
          refine Tx.putI hC te_226_46 rfl rfl rfl rfl ?_
          refine Tx.aload_n hC te_226_49 rfl ?_
          refine Tx.getI hC te_226_50 rfl rfl rfl (fun v13 v13e v13i => ?_)
          rw [upm_eq] at v13e
          subst v13e
          clear v13i
          refine Tx.ifc hC (t := 60) te_226_53 (by decide) (fun q => ?_) (fun q => absurd (show (0 : Int) ≤ 0 by decide) q)
          refine Tx.aload_n hC te_226_60 rfl ?_
          refine Tx.iload_n hC te_226_61 rfl ?_
          refine Tx.iload_n hC te_226_62 rfl ?_
          refine Tx.iload_n hC te_226_63 rfl ?_
          refine Tx.iload hC te_226_64 rfl ?_
          refine Tx.iload hC te_226_66 rfl ?_
          refine Tx.virtI hC te_226_68 mt_229 (args := [.inr 143, .inl p0, .inl p1, .inl p2, .inl p3, .inl p4]) (rest := []) (c' := 0) (s' := 0) rfl rfl rfl rfl rfl rfl rfl rfl rfl rfl ?_
          refine f_229x (by rw [upm_ne (by omega)]; omega) (fun r14 m15 r14e r14m r14i => ?_)
          rw [upm_ne (by omega)] at r14e r14m
          unfold InI at r14i
          exact Tx.ireturn hC te_226_71 rfl (fun hr => show K r14 m15 from H0 ⟨⟨by omega, by omega⟩, by assumption, by assumption⟩ (by omega) _ _ r14e r14m)
        · replace q11 : ¬ (¬ (v10 : Int) = 8) := q11
          refine Tx.iconst hC te_226_41 rfl ?_
          refine Tx.goto hC (t := 46) te_226_42 (by decide) ?_
          refine Tx.putI hC te_226_46 rfl rfl rfl rfl ?_
          refine Tx.aload_n hC te_226_49 rfl ?_
          refine Tx.getI hC te_226_50 rfl rfl rfl (fun v18 v18e v18i => ?_)
          rw [upm_eq] at v18e
          subst v18e
          clear v18i
          refine Tx.ifc hC (t := 60) te_226_53 (by decide) (fun q => absurd q (show ¬ ((2 : Int) ≤ 0) by decide)) (fun q => ?_)
          refine Tx.iconst hC te_226_56 rfl ?_
          refine Tx.goto hC (t := 71) te_226_57 (by decide) ?_
          exact Tx.ireturn hC te_226_71 rfl (fun hr => show K 0 (upm mem 143 0 2) from H2 ⟨⟨by omega, by omega⟩, by assumption, by assumption⟩ (by omega))
      · skip
        refine Tx.ifc hC (t := 32) te_226_25 (by decide) (fun q => absurd q (show ¬ (¬ (0 : Int) = 0) by decide)) (fun q => ?_)
        refine Tx.iconst hC te_226_28 rfl ?_
        refine Tx.goto hC (t := 46) te_226_29 (by decide) ?_
        refine Tx.putI hC te_226_46 rfl rfl rfl rfl ?_
        refine Tx.aload_n hC te_226_49 rfl ?_
        refine Tx.getI hC te_226_50 rfl rfl rfl (fun v20 v20e v20i => ?_)
        rw [upm_eq] at v20e
        subst v20e
        clear v20i
        refine Tx.ifc hC (t := 60) te_226_53 (by decide) (fun q => absurd q (show ¬ ((1 : Int) ≤ 0) by decide)) (fun q => ?_)
        refine Tx.iconst hC te_226_56 rfl ?_
        refine Tx.goto hC (t := 71) te_226_57 (by decide) ?_
        exact Tx.ireturn hC te_226_71 rfl (fun hr => show K 0 (upm mem 143 0 1) from H1 (by intro w; first | (have := w.1; omega) | omega | exact absurd w (by assumption) | exact absurd w.1 (by assumption) | exact absurd w.2 (by assumption) | exact absurd w.2.1 (by assumption) | exact absurd w.2.2 (by assumption)))
    · skip
      refine Tx.ifc hC (t := 28) te_226_15 (by decide) (fun q => ?_) (fun q => absurd (show (0 : Int) = 0 by decide) q)
      refine Tx.iconst hC te_226_28 rfl ?_
      refine Tx.goto hC (t := 46) te_226_29 (by decide) ?_
      refine Tx.putI hC te_226_46 rfl rfl rfl rfl ?_
      refine Tx.aload_n hC te_226_49 rfl ?_
      refine Tx.getI hC te_226_50 rfl rfl rfl (fun v22 v22e v22i => ?_)
      rw [upm_eq] at v22e
      subst v22e
      clear v22i
      refine Tx.ifc hC (t := 60) te_226_53 (by decide) (fun q => absurd q (show ¬ ((1 : Int) ≤ 0) by decide)) (fun q => ?_)
      refine Tx.iconst hC te_226_56 rfl ?_
      refine Tx.goto hC (t := 71) te_226_57 (by decide) ?_
      exact Tx.ireturn hC te_226_71 rfl (fun hr => show K 0 (upm mem 143 0 1) from H1 (by intro w; first | (have := w.1; omega) | omega | exact absurd w (by assumption) | exact absurd w.1 (by assumption) | exact absurd w.2 (by assumption) | exact absurd w.2.1 (by assumption) | exact absurd w.2.2 (by assumption)))
  · skip
    refine Tx.ifc hC (t := 28) te_226_7 (by decide) (fun q => ?_) (fun q => absurd (show (0 : Int) = 0 by decide) q)
    refine Tx.iconst hC te_226_28 rfl ?_
    refine Tx.goto hC (t := 46) te_226_29 (by decide) ?_
    refine Tx.putI hC te_226_46 rfl rfl rfl rfl ?_
    refine Tx.aload_n hC te_226_49 rfl ?_
    refine Tx.getI hC te_226_50 rfl rfl rfl (fun v24 v24e v24i => ?_)
    rw [upm_eq] at v24e
    subst v24e
    clear v24i
    refine Tx.ifc hC (t := 60) te_226_53 (by decide) (fun q => absurd q (show ¬ ((1 : Int) ≤ 0) by decide)) (fun q => ?_)
    refine Tx.iconst hC te_226_56 rfl ?_
    refine Tx.goto hC (t := 71) te_226_57 (by decide) ?_
    exact Tx.ireturn hC te_226_71 rfl (fun hr => show K 0 (upm mem 143 0 1) from H1 (by intro w; first | (have := w.1; omega) | omega | exact absurd w (by assumption) | exact absurd w.1 (by assumption) | exact absurd w.2 (by assumption) | exact absurd w.2.1 (by assumption) | exact absurd w.2.2 (by assumption)))
theorem f_230x {S : Nat × (Nat → Int32)} {n : Nat} {mem : MM} {K : Int → MM → Prop} {E : Nat → MM → Prop} (h8 : 0 ≤ mem 143 1 ∧ mem 143 1 ≤ 8) {p0 p1 : Int} (H0 : rowX p0 p1 → mem 143 1 < 8 → ∀ r m', r = mem 143 1 → m' = addM (upm mem 143 0 0) (mem 143 1).toNat 4 p0 p1 0 0 → K r m') (H1 : ¬ (rowX p0 p1) → K 0 (upm mem 143 0 1)) (H2 : rowX p0 p1 → ¬ mem 143 1 < 8 → K 0 (upm mem 143 0 2)) : CQI (Ex S (n + 3)) 230 [.inr 143, .inl p0, .inl p1] mem K E := by
  refine CY.of (k := 0) mt_230 rfl rfl (fun hv => ?_)
  have hC := Ex.mono S (n + 2)
  have ii_p0 : InI p0 := hv (.inl p0) (by simp)
  unfold InI at ii_p0
  have ii_p1 : InI p1 := hv (.inl p1) (by simp)
  unfold InI at ii_p1
  clear hv
  show Tx (Ex S (n + 2)) S M_230 (kI K E) 0 0 0 [some (.inr 143), some (.inl p0), some (.inl p1)] [] mem
  refine Tx.aload_n hC te_230_0 rfl ?_
  refine Tx.iload_n hC te_230_1 rfl ?_
  refine Tx.iload_n hC te_230_2 rfl ?_
  refine Tx.statI hC te_230_3 (by decide) mt_231 (args := [.inl p0, .inl p1]) (rest := [.inr 143]) (c' := 0) (s' := 0) rfl rfl rfl rfl rfl rfl rfl ?_
  refine f_231x (fun r1s r1i => ?_) (fun r1s r1i => ?_)
  · skip
    refine Tx.ifc hC (t := 13) te_230_6 (by decide) (fun q => ?_) (fun q => absurd (show ¬ (1 : Int) = 0 by decide) q)
    refine Tx.aload_n hC te_230_13 rfl ?_
    refine Tx.getI hC te_230_14 rfl rfl rfl (fun v4 v4e v4i => ?_)
    unfold InI at v4i
    refine Tx.bipush hC te_230_17 rfl rfl ?_
    refine Tx.icmp hC (t := 26) te_230_19 (by decide) (fun q5 => ?_) (fun q5 => ?_)
    · replace q5 : ¬ (v4 : Int) = 8 := q5
      refine Tx.iconst hC te_230_26 rfl ?_
      refine Tx.putI hC te_230_27 rfl rfl rfl rfl ?_
      refine Tx.aload_n hC te_230_30 rfl ?_
      refine Tx.getI hC te_230_31 rfl rfl rfl (fun v7 v7e v7i => ?_)
      rw [upm_eq] at v7e
      subst v7e
      clear v7i
      refine Tx.ifc hC (t := 41) te_230_34 (by decide) (fun q => ?_) (fun q => absurd (show (0 : Int) ≤ 0 by decide) q)
      refine Tx.aload_n hC te_230_41 rfl ?_
      refine Tx.iconst hC te_230_42 rfl ?_
      refine Tx.iload_n hC te_230_43 rfl ?_
      refine Tx.iload_n hC te_230_44 rfl ?_
      refine Tx.iconst hC te_230_45 rfl ?_
      refine Tx.iconst hC te_230_46 rfl ?_
      refine Tx.virtI hC te_230_47 mt_229 (args := [.inr 143, .inl 4, .inl p0, .inl p1, .inl 0, .inl 0]) (rest := []) (c' := 0) (s' := 0) rfl rfl rfl rfl rfl rfl rfl rfl rfl rfl ?_
      refine f_229x (by rw [upm_ne (by omega)]; omega) (fun r8 m9 r8e r8m r8i => ?_)
      rw [upm_ne (by omega)] at r8e r8m
      unfold InI at r8i
      exact Tx.ireturn hC te_230_50 rfl (fun hr => show K r8 m9 from H0 (by assumption) (by omega) _ _ r8e r8m)
    · replace q5 : ¬ (¬ (v4 : Int) = 8) := q5
      refine Tx.iconst hC te_230_22 rfl ?_
      refine Tx.goto hC (t := 27) te_230_23 (by decide) ?_
      refine Tx.putI hC te_230_27 rfl rfl rfl rfl ?_
      refine Tx.aload_n hC te_230_30 rfl ?_
      refine Tx.getI hC te_230_31 rfl rfl rfl (fun v12 v12e v12i => ?_)
      rw [upm_eq] at v12e
      subst v12e
      clear v12i
      refine Tx.ifc hC (t := 41) te_230_34 (by decide) (fun q => absurd q (show ¬ ((2 : Int) ≤ 0) by decide)) (fun q => ?_)
      refine Tx.iconst hC te_230_37 rfl ?_
      refine Tx.goto hC (t := 50) te_230_38 (by decide) ?_
      exact Tx.ireturn hC te_230_50 rfl (fun hr => show K 0 (upm mem 143 0 2) from H2 (by assumption) (by omega))
  · skip
    refine Tx.ifc hC (t := 13) te_230_6 (by decide) (fun q => absurd q (show ¬ (¬ (0 : Int) = 0) by decide)) (fun q => ?_)
    refine Tx.iconst hC te_230_9 rfl ?_
    refine Tx.goto hC (t := 27) te_230_10 (by decide) ?_
    refine Tx.putI hC te_230_27 rfl rfl rfl rfl ?_
    refine Tx.aload_n hC te_230_30 rfl ?_
    refine Tx.getI hC te_230_31 rfl rfl rfl (fun v14 v14e v14i => ?_)
    rw [upm_eq] at v14e
    subst v14e
    clear v14i
    refine Tx.ifc hC (t := 41) te_230_34 (by decide) (fun q => absurd q (show ¬ ((1 : Int) ≤ 0) by decide)) (fun q => ?_)
    refine Tx.iconst hC te_230_37 rfl ?_
    refine Tx.goto hC (t := 50) te_230_38 (by decide) ?_
    exact Tx.ireturn hC te_230_50 rfl (fun hr => show K 0 (upm mem 143 0 1) from H1 (by intro w; first | (have := w.1; omega) | omega | exact absurd w (by assumption) | exact absurd w.1 (by assumption) | exact absurd w.2 (by assumption) | exact absurd w.2.1 (by assumption) | exact absurd w.2.2 (by assumption)))
theorem f_232x {S : Nat × (Nat → Int32)} {n : Nat} {mem : MM} {K : Int → MM → Prop} {E : Nat → MM → Prop} (h8 : 0 ≤ mem 143 1 ∧ mem 143 1 ≤ 8) {p0 p1 p2 p3 : Int} (H0 : srcX p0 p1 ∧ rowX p2 p3 → mem 143 1 < 8 → ∀ r m', r = mem 143 1 → m' = addM (upm mem 143 0 0) (mem 143 1).toNat 5 p0 p1 p2 p3 → K r m') (H1 : ¬ (srcX p0 p1 ∧ rowX p2 p3) → K 0 (upm mem 143 0 1)) (H2 : srcX p0 p1 ∧ rowX p2 p3 → ¬ mem 143 1 < 8 → K 0 (upm mem 143 0 2)) : CQI (Ex S (n + 3)) 232 [.inr 143, .inl p0, .inl p1, .inl p2, .inl p3] mem K E := by
  refine CY.of (k := 0) mt_232 rfl rfl (fun hv => ?_)
  have hC := Ex.mono S (n + 2)
  have ii_p0 : InI p0 := hv (.inl p0) (by simp)
  unfold InI at ii_p0
  have ii_p1 : InI p1 := hv (.inl p1) (by simp)
  unfold InI at ii_p1
  have ii_p2 : InI p2 := hv (.inl p2) (by simp)
  unfold InI at ii_p2
  have ii_p3 : InI p3 := hv (.inl p3) (by simp)
  unfold InI at ii_p3
  clear hv
  show Tx (Ex S (n + 2)) S M_232 (kI K E) 0 0 0 [some (.inr 143), some (.inl p0), some (.inl p1), some (.inl p2), some (.inl p3)] [] mem
  refine Tx.aload_n hC te_232_0 rfl ?_
  refine Tx.iload_n hC te_232_1 rfl ?_
  refine Tx.iload_n hC te_232_2 rfl ?_
  refine Tx.statI hC te_232_3 (by decide) mt_228 (args := [.inl p0, .inl p1]) (rest := [.inr 143]) (c' := 0) (s' := 0) rfl rfl rfl rfl rfl rfl rfl ?_
  refine f_228x (fun r1s r1i => ?_) (fun r1s r1i => ?_)
  · skip
    refine Tx.ifc hC (t := 18) te_232_6 (by decide) (fun q => absurd q (show ¬ ((1 : Int) = 0) by decide)) (fun q => ?_)
    refine Tx.iload_n hC te_232_9 rfl ?_
    refine Tx.iload hC te_232_10 rfl ?_
    refine Tx.statI hC te_232_12 (by decide) mt_231 (args := [.inl p2, .inl p3]) (rest := [.inr 143]) (c' := 0) (s' := 0) rfl rfl rfl rfl rfl rfl rfl ?_
    refine f_231x (fun r4s r4i => ?_) (fun r4s r4i => ?_)
    · skip
      refine Tx.ifc hC (t := 22) te_232_15 (by decide) (fun q => ?_) (fun q => absurd (show ¬ (1 : Int) = 0 by decide) q)
      refine Tx.aload_n hC te_232_22 rfl ?_
      refine Tx.getI hC te_232_23 rfl rfl rfl (fun v7 v7e v7i => ?_)
      unfold InI at v7i
      refine Tx.bipush hC te_232_26 rfl rfl ?_
      refine Tx.icmp hC (t := 35) te_232_28 (by decide) (fun q8 => ?_) (fun q8 => ?_)
      · replace q8 : ¬ (v7 : Int) = 8 := q8
        refine Tx.iconst hC te_232_35 rfl ?_
        refine Tx.putI hC te_232_36 rfl rfl rfl rfl ?_
        refine Tx.aload_n hC te_232_39 rfl ?_
        refine Tx.getI hC te_232_40 rfl rfl rfl (fun v10 v10e v10i => ?_)
        rw [upm_eq] at v10e
        subst v10e
        clear v10i
        refine Tx.ifc hC (t := 50) te_232_43 (by decide) (fun q => ?_) (fun q => absurd (show (0 : Int) ≤ 0 by decide) q)
        refine Tx.aload_n hC te_232_50 rfl ?_
        refine Tx.iconst hC te_232_51 rfl ?_
        refine Tx.iload_n hC te_232_52 rfl ?_
        refine Tx.iload_n hC te_232_53 rfl ?_
        refine Tx.iload_n hC te_232_54 rfl ?_
        refine Tx.iload hC te_232_55 rfl ?_
        refine Tx.virtI hC te_232_57 mt_229 (args := [.inr 143, .inl 5, .inl p0, .inl p1, .inl p2, .inl p3]) (rest := []) (c' := 0) (s' := 0) rfl rfl rfl rfl rfl rfl rfl rfl rfl rfl ?_
        refine f_229x (by rw [upm_ne (by omega)]; omega) (fun r11 m12 r11e r11m r11i => ?_)
        rw [upm_ne (by omega)] at r11e r11m
        unfold InI at r11i
        exact Tx.ireturn hC te_232_60 rfl (fun hr => show K r11 m12 from H0 ⟨by assumption, by assumption⟩ (by omega) _ _ r11e r11m)
      · replace q8 : ¬ (¬ (v7 : Int) = 8) := q8
        refine Tx.iconst hC te_232_31 rfl ?_
        refine Tx.goto hC (t := 36) te_232_32 (by decide) ?_
        refine Tx.putI hC te_232_36 rfl rfl rfl rfl ?_
        refine Tx.aload_n hC te_232_39 rfl ?_
        refine Tx.getI hC te_232_40 rfl rfl rfl (fun v15 v15e v15i => ?_)
        rw [upm_eq] at v15e
        subst v15e
        clear v15i
        refine Tx.ifc hC (t := 50) te_232_43 (by decide) (fun q => absurd q (show ¬ ((2 : Int) ≤ 0) by decide)) (fun q => ?_)
        refine Tx.iconst hC te_232_46 rfl ?_
        refine Tx.goto hC (t := 60) te_232_47 (by decide) ?_
        exact Tx.ireturn hC te_232_60 rfl (fun hr => show K 0 (upm mem 143 0 2) from H2 ⟨by assumption, by assumption⟩ (by omega))
    · skip
      refine Tx.ifc hC (t := 22) te_232_15 (by decide) (fun q => absurd q (show ¬ (¬ (0 : Int) = 0) by decide)) (fun q => ?_)
      refine Tx.iconst hC te_232_18 rfl ?_
      refine Tx.goto hC (t := 36) te_232_19 (by decide) ?_
      refine Tx.putI hC te_232_36 rfl rfl rfl rfl ?_
      refine Tx.aload_n hC te_232_39 rfl ?_
      refine Tx.getI hC te_232_40 rfl rfl rfl (fun v17 v17e v17i => ?_)
      rw [upm_eq] at v17e
      subst v17e
      clear v17i
      refine Tx.ifc hC (t := 50) te_232_43 (by decide) (fun q => absurd q (show ¬ ((1 : Int) ≤ 0) by decide)) (fun q => ?_)
      refine Tx.iconst hC te_232_46 rfl ?_
      refine Tx.goto hC (t := 60) te_232_47 (by decide) ?_
      exact Tx.ireturn hC te_232_60 rfl (fun hr => show K 0 (upm mem 143 0 1) from H1 (by intro w; first | (have := w.1; omega) | omega | exact absurd w (by assumption) | exact absurd w.1 (by assumption) | exact absurd w.2 (by assumption) | exact absurd w.2.1 (by assumption) | exact absurd w.2.2 (by assumption)))
  · skip
    refine Tx.ifc hC (t := 18) te_232_6 (by decide) (fun q => ?_) (fun q => absurd (show (0 : Int) = 0 by decide) q)
    refine Tx.iconst hC te_232_18 rfl ?_
    refine Tx.goto hC (t := 36) te_232_19 (by decide) ?_
    refine Tx.putI hC te_232_36 rfl rfl rfl rfl ?_
    refine Tx.aload_n hC te_232_39 rfl ?_
    refine Tx.getI hC te_232_40 rfl rfl rfl (fun v19 v19e v19i => ?_)
    rw [upm_eq] at v19e
    subst v19e
    clear v19i
    refine Tx.ifc hC (t := 50) te_232_43 (by decide) (fun q => absurd q (show ¬ ((1 : Int) ≤ 0) by decide)) (fun q => ?_)
    refine Tx.iconst hC te_232_46 rfl ?_
    refine Tx.goto hC (t := 60) te_232_47 (by decide) ?_
    exact Tx.ireturn hC te_232_60 rfl (fun hr => show K 0 (upm mem 143 0 1) from H1 (by intro w; first | (have := w.1; omega) | omega | exact absurd w (by assumption) | exact absurd w.1 (by assumption) | exact absurd w.2 (by assumption) | exact absurd w.2.1 (by assumption) | exact absurd w.2.2 (by assumption)))
theorem f_233x {S : Nat × (Nat → Int32)} {n : Nat} {mem : MM} {K : Int → MM → Prop} {E : Nat → MM → Prop} (h8 : 0 ≤ mem 143 1 ∧ mem 143 1 ≤ 8) (H0 : 0 < mem 143 1 → ∀ r m', r = mem 143 1 - 1 → m' = upm (upm mem 143 0 0) 143 1 (mem 143 1 - 1) → K r m') (H1 : ¬ 0 < mem 143 1 → K 0 (upm mem 143 0 1)) : CQI (Ex S (n + 3)) 233 [.inr 143] mem K E := by
  refine CY.of (k := 0) mt_233 rfl rfl (fun hv => ?_)
  have hC := Ex.mono S (n + 2)
  clear hv
  show Tx (Ex S (n + 2)) S M_233 (kI K E) 0 0 0 [some (.inr 143)] [] mem
  refine Tx.aload_n hC te_233_0 rfl ?_
  refine Tx.aload_n hC te_233_1 rfl ?_
  refine Tx.getI hC te_233_2 rfl rfl rfl (fun v1 v1e v1i => ?_)
  unfold InI at v1i
  first | rw [upm_eq] at v1e | rw [upm_ne (by omega)] at v1e | skip
  refine Tx.ifc hC (t := 12) te_233_5 (by decide) (fun q3 => ?_) (fun q3 => ?_)
  · replace q3 : ¬ (v1 : Int) = 0 := q3
    refine Tx.iconst hC te_233_12 rfl ?_
    refine Tx.putI hC te_233_13 rfl rfl rfl rfl ?_
    refine Tx.aload_n hC te_233_16 rfl ?_
    refine Tx.getI hC te_233_17 rfl rfl rfl (fun v5 v5e v5i => ?_)
    rw [upm_eq] at v5e
    subst v5e
    clear v5i
    refine Tx.ifc hC (t := 25) te_233_20 (by decide) (fun q => ?_) (fun q => absurd (show (0 : Int) ≤ 0 by decide) q)
    refine Tx.aload_n hC te_233_25 rfl ?_
    refine Tx.dup hC te_233_26 ?_
    refine Tx.getI hC te_233_27 rfl rfl rfl (fun v6 v6e v6i => ?_)
    unfold InI at v6i
    first | rw [upm_eq] at v6e | rw [upm_ne (by omega)] at v6e | skip
    refine Tx.iconst hC te_233_30 rfl ?_
    refine Tx.isubW hC te_233_31 (fun z8 z8i z8e => ?_)
    unfold InI at z8i z8e
    first | replace z8e := z8e (by omega) | clear z8e
    refine Tx.putI hC te_233_32 rfl rfl rfl rfl ?_
    have ez : z8 = mem 143 1 - 1 := by omega
    rw [ez]
    refine Tx.aload_n hC te_233_35 rfl ?_
    refine Tx.getI hC te_233_36 rfl rfl rfl (fun v10 v10e v10i => ?_)
    unfold InI at v10i
    first | rw [upm_eq] at v10e | rw [upm_ne (by omega)] at v10e | skip
    exact Tx.ireturn hC te_233_39 rfl (fun hr => show K v10 (upm (upm mem 143 0 0) 143 1 (mem 143 1 - 1)) from H0 (by omega) _ _ (by omega) rfl)
  · replace q3 : ¬ (¬ (v1 : Int) = 0) := q3
    refine Tx.iconst hC te_233_8 rfl ?_
    refine Tx.goto hC (t := 13) te_233_9 (by decide) ?_
    refine Tx.putI hC te_233_13 rfl rfl rfl rfl ?_
    refine Tx.aload_n hC te_233_16 rfl ?_
    refine Tx.getI hC te_233_17 rfl rfl rfl (fun v13 v13e v13i => ?_)
    rw [upm_eq] at v13e
    subst v13e
    clear v13i
    refine Tx.ifc hC (t := 25) te_233_20 (by decide) (fun q => absurd q (show ¬ ((1 : Int) ≤ 0) by decide)) (fun q => ?_)
    refine Tx.iconst hC te_233_23 rfl ?_
    exact Tx.ireturn hC te_233_24 rfl (fun hr => show K 0 (upm mem 143 0 1) from H1 (by omega))
theorem f_235x {S : Nat × (Nat → Int32)} {n : Nat} {mem : MM} {K : Int → MM → Prop} {E : Nat → MM → Prop} (h8 : 0 ≤ mem 143 1 ∧ mem 143 1 ≤ 8) {o : Int} (H1 : 0 ≤ o ∧ o < mem 143 1 → K 1 mem) (H0 : ¬ (0 ≤ o ∧ o < mem 143 1) → K 0 mem) : CQI (Ex S (n + 2)) 235 [.inr 143, .inl o] mem K E := by
  refine CY.of (k := 0) mt_235 rfl rfl (fun hv => ?_)
  have hC := Ex.mono S (n + 1)
  have ii_o : InI o := hv (.inl o) (by simp)
  unfold InI at ii_o
  clear hv
  show Tx (Ex S (n + 1)) S M_235 (kI K E) 0 0 0 [some (.inr 143), some (.inl o)] [] mem
  refine Tx.iload_n hC te_235_0 rfl ?_
  refine Tx.iconst hC te_235_1 rfl ?_
  refine Tx.aload_n hC te_235_2 rfl ?_
  refine Tx.getI hC te_235_3 rfl rfl rfl (fun v1 v1e v1i => ?_)
  unfold InI at v1i
  refine Tx.iconst hC te_235_6 rfl ?_
  refine Tx.isubW hC te_235_7 (fun z2 z2i z2e => ?_)
  unfold InI at z2i z2e
  first | replace z2e := z2e (by omega) | clear z2e
  refine Tx.statI hC te_235_8 (by decide) mt_227 (args := [.inl o, .inl 0, .inl z2]) (rest := []) (c' := 0) (s' := 0) rfl rfl rfl rfl rfl rfl rfl ?_
  refine CWI.q hC (f_227 (fun r3a r3b r3i => ?_) (fun r3q r3i => ?_))
  · skip
    exact Tx.bret hC te_235_11 rfl (by omega) (show K 1 mem from H1 (by omega))
  · skip
    exact Tx.bret hC te_235_11 rfl (by omega) (show K 0 mem from H0 (by omega))
theorem f_234x {S : Nat × (Nat → Int32)} {n : Nat} {mem : MM} {K : Int → MM → Prop} {E : Nat → MM → Prop} (h8 : 0 ≤ mem 143 1 ∧ mem 143 1 ≤ 8) {p0 p1 : Int} (H0 : 0 ≤ p0 ∧ p0 < mem 143 1 → -9999 ≤ p1 ∧ p1 ≤ 9999 → ∀ r m', r = mem 149 p0.toNat → m' = upm (upm mem 143 0 0) 149 p0.toNat p1 → K r m') (H1 : ¬ (0 ≤ p0 ∧ p0 < mem 143 1) → K 0 (upm mem 143 0 1)) (H2 : 0 ≤ p0 ∧ p0 < mem 143 1 → ¬ (-9999 ≤ p1 ∧ p1 ≤ 9999) → K 0 (upm mem 143 0 2)) : CQI (Ex S (n + 4)) 234 [.inr 143, .inl p0, .inl p1] mem K E := by
  refine CY.of (k := 1) mt_234 rfl rfl (fun hv => ?_)
  have hC := Ex.mono S (n + 3)
  have ii_p0 : InI p0 := hv (.inl p0) (by simp)
  unfold InI at ii_p0
  have ii_p1 : InI p1 := hv (.inl p1) (by simp)
  unfold InI at ii_p1
  clear hv
  show Tx (Ex S (n + 3)) S M_234 (kI K E) 0 0 0 [some (.inr 143), some (.inl p0), some (.inl p1), none] [] mem
  refine Tx.aload_n hC te_234_0 rfl ?_
  refine Tx.aload_n hC te_234_1 rfl ?_
  refine Tx.iload_n hC te_234_2 rfl ?_
  refine Tx.virtI hC te_234_3 mt_235 (args := [.inr 143, .inl p0]) (rest := [.inr 143]) (c' := 0) (s' := 0) rfl rfl rfl rfl rfl rfl rfl rfl rfl rfl ?_
  refine f_235x h8 (fun r1s r1i => ?_) (fun r1s r1i => ?_)
  · skip
    refine Tx.ifc hC (t := 13) te_234_6 (by decide) (fun q => ?_) (fun q => absurd (show ¬ (1 : Int) = 0 by decide) q)
    refine Tx.iload_n hC te_234_13 rfl ?_
    refine Tx.sipush hC te_234_14 rfl rfl ?_
    refine Tx.sipush hC te_234_17 rfl rfl ?_
    refine Tx.statI hC te_234_20 (by decide) mt_227 (args := [.inl p1, .inl (-9999), .inl 9999]) (rest := [.inr 143]) (c' := 0) (s' := 0) rfl rfl rfl rfl rfl rfl rfl ?_
    refine CWI.q hC (f_227 (fun r4a r4b r4i => ?_) (fun r4q r4i => ?_))
    · skip
      refine Tx.ifc hC (t := 30) te_234_23 (by decide) (fun q => ?_) (fun q => absurd (show ¬ (1 : Int) = 0 by decide) q)
      refine Tx.iconst hC te_234_30 rfl ?_
      refine Tx.putI hC te_234_31 rfl rfl rfl rfl ?_
      refine Tx.aload_n hC te_234_34 rfl ?_
      refine Tx.getI hC te_234_35 rfl rfl rfl (fun v8 v8e v8i => ?_)
      rw [upm_eq] at v8e
      subst v8e
      clear v8i
      refine Tx.ifc hC (t := 43) te_234_38 (by decide) (fun q => ?_) (fun q => absurd (show (0 : Int) ≤ 0 by decide) q)
      refine Tx.aload_n hC te_234_43 rfl ?_
      refine Tx.getR hC te_234_44 rfl rfl rfl ?_
      refine Tx.iload_n hC te_234_47 rfl ?_
      refine Tx.iald hC te_234_48 rfl (by omega) (fun v9 v9e v9i => ?_)
      unfold InI at v9i
      rw [upm_ne (by omega)] at v9e
      refine Tx.istore_n hC te_234_49 rfl ?_
      refine Tx.aload_n hC te_234_50 rfl ?_
      refine Tx.getR hC te_234_51 rfl rfl rfl ?_
      refine Tx.iload_n hC te_234_54 rfl ?_
      refine Tx.iload_n hC te_234_55 rfl ?_
      refine Tx.iast hC te_234_56 rfl (by omega) ?_
      refine Tx.iload_n hC te_234_57 rfl ?_
      exact Tx.ireturn hC te_234_58 rfl (fun hr => show K v9 (upm (upm mem 143 0 0) 149 (Int.toNat p0) p1) from H0 (by omega) (by omega) _ _ (by assumption) rfl)
    · skip
      refine Tx.ifc hC (t := 30) te_234_23 (by decide) (fun q => absurd q (show ¬ (¬ (0 : Int) = 0) by decide)) (fun q => ?_)
      refine Tx.iconst hC te_234_26 rfl ?_
      refine Tx.goto hC (t := 31) te_234_27 (by decide) ?_
      refine Tx.putI hC te_234_31 rfl rfl rfl rfl ?_
      refine Tx.aload_n hC te_234_34 rfl ?_
      refine Tx.getI hC te_234_35 rfl rfl rfl (fun v13 v13e v13i => ?_)
      rw [upm_eq] at v13e
      subst v13e
      clear v13i
      refine Tx.ifc hC (t := 43) te_234_38 (by decide) (fun q => absurd q (show ¬ ((2 : Int) ≤ 0) by decide)) (fun q => ?_)
      refine Tx.iconst hC te_234_41 rfl ?_
      exact Tx.ireturn hC te_234_42 rfl (fun hr => show K 0 (upm mem 143 0 2) from H2 (by omega) (by omega))
  · skip
    refine Tx.ifc hC (t := 13) te_234_6 (by decide) (fun q => absurd q (show ¬ (¬ (0 : Int) = 0) by decide)) (fun q => ?_)
    refine Tx.iconst hC te_234_9 rfl ?_
    refine Tx.goto hC (t := 31) te_234_10 (by decide) ?_
    refine Tx.putI hC te_234_31 rfl rfl rfl rfl ?_
    refine Tx.aload_n hC te_234_34 rfl ?_
    refine Tx.getI hC te_234_35 rfl rfl rfl (fun v15 v15e v15i => ?_)
    rw [upm_eq] at v15e
    subst v15e
    clear v15i
    refine Tx.ifc hC (t := 43) te_234_38 (by decide) (fun q => absurd q (show ¬ ((1 : Int) ≤ 0) by decide)) (fun q => ?_)
    refine Tx.iconst hC te_234_41 rfl ?_
    exact Tx.ireturn hC te_234_42 rfl (fun hr => show K 0 (upm mem 143 0 1) from H1 (by omega))
theorem f_237x {S : Nat × (Nat → Int32)} {n : Nat} {mem : MM} {K : Int → MM → Prop} {E : Nat → MM → Prop} (h8 : 0 ≤ mem 143 1 ∧ mem 143 1 ≤ 8) {p0 p1 : Int} (H0 : 0 ≤ p0 ∧ p0 < 3 → 1 ≤ p1 ∧ p1 ≤ 3 → ∀ r m', r = mem 153 p0.toNat → m' = upm (upm mem 143 0 0) 153 p0.toNat p1 → K r m') (H1 : ¬ (0 ≤ p0 ∧ p0 < 3) → K 0 (upm mem 143 0 1)) (H2 : 0 ≤ p0 ∧ p0 < 3 → ¬ (1 ≤ p1 ∧ p1 ≤ 3) → K 0 (upm mem 143 0 2)) : CQI (Ex S (n + 4)) 237 [.inr 143, .inl p0, .inl p1] mem K E := by
  refine CY.of (k := 1) mt_237 rfl rfl (fun hv => ?_)
  have hC := Ex.mono S (n + 3)
  have ii_p0 : InI p0 := hv (.inl p0) (by simp)
  unfold InI at ii_p0
  have ii_p1 : InI p1 := hv (.inl p1) (by simp)
  unfold InI at ii_p1
  clear hv
  show Tx (Ex S (n + 3)) S M_237 (kI K E) 0 0 0 [some (.inr 143), some (.inl p0), some (.inl p1), none] [] mem
  refine Tx.aload_n hC te_237_0 rfl ?_
  refine Tx.iload_n hC te_237_1 rfl ?_
  refine Tx.iconst hC te_237_2 rfl ?_
  refine Tx.iconst hC te_237_3 rfl ?_
  refine Tx.statI hC te_237_4 (by decide) mt_227 (args := [.inl p0, .inl 0, .inl 2]) (rest := [.inr 143]) (c' := 0) (s' := 0) rfl rfl rfl rfl rfl rfl rfl ?_
  refine CWI.q hC (f_227 (fun r1a r1b r1i => ?_) (fun r1q r1i => ?_))
  · skip
    refine Tx.ifc hC (t := 14) te_237_7 (by decide) (fun q => ?_) (fun q => absurd (show ¬ (1 : Int) = 0 by decide) q)
    refine Tx.iload_n hC te_237_14 rfl ?_
    refine Tx.iconst hC te_237_15 rfl ?_
    refine Tx.iconst hC te_237_16 rfl ?_
    refine Tx.statI hC te_237_17 (by decide) mt_227 (args := [.inl p1, .inl 1, .inl 3]) (rest := [.inr 143]) (c' := 0) (s' := 0) rfl rfl rfl rfl rfl rfl rfl ?_
    refine CWI.q hC (f_227 (fun r4a r4b r4i => ?_) (fun r4q r4i => ?_))
    · skip
      refine Tx.ifc hC (t := 27) te_237_20 (by decide) (fun q => ?_) (fun q => absurd (show ¬ (1 : Int) = 0 by decide) q)
      refine Tx.iconst hC te_237_27 rfl ?_
      refine Tx.putI hC te_237_28 rfl rfl rfl rfl ?_
      refine Tx.aload_n hC te_237_31 rfl ?_
      refine Tx.getI hC te_237_32 rfl rfl rfl (fun v8 v8e v8i => ?_)
      rw [upm_eq] at v8e
      subst v8e
      clear v8i
      refine Tx.ifc hC (t := 40) te_237_35 (by decide) (fun q => ?_) (fun q => absurd (show (0 : Int) ≤ 0 by decide) q)
      refine Tx.aload_n hC te_237_40 rfl ?_
      refine Tx.getR hC te_237_41 rfl rfl rfl ?_
      refine Tx.iload_n hC te_237_44 rfl ?_
      refine Tx.iald hC te_237_45 rfl (by omega) (fun v9 v9e v9i => ?_)
      unfold InI at v9i
      rw [upm_ne (by omega)] at v9e
      refine Tx.istore_n hC te_237_46 rfl ?_
      refine Tx.aload_n hC te_237_47 rfl ?_
      refine Tx.getR hC te_237_48 rfl rfl rfl ?_
      refine Tx.iload_n hC te_237_51 rfl ?_
      refine Tx.iload_n hC te_237_52 rfl ?_
      refine Tx.iast hC te_237_53 rfl (by omega) ?_
      refine Tx.iload_n hC te_237_54 rfl ?_
      exact Tx.ireturn hC te_237_55 rfl (fun hr => show K v9 (upm (upm mem 143 0 0) 153 (Int.toNat p0) p1) from H0 (by omega) (by omega) _ _ (by assumption) rfl)
    · skip
      refine Tx.ifc hC (t := 27) te_237_20 (by decide) (fun q => absurd q (show ¬ (¬ (0 : Int) = 0) by decide)) (fun q => ?_)
      refine Tx.iconst hC te_237_23 rfl ?_
      refine Tx.goto hC (t := 28) te_237_24 (by decide) ?_
      refine Tx.putI hC te_237_28 rfl rfl rfl rfl ?_
      refine Tx.aload_n hC te_237_31 rfl ?_
      refine Tx.getI hC te_237_32 rfl rfl rfl (fun v13 v13e v13i => ?_)
      rw [upm_eq] at v13e
      subst v13e
      clear v13i
      refine Tx.ifc hC (t := 40) te_237_35 (by decide) (fun q => absurd q (show ¬ ((2 : Int) ≤ 0) by decide)) (fun q => ?_)
      refine Tx.iconst hC te_237_38 rfl ?_
      exact Tx.ireturn hC te_237_39 rfl (fun hr => show K 0 (upm mem 143 0 2) from H2 (by omega) (by omega))
  · skip
    refine Tx.ifc hC (t := 14) te_237_7 (by decide) (fun q => absurd q (show ¬ (¬ (0 : Int) = 0) by decide)) (fun q => ?_)
    refine Tx.iconst hC te_237_10 rfl ?_
    refine Tx.goto hC (t := 28) te_237_11 (by decide) ?_
    refine Tx.putI hC te_237_28 rfl rfl rfl rfl ?_
    refine Tx.aload_n hC te_237_31 rfl ?_
    refine Tx.getI hC te_237_32 rfl rfl rfl (fun v15 v15e v15i => ?_)
    rw [upm_eq] at v15e
    subst v15e
    clear v15i
    refine Tx.ifc hC (t := 40) te_237_35 (by decide) (fun q => absurd q (show ¬ ((1 : Int) ≤ 0) by decide)) (fun q => ?_)
    refine Tx.iconst hC te_237_38 rfl ?_
    exact Tx.ireturn hC te_237_39 rfl (fun hr => show K 0 (upm mem 143 0 1) from H1 (by omega))
theorem f_236x {S : Nat × (Nat → Int32)} {n : Nat} {mem : MM} {K : Int → MM → Prop} {E : Nat → MM → Prop} (h8 : 0 ≤ mem 143 1 ∧ mem 143 1 ≤ 8) {p0 p1 p2 p3 : Int} (H0 : 0 ≤ p0 ∧ p0 < 6 → (0 ≤ p1 ∧ p1 < 3) ∧ (1 ≤ p2 ∧ p2 ≤ 6) ∧ 1 ≤ p3 ∧ p3 ≤ 15 → ∀ m', m' = upm (upm (upm (upm mem 143 0 0) 150 p0.toNat p1) 151 p0.toNat p2) 152 p0.toNat p3 → K 0 m') (H1 : ¬ (0 ≤ p0 ∧ p0 < 6) → K 0 (upm mem 143 0 1)) (H2 : 0 ≤ p0 ∧ p0 < 6 → ¬ ((0 ≤ p1 ∧ p1 < 3) ∧ (1 ≤ p2 ∧ p2 ≤ 6) ∧ 1 ≤ p3 ∧ p3 ≤ 15) → K 0 (upm mem 143 0 2)) : CQI (Ex S (n + 4)) 236 [.inr 143, .inl p0, .inl p1, .inl p2, .inl p3] mem K E := by
  refine CY.of (k := 0) mt_236 rfl rfl (fun hv => ?_)
  have hC := Ex.mono S (n + 3)
  have ii_p0 : InI p0 := hv (.inl p0) (by simp)
  unfold InI at ii_p0
  have ii_p1 : InI p1 := hv (.inl p1) (by simp)
  unfold InI at ii_p1
  have ii_p2 : InI p2 := hv (.inl p2) (by simp)
  unfold InI at ii_p2
  have ii_p3 : InI p3 := hv (.inl p3) (by simp)
  unfold InI at ii_p3
  clear hv
  show Tx (Ex S (n + 3)) S M_236 (kI K E) 0 0 0 [some (.inr 143), some (.inl p0), some (.inl p1), some (.inl p2), some (.inl p3)] [] mem
  refine Tx.aload_n hC te_236_0 rfl ?_
  refine Tx.iload_n hC te_236_1 rfl ?_
  refine Tx.iconst hC te_236_2 rfl ?_
  refine Tx.iconst hC te_236_3 rfl ?_
  refine Tx.statI hC te_236_4 (by decide) mt_227 (args := [.inl p0, .inl 0, .inl 5]) (rest := [.inr 143]) (c' := 0) (s' := 0) rfl rfl rfl rfl rfl rfl rfl ?_
  refine CWI.q hC (f_227 (fun r1a r1b r1i => ?_) (fun r1q r1i => ?_))
  · skip
    refine Tx.ifc hC (t := 14) te_236_7 (by decide) (fun q => ?_) (fun q => absurd (show ¬ (1 : Int) = 0 by decide) q)
    refine Tx.iload_n hC te_236_14 rfl ?_
    refine Tx.iconst hC te_236_15 rfl ?_
    refine Tx.iconst hC te_236_16 rfl ?_
    refine Tx.statI hC te_236_17 (by decide) mt_227 (args := [.inl p1, .inl 0, .inl 2]) (rest := [.inr 143]) (c' := 0) (s' := 0) rfl rfl rfl rfl rfl rfl rfl ?_
    refine CWI.q hC (f_227 (fun r4a r4b r4i => ?_) (fun r4q r4i => ?_))
    · skip
      refine Tx.ifc hC (t := 44) te_236_20 (by decide) (fun q => absurd q (show ¬ ((1 : Int) = 0) by decide)) (fun q => ?_)
      refine Tx.iload_n hC te_236_23 rfl ?_
      refine Tx.iconst hC te_236_24 rfl ?_
      refine Tx.bipush hC te_236_25 rfl rfl ?_
      refine Tx.statI hC te_236_27 (by decide) mt_227 (args := [.inl p2, .inl 1, .inl 6]) (rest := [.inr 143]) (c' := 0) (s' := 0) rfl rfl rfl rfl rfl rfl rfl ?_
      refine CWI.q hC (f_227 (fun r7a r7b r7i => ?_) (fun r7q r7i => ?_))
      · skip
        refine Tx.ifc hC (t := 44) te_236_30 (by decide) (fun q => absurd q (show ¬ ((1 : Int) = 0) by decide)) (fun q => ?_)
        refine Tx.iload hC te_236_33 rfl ?_
        refine Tx.iconst hC te_236_35 rfl ?_
        refine Tx.bipush hC te_236_36 rfl rfl ?_
        refine Tx.statI hC te_236_38 (by decide) mt_227 (args := [.inl p3, .inl 1, .inl 15]) (rest := [.inr 143]) (c' := 0) (s' := 0) rfl rfl rfl rfl rfl rfl rfl ?_
        refine CWI.q hC (f_227 (fun r10a r10b r10i => ?_) (fun r10q r10i => ?_))
        · skip
          refine Tx.ifc hC (t := 48) te_236_41 (by decide) (fun q => ?_) (fun q => absurd (show ¬ (1 : Int) = 0 by decide) q)
          refine Tx.iconst hC te_236_48 rfl ?_
          refine Tx.putI hC te_236_49 rfl rfl rfl rfl ?_
          refine Tx.aload_n hC te_236_52 rfl ?_
          refine Tx.getI hC te_236_53 rfl rfl rfl (fun v14 v14e v14i => ?_)
          rw [upm_eq] at v14e
          subst v14e
          clear v14i
          refine Tx.ifc hC (t := 61) te_236_56 (by decide) (fun q => ?_) (fun q => absurd (show (0 : Int) ≤ 0 by decide) q)
          refine Tx.aload_n hC te_236_61 rfl ?_
          refine Tx.getR hC te_236_62 rfl rfl rfl ?_
          refine Tx.iload_n hC te_236_65 rfl ?_
          refine Tx.iload_n hC te_236_66 rfl ?_
          refine Tx.iast hC te_236_67 rfl (by omega) ?_
          refine Tx.aload_n hC te_236_68 rfl ?_
          refine Tx.getR hC te_236_69 rfl rfl rfl ?_
          refine Tx.iload_n hC te_236_72 rfl ?_
          refine Tx.iload_n hC te_236_73 rfl ?_
          refine Tx.iast hC te_236_74 rfl (by omega) ?_
          refine Tx.aload_n hC te_236_75 rfl ?_
          refine Tx.getR hC te_236_76 rfl rfl rfl ?_
          refine Tx.iload_n hC te_236_79 rfl ?_
          refine Tx.iload hC te_236_80 rfl ?_
          refine Tx.iast hC te_236_82 rfl (by omega) ?_
          refine Tx.iconst hC te_236_83 rfl ?_
          exact Tx.ireturn hC te_236_84 rfl (fun hr => show K 0 (upm (upm (upm (upm mem 143 0 0) 150 (Int.toNat p0) p1) 151 (Int.toNat p0) p2) 152 (Int.toNat p0) p3) from H0 (by omega) (by omega) _ rfl)
        · skip
          refine Tx.ifc hC (t := 48) te_236_41 (by decide) (fun q => absurd q (show ¬ (¬ (0 : Int) = 0) by decide)) (fun q => ?_)
          refine Tx.iconst hC te_236_44 rfl ?_
          refine Tx.goto hC (t := 49) te_236_45 (by decide) ?_
          refine Tx.putI hC te_236_49 rfl rfl rfl rfl ?_
          refine Tx.aload_n hC te_236_52 rfl ?_
          refine Tx.getI hC te_236_53 rfl rfl rfl (fun v19 v19e v19i => ?_)
          rw [upm_eq] at v19e
          subst v19e
          clear v19i
          refine Tx.ifc hC (t := 61) te_236_56 (by decide) (fun q => absurd q (show ¬ ((2 : Int) ≤ 0) by decide)) (fun q => ?_)
          refine Tx.iconst hC te_236_59 rfl ?_
          exact Tx.ireturn hC te_236_60 rfl (fun hr => show K 0 (upm mem 143 0 2) from H2 (by omega) (by omega))
      · skip
        refine Tx.ifc hC (t := 44) te_236_30 (by decide) (fun q => ?_) (fun q => absurd (show (0 : Int) = 0 by decide) q)
        refine Tx.iconst hC te_236_44 rfl ?_
        refine Tx.goto hC (t := 49) te_236_45 (by decide) ?_
        refine Tx.putI hC te_236_49 rfl rfl rfl rfl ?_
        refine Tx.aload_n hC te_236_52 rfl ?_
        refine Tx.getI hC te_236_53 rfl rfl rfl (fun v21 v21e v21i => ?_)
        rw [upm_eq] at v21e
        subst v21e
        clear v21i
        refine Tx.ifc hC (t := 61) te_236_56 (by decide) (fun q => absurd q (show ¬ ((2 : Int) ≤ 0) by decide)) (fun q => ?_)
        refine Tx.iconst hC te_236_59 rfl ?_
        exact Tx.ireturn hC te_236_60 rfl (fun hr => show K 0 (upm mem 143 0 2) from H2 (by omega) (by omega))
    · skip
      refine Tx.ifc hC (t := 44) te_236_20 (by decide) (fun q => ?_) (fun q => absurd (show (0 : Int) = 0 by decide) q)
      refine Tx.iconst hC te_236_44 rfl ?_
      refine Tx.goto hC (t := 49) te_236_45 (by decide) ?_
      refine Tx.putI hC te_236_49 rfl rfl rfl rfl ?_
      refine Tx.aload_n hC te_236_52 rfl ?_
      refine Tx.getI hC te_236_53 rfl rfl rfl (fun v23 v23e v23i => ?_)
      rw [upm_eq] at v23e
      subst v23e
      clear v23i
      refine Tx.ifc hC (t := 61) te_236_56 (by decide) (fun q => absurd q (show ¬ ((2 : Int) ≤ 0) by decide)) (fun q => ?_)
      refine Tx.iconst hC te_236_59 rfl ?_
      exact Tx.ireturn hC te_236_60 rfl (fun hr => show K 0 (upm mem 143 0 2) from H2 (by omega) (by omega))
  · skip
    refine Tx.ifc hC (t := 14) te_236_7 (by decide) (fun q => absurd q (show ¬ (¬ (0 : Int) = 0) by decide)) (fun q => ?_)
    refine Tx.iconst hC te_236_10 rfl ?_
    refine Tx.goto hC (t := 49) te_236_11 (by decide) ?_
    refine Tx.putI hC te_236_49 rfl rfl rfl rfl ?_
    refine Tx.aload_n hC te_236_52 rfl ?_
    refine Tx.getI hC te_236_53 rfl rfl rfl (fun v25 v25e v25i => ?_)
    rw [upm_eq] at v25e
    subst v25e
    clear v25i
    refine Tx.ifc hC (t := 61) te_236_56 (by decide) (fun q => absurd q (show ¬ ((1 : Int) ≤ 0) by decide)) (fun q => ?_)
    refine Tx.iconst hC te_236_59 rfl ?_
    exact Tx.ireturn hC te_236_60 rfl (fun hr => show K 0 (upm mem 143 0 1) from H1 (by omega))
/-! ops of the class and of the reference are the same -/
def RelB (m : MM) : Prop := m 1 0 = m 143 1 ∧ (∀ o, o < 8 → m 2 o = m 144 o ∧ m 3 (4 * o) = m 145 o ∧ m 3 (4 * o + 1) = m 146 o ∧ m 3 (4 * o + 2) = m 147 o ∧ m 3 (4 * o + 3) = m 148 o ∧ m 4 o = m 149 o) ∧ (∀ k, k < 6 → m 5 k = m 150 k ∧ m 6 k = m 151 k ∧ m 7 k = m 152 k) ∧ ∀ u, u < 3 → m 8 u = m 153 u
theorem RelB.fr {m m' : MM} (h : RelB m) (e : ∀ A i, (0 < A ∧ A < 9) ∨ (A = 143 ∧ i = 1) ∨ (143 < A ∧ A < 154) → m' A i = m A i) : RelB m' := by
  refine ⟨by rw [e 1 0 (by omega), e 143 1 (by omega)]; exact h.1, fun o ho => ?_, fun k hk => ?_, fun u hu => ?_⟩
  · rw [e 2 o (by omega), e 144 o (by omega), e 3 (4 * o) (by omega), e 145 o (by omega), e 3 (4 * o + 1) (by omega), e 146 o (by omega), e 3 (4 * o + 2) (by omega), e 147 o (by omega), e 3 (4 * o + 3) (by omega), e 148 o (by omega), e 4 o (by omega), e 149 o (by omega)]; exact h.2.1 o ho
  · rw [e 5 k (by omega), e 150 k (by omega), e 6 k (by omega), e 151 k (by omega), e 7 k (by omega), e 152 k (by omega)]; exact h.2.2.1 k hk
  · rw [e 8 u (by omega), e 153 u (by omega)]; exact h.2.2.2 u hu
theorem RelB.one {m : MM} {A i : Nat} {x : Int} (h : RelB m) (q : A = 0 ∨ (A = 143 ∧ i = 0)) : RelB (upm m A i x) := h.fr (fun B j w => upm_ne (by omega))
/-- one op more on both sides -/
theorem RelB.add {m m2 : MM} {n : Nat} {k a b c e : Int} (h : RelB m) (hn : (n : Int) = m 1 0) (e2 : ∀ A i, ¬ A = 0 → ¬ (A = 143 ∧ i = 0) → m2 A i = putM m n k a b c e A i) : RelB (addM m2 n k a b c e) := by
  obtain ⟨g1, g2, g3, g4, g5, g6, g7⟩ := putM_at (mem := m) (n := n) (k := k) (a := a) (b := b) (c := c) (e := e)
  obtain ⟨a1, a2, a3, a4, a5, a6, a7⟩ := addM_at (mem := m2) (n := n) (k := k) (a := a) (b := b) (c := c) (e := e)
  have f : ∀ A i, 0 < A → A < 9 → addM m2 n k a b c e A i = putM m n k a b c e A i := fun A i w1 w2 => by rw [addM_ne (by omega), e2 A i (by omega) (by omega)]
  have r : ∀ A i, ¬ (A = 143 ∧ (i = 0 ∨ i = 1)) → ¬ (144 ≤ A ∧ A ≤ 149 ∧ i = n) → 143 ≤ A → addM m2 n k a b c e A i = m A i := fun A i w1 w2 w3 => by rw [addM_ne (by omega), e2 A i (by omega) (by omega), putM_ne (by omega)]
  refine ⟨?_, fun o ho => ?_, fun j hj => ?_, fun u hu => ?_⟩
  · rw [f 1 0 (by omega) (by omega), g7, a7, e2 143 1 (by omega) (by omega), putM_ne (by omega), h.1]
  · rw [f 2 o (by omega) (by omega), f 3 (4 * o) (by omega) (by omega), f 3 (4 * o + 1) (by omega) (by omega), f 3 (4 * o + 2) (by omega) (by omega), f 3 (4 * o + 3) (by omega) (by omega), f 4 o (by omega) (by omega)]
    by_cases q : o = n
    · subst q
      rw [g1, g2, g3, g4, g5, g6, a1, a2, a3, a4, a5, a6]
      exact ⟨rfl, rfl, rfl, rfl, rfl, rfl⟩
    · rw [putM_ne (by omega), putM_ne (by omega), putM_ne (by omega), putM_ne (by omega), putM_ne (by omega), putM_ne (by omega), r 144 o (by omega) (by omega) (by omega), r 145 o (by omega) (by omega) (by omega), r 146 o (by omega) (by omega) (by omega), r 147 o (by omega) (by omega) (by omega), r 148 o (by omega) (by omega) (by omega), r 149 o (by omega) (by omega) (by omega)]
      exact h.2.1 o ho
  · rw [f 5 j (by omega) (by omega), f 6 j (by omega) (by omega), f 7 j (by omega) (by omega), putM_ne (by omega), putM_ne (by omega), putM_ne (by omega), r 150 j (by omega) (by omega) (by omega), r 151 j (by omega) (by omega) (by omega), r 152 j (by omega) (by omega) (by omega)]
    exact h.2.2.1 j hj
  · rw [f 8 u (by omega) (by omega), putM_ne (by omega), r 153 u (by omega) (by omega) (by omega)]
    exact h.2.2.2 u hu
/-- one number is written on both sides -/
theorem upm_two {m : MM} {A B i : Nat} {x : Int} {C j : Nat} : upm (upm m A i x) B i x C j = if C = B ∧ j = i ∨ C = A ∧ j = i then x else m C j := by
  unfold upm
  by_cases q : C = B ∧ j = i
  · rw [if_pos q, if_pos (Or.inl q)]
  · rw [if_neg q]
    by_cases w : C = A ∧ j = i
    · rw [if_pos w, if_pos (Or.inr w)]
    · rw [if_neg w, if_neg (by intro z; rcases z with z | z; exact q z; exact w z)]
theorem RelB.row {m m2 : MM} {A B i : Nat} {x : Int} (h : RelB m) (hAB : (A = 4 ∧ B = 149) ∨ (A = 5 ∧ B = 150) ∨ (A = 6 ∧ B = 151) ∨ (A = 7 ∧ B = 152) ∨ (A = 8 ∧ B = 153)) (e2 : ∀ C j, ¬ C = 0 → ¬ (C = 143 ∧ j = 0) → m2 C j = upm m A i x C j) : RelB (upm m2 B i x) := by
  have f : ∀ C j, (0 < C ∧ C < 9) ∨ (C = 143 ∧ j = 1) ∨ (143 < C ∧ C < 154) → upm m2 B i x C j = if C = B ∧ j = i ∨ C = A ∧ j = i then x else m C j := fun C j w => by
    rw [← upm_two]
    by_cases q : C = B ∧ j = i
    · rw [q.1, q.2, upm_eq, upm_eq]
    · rw [upm_ne q, upm_ne q, e2 C j (by omega) (by omega)]
  refine ⟨?_, fun o ho => ?_, fun k hk => ?_, fun u hu => ?_⟩
  · rw [f 1 0 (by omega), f 143 1 (by omega), if_neg (by omega), if_neg (by omega)]; exact h.1
  · have w := h.2.1 o ho
    rw [f 2 o (by omega), f 144 o (by omega), f 3 (4 * o) (by omega), f 145 o (by omega), f 3 (4 * o + 1) (by omega), f 146 o (by omega), f 3 (4 * o + 2) (by omega), f 147 o (by omega), f 3 (4 * o + 3) (by omega), f 148 o (by omega), f 4 o (by omega), f 149 o (by omega)]
    refine ⟨?_, ?_, ?_, ?_, ?_, ?_⟩
    · rw [if_neg (by omega), if_neg (by omega)]; exact w.1
    · rw [if_neg (by omega), if_neg (by omega)]; exact w.2.1
    · rw [if_neg (by omega), if_neg (by omega)]; exact w.2.2.1
    · rw [if_neg (by omega), if_neg (by omega)]; exact w.2.2.2.1
    · rw [if_neg (by omega), if_neg (by omega)]; exact w.2.2.2.2.1
    · by_cases q : A = 4 ∧ o = i
      · rw [if_pos (by omega), if_pos (by omega)]
      · rw [if_neg (by omega), if_neg (by omega)]; exact w.2.2.2.2.2
  · have w := h.2.2.1 k hk
    rw [f 5 k (by omega), f 150 k (by omega), f 6 k (by omega), f 151 k (by omega), f 7 k (by omega), f 152 k (by omega)]
    refine ⟨?_, ?_, ?_⟩
    · by_cases q : A = 5 ∧ k = i
      · rw [if_pos (by omega), if_pos (by omega)]
      · rw [if_neg (by omega), if_neg (by omega)]; exact w.1
    · by_cases q : A = 6 ∧ k = i
      · rw [if_pos (by omega), if_pos (by omega)]
      · rw [if_neg (by omega), if_neg (by omega)]; exact w.2.1
    · by_cases q : A = 7 ∧ k = i
      · rw [if_pos (by omega), if_pos (by omega)]
      · rw [if_neg (by omega), if_neg (by omega)]; exact w.2.2
  · rw [f 8 u (by omega), f 153 u (by omega)]
    by_cases q : A = 8 ∧ u = i
    · rw [if_pos (by omega), if_pos (by omega)]
    · rw [if_neg (by omega), if_neg (by omega)]; exact h.2.2.2 u hu
theorem RelB.size {m m' : MM} {z : Int} (h : RelB m) (h1 : m' 1 0 = z) (h2 : m' 143 1 = z) (e : ∀ A i, (1 < A ∧ A < 9) ∨ (143 < A ∧ A < 154) → m' A i = m A i) : RelB m' := by
  refine ⟨by rw [h1, h2], fun o ho => ?_, fun k hk => ?_, fun u hu => ?_⟩
  · rw [e 2 o (by omega), e 144 o (by omega), e 3 (4 * o) (by omega), e 145 o (by omega), e 3 (4 * o + 1) (by omega), e 146 o (by omega), e 3 (4 * o + 2) (by omega), e 147 o (by omega), e 3 (4 * o + 3) (by omega), e 148 o (by omega), e 4 o (by omega), e 149 o (by omega)]; exact h.2.1 o ho
  · rw [e 5 k (by omega), e 150 k (by omega), e 6 k (by omega), e 151 k (by omega), e 7 k (by omega), e 152 k (by omega)]; exact h.2.2.1 k hk
  · rw [e 8 u (by omega), e 153 u (by omega)]; exact h.2.2.2 u hu
/-! the reference stays in order -/
theorem RefOK.add {mem : MM} {n : Nat} {k a b c e : Int} (h : RefOK mem) (hn : (n : Int) = mem 143 1) (h8 : mem 143 1 < 8) (hk : 0 ≤ k ∧ k ≤ 5) (h3 : k ≤ 3 → srcOK a b ∧ srcOK c e) (h4 : k = 4 → 0 ≤ a ∧ a ≤ 1 ∧ 0 ≤ b ∧ b ≤ 7) (h5 : k = 5 → srcOK a b ∧ 0 ≤ c ∧ c ≤ 1 ∧ 0 ≤ e ∧ e ≤ 7) (hc : -2 ≤ c ∧ c ≤ 7) : RefOK (addM mem n k a b c e) := by
  obtain ⟨a1, a2, a3, a4, a5, a6, a7⟩ := addM_at (mem := mem) (n := n) (k := k) (a := a) (b := b) (c := c) (e := e)
  have ho := h.ops
  have o1 := ho.1
  have ha : -2 ≤ a ∧ a ≤ 7 := by
    by_cases k3 : k ≤ 3
    · have := (h3 k3).1; unfold srcOK at this; omega
    · by_cases k4 : k = 4
      · have := h4 k4; omega
      · have := (h5 (by omega)).1; unfold srcOK at this; omega
  refine ⟨⟨by omega, fun i hi => ?_, fun i hi => ?_⟩, fun i hi => ?_, fun i hi => ?_, fun i hi => ?_, fun i hi => ?_, fun i hi => ?_, fun i hi => ?_, ?_, fun i hi => ?_, ?_, ?_, fun i hi => ?_⟩
  · unfold OpOK
    by_cases q : i = n
    · subst q
      rw [a1, a2, a3, a4, a5]
      exact ⟨hk.1, hk.2, h3, h4, h5⟩
    · rw [addM_ne (by omega), addM_ne (by omega), addM_ne (by omega), addM_ne (by omega), addM_ne (by omega)]; exact ho.2.1 i hi
  · rw [addM_ne (by omega)]; exact ho.2.2 i hi
  · rw [addM_ne (by omega)]; exact h.un i hi
  · rw [addM_ne (by omega)]; exact h.bz i hi
  · rw [addM_ne (by omega)]; exact h.cn i hi
  · by_cases q : i = n
    · subst q; rw [a6]; omega
    · rw [addM_ne (by omega)]; exact h.fi i hi
  · by_cases q : i = n
    · subst q; rw [a2, a4]; exact ⟨ha, hc⟩
    · rw [addM_ne (by omega), addM_ne (by omega)]; exact h.ab i hi
  · rw [addM_ne (by omega)]; exact h.sl i hi
  · rw [addM_ne (by omega)]; exact h.lo
  · rw [addM_ne (by omega), addM_ne (by omega), addM_ne (by omega), addM_ne (by omega)]; exact h.r48 i hi
  · rw [addM_ne (by omega)]; exact h.nd
  · rw [addM_ne (by omega)]; exact h.th
  · rw [addM_ne (by omega)]; exact h.pa i hi
/-- one cell of it is written -/
theorem RefOK.up {m : MM} {A i : Nat} {x : Int} (h : RefOK m) (q : (A = 143 ∧ i = 1 ∧ 0 ≤ x ∧ x ≤ 8) ∨ (A = 149 ∧ -9999 ≤ x ∧ x ≤ 9999) ∨ (A = 150 ∧ 0 ≤ x ∧ x ≤ 2) ∨ (A = 151 ∧ 1 ≤ x ∧ x ≤ 6) ∨ (A = 152 ∧ 1 ≤ x ∧ x ≤ 15) ∨ (A = 153 ∧ 1 ≤ x ∧ x ≤ 3)) : RefOK (upm m A i x) := by
  have ho := h.ops
  refine ⟨⟨upm_rg (fun _ => by omega) (fun _ => ho.1), fun j hj => ?_, fun j hj => upm_rg (fun _ => by omega) (fun _ => ho.2.2 j hj)⟩, fun j hj => upm_rg (fun _ => by omega) (fun _ => h.un j hj), fun j hj => upm_rg (fun _ => by omega) (fun _ => h.bz j hj), fun j hj => upm_rg (fun _ => by omega) (fun _ => h.cn j hj), fun j hj => upm_rg (fun _ => by omega) (fun _ => h.fi j hj), fun j hj => ?_, fun j hj => ?_, ?_, fun j hj => ?_, ?_, ?_, fun j hj => ?_⟩
  · unfold OpOK
    rw [upm_ne (by omega), upm_ne (by omega), upm_ne (by omega), upm_ne (by omega), upm_ne (by omega)]; exact ho.2.1 j hj
  · rw [upm_ne (by omega), upm_ne (by omega)]; exact h.ab j hj
  · rw [upm_ne (by omega)]; exact h.sl j hj
  · rw [upm_ne (by omega)]; exact h.lo
  · rw [upm_ne (by omega), upm_ne (by omega), upm_ne (by omega), upm_ne (by omega)]; exact h.r48 j hj
  · rw [upm_ne (by omega)]; exact h.nd
  · rw [upm_ne (by omega)]; exact h.th
  · rw [upm_ne (by omega)]; exact h.pa j hj
/-! laid by wip/hand/tg.py: op and uses on both sides -/
def opF (m : MM) (o : Nat) (w : Int) : Int := if w = 0 then m 2 o else if w = 5 then m 4 o else m 3 (4 * o + (w - 1).toNat)
def opR (m : MM) (o : Nat) (w : Int) : Int := if w = 0 then m 144 o else if w = 1 then m 145 o else if w = 2 then m 146 o else if w = 3 then m 147 o else if w = 4 then m 148 o else m 149 o
theorem RelB.op {m : MM} (h : RelB m) {o : Nat} {w : Int} (ho : o < 8) (hw : 0 ≤ w ∧ w ≤ 5) : opF m o w = opR m o w := by
  have q := h.2.1 o ho
  have a : w = 0 ∨ w = 1 ∨ w = 2 ∨ w = 3 ∨ w = 4 ∨ w = 5 := by omega
  unfold opF opR
  rcases a with rfl | rfl | rfl | rfl | rfl | rfl
  · exact q.1
  · exact q.2.1
  · exact q.2.2.1
  · exact q.2.2.2.1
  · exact q.2.2.2.2.1
  · exact q.2.2.2.2.2
/-- bits that are set, of 4 -/
def popI (x : Int) : Int := x % 2 + x / 2 % 2 + x / 4 % 2 + x / 8 % 2
/-- uses of a unit by the first ops -/
def usN (f g : Nat → Int) (u : Int) : Nat → Int
  | 0 => 0
  | n + 1 => usN f g u n + if f n = u then popI (g n) else 0
theorem popI_rg {x : Int} : 0 ≤ popI x ∧ popI x ≤ 4 := by unfold popI; omega
theorem usN_rg {f g : Nat → Int} {u : Int} : ∀ n : Nat, 0 ≤ usN f g u n ∧ usN f g u n ≤ 4 * n
  | 0 => by unfold usN; omega
  | n + 1 => by
    have := usN_rg (f := f) (g := g) (u := u) n
    have := popI_rg (x := g n)
    unfold usN
    split <;> omega
theorem usN_eq {f g f2 g2 : Nat → Int} {u : Int} : ∀ n : Nat, (∀ o, o < n → f o = f2 o ∧ g o = g2 o) → usN f g u n = usN f2 g2 u n
  | 0, _ => rfl
  | n + 1, h => by
    unfold usN
    rw [usN_eq n (fun o ho => h o (by omega)), (h n (by omega)).1, (h n (by omega)).2]
def cUn (m : MM) (o : Nat) : Int := m 5 (m 2 o).toNat
def cBu (m : MM) (o : Nat) : Int := m 7 (m 2 o).toNat
def cLa (m : MM) (o : Nat) : Int := m 6 (m 2 o).toNat
def rUn (m : MM) (o : Nat) : Int := m 150 (m 144 o).toNat
def rBu (m : MM) (o : Nat) : Int := m 152 (m 144 o).toNat
theorem RelB.un {m : MM} (h : RelB m) (hB : BodyOK m) {o : Nat} (ho : o < 8) : cUn m o = rUn m o ∧ cBu m o = rBu m o ∧ cLa m o = latF m o := by
  have q := (h.2.1 o ho).1
  have k := hB.kd ho
  have w := h.2.2.1 (m 2 o).toNat (by omega)
  unfold cUn rUn cBu rBu cLa latF
  rw [← q]
  exact ⟨w.1, w.2.2, w.2.1⟩
def usC (m : MM) (u : Int) : Int := usN (cUn m) (cBu m) u (m 1 0).toNat
def usR (m : MM) (u : Int) : Int := usN (rUn m) (rBu m) u (m 143 1).toNat
theorem RelB.uses {m : MM} (h : RelB m) (hB : BodyOK m) (u : Int) : usC m u = usR m u := by
  unfold usC usR
  rw [← h.1]
  have := hB.1
  exact usN_eq _ (fun o ho => ⟨(h.un hB (by omega)).1, (h.un hB (by omega)).2.1⟩)
theorem and1 (x y : Int) (hx : 0 ≤ x ∧ x ≤ 15) (hy : y = x - 1) (b : Int) (hb : b = ((fun (x y : Int32) => x &&& y) (Int32.ofInt x) (Int32.ofInt y)).toInt) (h1 : 1 ≤ x) : popI b = popI x - 1 ∧ 0 ≤ b ∧ b < x := by
  subst hy
  subst hb
  have a : x = 1 ∨ x = 2 ∨ x = 3 ∨ x = 4 ∨ x = 5 ∨ x = 6 ∨ x = 7 ∨ x = 8 ∨ x = 9 ∨ x = 10 ∨ x = 11 ∨ x = 12 ∨ x = 13 ∨ x = 14 ∨ x = 15 := by omega
  clear hx h1
  rcases a with rfl | rfl | rfl | rfl | rfl | rfl | rfl | rfl | rfl | rfl | rfl | rfl | rfl | rfl | rfl <;> decide
theorem usN_st {f g : Nat → Int} {u o : Int} (h : 0 ≤ o) : usN f g u (o + 1).toNat = usN f g u o.toNat + if f o.toNat = u then popI (g o.toNat) else 0 := by
  rw [show (o + 1).toNat = o.toNat + 1 by omega]
  rfl
theorem usR_th {m : MM} {u z : Int} : usR (upm m 143 0 z) u = usR m u := by
  unfold usR
  rw [upm_ne (by omega)]
  refine usN_eq _ (fun o _ => ⟨?_, ?_⟩)
  · unfold rUn; rw [upm_ne (by omega), upm_ne (by omega)]
  · unfold rBu; rw [upm_ne (by omega), upm_ne (by omega)]
theorem f_39_0 {S : Nat × (Nat → Int32)} {n : Nat} {mem : MM} {K : Int → MM → Prop} {E : Nat → MM → Prop} (H : K 0 mem) : CQI (Ex S (n + 1)) 39 [.inl 0] mem K E := by
  refine CY.of (k := 0) mt_39 rfl rfl (fun _ => ?_)
  have hC := Ex.mono S n
  show Tx (Ex S n) S M_39 (kI K E) 0 0 0 [some (.inl 0)] [] mem
  refine Tx.iload_n hC te_39_0 rfl ?_
  refine Tx.iload_n hC te_39_1 rfl ?_
  refine Tx.iconst hC te_39_2 rfl ?_
  refine Tx.bits hC (f := (fun (x y : Int32) => (x.toUInt32 >>> (y.toUInt32 &&& Int32.toUInt32 31)).toInt32)) te_39_3 (fun _ _ _ _ => Iff.rfl) (fun b1 b1e _ => ?_)
  have b1v : b1 = 0 := b1e.trans (by decide)
  subst b1v
  refine Tx.ldc_w hC (z := 1431655765) te_39_4 rfl rfl rfl rfl ?_
  refine Tx.bits hC (f := (fun (x y : Int32) => x &&& y)) te_39_7 (fun _ _ _ _ => Iff.rfl) (fun b2 b2e _ => ?_)
  have b2v : b2 = 0 := b2e.trans (by decide)
  subst b2v
  refine Tx.isubW hC te_39_8 (fun b3 _ b3e => ?_)
  have b3v : b3 = 0 := b3e (by unfold InI; omega)
  subst b3v
  refine Tx.istore_n hC te_39_9 rfl ?_
  refine Tx.iload_n hC te_39_10 rfl ?_
  refine Tx.ldc_w hC (z := 858993459) te_39_11 rfl rfl rfl rfl ?_
  refine Tx.bits hC (f := (fun (x y : Int32) => x &&& y)) te_39_14 (fun _ _ _ _ => Iff.rfl) (fun b4 b4e _ => ?_)
  have b4v : b4 = 0 := b4e.trans (by decide)
  subst b4v
  refine Tx.iload_n hC te_39_15 rfl ?_
  refine Tx.iconst hC te_39_16 rfl ?_
  refine Tx.bits hC (f := (fun (x y : Int32) => (x.toUInt32 >>> (y.toUInt32 &&& Int32.toUInt32 31)).toInt32)) te_39_17 (fun _ _ _ _ => Iff.rfl) (fun b5 b5e _ => ?_)
  have b5v : b5 = 0 := b5e.trans (by decide)
  subst b5v
  refine Tx.ldc_w hC (z := 858993459) te_39_18 rfl rfl rfl rfl ?_
  refine Tx.bits hC (f := (fun (x y : Int32) => x &&& y)) te_39_21 (fun _ _ _ _ => Iff.rfl) (fun b6 b6e _ => ?_)
  have b6v : b6 = 0 := b6e.trans (by decide)
  subst b6v
  refine Tx.iaddW hC te_39_22 (fun b7 _ b7e => ?_)
  have b7v : b7 = 0 := b7e (by unfold InI; omega)
  subst b7v
  refine Tx.istore_n hC te_39_23 rfl ?_
  refine Tx.iload_n hC te_39_24 rfl ?_
  refine Tx.iload_n hC te_39_25 rfl ?_
  refine Tx.iconst hC te_39_26 rfl ?_
  refine Tx.bits hC (f := (fun (x y : Int32) => (x.toUInt32 >>> (y.toUInt32 &&& Int32.toUInt32 31)).toInt32)) te_39_27 (fun _ _ _ _ => Iff.rfl) (fun b8 b8e _ => ?_)
  have b8v : b8 = 0 := b8e.trans (by decide)
  subst b8v
  refine Tx.iaddW hC te_39_28 (fun b9 _ b9e => ?_)
  have b9v : b9 = 0 := b9e (by unfold InI; omega)
  subst b9v
  refine Tx.ldc_w hC (z := 252645135) te_39_29 rfl rfl rfl rfl ?_
  refine Tx.bits hC (f := (fun (x y : Int32) => x &&& y)) te_39_32 (fun _ _ _ _ => Iff.rfl) (fun b10 b10e _ => ?_)
  have b10v : b10 = 0 := b10e.trans (by decide)
  subst b10v
  refine Tx.istore_n hC te_39_33 rfl ?_
  refine Tx.iload_n hC te_39_34 rfl ?_
  refine Tx.iload_n hC te_39_35 rfl ?_
  refine Tx.bipush hC te_39_36 rfl rfl ?_
  refine Tx.bits hC (f := (fun (x y : Int32) => (x.toUInt32 >>> (y.toUInt32 &&& Int32.toUInt32 31)).toInt32)) te_39_38 (fun _ _ _ _ => Iff.rfl) (fun b11 b11e _ => ?_)
  have b11v : b11 = 0 := b11e.trans (by decide)
  subst b11v
  refine Tx.iaddW hC te_39_39 (fun b12 _ b12e => ?_)
  have b12v : b12 = 0 := b12e (by unfold InI; omega)
  subst b12v
  refine Tx.istore_n hC te_39_40 rfl ?_
  refine Tx.iload_n hC te_39_41 rfl ?_
  refine Tx.iload_n hC te_39_42 rfl ?_
  refine Tx.bipush hC te_39_43 rfl rfl ?_
  refine Tx.bits hC (f := (fun (x y : Int32) => (x.toUInt32 >>> (y.toUInt32 &&& Int32.toUInt32 31)).toInt32)) te_39_45 (fun _ _ _ _ => Iff.rfl) (fun b13 b13e _ => ?_)
  have b13v : b13 = 0 := b13e.trans (by decide)
  subst b13v
  refine Tx.iaddW hC te_39_46 (fun b14 _ b14e => ?_)
  have b14v : b14 = 0 := b14e (by unfold InI; omega)
  subst b14v
  refine Tx.istore_n hC te_39_47 rfl ?_
  refine Tx.iload_n hC te_39_48 rfl ?_
  refine Tx.bipush hC te_39_49 rfl rfl ?_
  refine Tx.bits hC (f := (fun (x y : Int32) => x &&& y)) te_39_51 (fun _ _ _ _ => Iff.rfl) (fun b15 b15e _ => ?_)
  have b15v : b15 = 0 := b15e.trans (by decide)
  subst b15v
  exact Tx.ireturn hC te_39_52 rfl (fun _ => H)
theorem f_39_1 {S : Nat × (Nat → Int32)} {n : Nat} {mem : MM} {K : Int → MM → Prop} {E : Nat → MM → Prop} (H : K 1 mem) : CQI (Ex S (n + 1)) 39 [.inl 1] mem K E := by
  refine CY.of (k := 0) mt_39 rfl rfl (fun _ => ?_)
  have hC := Ex.mono S n
  show Tx (Ex S n) S M_39 (kI K E) 0 0 0 [some (.inl 1)] [] mem
  refine Tx.iload_n hC te_39_0 rfl ?_
  refine Tx.iload_n hC te_39_1 rfl ?_
  refine Tx.iconst hC te_39_2 rfl ?_
  refine Tx.bits hC (f := (fun (x y : Int32) => (x.toUInt32 >>> (y.toUInt32 &&& Int32.toUInt32 31)).toInt32)) te_39_3 (fun _ _ _ _ => Iff.rfl) (fun b1 b1e _ => ?_)
  have b1v : b1 = 0 := b1e.trans (by decide)
  subst b1v
  refine Tx.ldc_w hC (z := 1431655765) te_39_4 rfl rfl rfl rfl ?_
  refine Tx.bits hC (f := (fun (x y : Int32) => x &&& y)) te_39_7 (fun _ _ _ _ => Iff.rfl) (fun b2 b2e _ => ?_)
  have b2v : b2 = 0 := b2e.trans (by decide)
  subst b2v
  refine Tx.isubW hC te_39_8 (fun b3 _ b3e => ?_)
  have b3v : b3 = 1 := b3e (by unfold InI; omega)
  subst b3v
  refine Tx.istore_n hC te_39_9 rfl ?_
  refine Tx.iload_n hC te_39_10 rfl ?_
  refine Tx.ldc_w hC (z := 858993459) te_39_11 rfl rfl rfl rfl ?_
  refine Tx.bits hC (f := (fun (x y : Int32) => x &&& y)) te_39_14 (fun _ _ _ _ => Iff.rfl) (fun b4 b4e _ => ?_)
  have b4v : b4 = 1 := b4e.trans (by decide)
  subst b4v
  refine Tx.iload_n hC te_39_15 rfl ?_
  refine Tx.iconst hC te_39_16 rfl ?_
  refine Tx.bits hC (f := (fun (x y : Int32) => (x.toUInt32 >>> (y.toUInt32 &&& Int32.toUInt32 31)).toInt32)) te_39_17 (fun _ _ _ _ => Iff.rfl) (fun b5 b5e _ => ?_)
  have b5v : b5 = 0 := b5e.trans (by decide)
  subst b5v
  refine Tx.ldc_w hC (z := 858993459) te_39_18 rfl rfl rfl rfl ?_
  refine Tx.bits hC (f := (fun (x y : Int32) => x &&& y)) te_39_21 (fun _ _ _ _ => Iff.rfl) (fun b6 b6e _ => ?_)
  have b6v : b6 = 0 := b6e.trans (by decide)
  subst b6v
  refine Tx.iaddW hC te_39_22 (fun b7 _ b7e => ?_)
  have b7v : b7 = 1 := b7e (by unfold InI; omega)
  subst b7v
  refine Tx.istore_n hC te_39_23 rfl ?_
  refine Tx.iload_n hC te_39_24 rfl ?_
  refine Tx.iload_n hC te_39_25 rfl ?_
  refine Tx.iconst hC te_39_26 rfl ?_
  refine Tx.bits hC (f := (fun (x y : Int32) => (x.toUInt32 >>> (y.toUInt32 &&& Int32.toUInt32 31)).toInt32)) te_39_27 (fun _ _ _ _ => Iff.rfl) (fun b8 b8e _ => ?_)
  have b8v : b8 = 0 := b8e.trans (by decide)
  subst b8v
  refine Tx.iaddW hC te_39_28 (fun b9 _ b9e => ?_)
  have b9v : b9 = 1 := b9e (by unfold InI; omega)
  subst b9v
  refine Tx.ldc_w hC (z := 252645135) te_39_29 rfl rfl rfl rfl ?_
  refine Tx.bits hC (f := (fun (x y : Int32) => x &&& y)) te_39_32 (fun _ _ _ _ => Iff.rfl) (fun b10 b10e _ => ?_)
  have b10v : b10 = 1 := b10e.trans (by decide)
  subst b10v
  refine Tx.istore_n hC te_39_33 rfl ?_
  refine Tx.iload_n hC te_39_34 rfl ?_
  refine Tx.iload_n hC te_39_35 rfl ?_
  refine Tx.bipush hC te_39_36 rfl rfl ?_
  refine Tx.bits hC (f := (fun (x y : Int32) => (x.toUInt32 >>> (y.toUInt32 &&& Int32.toUInt32 31)).toInt32)) te_39_38 (fun _ _ _ _ => Iff.rfl) (fun b11 b11e _ => ?_)
  have b11v : b11 = 0 := b11e.trans (by decide)
  subst b11v
  refine Tx.iaddW hC te_39_39 (fun b12 _ b12e => ?_)
  have b12v : b12 = 1 := b12e (by unfold InI; omega)
  subst b12v
  refine Tx.istore_n hC te_39_40 rfl ?_
  refine Tx.iload_n hC te_39_41 rfl ?_
  refine Tx.iload_n hC te_39_42 rfl ?_
  refine Tx.bipush hC te_39_43 rfl rfl ?_
  refine Tx.bits hC (f := (fun (x y : Int32) => (x.toUInt32 >>> (y.toUInt32 &&& Int32.toUInt32 31)).toInt32)) te_39_45 (fun _ _ _ _ => Iff.rfl) (fun b13 b13e _ => ?_)
  have b13v : b13 = 0 := b13e.trans (by decide)
  subst b13v
  refine Tx.iaddW hC te_39_46 (fun b14 _ b14e => ?_)
  have b14v : b14 = 1 := b14e (by unfold InI; omega)
  subst b14v
  refine Tx.istore_n hC te_39_47 rfl ?_
  refine Tx.iload_n hC te_39_48 rfl ?_
  refine Tx.bipush hC te_39_49 rfl rfl ?_
  refine Tx.bits hC (f := (fun (x y : Int32) => x &&& y)) te_39_51 (fun _ _ _ _ => Iff.rfl) (fun b15 b15e _ => ?_)
  have b15v : b15 = 1 := b15e.trans (by decide)
  subst b15v
  exact Tx.ireturn hC te_39_52 rfl (fun _ => H)
theorem f_39_2 {S : Nat × (Nat → Int32)} {n : Nat} {mem : MM} {K : Int → MM → Prop} {E : Nat → MM → Prop} (H : K 1 mem) : CQI (Ex S (n + 1)) 39 [.inl 2] mem K E := by
  refine CY.of (k := 0) mt_39 rfl rfl (fun _ => ?_)
  have hC := Ex.mono S n
  show Tx (Ex S n) S M_39 (kI K E) 0 0 0 [some (.inl 2)] [] mem
  refine Tx.iload_n hC te_39_0 rfl ?_
  refine Tx.iload_n hC te_39_1 rfl ?_
  refine Tx.iconst hC te_39_2 rfl ?_
  refine Tx.bits hC (f := (fun (x y : Int32) => (x.toUInt32 >>> (y.toUInt32 &&& Int32.toUInt32 31)).toInt32)) te_39_3 (fun _ _ _ _ => Iff.rfl) (fun b1 b1e _ => ?_)
  have b1v : b1 = 1 := b1e.trans (by decide)
  subst b1v
  refine Tx.ldc_w hC (z := 1431655765) te_39_4 rfl rfl rfl rfl ?_
  refine Tx.bits hC (f := (fun (x y : Int32) => x &&& y)) te_39_7 (fun _ _ _ _ => Iff.rfl) (fun b2 b2e _ => ?_)
  have b2v : b2 = 1 := b2e.trans (by decide)
  subst b2v
  refine Tx.isubW hC te_39_8 (fun b3 _ b3e => ?_)
  have b3v : b3 = 1 := b3e (by unfold InI; omega)
  subst b3v
  refine Tx.istore_n hC te_39_9 rfl ?_
  refine Tx.iload_n hC te_39_10 rfl ?_
  refine Tx.ldc_w hC (z := 858993459) te_39_11 rfl rfl rfl rfl ?_
  refine Tx.bits hC (f := (fun (x y : Int32) => x &&& y)) te_39_14 (fun _ _ _ _ => Iff.rfl) (fun b4 b4e _ => ?_)
  have b4v : b4 = 1 := b4e.trans (by decide)
  subst b4v
  refine Tx.iload_n hC te_39_15 rfl ?_
  refine Tx.iconst hC te_39_16 rfl ?_
  refine Tx.bits hC (f := (fun (x y : Int32) => (x.toUInt32 >>> (y.toUInt32 &&& Int32.toUInt32 31)).toInt32)) te_39_17 (fun _ _ _ _ => Iff.rfl) (fun b5 b5e _ => ?_)
  have b5v : b5 = 0 := b5e.trans (by decide)
  subst b5v
  refine Tx.ldc_w hC (z := 858993459) te_39_18 rfl rfl rfl rfl ?_
  refine Tx.bits hC (f := (fun (x y : Int32) => x &&& y)) te_39_21 (fun _ _ _ _ => Iff.rfl) (fun b6 b6e _ => ?_)
  have b6v : b6 = 0 := b6e.trans (by decide)
  subst b6v
  refine Tx.iaddW hC te_39_22 (fun b7 _ b7e => ?_)
  have b7v : b7 = 1 := b7e (by unfold InI; omega)
  subst b7v
  refine Tx.istore_n hC te_39_23 rfl ?_
  refine Tx.iload_n hC te_39_24 rfl ?_
  refine Tx.iload_n hC te_39_25 rfl ?_
  refine Tx.iconst hC te_39_26 rfl ?_
  refine Tx.bits hC (f := (fun (x y : Int32) => (x.toUInt32 >>> (y.toUInt32 &&& Int32.toUInt32 31)).toInt32)) te_39_27 (fun _ _ _ _ => Iff.rfl) (fun b8 b8e _ => ?_)
  have b8v : b8 = 0 := b8e.trans (by decide)
  subst b8v
  refine Tx.iaddW hC te_39_28 (fun b9 _ b9e => ?_)
  have b9v : b9 = 1 := b9e (by unfold InI; omega)
  subst b9v
  refine Tx.ldc_w hC (z := 252645135) te_39_29 rfl rfl rfl rfl ?_
  refine Tx.bits hC (f := (fun (x y : Int32) => x &&& y)) te_39_32 (fun _ _ _ _ => Iff.rfl) (fun b10 b10e _ => ?_)
  have b10v : b10 = 1 := b10e.trans (by decide)
  subst b10v
  refine Tx.istore_n hC te_39_33 rfl ?_
  refine Tx.iload_n hC te_39_34 rfl ?_
  refine Tx.iload_n hC te_39_35 rfl ?_
  refine Tx.bipush hC te_39_36 rfl rfl ?_
  refine Tx.bits hC (f := (fun (x y : Int32) => (x.toUInt32 >>> (y.toUInt32 &&& Int32.toUInt32 31)).toInt32)) te_39_38 (fun _ _ _ _ => Iff.rfl) (fun b11 b11e _ => ?_)
  have b11v : b11 = 0 := b11e.trans (by decide)
  subst b11v
  refine Tx.iaddW hC te_39_39 (fun b12 _ b12e => ?_)
  have b12v : b12 = 1 := b12e (by unfold InI; omega)
  subst b12v
  refine Tx.istore_n hC te_39_40 rfl ?_
  refine Tx.iload_n hC te_39_41 rfl ?_
  refine Tx.iload_n hC te_39_42 rfl ?_
  refine Tx.bipush hC te_39_43 rfl rfl ?_
  refine Tx.bits hC (f := (fun (x y : Int32) => (x.toUInt32 >>> (y.toUInt32 &&& Int32.toUInt32 31)).toInt32)) te_39_45 (fun _ _ _ _ => Iff.rfl) (fun b13 b13e _ => ?_)
  have b13v : b13 = 0 := b13e.trans (by decide)
  subst b13v
  refine Tx.iaddW hC te_39_46 (fun b14 _ b14e => ?_)
  have b14v : b14 = 1 := b14e (by unfold InI; omega)
  subst b14v
  refine Tx.istore_n hC te_39_47 rfl ?_
  refine Tx.iload_n hC te_39_48 rfl ?_
  refine Tx.bipush hC te_39_49 rfl rfl ?_
  refine Tx.bits hC (f := (fun (x y : Int32) => x &&& y)) te_39_51 (fun _ _ _ _ => Iff.rfl) (fun b15 b15e _ => ?_)
  have b15v : b15 = 1 := b15e.trans (by decide)
  subst b15v
  exact Tx.ireturn hC te_39_52 rfl (fun _ => H)
theorem f_39_3 {S : Nat × (Nat → Int32)} {n : Nat} {mem : MM} {K : Int → MM → Prop} {E : Nat → MM → Prop} (H : K 2 mem) : CQI (Ex S (n + 1)) 39 [.inl 3] mem K E := by
  refine CY.of (k := 0) mt_39 rfl rfl (fun _ => ?_)
  have hC := Ex.mono S n
  show Tx (Ex S n) S M_39 (kI K E) 0 0 0 [some (.inl 3)] [] mem
  refine Tx.iload_n hC te_39_0 rfl ?_
  refine Tx.iload_n hC te_39_1 rfl ?_
  refine Tx.iconst hC te_39_2 rfl ?_
  refine Tx.bits hC (f := (fun (x y : Int32) => (x.toUInt32 >>> (y.toUInt32 &&& Int32.toUInt32 31)).toInt32)) te_39_3 (fun _ _ _ _ => Iff.rfl) (fun b1 b1e _ => ?_)
  have b1v : b1 = 1 := b1e.trans (by decide)
  subst b1v
  refine Tx.ldc_w hC (z := 1431655765) te_39_4 rfl rfl rfl rfl ?_
  refine Tx.bits hC (f := (fun (x y : Int32) => x &&& y)) te_39_7 (fun _ _ _ _ => Iff.rfl) (fun b2 b2e _ => ?_)
  have b2v : b2 = 1 := b2e.trans (by decide)
  subst b2v
  refine Tx.isubW hC te_39_8 (fun b3 _ b3e => ?_)
  have b3v : b3 = 2 := b3e (by unfold InI; omega)
  subst b3v
  refine Tx.istore_n hC te_39_9 rfl ?_
  refine Tx.iload_n hC te_39_10 rfl ?_
  refine Tx.ldc_w hC (z := 858993459) te_39_11 rfl rfl rfl rfl ?_
  refine Tx.bits hC (f := (fun (x y : Int32) => x &&& y)) te_39_14 (fun _ _ _ _ => Iff.rfl) (fun b4 b4e _ => ?_)
  have b4v : b4 = 2 := b4e.trans (by decide)
  subst b4v
  refine Tx.iload_n hC te_39_15 rfl ?_
  refine Tx.iconst hC te_39_16 rfl ?_
  refine Tx.bits hC (f := (fun (x y : Int32) => (x.toUInt32 >>> (y.toUInt32 &&& Int32.toUInt32 31)).toInt32)) te_39_17 (fun _ _ _ _ => Iff.rfl) (fun b5 b5e _ => ?_)
  have b5v : b5 = 0 := b5e.trans (by decide)
  subst b5v
  refine Tx.ldc_w hC (z := 858993459) te_39_18 rfl rfl rfl rfl ?_
  refine Tx.bits hC (f := (fun (x y : Int32) => x &&& y)) te_39_21 (fun _ _ _ _ => Iff.rfl) (fun b6 b6e _ => ?_)
  have b6v : b6 = 0 := b6e.trans (by decide)
  subst b6v
  refine Tx.iaddW hC te_39_22 (fun b7 _ b7e => ?_)
  have b7v : b7 = 2 := b7e (by unfold InI; omega)
  subst b7v
  refine Tx.istore_n hC te_39_23 rfl ?_
  refine Tx.iload_n hC te_39_24 rfl ?_
  refine Tx.iload_n hC te_39_25 rfl ?_
  refine Tx.iconst hC te_39_26 rfl ?_
  refine Tx.bits hC (f := (fun (x y : Int32) => (x.toUInt32 >>> (y.toUInt32 &&& Int32.toUInt32 31)).toInt32)) te_39_27 (fun _ _ _ _ => Iff.rfl) (fun b8 b8e _ => ?_)
  have b8v : b8 = 0 := b8e.trans (by decide)
  subst b8v
  refine Tx.iaddW hC te_39_28 (fun b9 _ b9e => ?_)
  have b9v : b9 = 2 := b9e (by unfold InI; omega)
  subst b9v
  refine Tx.ldc_w hC (z := 252645135) te_39_29 rfl rfl rfl rfl ?_
  refine Tx.bits hC (f := (fun (x y : Int32) => x &&& y)) te_39_32 (fun _ _ _ _ => Iff.rfl) (fun b10 b10e _ => ?_)
  have b10v : b10 = 2 := b10e.trans (by decide)
  subst b10v
  refine Tx.istore_n hC te_39_33 rfl ?_
  refine Tx.iload_n hC te_39_34 rfl ?_
  refine Tx.iload_n hC te_39_35 rfl ?_
  refine Tx.bipush hC te_39_36 rfl rfl ?_
  refine Tx.bits hC (f := (fun (x y : Int32) => (x.toUInt32 >>> (y.toUInt32 &&& Int32.toUInt32 31)).toInt32)) te_39_38 (fun _ _ _ _ => Iff.rfl) (fun b11 b11e _ => ?_)
  have b11v : b11 = 0 := b11e.trans (by decide)
  subst b11v
  refine Tx.iaddW hC te_39_39 (fun b12 _ b12e => ?_)
  have b12v : b12 = 2 := b12e (by unfold InI; omega)
  subst b12v
  refine Tx.istore_n hC te_39_40 rfl ?_
  refine Tx.iload_n hC te_39_41 rfl ?_
  refine Tx.iload_n hC te_39_42 rfl ?_
  refine Tx.bipush hC te_39_43 rfl rfl ?_
  refine Tx.bits hC (f := (fun (x y : Int32) => (x.toUInt32 >>> (y.toUInt32 &&& Int32.toUInt32 31)).toInt32)) te_39_45 (fun _ _ _ _ => Iff.rfl) (fun b13 b13e _ => ?_)
  have b13v : b13 = 0 := b13e.trans (by decide)
  subst b13v
  refine Tx.iaddW hC te_39_46 (fun b14 _ b14e => ?_)
  have b14v : b14 = 2 := b14e (by unfold InI; omega)
  subst b14v
  refine Tx.istore_n hC te_39_47 rfl ?_
  refine Tx.iload_n hC te_39_48 rfl ?_
  refine Tx.bipush hC te_39_49 rfl rfl ?_
  refine Tx.bits hC (f := (fun (x y : Int32) => x &&& y)) te_39_51 (fun _ _ _ _ => Iff.rfl) (fun b15 b15e _ => ?_)
  have b15v : b15 = 2 := b15e.trans (by decide)
  subst b15v
  exact Tx.ireturn hC te_39_52 rfl (fun _ => H)
theorem f_39_4 {S : Nat × (Nat → Int32)} {n : Nat} {mem : MM} {K : Int → MM → Prop} {E : Nat → MM → Prop} (H : K 1 mem) : CQI (Ex S (n + 1)) 39 [.inl 4] mem K E := by
  refine CY.of (k := 0) mt_39 rfl rfl (fun _ => ?_)
  have hC := Ex.mono S n
  show Tx (Ex S n) S M_39 (kI K E) 0 0 0 [some (.inl 4)] [] mem
  refine Tx.iload_n hC te_39_0 rfl ?_
  refine Tx.iload_n hC te_39_1 rfl ?_
  refine Tx.iconst hC te_39_2 rfl ?_
  refine Tx.bits hC (f := (fun (x y : Int32) => (x.toUInt32 >>> (y.toUInt32 &&& Int32.toUInt32 31)).toInt32)) te_39_3 (fun _ _ _ _ => Iff.rfl) (fun b1 b1e _ => ?_)
  have b1v : b1 = 2 := b1e.trans (by decide)
  subst b1v
  refine Tx.ldc_w hC (z := 1431655765) te_39_4 rfl rfl rfl rfl ?_
  refine Tx.bits hC (f := (fun (x y : Int32) => x &&& y)) te_39_7 (fun _ _ _ _ => Iff.rfl) (fun b2 b2e _ => ?_)
  have b2v : b2 = 0 := b2e.trans (by decide)
  subst b2v
  refine Tx.isubW hC te_39_8 (fun b3 _ b3e => ?_)
  have b3v : b3 = 4 := b3e (by unfold InI; omega)
  subst b3v
  refine Tx.istore_n hC te_39_9 rfl ?_
  refine Tx.iload_n hC te_39_10 rfl ?_
  refine Tx.ldc_w hC (z := 858993459) te_39_11 rfl rfl rfl rfl ?_
  refine Tx.bits hC (f := (fun (x y : Int32) => x &&& y)) te_39_14 (fun _ _ _ _ => Iff.rfl) (fun b4 b4e _ => ?_)
  have b4v : b4 = 0 := b4e.trans (by decide)
  subst b4v
  refine Tx.iload_n hC te_39_15 rfl ?_
  refine Tx.iconst hC te_39_16 rfl ?_
  refine Tx.bits hC (f := (fun (x y : Int32) => (x.toUInt32 >>> (y.toUInt32 &&& Int32.toUInt32 31)).toInt32)) te_39_17 (fun _ _ _ _ => Iff.rfl) (fun b5 b5e _ => ?_)
  have b5v : b5 = 1 := b5e.trans (by decide)
  subst b5v
  refine Tx.ldc_w hC (z := 858993459) te_39_18 rfl rfl rfl rfl ?_
  refine Tx.bits hC (f := (fun (x y : Int32) => x &&& y)) te_39_21 (fun _ _ _ _ => Iff.rfl) (fun b6 b6e _ => ?_)
  have b6v : b6 = 1 := b6e.trans (by decide)
  subst b6v
  refine Tx.iaddW hC te_39_22 (fun b7 _ b7e => ?_)
  have b7v : b7 = 1 := b7e (by unfold InI; omega)
  subst b7v
  refine Tx.istore_n hC te_39_23 rfl ?_
  refine Tx.iload_n hC te_39_24 rfl ?_
  refine Tx.iload_n hC te_39_25 rfl ?_
  refine Tx.iconst hC te_39_26 rfl ?_
  refine Tx.bits hC (f := (fun (x y : Int32) => (x.toUInt32 >>> (y.toUInt32 &&& Int32.toUInt32 31)).toInt32)) te_39_27 (fun _ _ _ _ => Iff.rfl) (fun b8 b8e _ => ?_)
  have b8v : b8 = 0 := b8e.trans (by decide)
  subst b8v
  refine Tx.iaddW hC te_39_28 (fun b9 _ b9e => ?_)
  have b9v : b9 = 1 := b9e (by unfold InI; omega)
  subst b9v
  refine Tx.ldc_w hC (z := 252645135) te_39_29 rfl rfl rfl rfl ?_
  refine Tx.bits hC (f := (fun (x y : Int32) => x &&& y)) te_39_32 (fun _ _ _ _ => Iff.rfl) (fun b10 b10e _ => ?_)
  have b10v : b10 = 1 := b10e.trans (by decide)
  subst b10v
  refine Tx.istore_n hC te_39_33 rfl ?_
  refine Tx.iload_n hC te_39_34 rfl ?_
  refine Tx.iload_n hC te_39_35 rfl ?_
  refine Tx.bipush hC te_39_36 rfl rfl ?_
  refine Tx.bits hC (f := (fun (x y : Int32) => (x.toUInt32 >>> (y.toUInt32 &&& Int32.toUInt32 31)).toInt32)) te_39_38 (fun _ _ _ _ => Iff.rfl) (fun b11 b11e _ => ?_)
  have b11v : b11 = 0 := b11e.trans (by decide)
  subst b11v
  refine Tx.iaddW hC te_39_39 (fun b12 _ b12e => ?_)
  have b12v : b12 = 1 := b12e (by unfold InI; omega)
  subst b12v
  refine Tx.istore_n hC te_39_40 rfl ?_
  refine Tx.iload_n hC te_39_41 rfl ?_
  refine Tx.iload_n hC te_39_42 rfl ?_
  refine Tx.bipush hC te_39_43 rfl rfl ?_
  refine Tx.bits hC (f := (fun (x y : Int32) => (x.toUInt32 >>> (y.toUInt32 &&& Int32.toUInt32 31)).toInt32)) te_39_45 (fun _ _ _ _ => Iff.rfl) (fun b13 b13e _ => ?_)
  have b13v : b13 = 0 := b13e.trans (by decide)
  subst b13v
  refine Tx.iaddW hC te_39_46 (fun b14 _ b14e => ?_)
  have b14v : b14 = 1 := b14e (by unfold InI; omega)
  subst b14v
  refine Tx.istore_n hC te_39_47 rfl ?_
  refine Tx.iload_n hC te_39_48 rfl ?_
  refine Tx.bipush hC te_39_49 rfl rfl ?_
  refine Tx.bits hC (f := (fun (x y : Int32) => x &&& y)) te_39_51 (fun _ _ _ _ => Iff.rfl) (fun b15 b15e _ => ?_)
  have b15v : b15 = 1 := b15e.trans (by decide)
  subst b15v
  exact Tx.ireturn hC te_39_52 rfl (fun _ => H)
theorem f_39_5 {S : Nat × (Nat → Int32)} {n : Nat} {mem : MM} {K : Int → MM → Prop} {E : Nat → MM → Prop} (H : K 2 mem) : CQI (Ex S (n + 1)) 39 [.inl 5] mem K E := by
  refine CY.of (k := 0) mt_39 rfl rfl (fun _ => ?_)
  have hC := Ex.mono S n
  show Tx (Ex S n) S M_39 (kI K E) 0 0 0 [some (.inl 5)] [] mem
  refine Tx.iload_n hC te_39_0 rfl ?_
  refine Tx.iload_n hC te_39_1 rfl ?_
  refine Tx.iconst hC te_39_2 rfl ?_
  refine Tx.bits hC (f := (fun (x y : Int32) => (x.toUInt32 >>> (y.toUInt32 &&& Int32.toUInt32 31)).toInt32)) te_39_3 (fun _ _ _ _ => Iff.rfl) (fun b1 b1e _ => ?_)
  have b1v : b1 = 2 := b1e.trans (by decide)
  subst b1v
  refine Tx.ldc_w hC (z := 1431655765) te_39_4 rfl rfl rfl rfl ?_
  refine Tx.bits hC (f := (fun (x y : Int32) => x &&& y)) te_39_7 (fun _ _ _ _ => Iff.rfl) (fun b2 b2e _ => ?_)
  have b2v : b2 = 0 := b2e.trans (by decide)
  subst b2v
  refine Tx.isubW hC te_39_8 (fun b3 _ b3e => ?_)
  have b3v : b3 = 5 := b3e (by unfold InI; omega)
  subst b3v
  refine Tx.istore_n hC te_39_9 rfl ?_
  refine Tx.iload_n hC te_39_10 rfl ?_
  refine Tx.ldc_w hC (z := 858993459) te_39_11 rfl rfl rfl rfl ?_
  refine Tx.bits hC (f := (fun (x y : Int32) => x &&& y)) te_39_14 (fun _ _ _ _ => Iff.rfl) (fun b4 b4e _ => ?_)
  have b4v : b4 = 1 := b4e.trans (by decide)
  subst b4v
  refine Tx.iload_n hC te_39_15 rfl ?_
  refine Tx.iconst hC te_39_16 rfl ?_
  refine Tx.bits hC (f := (fun (x y : Int32) => (x.toUInt32 >>> (y.toUInt32 &&& Int32.toUInt32 31)).toInt32)) te_39_17 (fun _ _ _ _ => Iff.rfl) (fun b5 b5e _ => ?_)
  have b5v : b5 = 1 := b5e.trans (by decide)
  subst b5v
  refine Tx.ldc_w hC (z := 858993459) te_39_18 rfl rfl rfl rfl ?_
  refine Tx.bits hC (f := (fun (x y : Int32) => x &&& y)) te_39_21 (fun _ _ _ _ => Iff.rfl) (fun b6 b6e _ => ?_)
  have b6v : b6 = 1 := b6e.trans (by decide)
  subst b6v
  refine Tx.iaddW hC te_39_22 (fun b7 _ b7e => ?_)
  have b7v : b7 = 2 := b7e (by unfold InI; omega)
  subst b7v
  refine Tx.istore_n hC te_39_23 rfl ?_
  refine Tx.iload_n hC te_39_24 rfl ?_
  refine Tx.iload_n hC te_39_25 rfl ?_
  refine Tx.iconst hC te_39_26 rfl ?_
  refine Tx.bits hC (f := (fun (x y : Int32) => (x.toUInt32 >>> (y.toUInt32 &&& Int32.toUInt32 31)).toInt32)) te_39_27 (fun _ _ _ _ => Iff.rfl) (fun b8 b8e _ => ?_)
  have b8v : b8 = 0 := b8e.trans (by decide)
  subst b8v
  refine Tx.iaddW hC te_39_28 (fun b9 _ b9e => ?_)
  have b9v : b9 = 2 := b9e (by unfold InI; omega)
  subst b9v
  refine Tx.ldc_w hC (z := 252645135) te_39_29 rfl rfl rfl rfl ?_
  refine Tx.bits hC (f := (fun (x y : Int32) => x &&& y)) te_39_32 (fun _ _ _ _ => Iff.rfl) (fun b10 b10e _ => ?_)
  have b10v : b10 = 2 := b10e.trans (by decide)
  subst b10v
  refine Tx.istore_n hC te_39_33 rfl ?_
  refine Tx.iload_n hC te_39_34 rfl ?_
  refine Tx.iload_n hC te_39_35 rfl ?_
  refine Tx.bipush hC te_39_36 rfl rfl ?_
  refine Tx.bits hC (f := (fun (x y : Int32) => (x.toUInt32 >>> (y.toUInt32 &&& Int32.toUInt32 31)).toInt32)) te_39_38 (fun _ _ _ _ => Iff.rfl) (fun b11 b11e _ => ?_)
  have b11v : b11 = 0 := b11e.trans (by decide)
  subst b11v
  refine Tx.iaddW hC te_39_39 (fun b12 _ b12e => ?_)
  have b12v : b12 = 2 := b12e (by unfold InI; omega)
  subst b12v
  refine Tx.istore_n hC te_39_40 rfl ?_
  refine Tx.iload_n hC te_39_41 rfl ?_
  refine Tx.iload_n hC te_39_42 rfl ?_
  refine Tx.bipush hC te_39_43 rfl rfl ?_
  refine Tx.bits hC (f := (fun (x y : Int32) => (x.toUInt32 >>> (y.toUInt32 &&& Int32.toUInt32 31)).toInt32)) te_39_45 (fun _ _ _ _ => Iff.rfl) (fun b13 b13e _ => ?_)
  have b13v : b13 = 0 := b13e.trans (by decide)
  subst b13v
  refine Tx.iaddW hC te_39_46 (fun b14 _ b14e => ?_)
  have b14v : b14 = 2 := b14e (by unfold InI; omega)
  subst b14v
  refine Tx.istore_n hC te_39_47 rfl ?_
  refine Tx.iload_n hC te_39_48 rfl ?_
  refine Tx.bipush hC te_39_49 rfl rfl ?_
  refine Tx.bits hC (f := (fun (x y : Int32) => x &&& y)) te_39_51 (fun _ _ _ _ => Iff.rfl) (fun b15 b15e _ => ?_)
  have b15v : b15 = 2 := b15e.trans (by decide)
  subst b15v
  exact Tx.ireturn hC te_39_52 rfl (fun _ => H)
theorem f_39_6 {S : Nat × (Nat → Int32)} {n : Nat} {mem : MM} {K : Int → MM → Prop} {E : Nat → MM → Prop} (H : K 2 mem) : CQI (Ex S (n + 1)) 39 [.inl 6] mem K E := by
  refine CY.of (k := 0) mt_39 rfl rfl (fun _ => ?_)
  have hC := Ex.mono S n
  show Tx (Ex S n) S M_39 (kI K E) 0 0 0 [some (.inl 6)] [] mem
  refine Tx.iload_n hC te_39_0 rfl ?_
  refine Tx.iload_n hC te_39_1 rfl ?_
  refine Tx.iconst hC te_39_2 rfl ?_
  refine Tx.bits hC (f := (fun (x y : Int32) => (x.toUInt32 >>> (y.toUInt32 &&& Int32.toUInt32 31)).toInt32)) te_39_3 (fun _ _ _ _ => Iff.rfl) (fun b1 b1e _ => ?_)
  have b1v : b1 = 3 := b1e.trans (by decide)
  subst b1v
  refine Tx.ldc_w hC (z := 1431655765) te_39_4 rfl rfl rfl rfl ?_
  refine Tx.bits hC (f := (fun (x y : Int32) => x &&& y)) te_39_7 (fun _ _ _ _ => Iff.rfl) (fun b2 b2e _ => ?_)
  have b2v : b2 = 1 := b2e.trans (by decide)
  subst b2v
  refine Tx.isubW hC te_39_8 (fun b3 _ b3e => ?_)
  have b3v : b3 = 5 := b3e (by unfold InI; omega)
  subst b3v
  refine Tx.istore_n hC te_39_9 rfl ?_
  refine Tx.iload_n hC te_39_10 rfl ?_
  refine Tx.ldc_w hC (z := 858993459) te_39_11 rfl rfl rfl rfl ?_
  refine Tx.bits hC (f := (fun (x y : Int32) => x &&& y)) te_39_14 (fun _ _ _ _ => Iff.rfl) (fun b4 b4e _ => ?_)
  have b4v : b4 = 1 := b4e.trans (by decide)
  subst b4v
  refine Tx.iload_n hC te_39_15 rfl ?_
  refine Tx.iconst hC te_39_16 rfl ?_
  refine Tx.bits hC (f := (fun (x y : Int32) => (x.toUInt32 >>> (y.toUInt32 &&& Int32.toUInt32 31)).toInt32)) te_39_17 (fun _ _ _ _ => Iff.rfl) (fun b5 b5e _ => ?_)
  have b5v : b5 = 1 := b5e.trans (by decide)
  subst b5v
  refine Tx.ldc_w hC (z := 858993459) te_39_18 rfl rfl rfl rfl ?_
  refine Tx.bits hC (f := (fun (x y : Int32) => x &&& y)) te_39_21 (fun _ _ _ _ => Iff.rfl) (fun b6 b6e _ => ?_)
  have b6v : b6 = 1 := b6e.trans (by decide)
  subst b6v
  refine Tx.iaddW hC te_39_22 (fun b7 _ b7e => ?_)
  have b7v : b7 = 2 := b7e (by unfold InI; omega)
  subst b7v
  refine Tx.istore_n hC te_39_23 rfl ?_
  refine Tx.iload_n hC te_39_24 rfl ?_
  refine Tx.iload_n hC te_39_25 rfl ?_
  refine Tx.iconst hC te_39_26 rfl ?_
  refine Tx.bits hC (f := (fun (x y : Int32) => (x.toUInt32 >>> (y.toUInt32 &&& Int32.toUInt32 31)).toInt32)) te_39_27 (fun _ _ _ _ => Iff.rfl) (fun b8 b8e _ => ?_)
  have b8v : b8 = 0 := b8e.trans (by decide)
  subst b8v
  refine Tx.iaddW hC te_39_28 (fun b9 _ b9e => ?_)
  have b9v : b9 = 2 := b9e (by unfold InI; omega)
  subst b9v
  refine Tx.ldc_w hC (z := 252645135) te_39_29 rfl rfl rfl rfl ?_
  refine Tx.bits hC (f := (fun (x y : Int32) => x &&& y)) te_39_32 (fun _ _ _ _ => Iff.rfl) (fun b10 b10e _ => ?_)
  have b10v : b10 = 2 := b10e.trans (by decide)
  subst b10v
  refine Tx.istore_n hC te_39_33 rfl ?_
  refine Tx.iload_n hC te_39_34 rfl ?_
  refine Tx.iload_n hC te_39_35 rfl ?_
  refine Tx.bipush hC te_39_36 rfl rfl ?_
  refine Tx.bits hC (f := (fun (x y : Int32) => (x.toUInt32 >>> (y.toUInt32 &&& Int32.toUInt32 31)).toInt32)) te_39_38 (fun _ _ _ _ => Iff.rfl) (fun b11 b11e _ => ?_)
  have b11v : b11 = 0 := b11e.trans (by decide)
  subst b11v
  refine Tx.iaddW hC te_39_39 (fun b12 _ b12e => ?_)
  have b12v : b12 = 2 := b12e (by unfold InI; omega)
  subst b12v
  refine Tx.istore_n hC te_39_40 rfl ?_
  refine Tx.iload_n hC te_39_41 rfl ?_
  refine Tx.iload_n hC te_39_42 rfl ?_
  refine Tx.bipush hC te_39_43 rfl rfl ?_
  refine Tx.bits hC (f := (fun (x y : Int32) => (x.toUInt32 >>> (y.toUInt32 &&& Int32.toUInt32 31)).toInt32)) te_39_45 (fun _ _ _ _ => Iff.rfl) (fun b13 b13e _ => ?_)
  have b13v : b13 = 0 := b13e.trans (by decide)
  subst b13v
  refine Tx.iaddW hC te_39_46 (fun b14 _ b14e => ?_)
  have b14v : b14 = 2 := b14e (by unfold InI; omega)
  subst b14v
  refine Tx.istore_n hC te_39_47 rfl ?_
  refine Tx.iload_n hC te_39_48 rfl ?_
  refine Tx.bipush hC te_39_49 rfl rfl ?_
  refine Tx.bits hC (f := (fun (x y : Int32) => x &&& y)) te_39_51 (fun _ _ _ _ => Iff.rfl) (fun b15 b15e _ => ?_)
  have b15v : b15 = 2 := b15e.trans (by decide)
  subst b15v
  exact Tx.ireturn hC te_39_52 rfl (fun _ => H)
theorem f_39_7 {S : Nat × (Nat → Int32)} {n : Nat} {mem : MM} {K : Int → MM → Prop} {E : Nat → MM → Prop} (H : K 3 mem) : CQI (Ex S (n + 1)) 39 [.inl 7] mem K E := by
  refine CY.of (k := 0) mt_39 rfl rfl (fun _ => ?_)
  have hC := Ex.mono S n
  show Tx (Ex S n) S M_39 (kI K E) 0 0 0 [some (.inl 7)] [] mem
  refine Tx.iload_n hC te_39_0 rfl ?_
  refine Tx.iload_n hC te_39_1 rfl ?_
  refine Tx.iconst hC te_39_2 rfl ?_
  refine Tx.bits hC (f := (fun (x y : Int32) => (x.toUInt32 >>> (y.toUInt32 &&& Int32.toUInt32 31)).toInt32)) te_39_3 (fun _ _ _ _ => Iff.rfl) (fun b1 b1e _ => ?_)
  have b1v : b1 = 3 := b1e.trans (by decide)
  subst b1v
  refine Tx.ldc_w hC (z := 1431655765) te_39_4 rfl rfl rfl rfl ?_
  refine Tx.bits hC (f := (fun (x y : Int32) => x &&& y)) te_39_7 (fun _ _ _ _ => Iff.rfl) (fun b2 b2e _ => ?_)
  have b2v : b2 = 1 := b2e.trans (by decide)
  subst b2v
  refine Tx.isubW hC te_39_8 (fun b3 _ b3e => ?_)
  have b3v : b3 = 6 := b3e (by unfold InI; omega)
  subst b3v
  refine Tx.istore_n hC te_39_9 rfl ?_
  refine Tx.iload_n hC te_39_10 rfl ?_
  refine Tx.ldc_w hC (z := 858993459) te_39_11 rfl rfl rfl rfl ?_
  refine Tx.bits hC (f := (fun (x y : Int32) => x &&& y)) te_39_14 (fun _ _ _ _ => Iff.rfl) (fun b4 b4e _ => ?_)
  have b4v : b4 = 2 := b4e.trans (by decide)
  subst b4v
  refine Tx.iload_n hC te_39_15 rfl ?_
  refine Tx.iconst hC te_39_16 rfl ?_
  refine Tx.bits hC (f := (fun (x y : Int32) => (x.toUInt32 >>> (y.toUInt32 &&& Int32.toUInt32 31)).toInt32)) te_39_17 (fun _ _ _ _ => Iff.rfl) (fun b5 b5e _ => ?_)
  have b5v : b5 = 1 := b5e.trans (by decide)
  subst b5v
  refine Tx.ldc_w hC (z := 858993459) te_39_18 rfl rfl rfl rfl ?_
  refine Tx.bits hC (f := (fun (x y : Int32) => x &&& y)) te_39_21 (fun _ _ _ _ => Iff.rfl) (fun b6 b6e _ => ?_)
  have b6v : b6 = 1 := b6e.trans (by decide)
  subst b6v
  refine Tx.iaddW hC te_39_22 (fun b7 _ b7e => ?_)
  have b7v : b7 = 3 := b7e (by unfold InI; omega)
  subst b7v
  refine Tx.istore_n hC te_39_23 rfl ?_
  refine Tx.iload_n hC te_39_24 rfl ?_
  refine Tx.iload_n hC te_39_25 rfl ?_
  refine Tx.iconst hC te_39_26 rfl ?_
  refine Tx.bits hC (f := (fun (x y : Int32) => (x.toUInt32 >>> (y.toUInt32 &&& Int32.toUInt32 31)).toInt32)) te_39_27 (fun _ _ _ _ => Iff.rfl) (fun b8 b8e _ => ?_)
  have b8v : b8 = 0 := b8e.trans (by decide)
  subst b8v
  refine Tx.iaddW hC te_39_28 (fun b9 _ b9e => ?_)
  have b9v : b9 = 3 := b9e (by unfold InI; omega)
  subst b9v
  refine Tx.ldc_w hC (z := 252645135) te_39_29 rfl rfl rfl rfl ?_
  refine Tx.bits hC (f := (fun (x y : Int32) => x &&& y)) te_39_32 (fun _ _ _ _ => Iff.rfl) (fun b10 b10e _ => ?_)
  have b10v : b10 = 3 := b10e.trans (by decide)
  subst b10v
  refine Tx.istore_n hC te_39_33 rfl ?_
  refine Tx.iload_n hC te_39_34 rfl ?_
  refine Tx.iload_n hC te_39_35 rfl ?_
  refine Tx.bipush hC te_39_36 rfl rfl ?_
  refine Tx.bits hC (f := (fun (x y : Int32) => (x.toUInt32 >>> (y.toUInt32 &&& Int32.toUInt32 31)).toInt32)) te_39_38 (fun _ _ _ _ => Iff.rfl) (fun b11 b11e _ => ?_)
  have b11v : b11 = 0 := b11e.trans (by decide)
  subst b11v
  refine Tx.iaddW hC te_39_39 (fun b12 _ b12e => ?_)
  have b12v : b12 = 3 := b12e (by unfold InI; omega)
  subst b12v
  refine Tx.istore_n hC te_39_40 rfl ?_
  refine Tx.iload_n hC te_39_41 rfl ?_
  refine Tx.iload_n hC te_39_42 rfl ?_
  refine Tx.bipush hC te_39_43 rfl rfl ?_
  refine Tx.bits hC (f := (fun (x y : Int32) => (x.toUInt32 >>> (y.toUInt32 &&& Int32.toUInt32 31)).toInt32)) te_39_45 (fun _ _ _ _ => Iff.rfl) (fun b13 b13e _ => ?_)
  have b13v : b13 = 0 := b13e.trans (by decide)
  subst b13v
  refine Tx.iaddW hC te_39_46 (fun b14 _ b14e => ?_)
  have b14v : b14 = 3 := b14e (by unfold InI; omega)
  subst b14v
  refine Tx.istore_n hC te_39_47 rfl ?_
  refine Tx.iload_n hC te_39_48 rfl ?_
  refine Tx.bipush hC te_39_49 rfl rfl ?_
  refine Tx.bits hC (f := (fun (x y : Int32) => x &&& y)) te_39_51 (fun _ _ _ _ => Iff.rfl) (fun b15 b15e _ => ?_)
  have b15v : b15 = 3 := b15e.trans (by decide)
  subst b15v
  exact Tx.ireturn hC te_39_52 rfl (fun _ => H)
theorem f_39_8 {S : Nat × (Nat → Int32)} {n : Nat} {mem : MM} {K : Int → MM → Prop} {E : Nat → MM → Prop} (H : K 1 mem) : CQI (Ex S (n + 1)) 39 [.inl 8] mem K E := by
  refine CY.of (k := 0) mt_39 rfl rfl (fun _ => ?_)
  have hC := Ex.mono S n
  show Tx (Ex S n) S M_39 (kI K E) 0 0 0 [some (.inl 8)] [] mem
  refine Tx.iload_n hC te_39_0 rfl ?_
  refine Tx.iload_n hC te_39_1 rfl ?_
  refine Tx.iconst hC te_39_2 rfl ?_
  refine Tx.bits hC (f := (fun (x y : Int32) => (x.toUInt32 >>> (y.toUInt32 &&& Int32.toUInt32 31)).toInt32)) te_39_3 (fun _ _ _ _ => Iff.rfl) (fun b1 b1e _ => ?_)
  have b1v : b1 = 4 := b1e.trans (by decide)
  subst b1v
  refine Tx.ldc_w hC (z := 1431655765) te_39_4 rfl rfl rfl rfl ?_
  refine Tx.bits hC (f := (fun (x y : Int32) => x &&& y)) te_39_7 (fun _ _ _ _ => Iff.rfl) (fun b2 b2e _ => ?_)
  have b2v : b2 = 4 := b2e.trans (by decide)
  subst b2v
  refine Tx.isubW hC te_39_8 (fun b3 _ b3e => ?_)
  have b3v : b3 = 4 := b3e (by unfold InI; omega)
  subst b3v
  refine Tx.istore_n hC te_39_9 rfl ?_
  refine Tx.iload_n hC te_39_10 rfl ?_
  refine Tx.ldc_w hC (z := 858993459) te_39_11 rfl rfl rfl rfl ?_
  refine Tx.bits hC (f := (fun (x y : Int32) => x &&& y)) te_39_14 (fun _ _ _ _ => Iff.rfl) (fun b4 b4e _ => ?_)
  have b4v : b4 = 0 := b4e.trans (by decide)
  subst b4v
  refine Tx.iload_n hC te_39_15 rfl ?_
  refine Tx.iconst hC te_39_16 rfl ?_
  refine Tx.bits hC (f := (fun (x y : Int32) => (x.toUInt32 >>> (y.toUInt32 &&& Int32.toUInt32 31)).toInt32)) te_39_17 (fun _ _ _ _ => Iff.rfl) (fun b5 b5e _ => ?_)
  have b5v : b5 = 1 := b5e.trans (by decide)
  subst b5v
  refine Tx.ldc_w hC (z := 858993459) te_39_18 rfl rfl rfl rfl ?_
  refine Tx.bits hC (f := (fun (x y : Int32) => x &&& y)) te_39_21 (fun _ _ _ _ => Iff.rfl) (fun b6 b6e _ => ?_)
  have b6v : b6 = 1 := b6e.trans (by decide)
  subst b6v
  refine Tx.iaddW hC te_39_22 (fun b7 _ b7e => ?_)
  have b7v : b7 = 1 := b7e (by unfold InI; omega)
  subst b7v
  refine Tx.istore_n hC te_39_23 rfl ?_
  refine Tx.iload_n hC te_39_24 rfl ?_
  refine Tx.iload_n hC te_39_25 rfl ?_
  refine Tx.iconst hC te_39_26 rfl ?_
  refine Tx.bits hC (f := (fun (x y : Int32) => (x.toUInt32 >>> (y.toUInt32 &&& Int32.toUInt32 31)).toInt32)) te_39_27 (fun _ _ _ _ => Iff.rfl) (fun b8 b8e _ => ?_)
  have b8v : b8 = 0 := b8e.trans (by decide)
  subst b8v
  refine Tx.iaddW hC te_39_28 (fun b9 _ b9e => ?_)
  have b9v : b9 = 1 := b9e (by unfold InI; omega)
  subst b9v
  refine Tx.ldc_w hC (z := 252645135) te_39_29 rfl rfl rfl rfl ?_
  refine Tx.bits hC (f := (fun (x y : Int32) => x &&& y)) te_39_32 (fun _ _ _ _ => Iff.rfl) (fun b10 b10e _ => ?_)
  have b10v : b10 = 1 := b10e.trans (by decide)
  subst b10v
  refine Tx.istore_n hC te_39_33 rfl ?_
  refine Tx.iload_n hC te_39_34 rfl ?_
  refine Tx.iload_n hC te_39_35 rfl ?_
  refine Tx.bipush hC te_39_36 rfl rfl ?_
  refine Tx.bits hC (f := (fun (x y : Int32) => (x.toUInt32 >>> (y.toUInt32 &&& Int32.toUInt32 31)).toInt32)) te_39_38 (fun _ _ _ _ => Iff.rfl) (fun b11 b11e _ => ?_)
  have b11v : b11 = 0 := b11e.trans (by decide)
  subst b11v
  refine Tx.iaddW hC te_39_39 (fun b12 _ b12e => ?_)
  have b12v : b12 = 1 := b12e (by unfold InI; omega)
  subst b12v
  refine Tx.istore_n hC te_39_40 rfl ?_
  refine Tx.iload_n hC te_39_41 rfl ?_
  refine Tx.iload_n hC te_39_42 rfl ?_
  refine Tx.bipush hC te_39_43 rfl rfl ?_
  refine Tx.bits hC (f := (fun (x y : Int32) => (x.toUInt32 >>> (y.toUInt32 &&& Int32.toUInt32 31)).toInt32)) te_39_45 (fun _ _ _ _ => Iff.rfl) (fun b13 b13e _ => ?_)
  have b13v : b13 = 0 := b13e.trans (by decide)
  subst b13v
  refine Tx.iaddW hC te_39_46 (fun b14 _ b14e => ?_)
  have b14v : b14 = 1 := b14e (by unfold InI; omega)
  subst b14v
  refine Tx.istore_n hC te_39_47 rfl ?_
  refine Tx.iload_n hC te_39_48 rfl ?_
  refine Tx.bipush hC te_39_49 rfl rfl ?_
  refine Tx.bits hC (f := (fun (x y : Int32) => x &&& y)) te_39_51 (fun _ _ _ _ => Iff.rfl) (fun b15 b15e _ => ?_)
  have b15v : b15 = 1 := b15e.trans (by decide)
  subst b15v
  exact Tx.ireturn hC te_39_52 rfl (fun _ => H)
theorem f_39_9 {S : Nat × (Nat → Int32)} {n : Nat} {mem : MM} {K : Int → MM → Prop} {E : Nat → MM → Prop} (H : K 2 mem) : CQI (Ex S (n + 1)) 39 [.inl 9] mem K E := by
  refine CY.of (k := 0) mt_39 rfl rfl (fun _ => ?_)
  have hC := Ex.mono S n
  show Tx (Ex S n) S M_39 (kI K E) 0 0 0 [some (.inl 9)] [] mem
  refine Tx.iload_n hC te_39_0 rfl ?_
  refine Tx.iload_n hC te_39_1 rfl ?_
  refine Tx.iconst hC te_39_2 rfl ?_
  refine Tx.bits hC (f := (fun (x y : Int32) => (x.toUInt32 >>> (y.toUInt32 &&& Int32.toUInt32 31)).toInt32)) te_39_3 (fun _ _ _ _ => Iff.rfl) (fun b1 b1e _ => ?_)
  have b1v : b1 = 4 := b1e.trans (by decide)
  subst b1v
  refine Tx.ldc_w hC (z := 1431655765) te_39_4 rfl rfl rfl rfl ?_
  refine Tx.bits hC (f := (fun (x y : Int32) => x &&& y)) te_39_7 (fun _ _ _ _ => Iff.rfl) (fun b2 b2e _ => ?_)
  have b2v : b2 = 4 := b2e.trans (by decide)
  subst b2v
  refine Tx.isubW hC te_39_8 (fun b3 _ b3e => ?_)
  have b3v : b3 = 5 := b3e (by unfold InI; omega)
  subst b3v
  refine Tx.istore_n hC te_39_9 rfl ?_
  refine Tx.iload_n hC te_39_10 rfl ?_
  refine Tx.ldc_w hC (z := 858993459) te_39_11 rfl rfl rfl rfl ?_
  refine Tx.bits hC (f := (fun (x y : Int32) => x &&& y)) te_39_14 (fun _ _ _ _ => Iff.rfl) (fun b4 b4e _ => ?_)
  have b4v : b4 = 1 := b4e.trans (by decide)
  subst b4v
  refine Tx.iload_n hC te_39_15 rfl ?_
  refine Tx.iconst hC te_39_16 rfl ?_
  refine Tx.bits hC (f := (fun (x y : Int32) => (x.toUInt32 >>> (y.toUInt32 &&& Int32.toUInt32 31)).toInt32)) te_39_17 (fun _ _ _ _ => Iff.rfl) (fun b5 b5e _ => ?_)
  have b5v : b5 = 1 := b5e.trans (by decide)
  subst b5v
  refine Tx.ldc_w hC (z := 858993459) te_39_18 rfl rfl rfl rfl ?_
  refine Tx.bits hC (f := (fun (x y : Int32) => x &&& y)) te_39_21 (fun _ _ _ _ => Iff.rfl) (fun b6 b6e _ => ?_)
  have b6v : b6 = 1 := b6e.trans (by decide)
  subst b6v
  refine Tx.iaddW hC te_39_22 (fun b7 _ b7e => ?_)
  have b7v : b7 = 2 := b7e (by unfold InI; omega)
  subst b7v
  refine Tx.istore_n hC te_39_23 rfl ?_
  refine Tx.iload_n hC te_39_24 rfl ?_
  refine Tx.iload_n hC te_39_25 rfl ?_
  refine Tx.iconst hC te_39_26 rfl ?_
  refine Tx.bits hC (f := (fun (x y : Int32) => (x.toUInt32 >>> (y.toUInt32 &&& Int32.toUInt32 31)).toInt32)) te_39_27 (fun _ _ _ _ => Iff.rfl) (fun b8 b8e _ => ?_)
  have b8v : b8 = 0 := b8e.trans (by decide)
  subst b8v
  refine Tx.iaddW hC te_39_28 (fun b9 _ b9e => ?_)
  have b9v : b9 = 2 := b9e (by unfold InI; omega)
  subst b9v
  refine Tx.ldc_w hC (z := 252645135) te_39_29 rfl rfl rfl rfl ?_
  refine Tx.bits hC (f := (fun (x y : Int32) => x &&& y)) te_39_32 (fun _ _ _ _ => Iff.rfl) (fun b10 b10e _ => ?_)
  have b10v : b10 = 2 := b10e.trans (by decide)
  subst b10v
  refine Tx.istore_n hC te_39_33 rfl ?_
  refine Tx.iload_n hC te_39_34 rfl ?_
  refine Tx.iload_n hC te_39_35 rfl ?_
  refine Tx.bipush hC te_39_36 rfl rfl ?_
  refine Tx.bits hC (f := (fun (x y : Int32) => (x.toUInt32 >>> (y.toUInt32 &&& Int32.toUInt32 31)).toInt32)) te_39_38 (fun _ _ _ _ => Iff.rfl) (fun b11 b11e _ => ?_)
  have b11v : b11 = 0 := b11e.trans (by decide)
  subst b11v
  refine Tx.iaddW hC te_39_39 (fun b12 _ b12e => ?_)
  have b12v : b12 = 2 := b12e (by unfold InI; omega)
  subst b12v
  refine Tx.istore_n hC te_39_40 rfl ?_
  refine Tx.iload_n hC te_39_41 rfl ?_
  refine Tx.iload_n hC te_39_42 rfl ?_
  refine Tx.bipush hC te_39_43 rfl rfl ?_
  refine Tx.bits hC (f := (fun (x y : Int32) => (x.toUInt32 >>> (y.toUInt32 &&& Int32.toUInt32 31)).toInt32)) te_39_45 (fun _ _ _ _ => Iff.rfl) (fun b13 b13e _ => ?_)
  have b13v : b13 = 0 := b13e.trans (by decide)
  subst b13v
  refine Tx.iaddW hC te_39_46 (fun b14 _ b14e => ?_)
  have b14v : b14 = 2 := b14e (by unfold InI; omega)
  subst b14v
  refine Tx.istore_n hC te_39_47 rfl ?_
  refine Tx.iload_n hC te_39_48 rfl ?_
  refine Tx.bipush hC te_39_49 rfl rfl ?_
  refine Tx.bits hC (f := (fun (x y : Int32) => x &&& y)) te_39_51 (fun _ _ _ _ => Iff.rfl) (fun b15 b15e _ => ?_)
  have b15v : b15 = 2 := b15e.trans (by decide)
  subst b15v
  exact Tx.ireturn hC te_39_52 rfl (fun _ => H)
theorem f_39_10 {S : Nat × (Nat → Int32)} {n : Nat} {mem : MM} {K : Int → MM → Prop} {E : Nat → MM → Prop} (H : K 2 mem) : CQI (Ex S (n + 1)) 39 [.inl 10] mem K E := by
  refine CY.of (k := 0) mt_39 rfl rfl (fun _ => ?_)
  have hC := Ex.mono S n
  show Tx (Ex S n) S M_39 (kI K E) 0 0 0 [some (.inl 10)] [] mem
  refine Tx.iload_n hC te_39_0 rfl ?_
  refine Tx.iload_n hC te_39_1 rfl ?_
  refine Tx.iconst hC te_39_2 rfl ?_
  refine Tx.bits hC (f := (fun (x y : Int32) => (x.toUInt32 >>> (y.toUInt32 &&& Int32.toUInt32 31)).toInt32)) te_39_3 (fun _ _ _ _ => Iff.rfl) (fun b1 b1e _ => ?_)
  have b1v : b1 = 5 := b1e.trans (by decide)
  subst b1v
  refine Tx.ldc_w hC (z := 1431655765) te_39_4 rfl rfl rfl rfl ?_
  refine Tx.bits hC (f := (fun (x y : Int32) => x &&& y)) te_39_7 (fun _ _ _ _ => Iff.rfl) (fun b2 b2e _ => ?_)
  have b2v : b2 = 5 := b2e.trans (by decide)
  subst b2v
  refine Tx.isubW hC te_39_8 (fun b3 _ b3e => ?_)
  have b3v : b3 = 5 := b3e (by unfold InI; omega)
  subst b3v
  refine Tx.istore_n hC te_39_9 rfl ?_
  refine Tx.iload_n hC te_39_10 rfl ?_
  refine Tx.ldc_w hC (z := 858993459) te_39_11 rfl rfl rfl rfl ?_
  refine Tx.bits hC (f := (fun (x y : Int32) => x &&& y)) te_39_14 (fun _ _ _ _ => Iff.rfl) (fun b4 b4e _ => ?_)
  have b4v : b4 = 1 := b4e.trans (by decide)
  subst b4v
  refine Tx.iload_n hC te_39_15 rfl ?_
  refine Tx.iconst hC te_39_16 rfl ?_
  refine Tx.bits hC (f := (fun (x y : Int32) => (x.toUInt32 >>> (y.toUInt32 &&& Int32.toUInt32 31)).toInt32)) te_39_17 (fun _ _ _ _ => Iff.rfl) (fun b5 b5e _ => ?_)
  have b5v : b5 = 1 := b5e.trans (by decide)
  subst b5v
  refine Tx.ldc_w hC (z := 858993459) te_39_18 rfl rfl rfl rfl ?_
  refine Tx.bits hC (f := (fun (x y : Int32) => x &&& y)) te_39_21 (fun _ _ _ _ => Iff.rfl) (fun b6 b6e _ => ?_)
  have b6v : b6 = 1 := b6e.trans (by decide)
  subst b6v
  refine Tx.iaddW hC te_39_22 (fun b7 _ b7e => ?_)
  have b7v : b7 = 2 := b7e (by unfold InI; omega)
  subst b7v
  refine Tx.istore_n hC te_39_23 rfl ?_
  refine Tx.iload_n hC te_39_24 rfl ?_
  refine Tx.iload_n hC te_39_25 rfl ?_
  refine Tx.iconst hC te_39_26 rfl ?_
  refine Tx.bits hC (f := (fun (x y : Int32) => (x.toUInt32 >>> (y.toUInt32 &&& Int32.toUInt32 31)).toInt32)) te_39_27 (fun _ _ _ _ => Iff.rfl) (fun b8 b8e _ => ?_)
  have b8v : b8 = 0 := b8e.trans (by decide)
  subst b8v
  refine Tx.iaddW hC te_39_28 (fun b9 _ b9e => ?_)
  have b9v : b9 = 2 := b9e (by unfold InI; omega)
  subst b9v
  refine Tx.ldc_w hC (z := 252645135) te_39_29 rfl rfl rfl rfl ?_
  refine Tx.bits hC (f := (fun (x y : Int32) => x &&& y)) te_39_32 (fun _ _ _ _ => Iff.rfl) (fun b10 b10e _ => ?_)
  have b10v : b10 = 2 := b10e.trans (by decide)
  subst b10v
  refine Tx.istore_n hC te_39_33 rfl ?_
  refine Tx.iload_n hC te_39_34 rfl ?_
  refine Tx.iload_n hC te_39_35 rfl ?_
  refine Tx.bipush hC te_39_36 rfl rfl ?_
  refine Tx.bits hC (f := (fun (x y : Int32) => (x.toUInt32 >>> (y.toUInt32 &&& Int32.toUInt32 31)).toInt32)) te_39_38 (fun _ _ _ _ => Iff.rfl) (fun b11 b11e _ => ?_)
  have b11v : b11 = 0 := b11e.trans (by decide)
  subst b11v
  refine Tx.iaddW hC te_39_39 (fun b12 _ b12e => ?_)
  have b12v : b12 = 2 := b12e (by unfold InI; omega)
  subst b12v
  refine Tx.istore_n hC te_39_40 rfl ?_
  refine Tx.iload_n hC te_39_41 rfl ?_
  refine Tx.iload_n hC te_39_42 rfl ?_
  refine Tx.bipush hC te_39_43 rfl rfl ?_
  refine Tx.bits hC (f := (fun (x y : Int32) => (x.toUInt32 >>> (y.toUInt32 &&& Int32.toUInt32 31)).toInt32)) te_39_45 (fun _ _ _ _ => Iff.rfl) (fun b13 b13e _ => ?_)
  have b13v : b13 = 0 := b13e.trans (by decide)
  subst b13v
  refine Tx.iaddW hC te_39_46 (fun b14 _ b14e => ?_)
  have b14v : b14 = 2 := b14e (by unfold InI; omega)
  subst b14v
  refine Tx.istore_n hC te_39_47 rfl ?_
  refine Tx.iload_n hC te_39_48 rfl ?_
  refine Tx.bipush hC te_39_49 rfl rfl ?_
  refine Tx.bits hC (f := (fun (x y : Int32) => x &&& y)) te_39_51 (fun _ _ _ _ => Iff.rfl) (fun b15 b15e _ => ?_)
  have b15v : b15 = 2 := b15e.trans (by decide)
  subst b15v
  exact Tx.ireturn hC te_39_52 rfl (fun _ => H)
theorem f_39_11 {S : Nat × (Nat → Int32)} {n : Nat} {mem : MM} {K : Int → MM → Prop} {E : Nat → MM → Prop} (H : K 3 mem) : CQI (Ex S (n + 1)) 39 [.inl 11] mem K E := by
  refine CY.of (k := 0) mt_39 rfl rfl (fun _ => ?_)
  have hC := Ex.mono S n
  show Tx (Ex S n) S M_39 (kI K E) 0 0 0 [some (.inl 11)] [] mem
  refine Tx.iload_n hC te_39_0 rfl ?_
  refine Tx.iload_n hC te_39_1 rfl ?_
  refine Tx.iconst hC te_39_2 rfl ?_
  refine Tx.bits hC (f := (fun (x y : Int32) => (x.toUInt32 >>> (y.toUInt32 &&& Int32.toUInt32 31)).toInt32)) te_39_3 (fun _ _ _ _ => Iff.rfl) (fun b1 b1e _ => ?_)
  have b1v : b1 = 5 := b1e.trans (by decide)
  subst b1v
  refine Tx.ldc_w hC (z := 1431655765) te_39_4 rfl rfl rfl rfl ?_
  refine Tx.bits hC (f := (fun (x y : Int32) => x &&& y)) te_39_7 (fun _ _ _ _ => Iff.rfl) (fun b2 b2e _ => ?_)
  have b2v : b2 = 5 := b2e.trans (by decide)
  subst b2v
  refine Tx.isubW hC te_39_8 (fun b3 _ b3e => ?_)
  have b3v : b3 = 6 := b3e (by unfold InI; omega)
  subst b3v
  refine Tx.istore_n hC te_39_9 rfl ?_
  refine Tx.iload_n hC te_39_10 rfl ?_
  refine Tx.ldc_w hC (z := 858993459) te_39_11 rfl rfl rfl rfl ?_
  refine Tx.bits hC (f := (fun (x y : Int32) => x &&& y)) te_39_14 (fun _ _ _ _ => Iff.rfl) (fun b4 b4e _ => ?_)
  have b4v : b4 = 2 := b4e.trans (by decide)
  subst b4v
  refine Tx.iload_n hC te_39_15 rfl ?_
  refine Tx.iconst hC te_39_16 rfl ?_
  refine Tx.bits hC (f := (fun (x y : Int32) => (x.toUInt32 >>> (y.toUInt32 &&& Int32.toUInt32 31)).toInt32)) te_39_17 (fun _ _ _ _ => Iff.rfl) (fun b5 b5e _ => ?_)
  have b5v : b5 = 1 := b5e.trans (by decide)
  subst b5v
  refine Tx.ldc_w hC (z := 858993459) te_39_18 rfl rfl rfl rfl ?_
  refine Tx.bits hC (f := (fun (x y : Int32) => x &&& y)) te_39_21 (fun _ _ _ _ => Iff.rfl) (fun b6 b6e _ => ?_)
  have b6v : b6 = 1 := b6e.trans (by decide)
  subst b6v
  refine Tx.iaddW hC te_39_22 (fun b7 _ b7e => ?_)
  have b7v : b7 = 3 := b7e (by unfold InI; omega)
  subst b7v
  refine Tx.istore_n hC te_39_23 rfl ?_
  refine Tx.iload_n hC te_39_24 rfl ?_
  refine Tx.iload_n hC te_39_25 rfl ?_
  refine Tx.iconst hC te_39_26 rfl ?_
  refine Tx.bits hC (f := (fun (x y : Int32) => (x.toUInt32 >>> (y.toUInt32 &&& Int32.toUInt32 31)).toInt32)) te_39_27 (fun _ _ _ _ => Iff.rfl) (fun b8 b8e _ => ?_)
  have b8v : b8 = 0 := b8e.trans (by decide)
  subst b8v
  refine Tx.iaddW hC te_39_28 (fun b9 _ b9e => ?_)
  have b9v : b9 = 3 := b9e (by unfold InI; omega)
  subst b9v
  refine Tx.ldc_w hC (z := 252645135) te_39_29 rfl rfl rfl rfl ?_
  refine Tx.bits hC (f := (fun (x y : Int32) => x &&& y)) te_39_32 (fun _ _ _ _ => Iff.rfl) (fun b10 b10e _ => ?_)
  have b10v : b10 = 3 := b10e.trans (by decide)
  subst b10v
  refine Tx.istore_n hC te_39_33 rfl ?_
  refine Tx.iload_n hC te_39_34 rfl ?_
  refine Tx.iload_n hC te_39_35 rfl ?_
  refine Tx.bipush hC te_39_36 rfl rfl ?_
  refine Tx.bits hC (f := (fun (x y : Int32) => (x.toUInt32 >>> (y.toUInt32 &&& Int32.toUInt32 31)).toInt32)) te_39_38 (fun _ _ _ _ => Iff.rfl) (fun b11 b11e _ => ?_)
  have b11v : b11 = 0 := b11e.trans (by decide)
  subst b11v
  refine Tx.iaddW hC te_39_39 (fun b12 _ b12e => ?_)
  have b12v : b12 = 3 := b12e (by unfold InI; omega)
  subst b12v
  refine Tx.istore_n hC te_39_40 rfl ?_
  refine Tx.iload_n hC te_39_41 rfl ?_
  refine Tx.iload_n hC te_39_42 rfl ?_
  refine Tx.bipush hC te_39_43 rfl rfl ?_
  refine Tx.bits hC (f := (fun (x y : Int32) => (x.toUInt32 >>> (y.toUInt32 &&& Int32.toUInt32 31)).toInt32)) te_39_45 (fun _ _ _ _ => Iff.rfl) (fun b13 b13e _ => ?_)
  have b13v : b13 = 0 := b13e.trans (by decide)
  subst b13v
  refine Tx.iaddW hC te_39_46 (fun b14 _ b14e => ?_)
  have b14v : b14 = 3 := b14e (by unfold InI; omega)
  subst b14v
  refine Tx.istore_n hC te_39_47 rfl ?_
  refine Tx.iload_n hC te_39_48 rfl ?_
  refine Tx.bipush hC te_39_49 rfl rfl ?_
  refine Tx.bits hC (f := (fun (x y : Int32) => x &&& y)) te_39_51 (fun _ _ _ _ => Iff.rfl) (fun b15 b15e _ => ?_)
  have b15v : b15 = 3 := b15e.trans (by decide)
  subst b15v
  exact Tx.ireturn hC te_39_52 rfl (fun _ => H)
theorem f_39_12 {S : Nat × (Nat → Int32)} {n : Nat} {mem : MM} {K : Int → MM → Prop} {E : Nat → MM → Prop} (H : K 2 mem) : CQI (Ex S (n + 1)) 39 [.inl 12] mem K E := by
  refine CY.of (k := 0) mt_39 rfl rfl (fun _ => ?_)
  have hC := Ex.mono S n
  show Tx (Ex S n) S M_39 (kI K E) 0 0 0 [some (.inl 12)] [] mem
  refine Tx.iload_n hC te_39_0 rfl ?_
  refine Tx.iload_n hC te_39_1 rfl ?_
  refine Tx.iconst hC te_39_2 rfl ?_
  refine Tx.bits hC (f := (fun (x y : Int32) => (x.toUInt32 >>> (y.toUInt32 &&& Int32.toUInt32 31)).toInt32)) te_39_3 (fun _ _ _ _ => Iff.rfl) (fun b1 b1e _ => ?_)
  have b1v : b1 = 6 := b1e.trans (by decide)
  subst b1v
  refine Tx.ldc_w hC (z := 1431655765) te_39_4 rfl rfl rfl rfl ?_
  refine Tx.bits hC (f := (fun (x y : Int32) => x &&& y)) te_39_7 (fun _ _ _ _ => Iff.rfl) (fun b2 b2e _ => ?_)
  have b2v : b2 = 4 := b2e.trans (by decide)
  subst b2v
  refine Tx.isubW hC te_39_8 (fun b3 _ b3e => ?_)
  have b3v : b3 = 8 := b3e (by unfold InI; omega)
  subst b3v
  refine Tx.istore_n hC te_39_9 rfl ?_
  refine Tx.iload_n hC te_39_10 rfl ?_
  refine Tx.ldc_w hC (z := 858993459) te_39_11 rfl rfl rfl rfl ?_
  refine Tx.bits hC (f := (fun (x y : Int32) => x &&& y)) te_39_14 (fun _ _ _ _ => Iff.rfl) (fun b4 b4e _ => ?_)
  have b4v : b4 = 0 := b4e.trans (by decide)
  subst b4v
  refine Tx.iload_n hC te_39_15 rfl ?_
  refine Tx.iconst hC te_39_16 rfl ?_
  refine Tx.bits hC (f := (fun (x y : Int32) => (x.toUInt32 >>> (y.toUInt32 &&& Int32.toUInt32 31)).toInt32)) te_39_17 (fun _ _ _ _ => Iff.rfl) (fun b5 b5e _ => ?_)
  have b5v : b5 = 2 := b5e.trans (by decide)
  subst b5v
  refine Tx.ldc_w hC (z := 858993459) te_39_18 rfl rfl rfl rfl ?_
  refine Tx.bits hC (f := (fun (x y : Int32) => x &&& y)) te_39_21 (fun _ _ _ _ => Iff.rfl) (fun b6 b6e _ => ?_)
  have b6v : b6 = 2 := b6e.trans (by decide)
  subst b6v
  refine Tx.iaddW hC te_39_22 (fun b7 _ b7e => ?_)
  have b7v : b7 = 2 := b7e (by unfold InI; omega)
  subst b7v
  refine Tx.istore_n hC te_39_23 rfl ?_
  refine Tx.iload_n hC te_39_24 rfl ?_
  refine Tx.iload_n hC te_39_25 rfl ?_
  refine Tx.iconst hC te_39_26 rfl ?_
  refine Tx.bits hC (f := (fun (x y : Int32) => (x.toUInt32 >>> (y.toUInt32 &&& Int32.toUInt32 31)).toInt32)) te_39_27 (fun _ _ _ _ => Iff.rfl) (fun b8 b8e _ => ?_)
  have b8v : b8 = 0 := b8e.trans (by decide)
  subst b8v
  refine Tx.iaddW hC te_39_28 (fun b9 _ b9e => ?_)
  have b9v : b9 = 2 := b9e (by unfold InI; omega)
  subst b9v
  refine Tx.ldc_w hC (z := 252645135) te_39_29 rfl rfl rfl rfl ?_
  refine Tx.bits hC (f := (fun (x y : Int32) => x &&& y)) te_39_32 (fun _ _ _ _ => Iff.rfl) (fun b10 b10e _ => ?_)
  have b10v : b10 = 2 := b10e.trans (by decide)
  subst b10v
  refine Tx.istore_n hC te_39_33 rfl ?_
  refine Tx.iload_n hC te_39_34 rfl ?_
  refine Tx.iload_n hC te_39_35 rfl ?_
  refine Tx.bipush hC te_39_36 rfl rfl ?_
  refine Tx.bits hC (f := (fun (x y : Int32) => (x.toUInt32 >>> (y.toUInt32 &&& Int32.toUInt32 31)).toInt32)) te_39_38 (fun _ _ _ _ => Iff.rfl) (fun b11 b11e _ => ?_)
  have b11v : b11 = 0 := b11e.trans (by decide)
  subst b11v
  refine Tx.iaddW hC te_39_39 (fun b12 _ b12e => ?_)
  have b12v : b12 = 2 := b12e (by unfold InI; omega)
  subst b12v
  refine Tx.istore_n hC te_39_40 rfl ?_
  refine Tx.iload_n hC te_39_41 rfl ?_
  refine Tx.iload_n hC te_39_42 rfl ?_
  refine Tx.bipush hC te_39_43 rfl rfl ?_
  refine Tx.bits hC (f := (fun (x y : Int32) => (x.toUInt32 >>> (y.toUInt32 &&& Int32.toUInt32 31)).toInt32)) te_39_45 (fun _ _ _ _ => Iff.rfl) (fun b13 b13e _ => ?_)
  have b13v : b13 = 0 := b13e.trans (by decide)
  subst b13v
  refine Tx.iaddW hC te_39_46 (fun b14 _ b14e => ?_)
  have b14v : b14 = 2 := b14e (by unfold InI; omega)
  subst b14v
  refine Tx.istore_n hC te_39_47 rfl ?_
  refine Tx.iload_n hC te_39_48 rfl ?_
  refine Tx.bipush hC te_39_49 rfl rfl ?_
  refine Tx.bits hC (f := (fun (x y : Int32) => x &&& y)) te_39_51 (fun _ _ _ _ => Iff.rfl) (fun b15 b15e _ => ?_)
  have b15v : b15 = 2 := b15e.trans (by decide)
  subst b15v
  exact Tx.ireturn hC te_39_52 rfl (fun _ => H)
theorem f_39_13 {S : Nat × (Nat → Int32)} {n : Nat} {mem : MM} {K : Int → MM → Prop} {E : Nat → MM → Prop} (H : K 3 mem) : CQI (Ex S (n + 1)) 39 [.inl 13] mem K E := by
  refine CY.of (k := 0) mt_39 rfl rfl (fun _ => ?_)
  have hC := Ex.mono S n
  show Tx (Ex S n) S M_39 (kI K E) 0 0 0 [some (.inl 13)] [] mem
  refine Tx.iload_n hC te_39_0 rfl ?_
  refine Tx.iload_n hC te_39_1 rfl ?_
  refine Tx.iconst hC te_39_2 rfl ?_
  refine Tx.bits hC (f := (fun (x y : Int32) => (x.toUInt32 >>> (y.toUInt32 &&& Int32.toUInt32 31)).toInt32)) te_39_3 (fun _ _ _ _ => Iff.rfl) (fun b1 b1e _ => ?_)
  have b1v : b1 = 6 := b1e.trans (by decide)
  subst b1v
  refine Tx.ldc_w hC (z := 1431655765) te_39_4 rfl rfl rfl rfl ?_
  refine Tx.bits hC (f := (fun (x y : Int32) => x &&& y)) te_39_7 (fun _ _ _ _ => Iff.rfl) (fun b2 b2e _ => ?_)
  have b2v : b2 = 4 := b2e.trans (by decide)
  subst b2v
  refine Tx.isubW hC te_39_8 (fun b3 _ b3e => ?_)
  have b3v : b3 = 9 := b3e (by unfold InI; omega)
  subst b3v
  refine Tx.istore_n hC te_39_9 rfl ?_
  refine Tx.iload_n hC te_39_10 rfl ?_
  refine Tx.ldc_w hC (z := 858993459) te_39_11 rfl rfl rfl rfl ?_
  refine Tx.bits hC (f := (fun (x y : Int32) => x &&& y)) te_39_14 (fun _ _ _ _ => Iff.rfl) (fun b4 b4e _ => ?_)
  have b4v : b4 = 1 := b4e.trans (by decide)
  subst b4v
  refine Tx.iload_n hC te_39_15 rfl ?_
  refine Tx.iconst hC te_39_16 rfl ?_
  refine Tx.bits hC (f := (fun (x y : Int32) => (x.toUInt32 >>> (y.toUInt32 &&& Int32.toUInt32 31)).toInt32)) te_39_17 (fun _ _ _ _ => Iff.rfl) (fun b5 b5e _ => ?_)
  have b5v : b5 = 2 := b5e.trans (by decide)
  subst b5v
  refine Tx.ldc_w hC (z := 858993459) te_39_18 rfl rfl rfl rfl ?_
  refine Tx.bits hC (f := (fun (x y : Int32) => x &&& y)) te_39_21 (fun _ _ _ _ => Iff.rfl) (fun b6 b6e _ => ?_)
  have b6v : b6 = 2 := b6e.trans (by decide)
  subst b6v
  refine Tx.iaddW hC te_39_22 (fun b7 _ b7e => ?_)
  have b7v : b7 = 3 := b7e (by unfold InI; omega)
  subst b7v
  refine Tx.istore_n hC te_39_23 rfl ?_
  refine Tx.iload_n hC te_39_24 rfl ?_
  refine Tx.iload_n hC te_39_25 rfl ?_
  refine Tx.iconst hC te_39_26 rfl ?_
  refine Tx.bits hC (f := (fun (x y : Int32) => (x.toUInt32 >>> (y.toUInt32 &&& Int32.toUInt32 31)).toInt32)) te_39_27 (fun _ _ _ _ => Iff.rfl) (fun b8 b8e _ => ?_)
  have b8v : b8 = 0 := b8e.trans (by decide)
  subst b8v
  refine Tx.iaddW hC te_39_28 (fun b9 _ b9e => ?_)
  have b9v : b9 = 3 := b9e (by unfold InI; omega)
  subst b9v
  refine Tx.ldc_w hC (z := 252645135) te_39_29 rfl rfl rfl rfl ?_
  refine Tx.bits hC (f := (fun (x y : Int32) => x &&& y)) te_39_32 (fun _ _ _ _ => Iff.rfl) (fun b10 b10e _ => ?_)
  have b10v : b10 = 3 := b10e.trans (by decide)
  subst b10v
  refine Tx.istore_n hC te_39_33 rfl ?_
  refine Tx.iload_n hC te_39_34 rfl ?_
  refine Tx.iload_n hC te_39_35 rfl ?_
  refine Tx.bipush hC te_39_36 rfl rfl ?_
  refine Tx.bits hC (f := (fun (x y : Int32) => (x.toUInt32 >>> (y.toUInt32 &&& Int32.toUInt32 31)).toInt32)) te_39_38 (fun _ _ _ _ => Iff.rfl) (fun b11 b11e _ => ?_)
  have b11v : b11 = 0 := b11e.trans (by decide)
  subst b11v
  refine Tx.iaddW hC te_39_39 (fun b12 _ b12e => ?_)
  have b12v : b12 = 3 := b12e (by unfold InI; omega)
  subst b12v
  refine Tx.istore_n hC te_39_40 rfl ?_
  refine Tx.iload_n hC te_39_41 rfl ?_
  refine Tx.iload_n hC te_39_42 rfl ?_
  refine Tx.bipush hC te_39_43 rfl rfl ?_
  refine Tx.bits hC (f := (fun (x y : Int32) => (x.toUInt32 >>> (y.toUInt32 &&& Int32.toUInt32 31)).toInt32)) te_39_45 (fun _ _ _ _ => Iff.rfl) (fun b13 b13e _ => ?_)
  have b13v : b13 = 0 := b13e.trans (by decide)
  subst b13v
  refine Tx.iaddW hC te_39_46 (fun b14 _ b14e => ?_)
  have b14v : b14 = 3 := b14e (by unfold InI; omega)
  subst b14v
  refine Tx.istore_n hC te_39_47 rfl ?_
  refine Tx.iload_n hC te_39_48 rfl ?_
  refine Tx.bipush hC te_39_49 rfl rfl ?_
  refine Tx.bits hC (f := (fun (x y : Int32) => x &&& y)) te_39_51 (fun _ _ _ _ => Iff.rfl) (fun b15 b15e _ => ?_)
  have b15v : b15 = 3 := b15e.trans (by decide)
  subst b15v
  exact Tx.ireturn hC te_39_52 rfl (fun _ => H)
theorem f_39_14 {S : Nat × (Nat → Int32)} {n : Nat} {mem : MM} {K : Int → MM → Prop} {E : Nat → MM → Prop} (H : K 3 mem) : CQI (Ex S (n + 1)) 39 [.inl 14] mem K E := by
  refine CY.of (k := 0) mt_39 rfl rfl (fun _ => ?_)
  have hC := Ex.mono S n
  show Tx (Ex S n) S M_39 (kI K E) 0 0 0 [some (.inl 14)] [] mem
  refine Tx.iload_n hC te_39_0 rfl ?_
  refine Tx.iload_n hC te_39_1 rfl ?_
  refine Tx.iconst hC te_39_2 rfl ?_
  refine Tx.bits hC (f := (fun (x y : Int32) => (x.toUInt32 >>> (y.toUInt32 &&& Int32.toUInt32 31)).toInt32)) te_39_3 (fun _ _ _ _ => Iff.rfl) (fun b1 b1e _ => ?_)
  have b1v : b1 = 7 := b1e.trans (by decide)
  subst b1v
  refine Tx.ldc_w hC (z := 1431655765) te_39_4 rfl rfl rfl rfl ?_
  refine Tx.bits hC (f := (fun (x y : Int32) => x &&& y)) te_39_7 (fun _ _ _ _ => Iff.rfl) (fun b2 b2e _ => ?_)
  have b2v : b2 = 5 := b2e.trans (by decide)
  subst b2v
  refine Tx.isubW hC te_39_8 (fun b3 _ b3e => ?_)
  have b3v : b3 = 9 := b3e (by unfold InI; omega)
  subst b3v
  refine Tx.istore_n hC te_39_9 rfl ?_
  refine Tx.iload_n hC te_39_10 rfl ?_
  refine Tx.ldc_w hC (z := 858993459) te_39_11 rfl rfl rfl rfl ?_
  refine Tx.bits hC (f := (fun (x y : Int32) => x &&& y)) te_39_14 (fun _ _ _ _ => Iff.rfl) (fun b4 b4e _ => ?_)
  have b4v : b4 = 1 := b4e.trans (by decide)
  subst b4v
  refine Tx.iload_n hC te_39_15 rfl ?_
  refine Tx.iconst hC te_39_16 rfl ?_
  refine Tx.bits hC (f := (fun (x y : Int32) => (x.toUInt32 >>> (y.toUInt32 &&& Int32.toUInt32 31)).toInt32)) te_39_17 (fun _ _ _ _ => Iff.rfl) (fun b5 b5e _ => ?_)
  have b5v : b5 = 2 := b5e.trans (by decide)
  subst b5v
  refine Tx.ldc_w hC (z := 858993459) te_39_18 rfl rfl rfl rfl ?_
  refine Tx.bits hC (f := (fun (x y : Int32) => x &&& y)) te_39_21 (fun _ _ _ _ => Iff.rfl) (fun b6 b6e _ => ?_)
  have b6v : b6 = 2 := b6e.trans (by decide)
  subst b6v
  refine Tx.iaddW hC te_39_22 (fun b7 _ b7e => ?_)
  have b7v : b7 = 3 := b7e (by unfold InI; omega)
  subst b7v
  refine Tx.istore_n hC te_39_23 rfl ?_
  refine Tx.iload_n hC te_39_24 rfl ?_
  refine Tx.iload_n hC te_39_25 rfl ?_
  refine Tx.iconst hC te_39_26 rfl ?_
  refine Tx.bits hC (f := (fun (x y : Int32) => (x.toUInt32 >>> (y.toUInt32 &&& Int32.toUInt32 31)).toInt32)) te_39_27 (fun _ _ _ _ => Iff.rfl) (fun b8 b8e _ => ?_)
  have b8v : b8 = 0 := b8e.trans (by decide)
  subst b8v
  refine Tx.iaddW hC te_39_28 (fun b9 _ b9e => ?_)
  have b9v : b9 = 3 := b9e (by unfold InI; omega)
  subst b9v
  refine Tx.ldc_w hC (z := 252645135) te_39_29 rfl rfl rfl rfl ?_
  refine Tx.bits hC (f := (fun (x y : Int32) => x &&& y)) te_39_32 (fun _ _ _ _ => Iff.rfl) (fun b10 b10e _ => ?_)
  have b10v : b10 = 3 := b10e.trans (by decide)
  subst b10v
  refine Tx.istore_n hC te_39_33 rfl ?_
  refine Tx.iload_n hC te_39_34 rfl ?_
  refine Tx.iload_n hC te_39_35 rfl ?_
  refine Tx.bipush hC te_39_36 rfl rfl ?_
  refine Tx.bits hC (f := (fun (x y : Int32) => (x.toUInt32 >>> (y.toUInt32 &&& Int32.toUInt32 31)).toInt32)) te_39_38 (fun _ _ _ _ => Iff.rfl) (fun b11 b11e _ => ?_)
  have b11v : b11 = 0 := b11e.trans (by decide)
  subst b11v
  refine Tx.iaddW hC te_39_39 (fun b12 _ b12e => ?_)
  have b12v : b12 = 3 := b12e (by unfold InI; omega)
  subst b12v
  refine Tx.istore_n hC te_39_40 rfl ?_
  refine Tx.iload_n hC te_39_41 rfl ?_
  refine Tx.iload_n hC te_39_42 rfl ?_
  refine Tx.bipush hC te_39_43 rfl rfl ?_
  refine Tx.bits hC (f := (fun (x y : Int32) => (x.toUInt32 >>> (y.toUInt32 &&& Int32.toUInt32 31)).toInt32)) te_39_45 (fun _ _ _ _ => Iff.rfl) (fun b13 b13e _ => ?_)
  have b13v : b13 = 0 := b13e.trans (by decide)
  subst b13v
  refine Tx.iaddW hC te_39_46 (fun b14 _ b14e => ?_)
  have b14v : b14 = 3 := b14e (by unfold InI; omega)
  subst b14v
  refine Tx.istore_n hC te_39_47 rfl ?_
  refine Tx.iload_n hC te_39_48 rfl ?_
  refine Tx.bipush hC te_39_49 rfl rfl ?_
  refine Tx.bits hC (f := (fun (x y : Int32) => x &&& y)) te_39_51 (fun _ _ _ _ => Iff.rfl) (fun b15 b15e _ => ?_)
  have b15v : b15 = 3 := b15e.trans (by decide)
  subst b15v
  exact Tx.ireturn hC te_39_52 rfl (fun _ => H)
theorem f_39_15 {S : Nat × (Nat → Int32)} {n : Nat} {mem : MM} {K : Int → MM → Prop} {E : Nat → MM → Prop} (H : K 4 mem) : CQI (Ex S (n + 1)) 39 [.inl 15] mem K E := by
  refine CY.of (k := 0) mt_39 rfl rfl (fun _ => ?_)
  have hC := Ex.mono S n
  show Tx (Ex S n) S M_39 (kI K E) 0 0 0 [some (.inl 15)] [] mem
  refine Tx.iload_n hC te_39_0 rfl ?_
  refine Tx.iload_n hC te_39_1 rfl ?_
  refine Tx.iconst hC te_39_2 rfl ?_
  refine Tx.bits hC (f := (fun (x y : Int32) => (x.toUInt32 >>> (y.toUInt32 &&& Int32.toUInt32 31)).toInt32)) te_39_3 (fun _ _ _ _ => Iff.rfl) (fun b1 b1e _ => ?_)
  have b1v : b1 = 7 := b1e.trans (by decide)
  subst b1v
  refine Tx.ldc_w hC (z := 1431655765) te_39_4 rfl rfl rfl rfl ?_
  refine Tx.bits hC (f := (fun (x y : Int32) => x &&& y)) te_39_7 (fun _ _ _ _ => Iff.rfl) (fun b2 b2e _ => ?_)
  have b2v : b2 = 5 := b2e.trans (by decide)
  subst b2v
  refine Tx.isubW hC te_39_8 (fun b3 _ b3e => ?_)
  have b3v : b3 = 10 := b3e (by unfold InI; omega)
  subst b3v
  refine Tx.istore_n hC te_39_9 rfl ?_
  refine Tx.iload_n hC te_39_10 rfl ?_
  refine Tx.ldc_w hC (z := 858993459) te_39_11 rfl rfl rfl rfl ?_
  refine Tx.bits hC (f := (fun (x y : Int32) => x &&& y)) te_39_14 (fun _ _ _ _ => Iff.rfl) (fun b4 b4e _ => ?_)
  have b4v : b4 = 2 := b4e.trans (by decide)
  subst b4v
  refine Tx.iload_n hC te_39_15 rfl ?_
  refine Tx.iconst hC te_39_16 rfl ?_
  refine Tx.bits hC (f := (fun (x y : Int32) => (x.toUInt32 >>> (y.toUInt32 &&& Int32.toUInt32 31)).toInt32)) te_39_17 (fun _ _ _ _ => Iff.rfl) (fun b5 b5e _ => ?_)
  have b5v : b5 = 2 := b5e.trans (by decide)
  subst b5v
  refine Tx.ldc_w hC (z := 858993459) te_39_18 rfl rfl rfl rfl ?_
  refine Tx.bits hC (f := (fun (x y : Int32) => x &&& y)) te_39_21 (fun _ _ _ _ => Iff.rfl) (fun b6 b6e _ => ?_)
  have b6v : b6 = 2 := b6e.trans (by decide)
  subst b6v
  refine Tx.iaddW hC te_39_22 (fun b7 _ b7e => ?_)
  have b7v : b7 = 4 := b7e (by unfold InI; omega)
  subst b7v
  refine Tx.istore_n hC te_39_23 rfl ?_
  refine Tx.iload_n hC te_39_24 rfl ?_
  refine Tx.iload_n hC te_39_25 rfl ?_
  refine Tx.iconst hC te_39_26 rfl ?_
  refine Tx.bits hC (f := (fun (x y : Int32) => (x.toUInt32 >>> (y.toUInt32 &&& Int32.toUInt32 31)).toInt32)) te_39_27 (fun _ _ _ _ => Iff.rfl) (fun b8 b8e _ => ?_)
  have b8v : b8 = 0 := b8e.trans (by decide)
  subst b8v
  refine Tx.iaddW hC te_39_28 (fun b9 _ b9e => ?_)
  have b9v : b9 = 4 := b9e (by unfold InI; omega)
  subst b9v
  refine Tx.ldc_w hC (z := 252645135) te_39_29 rfl rfl rfl rfl ?_
  refine Tx.bits hC (f := (fun (x y : Int32) => x &&& y)) te_39_32 (fun _ _ _ _ => Iff.rfl) (fun b10 b10e _ => ?_)
  have b10v : b10 = 4 := b10e.trans (by decide)
  subst b10v
  refine Tx.istore_n hC te_39_33 rfl ?_
  refine Tx.iload_n hC te_39_34 rfl ?_
  refine Tx.iload_n hC te_39_35 rfl ?_
  refine Tx.bipush hC te_39_36 rfl rfl ?_
  refine Tx.bits hC (f := (fun (x y : Int32) => (x.toUInt32 >>> (y.toUInt32 &&& Int32.toUInt32 31)).toInt32)) te_39_38 (fun _ _ _ _ => Iff.rfl) (fun b11 b11e _ => ?_)
  have b11v : b11 = 0 := b11e.trans (by decide)
  subst b11v
  refine Tx.iaddW hC te_39_39 (fun b12 _ b12e => ?_)
  have b12v : b12 = 4 := b12e (by unfold InI; omega)
  subst b12v
  refine Tx.istore_n hC te_39_40 rfl ?_
  refine Tx.iload_n hC te_39_41 rfl ?_
  refine Tx.iload_n hC te_39_42 rfl ?_
  refine Tx.bipush hC te_39_43 rfl rfl ?_
  refine Tx.bits hC (f := (fun (x y : Int32) => (x.toUInt32 >>> (y.toUInt32 &&& Int32.toUInt32 31)).toInt32)) te_39_45 (fun _ _ _ _ => Iff.rfl) (fun b13 b13e _ => ?_)
  have b13v : b13 = 0 := b13e.trans (by decide)
  subst b13v
  refine Tx.iaddW hC te_39_46 (fun b14 _ b14e => ?_)
  have b14v : b14 = 4 := b14e (by unfold InI; omega)
  subst b14v
  refine Tx.istore_n hC te_39_47 rfl ?_
  refine Tx.iload_n hC te_39_48 rfl ?_
  refine Tx.bipush hC te_39_49 rfl rfl ?_
  refine Tx.bits hC (f := (fun (x y : Int32) => x &&& y)) te_39_51 (fun _ _ _ _ => Iff.rfl) (fun b15 b15e _ => ?_)
  have b15v : b15 = 4 := b15e.trans (by decide)
  subst b15v
  exact Tx.ireturn hC te_39_52 rfl (fun _ => H)
theorem f_39x {S : Nat × (Nat → Int32)} {n : Nat} {mem : MM} {K : Int → MM → Prop} {E : Nat → MM → Prop} {x : Int} (hx : 0 ≤ x ∧ x ≤ 15) (H : ∀ r, r = popI x → K r mem) : CQI (Ex S (n + 1)) 39 [.inl x] mem K E := by
  have a : x = 0 ∨ x = 1 ∨ x = 2 ∨ x = 3 ∨ x = 4 ∨ x = 5 ∨ x = 6 ∨ x = 7 ∨ x = 8 ∨ x = 9 ∨ x = 10 ∨ x = 11 ∨ x = 12 ∨ x = 13 ∨ x = 14 ∨ x = 15 := by omega
  rcases a with rfl | rfl | rfl | rfl | rfl | rfl | rfl | rfl | rfl | rfl | rfl | rfl | rfl | rfl | rfl | rfl
  · exact f_39_0 (H _ rfl)
  · exact f_39_1 (H _ rfl)
  · exact f_39_2 (H _ rfl)
  · exact f_39_3 (H _ rfl)
  · exact f_39_4 (H _ rfl)
  · exact f_39_5 (H _ rfl)
  · exact f_39_6 (H _ rfl)
  · exact f_39_7 (H _ rfl)
  · exact f_39_8 (H _ rfl)
  · exact f_39_9 (H _ rfl)
  · exact f_39_10 (H _ rfl)
  · exact f_39_11 (H _ rfl)
  · exact f_39_12 (H _ rfl)
  · exact f_39_13 (H _ rfl)
  · exact f_39_14 (H _ rfl)
  · exact f_39_15 (H _ rfl)
theorem f_66n {S : Nat × (Nat → Int32)} {n : Nat} {mem : MM} {K : MM → Prop} {E : Nat → MM → Prop} {w l : Int} (H : 0 ≤ w ∧ w ≤ l → K mem) (HE : ¬ (0 ≤ w ∧ w ≤ l) → E 3 mem) : CQV (Ex S (n + 1)) 66 [.inl w, .inl l] mem K E := by
  refine CY.of (k := 0) mt_66 rfl rfl (fun hv => ?_)
  have hC := Ex.mono S n
  have ii_w : InI w := hv (.inl w) (by simp)
  unfold InI at ii_w
  have ii_l : InI l := hv (.inl l) (by simp)
  unfold InI at ii_l
  clear hv
  show Tx (Ex S n) S M_66 (kV K E) 0 0 0 [some (.inl w), some (.inl l)] [] mem
  refine Tx.iload_n hC te_66_0 rfl ?_
  refine Tx.ifc hC (t := 9) te_66_1 (by decide) (fun q1 => ?_) (fun q1 => ?_)
  · replace q1 : (w : Int) < 0 := q1
    exact Tx.thr hC te_66_9 rfl rfl rfl rfl rfl (show E 3 mem from HE (by omega))
  · replace q1 : ¬ ((w : Int) < 0) := q1
    refine Tx.iload_n hC te_66_4 rfl ?_
    refine Tx.iload_n hC te_66_5 rfl ?_
    refine Tx.icmp hC (t := 20) te_66_6 (by decide) (fun q2 => ?_) (fun q2 => ?_)
    · replace q2 : (w : Int) ≤ l := q2
      exact Tx.vret hC te_66_20 rfl (show K mem from H (by omega))
    · replace q2 : ¬ ((w : Int) ≤ l) := q2
      exact Tx.thr hC te_66_9 rfl rfl rfl rfl rfl (show E 3 mem from HE (by omega))
theorem f_65x {S : Nat × (Nat → Int32)} {n : Nat} {mem : MM} {K : Int → MM → Prop} {E : Nat → MM → Prop} (hI : ClS mem) {p0 p1 : Int} (H : 0 ≤ p0 ∧ p0 < mem 1 0 → 0 ≤ p1 ∧ p1 ≤ 5 → ∀ r, r = opF mem p0.toNat p1 → K r mem) (HE2 : ¬ (0 ≤ p0 ∧ p0 < mem 1 0) → E 2 mem) (HE3 : 0 ≤ p0 ∧ p0 < mem 1 0 → ¬ (0 ≤ p1 ∧ p1 ≤ 5) → E 3 mem) : CQI (Ex S (n + 2)) 65 [.inr 0, .inl p0, .inl p1] mem K E := by
  refine CY.of (k := 0) mt_65 rfl rfl (fun hv => ?_)
  have hC := Ex.mono S (n + 1)
  have ii_p0 : InI p0 := hv (.inl p0) (by simp)
  unfold InI at ii_p0
  have ii_p1 : InI p1 := hv (.inl p1) (by simp)
  unfold InI at ii_p1
  clear hv
  have h8 := hI.1.b.1
  show Tx (Ex S (n + 1)) S M_65 (kI K E) 0 0 0 [some (.inr 0), some (.inl p0), some (.inl p1)] [] mem
  refine Tx.aload_n hC te_65_0 rfl ?_
  refine Tx.iload_n hC te_65_1 rfl ?_
  refine Tx.virtV hC te_65_2 mt_57 (args := [.inr 0, .inl p0]) (rest := []) (c' := 1) (s' := 6) rfl rfl rfl rfl rfl rfl rfl rfl rfl rfl ?_
  refine f_57n (fun r1a => ?_) (fun r1n => HE2 r1n)
  refine Tx.iload_n hC te_65_5 rfl ?_
  refine Tx.iconst hC te_65_6 rfl ?_
  refine Tx.statV hC te_65_7 (by decide) mt_66 (args := [.inl p1, .inl 5]) (rest := []) (c' := 2) (s' := 12) rfl rfl rfl rfl rfl rfl rfl ?_
  refine f_66n (fun r4a => ?_) (fun r4n => HE3 (by omega) r4n)
  refine Tx.iload_n hC te_65_10 rfl ?_
  refine Tx.ifc hC (t := 24) te_65_11 (by decide) (fun q7 => ?_) (fun q7 => ?_)
  · replace q7 : ¬ (p1 : Int) = 0 := q7
    refine Tx.iload_n hC te_65_24 rfl ?_
    refine Tx.iconst hC te_65_25 rfl ?_
    refine Tx.icmp hC (t := 39) te_65_26 (by decide) (fun q8 => ?_) (fun q8 => ?_)
    · replace q8 : ¬ (p1 : Int) = 5 := q8
      refine Tx.aload_n hC te_65_39 rfl ?_
      refine Tx.getR hC te_65_40 rfl rfl rfl ?_
      refine Tx.getR hC te_65_43 rfl rfl rfl ?_
      refine Tx.iload_n hC te_65_46 rfl ?_
      refine Tx.iconst hC te_65_47 rfl ?_
      refine Tx.imulW hC te_65_48 (fun z9 z9i z9e => ?_)
      unfold InI at z9i z9e
      first | replace z9e := z9e (by omega) | clear z9e
      refine Tx.iload_n hC te_65_49 rfl ?_
      refine Tx.iaddW hC te_65_50 (fun z10 z10i z10e => ?_)
      unfold InI at z10i z10e
      first | replace z10e := z10e (by omega) | clear z10e
      refine Tx.iconst hC te_65_51 rfl ?_
      refine Tx.isubW hC te_65_52 (fun z11 z11i z11e => ?_)
      unfold InI at z11i z11e
      first | replace z11e := z11e (by omega) | clear z11e
      refine Tx.iald hC te_65_53 rfl (by omega) (fun v12 v12e v12i => ?_)
      unfold InI at v12i
      exact Tx.ireturn hC te_65_54 rfl (fun hr => show K v12 mem from H (by omega) (by omega) _ (by unfold opF; first | (rw [if_pos (by omega)]; assumption) | (rw [if_neg (by omega), if_pos (by omega)]; assumption) | (rw [if_neg (by omega), if_neg (by omega), v12e]; congr 1; omega)))
    · replace q8 : ¬ (¬ (p1 : Int) = 5) := q8
      refine Tx.aload_n hC te_65_29 rfl ?_
      refine Tx.getR hC te_65_30 rfl rfl rfl ?_
      refine Tx.getR hC te_65_33 rfl rfl rfl ?_
      refine Tx.iload_n hC te_65_36 rfl ?_
      refine Tx.iald hC te_65_37 rfl (by omega) (fun v13 v13e v13i => ?_)
      unfold InI at v13i
      exact Tx.ireturn hC te_65_38 rfl (fun hr => show K v13 mem from H (by omega) (by omega) _ (by unfold opF; first | (rw [if_pos (by omega)]; assumption) | (rw [if_neg (by omega), if_pos (by omega)]; assumption) | (rw [if_neg (by omega), if_neg (by omega), v13e]; congr 1; omega)))
  · replace q7 : ¬ (¬ (p1 : Int) = 0) := q7
    refine Tx.aload_n hC te_65_14 rfl ?_
    refine Tx.getR hC te_65_15 rfl rfl rfl ?_
    refine Tx.getR hC te_65_18 rfl rfl rfl ?_
    refine Tx.iload_n hC te_65_21 rfl ?_
    refine Tx.iald hC te_65_22 rfl (by omega) (fun v14 v14e v14i => ?_)
    unfold InI at v14i
    exact Tx.ireturn hC te_65_23 rfl (fun hr => show K v14 mem from H (by omega) (by omega) _ (by unfold opF; first | (rw [if_pos (by omega)]; assumption) | (rw [if_neg (by omega), if_pos (by omega)]; assumption) | (rw [if_neg (by omega), if_neg (by omega), v14e]; congr 1; omega)))
theorem f_37x {S : Nat × (Nat → Int32)} {n : Nat} {mem : MM} {K : Int → MM → Prop} {E : Nat → MM → Prop} (hB : BodyOK mem) {o : Int} (ho : 0 ≤ o ∧ o < 8) (H : ∀ r, r = cUn mem o.toNat → 0 ≤ r → r ≤ 2 → K r mem) : CQI (Ex S (n + 1)) 37 [.inr 1, .inl o] mem K E := by
  refine CY.of (k := 0) mt_37 rfl rfl (fun hv => ?_)
  have hC := Ex.mono S n
  have ii_o : InI o := hv (.inl o) (by simp)
  unfold InI at ii_o
  clear hv
  show Tx (Ex S n) S M_37 (kI K E) 0 0 0 [some (.inr 1), some (.inl o)] [] mem
  refine Tx.aload_n hC te_37_0 rfl ?_
  refine Tx.getR hC te_37_1 rfl rfl rfl ?_
  refine Tx.aload_n hC te_37_4 rfl ?_
  refine Tx.getR hC te_37_5 rfl rfl rfl ?_
  refine Tx.iload_n hC te_37_8 rfl ?_
  refine Tx.iald hC te_37_9 rfl (by omega) (fun v1 v1e v1i => ?_)
  unfold InI at v1i
  have f2 := hB.kd (o := (Int.toNat o)) (by omega)
  refine Tx.iald hC te_37_10 rfl (by omega) (fun v3 v3e v3i => ?_)
  unfold InI at v3i
  have f4 := hB.un (o := (Int.toNat v1)) (by omega)
  exact Tx.ireturn hC te_37_11 rfl (fun hr => show K v3 mem from H _ (by unfold cUn; simp_all) (by omega) (by omega))
theorem f_38x {S : Nat × (Nat → Int32)} {n : Nat} {mem : MM} {K : Int → MM → Prop} {E : Nat → MM → Prop} (hB : BodyOK mem) {o : Int} (ho : 0 ≤ o ∧ o < 8) (H : ∀ r, r = cBu mem o.toNat → 1 ≤ r → r ≤ 15 → K r mem) : CQI (Ex S (n + 1)) 38 [.inr 1, .inl o] mem K E := by
  refine CY.of (k := 0) mt_38 rfl rfl (fun hv => ?_)
  have hC := Ex.mono S n
  have ii_o : InI o := hv (.inl o) (by simp)
  unfold InI at ii_o
  clear hv
  show Tx (Ex S n) S M_38 (kI K E) 0 0 0 [some (.inr 1), some (.inl o)] [] mem
  refine Tx.aload_n hC te_38_0 rfl ?_
  refine Tx.getR hC te_38_1 rfl rfl rfl ?_
  refine Tx.aload_n hC te_38_4 rfl ?_
  refine Tx.getR hC te_38_5 rfl rfl rfl ?_
  refine Tx.iload_n hC te_38_8 rfl ?_
  refine Tx.iald hC te_38_9 rfl (by omega) (fun v1 v1e v1i => ?_)
  unfold InI at v1i
  have f2 := hB.kd (o := (Int.toNat o)) (by omega)
  refine Tx.iald hC te_38_10 rfl (by omega) (fun v3 v3e v3i => ?_)
  unfold InI at v3i
  have f4 := hB.bu (o := (Int.toNat v1)) (by omega)
  exact Tx.ireturn hC te_38_11 rfl (fun hr => show K v3 mem from H _ (by unfold cBu; simp_all) (by omega) (by omega))
theorem f_36x {S : Nat × (Nat → Int32)} {n : Nat} {mem : MM} {K : Int → MM → Prop} {E : Nat → MM → Prop} (hB : BodyOK mem) {u : Int} (H : ∀ r, r = usC mem u → 0 ≤ r → r ≤ 32 → K r mem) : CQI (Ex S (n + 2)) 36 [.inr 1, .inl u] mem K E := by
  refine CY.of (k := 2) mt_36 rfl rfl (fun hv => ?_)
  have hC := Ex.mono S (n + 1)
  have ii_u : InI u := hv (.inl u) (by simp)
  unfold InI at ii_u
  clear hv
  have h8 := hB.1
  show Tx (Ex S (n + 1)) S M_36 (kI K E) 0 0 0 [some (.inr 1), some (.inl u), none, none] [] mem
  have l_4 : ∀ (N : Nat) (x2 x3 : Int), (0 ≤ x3 ∧ x3 ≤ mem 1 0) → (x2 = usN (cUn mem) (cBu mem) u x3.toNat) → ((8 - x3).toNat) < N → Tx (Ex S (n + 1)) S M_36 (kI K E) 0 0 4 [some (.inr 1), some (.inl u), some (.inl x2), some (.inl x3)] [] mem := by
    intro N
    induction N with
    | zero => intros; omega
    | succ N ih_4 =>
      intro x2 x3 i4_0 i4_1 hN_4 
      have us := usN_rg (f := cUn mem) (g := cBu mem) (u := u) x3.toNat
      have up := popI_rg (x := cBu mem x3.toNat)
      refine Tx.iload_n hC te_36_4 rfl ?_
      refine Tx.aload_n hC te_36_5 rfl ?_
      refine Tx.getI hC te_36_6 rfl rfl rfl (fun v1 v1e v1i => ?_)
      unfold InI at v1i
      refine Tx.icmp hC (t := 38) te_36_9 (by decide) (fun q2 => ?_) (fun q2 => ?_)
      · replace q2 : v1 ≤ (x3 : Int) := q2
        refine Tx.iload_n hC te_36_38 rfl ?_
        exact Tx.ireturn hC te_36_39 rfl (fun hr => show K x2 mem from H _ (by unfold usC; rw [show (mem 1 0).toNat = x3.toNat by omega]; omega) (by omega) (by omega))
      · replace q2 : ¬ (v1 ≤ (x3 : Int)) := q2
        refine Tx.aload_n hC te_36_12 rfl ?_
        refine Tx.iload_n hC te_36_13 rfl ?_
        refine Tx.virtI hC te_36_14 mt_37 (args := [.inr 1, .inl x3]) (rest := []) (c' := 0) (s' := 0) rfl rfl rfl rfl rfl rfl rfl rfl rfl rfl ?_
        refine f_37x hB (by omega) (fun r3 r3e r3a r3b r3i => ?_)
        unfold InI at r3i
        refine Tx.iload_n hC te_36_17 rfl ?_
        refine Tx.icmp hC (t := 32) te_36_18 (by decide) (fun q6 => ?_) (fun q6 => ?_)
        · replace q6 : ¬ (r3 : Int) = u := q6
          refine Tx.iincW hC te_36_32 rfl rfl (fun z7 z7i z7e => ?_)
          unfold InI at z7i z7e
          first | replace z7e := z7e (by omega) | clear z7e
          refine Tx.goto hC (t := 4) te_36_35 (by decide) ?_
          exact ih_4 x2 z7 (by omega) (by
                have w := usN_st (f := cUn mem) (g := cBu mem) (u := u) (o := x3) (by omega)
                rw [show z7 = x3 + 1 by omega, w]
                split <;> omega) (by omega)
        · replace q6 : ¬ (¬ (r3 : Int) = u) := q6
          refine Tx.iload_n hC te_36_21 rfl ?_
          refine Tx.aload_n hC te_36_22 rfl ?_
          refine Tx.iload_n hC te_36_23 rfl ?_
          refine Tx.virtI hC te_36_24 mt_38 (args := [.inr 1, .inl x3]) (rest := [.inl x2]) (c' := 0) (s' := 0) rfl rfl rfl rfl rfl rfl rfl rfl rfl rfl ?_
          refine f_38x hB (by omega) (fun r8 r8e r8a r8b r8i => ?_)
          subst r8e
          refine Tx.statI hC te_36_27 (by decide) mt_39 (args := [.inl (cBu mem (Int.toNat x3))]) (rest := [.inl x2]) (c' := 0) (s' := 0) rfl rfl rfl rfl rfl rfl rfl ?_
          refine f_39x (by omega) (fun r11 r11e r11i => ?_)
          unfold InI at r11i
          refine Tx.iaddW hC te_36_30 (fun z14 z14i z14e => ?_)
          unfold InI at z14i z14e
          first | replace z14e := z14e (by omega) | clear z14e
          refine Tx.istore_n hC te_36_31 rfl ?_
          refine Tx.iincW hC te_36_32 rfl rfl (fun z15 z15i z15e => ?_)
          unfold InI at z15i z15e
          first | replace z15e := z15e (by omega) | clear z15e
          refine Tx.goto hC (t := 4) te_36_35 (by decide) ?_
          exact ih_4 z14 z15 (by omega) (by
                have w := usN_st (f := cUn mem) (g := cBu mem) (u := u) (o := x3) (by omega)
                rw [show z15 = x3 + 1 by omega, w]
                split <;> omega) (by omega)
  refine Tx.iconst hC te_36_0 rfl ?_
  refine Tx.istore_n hC te_36_1 rfl ?_
  refine Tx.iconst hC te_36_2 rfl ?_
  refine Tx.istore_n hC te_36_3 rfl ?_
  exact l_4 _ 0 0 (by omega) (rfl) (Nat.lt_succ_self _)
theorem f_82x {S : Nat × (Nat → Int32)} {n : Nat} {mem : MM} {K : Int → MM → Prop} {E : Nat → MM → Prop} (hI : ClS mem) {p0 : Int} (H : 0 ≤ p0 ∧ p0 < 3 → ∀ r, r = usC mem p0 → K r mem) (HE2 : ¬ (0 ≤ p0 ∧ p0 < 3) → E 2 mem) : CQI (Ex S (n + 3)) 82 [.inr 0, .inl p0] mem K E := by
  refine CY.of (k := 0) mt_82 rfl rfl (fun hv => ?_)
  have hC := Ex.mono S (n + 2)
  have ii_p0 : InI p0 := hv (.inl p0) (by simp)
  unfold InI at ii_p0
  clear hv
  show Tx (Ex S (n + 2)) S M_82 (kI K E) 0 0 0 [some (.inr 0), some (.inl p0)] [] mem
  refine Tx.aload_n hC te_82_0 rfl ?_
  refine Tx.iload_n hC te_82_1 rfl ?_
  refine Tx.virtV hC te_82_2 mt_63 (args := [.inr 0, .inl p0]) (rest := []) (c' := 1) (s' := 6) rfl rfl rfl rfl rfl rfl rfl rfl rfl rfl ?_
  refine f_63n (fun r1a => ?_) (fun r1n => HE2 r1n)
  refine Tx.aload_n hC te_82_5 rfl ?_
  refine Tx.getR hC te_82_6 rfl rfl rfl ?_
  refine Tx.iload_n hC te_82_9 rfl ?_
  refine Tx.virtI hC te_82_10 mt_36 (args := [.inr 1, .inl p0]) (rest := []) (c' := 1) (s' := 6) rfl rfl rfl rfl rfl rfl rfl rfl rfl rfl ?_
  refine f_36x hI.1.b (fun r4 r4e r4a r4b r4i => ?_)
  unfold InI at r4i
  exact Tx.ireturn hC te_82_13 rfl (fun hr => show K r4 mem from H (by omega) _ (by omega))
theorem f_264x {S : Nat × (Nat → Int32)} {n : Nat} {mem : MM} {K : Int → MM → Prop} {E : Nat → MM → Prop} (h : RefOK mem) {o : Int} (ho : 0 ≤ o ∧ o < 8) (H : ∀ r, r = rUn mem o.toNat → 0 ≤ r → r ≤ 2 → K r mem) : CQI (Ex S (n + 1)) 264 [.inr 143, .inl o] mem K E := by
  refine CY.of (k := 0) mt_264 rfl rfl (fun hv => ?_)
  have hC := Ex.mono S n
  have ii_o : InI o := hv (.inl o) (by simp)
  unfold InI at ii_o
  clear hv
  show Tx (Ex S n) S M_264 (kI K E) 0 0 0 [some (.inr 143), some (.inl o)] [] mem
  refine Tx.aload_n hC te_264_0 rfl ?_
  refine Tx.getR hC te_264_1 rfl rfl rfl ?_
  refine Tx.aload_n hC te_264_4 rfl ?_
  refine Tx.getR hC te_264_5 rfl rfl rfl ?_
  refine Tx.iload_n hC te_264_8 rfl ?_
  refine Tx.iald hC te_264_9 rfl (by omega) (fun v1 v1e v1i => ?_)
  unfold InI at v1i
  have f2 := h.ops.2.1 (Int.toNat o) (by omega)
  unfold OpOK at f2
  refine Tx.iald hC te_264_10 rfl (by omega) (fun v3 v3e v3i => ?_)
  unfold InI at v3i
  have f4 := h.un (Int.toNat v1) (by omega)
  exact Tx.ireturn hC te_264_11 rfl (fun hr => show K v3 mem from H _ (by unfold rUn; simp_all) (by omega) (by omega))
theorem f_265x {S : Nat × (Nat → Int32)} {n : Nat} {mem : MM} {K : Int → MM → Prop} {E : Nat → MM → Prop} (h : RefOK mem) {o : Int} (ho : 0 ≤ o ∧ o < 8) (H : ∀ r, r = rBu mem o.toNat → 1 ≤ r → r ≤ 15 → K r mem) : CQI (Ex S (n + 1)) 265 [.inr 143, .inl o] mem K E := by
  refine CY.of (k := 0) mt_265 rfl rfl (fun hv => ?_)
  have hC := Ex.mono S n
  have ii_o : InI o := hv (.inl o) (by simp)
  unfold InI at ii_o
  clear hv
  show Tx (Ex S n) S M_265 (kI K E) 0 0 0 [some (.inr 143), some (.inl o)] [] mem
  refine Tx.aload_n hC te_265_0 rfl ?_
  refine Tx.getR hC te_265_1 rfl rfl rfl ?_
  refine Tx.aload_n hC te_265_4 rfl ?_
  refine Tx.getR hC te_265_5 rfl rfl rfl ?_
  refine Tx.iload_n hC te_265_8 rfl ?_
  refine Tx.iald hC te_265_9 rfl (by omega) (fun v1 v1e v1i => ?_)
  unfold InI at v1i
  have f2 := h.ops.2.1 (Int.toNat o) (by omega)
  unfold OpOK at f2
  refine Tx.iald hC te_265_10 rfl (by omega) (fun v3 v3e v3i => ?_)
  unfold InI at v3i
  have f4 := h.bz (Int.toNat v1) (by omega)
  exact Tx.ireturn hC te_265_11 rfl (fun hr => show K v3 mem from H _ (by unfold rBu; simp_all) (by omega) (by omega))
theorem f_266x {S : Nat × (Nat → Int32)} {n : Nat} {mem : MM} {K : Int → MM → Prop} {E : Nat → MM → Prop} {x : Int} (hx : 0 ≤ x ∧ x ≤ 15) (H : ∀ r, r = popI x → K r mem) : CQI (Ex S (n + 1)) 266 [.inl x] mem K E := by
  refine CY.of (k := 2) mt_266 rfl rfl (fun hv => ?_)
  have hC := Ex.mono S n
  have ii_x : InI x := hv (.inl x) (by simp)
  unfold InI at ii_x
  clear hv
  show Tx (Ex S n) S M_266 (kI K E) 0 0 0 [some (.inl x), none, none] [] mem
  have l_4 : ∀ (N : Nat) (x1 x2 : Int), (0 ≤ x2 ∧ x2 ≤ 15) → (x1 + popI x2 = popI x) → (0 ≤ x1 ∧ x1 ≤ 15) → (x2.toNat) < N → Tx (Ex S n) S M_266 (kI K E) 0 0 4 [some (.inl x), some (.inl x1), some (.inl x2)] [] mem := by
    intro N
    induction N with
    | zero => intros; omega
    | succ N ih_4 =>
      intro x1 x2 i4_0 i4_1 i4_2 hN_4 
      have up := popI_rg (x := x2)
      have up2 := popI_rg (x := x)
      refine Tx.iload_n hC te_266_4 rfl ?_
      refine Tx.ifc hC (t := 20) te_266_5 (by decide) (fun q1 => ?_) (fun q1 => ?_)
      · replace q1 : (x2 : Int) = 0 := q1
        refine Tx.iload_n hC te_266_20 rfl ?_
        exact Tx.ireturn hC te_266_21 rfl (fun hr => show K x1 mem from H _ (by have z : popI x2 = 0 := by { rw [show x2 = 0 by omega]; rfl }; omega))
      · replace q1 : ¬ ((x2 : Int) = 0) := q1
        refine Tx.iincW hC te_266_8 rfl rfl (fun z2 z2i z2e => ?_)
        unfold InI at z2i z2e
        first | replace z2e := z2e (by omega) | clear z2e
        refine Tx.iload_n hC te_266_11 rfl ?_
        refine Tx.iload_n hC te_266_12 rfl ?_
        refine Tx.iconst hC te_266_13 rfl ?_
        refine Tx.isubW hC te_266_14 (fun z3 z3i z3e => ?_)
        unfold InI at z3i z3e
        first | replace z3e := z3e (by omega) | clear z3e
        refine Tx.bits hC (f := (fun (x y : Int32) => x &&& y)) te_266_15 (fun _ _ _ _ => Iff.rfl) (fun b4 b4e b4i => ?_)
        unfold InI at b4i
        have ae := and1 _ _ (by omega) (by omega) _ b4e (by omega)
        refine Tx.istore_n hC te_266_16 rfl ?_
        refine Tx.goto hC (t := 4) te_266_17 (by decide) ?_
        exact ih_4 z2 b4 (by omega) (by omega) (by omega) (by omega)
  refine Tx.iconst hC te_266_0 rfl ?_
  refine Tx.istore_n hC te_266_1 rfl ?_
  refine Tx.iload_n hC te_266_2 rfl ?_
  refine Tx.istore_n hC te_266_3 rfl ?_
  exact l_4 _ 0 x (by omega) (by omega) (by omega) (Nat.lt_succ_self _)
theorem f_263x {S : Nat × (Nat → Int32)} {n : Nat} {mem : MM} {K : Int → MM → Prop} {E : Nat → MM → Prop} (h : RefOK mem) {u : Int} (H : ∀ r, r = usR mem u → 0 ≤ r → r ≤ 32 → K r mem) : CQI (Ex S (n + 2)) 263 [.inr 143, .inl u] mem K E := by
  refine CY.of (k := 2) mt_263 rfl rfl (fun hv => ?_)
  have hC := Ex.mono S (n + 1)
  have ii_u : InI u := hv (.inl u) (by simp)
  unfold InI at ii_u
  clear hv
  have h8 := h.ops.1
  show Tx (Ex S (n + 1)) S M_263 (kI K E) 0 0 0 [some (.inr 143), some (.inl u), none, none] [] mem
  have l_4 : ∀ (N : Nat) (x2 x3 : Int), (0 ≤ x3 ∧ x3 ≤ mem 143 1) → (x2 = usN (rUn mem) (rBu mem) u x3.toNat) → ((8 - x3).toNat) < N → Tx (Ex S (n + 1)) S M_263 (kI K E) 0 0 4 [some (.inr 143), some (.inl u), some (.inl x2), some (.inl x3)] [] mem := by
    intro N
    induction N with
    | zero => intros; omega
    | succ N ih_4 =>
      intro x2 x3 i4_0 i4_1 hN_4 
      have us := usN_rg (f := rUn mem) (g := rBu mem) (u := u) x3.toNat
      have up := popI_rg (x := rBu mem x3.toNat)
      refine Tx.iload_n hC te_263_4 rfl ?_
      refine Tx.aload_n hC te_263_5 rfl ?_
      refine Tx.getI hC te_263_6 rfl rfl rfl (fun v1 v1e v1i => ?_)
      unfold InI at v1i
      refine Tx.icmp hC (t := 42) te_263_9 (by decide) (fun q2 => ?_) (fun q2 => ?_)
      · replace q2 : v1 ≤ (x3 : Int) := q2
        refine Tx.iload_n hC te_263_42 rfl ?_
        exact Tx.ireturn hC te_263_43 rfl (fun hr => show K x2 mem from H _ (by unfold usR; rw [show (mem 143 1).toNat = x3.toNat by omega]; omega) (by omega) (by omega))
      · replace q2 : ¬ (v1 ≤ (x3 : Int)) := q2
        refine Tx.iload_n hC te_263_12 rfl ?_
        refine Tx.aload_n hC te_263_13 rfl ?_
        refine Tx.iload_n hC te_263_14 rfl ?_
        refine Tx.virtI hC te_263_15 mt_264 (args := [.inr 143, .inl x3]) (rest := [.inl x2]) (c' := 0) (s' := 0) rfl rfl rfl rfl rfl rfl rfl rfl rfl rfl ?_
        refine f_264x h (by omega) (fun r3 r3e r3a r3b r3i => ?_)
        unfold InI at r3i
        refine Tx.iload_n hC te_263_18 rfl ?_
        refine Tx.icmp hC (t := 33) te_263_19 (by decide) (fun q6 => ?_) (fun q6 => ?_)
        · replace q6 : ¬ (r3 : Int) = u := q6
          refine Tx.iconst hC te_263_33 rfl ?_
          refine Tx.iaddW hC te_263_34 (fun z7 z7i z7e => ?_)
          unfold InI at z7i z7e
          first | replace z7e := z7e (by omega) | clear z7e
          refine Tx.istore_n hC te_263_35 rfl ?_
          refine Tx.iincW hC te_263_36 rfl rfl (fun z8 z8i z8e => ?_)
          unfold InI at z8i z8e
          first | replace z8e := z8e (by omega) | clear z8e
          refine Tx.goto hC (t := 4) te_263_39 (by decide) ?_
          exact ih_4 z7 z8 (by omega) (by
                have w := usN_st (f := rUn mem) (g := rBu mem) (u := u) (o := x3) (by omega)
                rw [show z8 = x3 + 1 by omega, w]
                split <;> omega) (by omega)
        · replace q6 : ¬ (¬ (r3 : Int) = u) := q6
          refine Tx.aload_n hC te_263_22 rfl ?_
          refine Tx.iload_n hC te_263_23 rfl ?_
          refine Tx.virtI hC te_263_24 mt_265 (args := [.inr 143, .inl x3]) (rest := [.inl x2]) (c' := 0) (s' := 0) rfl rfl rfl rfl rfl rfl rfl rfl rfl rfl ?_
          refine f_265x h (by omega) (fun r9 r9e r9a r9b r9i => ?_)
          subst r9e
          refine Tx.statI hC te_263_27 (by decide) mt_266 (args := [.inl (rBu mem (Int.toNat x3))]) (rest := [.inl x2]) (c' := 0) (s' := 0) rfl rfl rfl rfl rfl rfl rfl ?_
          refine f_266x (by omega) (fun r12 r12e r12i => ?_)
          unfold InI at r12i
          refine Tx.goto hC (t := 34) te_263_30 (by decide) ?_
          refine Tx.iaddW hC te_263_34 (fun z15 z15i z15e => ?_)
          unfold InI at z15i z15e
          first | replace z15e := z15e (by omega) | clear z15e
          refine Tx.istore_n hC te_263_35 rfl ?_
          refine Tx.iincW hC te_263_36 rfl rfl (fun z16 z16i z16e => ?_)
          unfold InI at z16i z16e
          first | replace z16e := z16e (by omega) | clear z16e
          refine Tx.goto hC (t := 4) te_263_39 (by decide) ?_
          exact ih_4 z15 z16 (by omega) (by
                have w := usN_st (f := rUn mem) (g := rBu mem) (u := u) (o := x3) (by omega)
                rw [show z16 = x3 + 1 by omega, w]
                split <;> omega) (by omega)
  refine Tx.iconst hC te_263_0 rfl ?_
  refine Tx.istore_n hC te_263_1 rfl ?_
  refine Tx.iconst hC te_263_2 rfl ?_
  refine Tx.istore_n hC te_263_3 rfl ?_
  exact l_4 _ 0 0 (by omega) (rfl) (Nat.lt_succ_self _)
theorem f_262x {S : Nat × (Nat → Int32)} {n : Nat} {mem : MM} {K : Int → MM → Prop} {E : Nat → MM → Prop} (h : RefOK mem) {p0 : Int} (H0 : 0 ≤ p0 ∧ p0 < 3 → ∀ r, r = usR mem p0 → K r (upm mem 143 0 0)) (H1 : ¬ (0 ≤ p0 ∧ p0 < 3) → K 0 (upm mem 143 0 1)) : CQI (Ex S (n + 3)) 262 [.inr 143, .inl p0] mem K E := by
  refine CY.of (k := 0) mt_262 rfl rfl (fun hv => ?_)
  have hC := Ex.mono S (n + 2)
  have ii_p0 : InI p0 := hv (.inl p0) (by simp)
  unfold InI at ii_p0
  clear hv
  show Tx (Ex S (n + 2)) S M_262 (kI K E) 0 0 0 [some (.inr 143), some (.inl p0)] [] mem
  refine Tx.aload_n hC te_262_0 rfl ?_
  refine Tx.iload_n hC te_262_1 rfl ?_
  refine Tx.iconst hC te_262_2 rfl ?_
  refine Tx.iconst hC te_262_3 rfl ?_
  refine Tx.statI hC te_262_4 (by decide) mt_227 (args := [.inl p0, .inl 0, .inl 2]) (rest := [.inr 143]) (c' := 0) (s' := 0) rfl rfl rfl rfl rfl rfl rfl ?_
  refine CWI.q hC (f_227 (fun r1a r1b r1i => ?_) (fun r1q r1i => ?_))
  · skip
    refine Tx.ifc hC (t := 14) te_262_7 (by decide) (fun q => absurd q (show ¬ ((1 : Int) = 0) by decide)) (fun q => ?_)
    refine Tx.iconst hC te_262_10 rfl ?_
    refine Tx.goto hC (t := 15) te_262_11 (by decide) ?_
    refine Tx.putI hC te_262_15 rfl rfl rfl rfl ?_
    refine Tx.aload_n hC te_262_18 rfl ?_
    refine Tx.getI hC te_262_19 rfl rfl rfl (fun v5 v5e v5i => ?_)
    rw [upm_eq] at v5e
    subst v5e
    clear v5i
    refine Tx.ifc hC (t := 29) te_262_22 (by decide) (fun q => ?_) (fun q => absurd (show (0 : Int) ≤ 0 by decide) q)
    refine Tx.aload_n hC te_262_29 rfl ?_
    refine Tx.iload_n hC te_262_30 rfl ?_
    refine Tx.virtI hC te_262_31 mt_263 (args := [.inr 143, .inl p0]) (rest := []) (c' := 0) (s' := 0) rfl rfl rfl rfl rfl rfl rfl rfl rfl rfl ?_
    refine f_263x (h.th' (by omega)) (fun r6 r6e r6a r6b r6i => ?_)
    unfold InI at r6i
    exact Tx.ireturn hC te_262_34 rfl (fun hr => show K r6 (upm mem 143 0 0) from H0 (by omega) _ (by rw [← usR_th (z := 0)]; omega))
  · skip
    refine Tx.ifc hC (t := 14) te_262_7 (by decide) (fun q => ?_) (fun q => absurd (show (0 : Int) = 0 by decide) q)
    refine Tx.iconst hC te_262_14 rfl ?_
    refine Tx.putI hC te_262_15 rfl rfl rfl rfl ?_
    refine Tx.aload_n hC te_262_18 rfl ?_
    refine Tx.getI hC te_262_19 rfl rfl rfl (fun v10 v10e v10i => ?_)
    rw [upm_eq] at v10e
    subst v10e
    clear v10i
    refine Tx.ifc hC (t := 29) te_262_22 (by decide) (fun q => absurd q (show ¬ ((1 : Int) ≤ 0) by decide)) (fun q => ?_)
    refine Tx.iconst hC te_262_25 rfl ?_
    refine Tx.goto hC (t := 34) te_262_26 (by decide) ?_
    exact Tx.ireturn hC te_262_34 rfl (fun hr => show K 0 (upm mem 143 0 1) from H1 (by omega))
theorem f_238x {S : Nat × (Nat → Int32)} {n : Nat} {mem : MM} {K : Int → MM → Prop} {E : Nat → MM → Prop} (h8 : 0 ≤ mem 143 1 ∧ mem 143 1 ≤ 8) {p0 p1 : Int} (H0 : 0 ≤ p0 ∧ p0 < mem 143 1 → 0 ≤ p1 ∧ p1 ≤ 5 → ∀ r, r = opR mem p0.toNat p1 → K r (upm mem 143 0 0)) (H1 : ¬ (0 ≤ p0 ∧ p0 < mem 143 1) → K 0 (upm mem 143 0 1)) (H2 : 0 ≤ p0 ∧ p0 < mem 143 1 → ¬ (0 ≤ p1 ∧ p1 ≤ 5) → K 0 (upm mem 143 0 2)) : CQI (Ex S (n + 4)) 238 [.inr 143, .inl p0, .inl p1] mem K E := by
  refine CY.of (k := 0) mt_238 rfl rfl (fun hv => ?_)
  have hC := Ex.mono S (n + 3)
  have ii_p0 : InI p0 := hv (.inl p0) (by simp)
  unfold InI at ii_p0
  have ii_p1 : InI p1 := hv (.inl p1) (by simp)
  unfold InI at ii_p1
  clear hv
  show Tx (Ex S (n + 3)) S M_238 (kI K E) 0 0 0 [some (.inr 143), some (.inl p0), some (.inl p1)] [] mem
  refine Tx.aload_n hC te_238_0 rfl ?_
  refine Tx.aload_n hC te_238_1 rfl ?_
  refine Tx.iload_n hC te_238_2 rfl ?_
  refine Tx.virtI hC te_238_3 mt_235 (args := [.inr 143, .inl p0]) (rest := [.inr 143]) (c' := 0) (s' := 0) rfl rfl rfl rfl rfl rfl rfl rfl rfl rfl ?_
  refine f_235x h8 (fun r1s r1i => ?_) (fun r1s r1i => ?_)
  · skip
    refine Tx.ifc hC (t := 13) te_238_6 (by decide) (fun q => ?_) (fun q => absurd (show ¬ (1 : Int) = 0 by decide) q)
    refine Tx.iload_n hC te_238_13 rfl ?_
    refine Tx.iconst hC te_238_14 rfl ?_
    refine Tx.iconst hC te_238_15 rfl ?_
    refine Tx.statI hC te_238_16 (by decide) mt_227 (args := [.inl p1, .inl 0, .inl 5]) (rest := [.inr 143]) (c' := 0) (s' := 0) rfl rfl rfl rfl rfl rfl rfl ?_
    refine CWI.q hC (f_227 (fun r4a r4b r4i => ?_) (fun r4q r4i => ?_))
    · skip
      refine Tx.ifc hC (t := 26) te_238_19 (by decide) (fun q => ?_) (fun q => absurd (show ¬ (1 : Int) = 0 by decide) q)
      refine Tx.iconst hC te_238_26 rfl ?_
      refine Tx.putI hC te_238_27 rfl rfl rfl rfl ?_
      refine Tx.aload_n hC te_238_30 rfl ?_
      refine Tx.getI hC te_238_31 rfl rfl rfl (fun v8 v8e v8i => ?_)
      rw [upm_eq] at v8e
      subst v8e
      clear v8i
      refine Tx.ifc hC (t := 39) te_238_34 (by decide) (fun q => ?_) (fun q => absurd (show (0 : Int) ≤ 0 by decide) q)
      refine Tx.iload_n hC te_238_39 rfl ?_
      refine Tx.tsw hC (t := 111) (ts := [76, 83, 90, 97, 104]) te_238_40 rfl (by decide) rfl (fun q9 => ?_) (fun i t e q9 => ?_)
      · skip
        refine Tx.aload_n hC te_238_111 rfl ?_
        refine Tx.getR hC te_238_112 rfl rfl rfl ?_
        refine Tx.iload_n hC te_238_115 rfl ?_
        refine Tx.iald hC te_238_116 rfl (by omega) (fun v10 v10e v10i => ?_)
        unfold InI at v10i
        rw [upm_ne (by omega)] at v10e
        exact Tx.ireturn hC te_238_117 rfl (fun hr => show K v10 (upm mem 143 0 0) from H0 (by omega) (by omega) _ (by unfold opR; first | (rw [if_pos (by omega)]; assumption) | (rw [if_neg (by omega), if_pos (by omega)]; assumption) | (rw [if_neg (by omega), if_neg (by omega), if_pos (by omega)]; assumption) | (rw [if_neg (by omega), if_neg (by omega), if_neg (by omega), if_pos (by omega)]; assumption) | (rw [if_neg (by omega), if_neg (by omega), if_neg (by omega), if_neg (by omega), if_pos (by omega)]; assumption) | (rw [if_neg (by omega), if_neg (by omega), if_neg (by omega), if_neg (by omega), if_neg (by omega)]; assumption)))
      · have hi : i = 0 ∨ i = 1 ∨ i = 2 ∨ i = 3 ∨ i = 4 := by
          have := (List.getElem?_eq_some_iff.mp e).1
          simp only [List.length_cons, List.length_nil] at this
          omega
        rcases hi with hi | hi | hi | hi | hi
        · subst hi
          cases (show some 76 = some t from e)
          refine Tx.aload_n hC te_238_76 rfl ?_
          refine Tx.getR hC te_238_77 rfl rfl rfl ?_
          refine Tx.iload_n hC te_238_80 rfl ?_
          refine Tx.iald hC te_238_81 rfl (by omega) (fun v12 v12e v12i => ?_)
          unfold InI at v12i
          rw [upm_ne (by omega)] at v12e
          exact Tx.ireturn hC te_238_82 rfl (fun hr => show K v12 (upm mem 143 0 0) from H0 (by omega) (by omega) _ (by unfold opR; first | (rw [if_pos (by omega)]; assumption) | (rw [if_neg (by omega), if_pos (by omega)]; assumption) | (rw [if_neg (by omega), if_neg (by omega), if_pos (by omega)]; assumption) | (rw [if_neg (by omega), if_neg (by omega), if_neg (by omega), if_pos (by omega)]; assumption) | (rw [if_neg (by omega), if_neg (by omega), if_neg (by omega), if_neg (by omega), if_pos (by omega)]; assumption) | (rw [if_neg (by omega), if_neg (by omega), if_neg (by omega), if_neg (by omega), if_neg (by omega)]; assumption)))
        · subst hi
          cases (show some 83 = some t from e)
          refine Tx.aload_n hC te_238_83 rfl ?_
          refine Tx.getR hC te_238_84 rfl rfl rfl ?_
          refine Tx.iload_n hC te_238_87 rfl ?_
          refine Tx.iald hC te_238_88 rfl (by omega) (fun v14 v14e v14i => ?_)
          unfold InI at v14i
          rw [upm_ne (by omega)] at v14e
          exact Tx.ireturn hC te_238_89 rfl (fun hr => show K v14 (upm mem 143 0 0) from H0 (by omega) (by omega) _ (by unfold opR; first | (rw [if_pos (by omega)]; assumption) | (rw [if_neg (by omega), if_pos (by omega)]; assumption) | (rw [if_neg (by omega), if_neg (by omega), if_pos (by omega)]; assumption) | (rw [if_neg (by omega), if_neg (by omega), if_neg (by omega), if_pos (by omega)]; assumption) | (rw [if_neg (by omega), if_neg (by omega), if_neg (by omega), if_neg (by omega), if_pos (by omega)]; assumption) | (rw [if_neg (by omega), if_neg (by omega), if_neg (by omega), if_neg (by omega), if_neg (by omega)]; assumption)))
        · subst hi
          cases (show some 90 = some t from e)
          refine Tx.aload_n hC te_238_90 rfl ?_
          refine Tx.getR hC te_238_91 rfl rfl rfl ?_
          refine Tx.iload_n hC te_238_94 rfl ?_
          refine Tx.iald hC te_238_95 rfl (by omega) (fun v16 v16e v16i => ?_)
          unfold InI at v16i
          rw [upm_ne (by omega)] at v16e
          exact Tx.ireturn hC te_238_96 rfl (fun hr => show K v16 (upm mem 143 0 0) from H0 (by omega) (by omega) _ (by unfold opR; first | (rw [if_pos (by omega)]; assumption) | (rw [if_neg (by omega), if_pos (by omega)]; assumption) | (rw [if_neg (by omega), if_neg (by omega), if_pos (by omega)]; assumption) | (rw [if_neg (by omega), if_neg (by omega), if_neg (by omega), if_pos (by omega)]; assumption) | (rw [if_neg (by omega), if_neg (by omega), if_neg (by omega), if_neg (by omega), if_pos (by omega)]; assumption) | (rw [if_neg (by omega), if_neg (by omega), if_neg (by omega), if_neg (by omega), if_neg (by omega)]; assumption)))
        · subst hi
          cases (show some 97 = some t from e)
          refine Tx.aload_n hC te_238_97 rfl ?_
          refine Tx.getR hC te_238_98 rfl rfl rfl ?_
          refine Tx.iload_n hC te_238_101 rfl ?_
          refine Tx.iald hC te_238_102 rfl (by omega) (fun v18 v18e v18i => ?_)
          unfold InI at v18i
          rw [upm_ne (by omega)] at v18e
          exact Tx.ireturn hC te_238_103 rfl (fun hr => show K v18 (upm mem 143 0 0) from H0 (by omega) (by omega) _ (by unfold opR; first | (rw [if_pos (by omega)]; assumption) | (rw [if_neg (by omega), if_pos (by omega)]; assumption) | (rw [if_neg (by omega), if_neg (by omega), if_pos (by omega)]; assumption) | (rw [if_neg (by omega), if_neg (by omega), if_neg (by omega), if_pos (by omega)]; assumption) | (rw [if_neg (by omega), if_neg (by omega), if_neg (by omega), if_neg (by omega), if_pos (by omega)]; assumption) | (rw [if_neg (by omega), if_neg (by omega), if_neg (by omega), if_neg (by omega), if_neg (by omega)]; assumption)))
        · subst hi
          cases (show some 104 = some t from e)
          refine Tx.aload_n hC te_238_104 rfl ?_
          refine Tx.getR hC te_238_105 rfl rfl rfl ?_
          refine Tx.iload_n hC te_238_108 rfl ?_
          refine Tx.iald hC te_238_109 rfl (by omega) (fun v20 v20e v20i => ?_)
          unfold InI at v20i
          rw [upm_ne (by omega)] at v20e
          exact Tx.ireturn hC te_238_110 rfl (fun hr => show K v20 (upm mem 143 0 0) from H0 (by omega) (by omega) _ (by unfold opR; first | (rw [if_pos (by omega)]; assumption) | (rw [if_neg (by omega), if_pos (by omega)]; assumption) | (rw [if_neg (by omega), if_neg (by omega), if_pos (by omega)]; assumption) | (rw [if_neg (by omega), if_neg (by omega), if_neg (by omega), if_pos (by omega)]; assumption) | (rw [if_neg (by omega), if_neg (by omega), if_neg (by omega), if_neg (by omega), if_pos (by omega)]; assumption) | (rw [if_neg (by omega), if_neg (by omega), if_neg (by omega), if_neg (by omega), if_neg (by omega)]; assumption)))
    · skip
      refine Tx.ifc hC (t := 26) te_238_19 (by decide) (fun q => absurd q (show ¬ (¬ (0 : Int) = 0) by decide)) (fun q => ?_)
      refine Tx.iconst hC te_238_22 rfl ?_
      refine Tx.goto hC (t := 27) te_238_23 (by decide) ?_
      refine Tx.putI hC te_238_27 rfl rfl rfl rfl ?_
      refine Tx.aload_n hC te_238_30 rfl ?_
      refine Tx.getI hC te_238_31 rfl rfl rfl (fun v23 v23e v23i => ?_)
      rw [upm_eq] at v23e
      subst v23e
      clear v23i
      refine Tx.ifc hC (t := 39) te_238_34 (by decide) (fun q => absurd q (show ¬ ((2 : Int) ≤ 0) by decide)) (fun q => ?_)
      refine Tx.iconst hC te_238_37 rfl ?_
      exact Tx.ireturn hC te_238_38 rfl (fun hr => show K 0 (upm mem 143 0 2) from H2 (by omega) (by omega))
  · skip
    refine Tx.ifc hC (t := 13) te_238_6 (by decide) (fun q => absurd q (show ¬ (¬ (0 : Int) = 0) by decide)) (fun q => ?_)
    refine Tx.iconst hC te_238_9 rfl ?_
    refine Tx.goto hC (t := 27) te_238_10 (by decide) ?_
    refine Tx.putI hC te_238_27 rfl rfl rfl rfl ?_
    refine Tx.aload_n hC te_238_30 rfl ?_
    refine Tx.getI hC te_238_31 rfl rfl rfl (fun v25 v25e v25i => ?_)
    rw [upm_eq] at v25e
    subst v25e
    clear v25i
    refine Tx.ifc hC (t := 39) te_238_34 (by decide) (fun q => absurd q (show ¬ ((1 : Int) ≤ 0) by decide)) (fun q => ?_)
    refine Tx.iconst hC te_238_37 rfl ?_
    exact Tx.ireturn hC te_238_38 rfl (fun hr => show K 0 (upm mem 143 0 1) from H1 (by omega))
/-! laid by wip/hand/tg.py: isSound and need of the class, exactly -/
def ndQ (m : MM) (a w : Int) : Int := if w = 0 then m 10 a.toNat else if w = 1 then m 11 a.toNat else if w = 2 then m 12 a.toNat else m 13 a.toNat
theorem f_69x {S : Nat × (Nat → Int32)} {n : Nat} {mem : MM} {K : MM → Prop} {E : Nat → MM → Prop} (hI : ClS mem) (H : ∀ m', Rdy m' → Frm pNb mem m' → K m') (HE : ∀ m', ClS m' → Frm pNb mem m' → ¬ SndX m' → E 1 m') : CQV (Ex S (n + 14)) 69 [.inr 0] mem K E := by
  refine CY.of (k := 0) mt_69 rfl rfl (fun hv => ?_)
  have hC := Ex.mono S (n + 13)
  clear hv
  show Tx (Ex S (n + 13)) S M_69 (kV K E) 0 0 0 [some (.inr 0)] [] mem
  refine Tx.aload_n hC te_69_0 rfl ?_
  refine Tx.virtV hC te_69_1 mt_11 (args := [.inr 0]) (rest := []) (c' := 0) (s' := 0) rfl rfl rfl rfl rfl rfl rfl rfl rfl rfl ?_
  refine f_11 hI (fun m2 r1I hF3 => ?_)
  have hF3n : Frm pNb mem m2 := Frm.rf.tr hF3
  refine Tx.aload_n hC te_69_4 rfl ?_
  refine Tx.getI hC te_69_5 rfl rfl rfl (fun v4 v4e v4i => ?_)
  unfold InI at v4i
  have f5 := r1I.1.so
  refine Tx.ifc hC (t := 22) te_69_8 (by decide) (fun q6 => ?_) (fun q6 => ?_)
  · replace q6 : ¬ (v4 : Int) = 0 := q6
    exact Tx.vret hC te_69_22 rfl (show K m2 from H _ (r1I.rdy (by omega)) hF3n)
  · replace q6 : ¬ (¬ (v4 : Int) = 0) := q6
    exact Tx.thr hC te_69_11 rfl rfl rfl rfl rfl (show E 1 m2 from HE _ r1I.cs hF3n (fun q => absurd (r1I.2.2.2.mpr q) (by omega)))
theorem f_10x {S : Nat × (Nat → Int32)} {n : Nat} {mem : MM} {K : Int → MM → Prop} {E : Nat → MM → Prop} (hI : ClS mem) (H : ∀ r m', ClS m' → Frm pNb mem m' → (r = 0 ∨ r = 1) → (r = 1 ↔ SndX m') → K r m') : CQI (Ex S (n + 14)) 10 [.inr 0] mem K E := by
  refine CY.of (k := 0) mt_10 rfl rfl (fun hv => ?_)
  have hC := Ex.mono S (n + 13)
  clear hv
  show Tx (Ex S (n + 13)) S M_10 (kI K E) 0 0 0 [some (.inr 0)] [] mem
  refine Tx.aload_n hC te_10_0 rfl ?_
  refine Tx.virtV hC te_10_1 mt_11 (args := [.inr 0]) (rest := []) (c' := 0) (s' := 0) rfl rfl rfl rfl rfl rfl rfl rfl rfl rfl ?_
  refine f_11 hI (fun m2 r1I hF3 => ?_)
  have hF3n : Frm pNb mem m2 := Frm.rf.tr hF3
  refine Tx.aload_n hC te_10_4 rfl ?_
  refine Tx.getI hC te_10_5 rfl rfl rfl (fun v4 v4e v4i => ?_)
  unfold InI at v4i
  have f5 := r1I.1.so
  exact Tx.bret hC te_10_8 rfl (by omega) (show K v4 m2 from H _ _ r1I.cs hF3n (by omega) (by rw [v4e]; exact r1I.2.2.2))
theorem f_70n {S : Nat × (Nat → Int32)} {n : Nat} {mem : MM} {K : MM → Prop} {E : Nat → MM → Prop} {o : Int} (H : 0 ≤ o ∧ o < mem 9 0 → K mem) (HE : ¬ (0 ≤ o ∧ o < mem 9 0) → E 2 mem) : CQV (Ex S (n + 1)) 70 [.inr 0, .inl o] mem K E := by
  refine CY.of (k := 0) mt_70 rfl rfl (fun hv => ?_)
  have hC := Ex.mono S n
  have ii_o : InI o := hv (.inl o) (by simp)
  unfold InI at ii_o
  clear hv
  show Tx (Ex S n) S M_70 (kV K E) 0 0 0 [some (.inr 0), some (.inl o)] [] mem
  refine Tx.iload_n hC te_70_0 rfl ?_
  refine Tx.ifc hC (t := 15) te_70_1 (by decide) (fun q1 => ?_) (fun q1 => ?_)
  · replace q1 : (o : Int) < 0 := q1
    exact Tx.thr hC te_70_15 rfl rfl rfl rfl rfl (show E 2 mem from HE (by omega))
  · replace q1 : ¬ ((o : Int) < 0) := q1
    refine Tx.iload_n hC te_70_4 rfl ?_
    refine Tx.aload_n hC te_70_5 rfl ?_
    refine Tx.getR hC te_70_6 rfl rfl rfl ?_
    refine Tx.getI hC te_70_9 rfl rfl rfl (fun v2 v2e v2i => ?_)
    unfold InI at v2i
    refine Tx.icmp hC (t := 26) te_70_12 (by decide) (fun q3 => ?_) (fun q3 => ?_)
    · replace q3 : (o : Int) < v2 := q3
      exact Tx.vret hC te_70_26 rfl (show K mem from H (by omega))
    · replace q3 : ¬ ((o : Int) < v2) := q3
      exact Tx.thr hC te_70_15 rfl rfl rfl rfl rfl (show E 2 mem from HE (by omega))
theorem f_68x {S : Nat × (Nat → Int32)} {n : Nat} {mem : MM} {K : Int → MM → Prop} {E : Nat → MM → Prop} (hI : ClS mem) {p0 p1 : Int} (H : ∀ r m', ClS m' → Frm pNb mem m' → SndX m' → Enum (cwq m' 9) (m' 9 0).toNat (NdC m' (-1)) → 0 ≤ p0 ∧ p0 < m' 9 0 → 0 ≤ p1 ∧ p1 ≤ 3 → r = ndQ m' p0 p1 → K r m') (HE1 : ∀ m', ClS m' → Frm pNb mem m' → ¬ SndX m' → E 1 m') (HE2 : ∀ m', ClS m' → Frm pNb mem m' → SndX m' → Enum (cwq m' 9) (m' 9 0).toNat (NdC m' (-1)) → ¬ (0 ≤ p0 ∧ p0 < m' 9 0) → E 2 m') (HE3 : ∀ m', ClS m' → Frm pNb mem m' → SndX m' → Enum (cwq m' 9) (m' 9 0).toNat (NdC m' (-1)) → 0 ≤ p0 ∧ p0 < m' 9 0 → ¬ (0 ≤ p1 ∧ p1 ≤ 3) → E 3 m') : CQI (Ex S (n + 17)) 68 [.inr 0, .inl p0, .inl p1] mem K E := by
  refine CY.of (k := 0) mt_68 rfl rfl (fun hv => ?_)
  have hC := Ex.mono S (n + 16)
  have ii_p0 : InI p0 := hv (.inl p0) (by simp)
  unfold InI at ii_p0
  have ii_p1 : InI p1 := hv (.inl p1) (by simp)
  unfold InI at ii_p1
  clear hv
  have h8 := hI.1.b.1
  show Tx (Ex S (n + 16)) S M_68 (kI K E) 0 0 0 [some (.inr 0), some (.inl p0), some (.inl p1)] [] mem
  refine Tx.aload_n hC te_68_0 rfl ?_
  refine Tx.virtV hC te_68_1 mt_69 (args := [.inr 0]) (rest := []) (c' := 1) (s' := 6) rfl rfl rfl rfl rfl rfl rfl rfl rfl rfl ?_
  refine f_69x hI (fun m2 r1R hF3 => ?_) (fun m2 r1C hF3 r1s => HE1 _ r1C (Frm.rf.tr hF3) r1s)
  have r1w := r1R.1.w.2
  have hF3n : Frm pNb mem m2 := Frm.rf.tr hF3
  refine Tx.aload_n hC te_68_4 rfl ?_
  refine Tx.iload_n hC te_68_5 rfl ?_
  refine Tx.virtV hC te_68_6 mt_70 (args := [.inr 0, .inl p0]) (rest := []) (c' := 2) (s' := 12) rfl rfl rfl rfl rfl rfl rfl rfl rfl rfl ?_
  refine f_70n (fun r4a => ?_) (fun r4n => HE2 _ r1R.cs hF3n r1R.2.2.2.2 r1R.2.2.2.1.2 r4n)
  refine Tx.iload_n hC te_68_9 rfl ?_
  refine Tx.iconst hC te_68_10 rfl ?_
  refine Tx.statV hC te_68_11 (by decide) mt_66 (args := [.inl p1, .inl 3]) (rest := []) (c' := 3) (s' := 18) rfl rfl rfl rfl rfl rfl rfl ?_
  refine f_66n (fun r7a => ?_) (fun r7n => HE3 _ r1R.cs hF3n r1R.2.2.2.2 r1R.2.2.2.1.2 (by omega) r7n)
  refine Tx.iload_n hC te_68_14 rfl ?_
  refine Tx.tsw hC (t := 70) (ts := [40, 50, 60]) te_68_15 rfl (by decide) rfl (fun q10 => ?_) (fun i t e q10 => ?_)
  · skip
    refine Tx.aload_n hC te_68_70 rfl ?_
    refine Tx.getR hC te_68_71 rfl rfl rfl ?_
    refine Tx.getR hC te_68_74 rfl rfl rfl ?_
    refine Tx.iload_n hC te_68_77 rfl ?_
    refine Tx.iald hC te_68_78 rfl (by omega) (fun v11 v11e v11i => ?_)
    unfold InI at v11i
    exact Tx.ireturn hC te_68_79 rfl (fun hr => show K v11 m2 from H _ _ r1R.cs hF3n r1R.2.2.2.2 r1R.2.2.2.1.2 (by omega) (by omega) (by unfold ndQ; first | (rw [if_pos (by omega)]; assumption) | (rw [if_neg (by omega), if_pos (by omega)]; assumption) | (rw [if_neg (by omega), if_neg (by omega), if_pos (by omega)]; assumption) | (rw [if_neg (by omega), if_neg (by omega), if_neg (by omega)]; assumption)))
  · have hi : i = 0 ∨ i = 1 ∨ i = 2 := by
      have := (List.getElem?_eq_some_iff.mp e).1
      simp only [List.length_cons, List.length_nil] at this
      omega
    rcases hi with hi | hi | hi
    · subst hi
      cases (show some 40 = some t from e)
      refine Tx.aload_n hC te_68_40 rfl ?_
      refine Tx.getR hC te_68_41 rfl rfl rfl ?_
      refine Tx.getR hC te_68_44 rfl rfl rfl ?_
      refine Tx.iload_n hC te_68_47 rfl ?_
      refine Tx.iald hC te_68_48 rfl (by omega) (fun v12 v12e v12i => ?_)
      unfold InI at v12i
      exact Tx.ireturn hC te_68_49 rfl (fun hr => show K v12 m2 from H _ _ r1R.cs hF3n r1R.2.2.2.2 r1R.2.2.2.1.2 (by omega) (by omega) (by unfold ndQ; first | (rw [if_pos (by omega)]; assumption) | (rw [if_neg (by omega), if_pos (by omega)]; assumption) | (rw [if_neg (by omega), if_neg (by omega), if_pos (by omega)]; assumption) | (rw [if_neg (by omega), if_neg (by omega), if_neg (by omega)]; assumption)))
    · subst hi
      cases (show some 50 = some t from e)
      refine Tx.aload_n hC te_68_50 rfl ?_
      refine Tx.getR hC te_68_51 rfl rfl rfl ?_
      refine Tx.getR hC te_68_54 rfl rfl rfl ?_
      refine Tx.iload_n hC te_68_57 rfl ?_
      refine Tx.iald hC te_68_58 rfl (by omega) (fun v13 v13e v13i => ?_)
      unfold InI at v13i
      exact Tx.ireturn hC te_68_59 rfl (fun hr => show K v13 m2 from H _ _ r1R.cs hF3n r1R.2.2.2.2 r1R.2.2.2.1.2 (by omega) (by omega) (by unfold ndQ; first | (rw [if_pos (by omega)]; assumption) | (rw [if_neg (by omega), if_pos (by omega)]; assumption) | (rw [if_neg (by omega), if_neg (by omega), if_pos (by omega)]; assumption) | (rw [if_neg (by omega), if_neg (by omega), if_neg (by omega)]; assumption)))
    · subst hi
      cases (show some 60 = some t from e)
      refine Tx.aload_n hC te_68_60 rfl ?_
      refine Tx.getR hC te_68_61 rfl rfl rfl ?_
      refine Tx.getR hC te_68_64 rfl rfl rfl ?_
      refine Tx.iload_n hC te_68_67 rfl ?_
      refine Tx.iald hC te_68_68 rfl (by omega) (fun v14 v14e v14i => ?_)
      unfold InI at v14i
      exact Tx.ireturn hC te_68_69 rfl (fun hr => show K v14 m2 from H _ _ r1R.cs hF3n r1R.2.2.2.2 r1R.2.2.2.1.2 (by omega) (by omega) (by unfold ndQ; first | (rw [if_pos (by omega)]; assumption) | (rw [if_neg (by omega), if_pos (by omega)]; assumption) | (rw [if_neg (by omega), if_neg (by omega), if_pos (by omega)]; assumption) | (rw [if_neg (by omega), if_neg (by omega), if_neg (by omega)]; assumption)))
/-! a loop turn by turn: the model, and sums that go round told exactly -/
def wr (t : Int) : Int := (Int32.ofInt t).toInt
section TXX
variable {C : CXW} {S : Nat × (Nat → Int32)} {M : PM} {K : TK} {c s : Nat} {pc : Nat} {L : List (Option WV)} {st : List WV} {mem : MM}
theorem Tx.iaddX (hC : Cmono C) {a b : Nat} {x y : Int} (ht : (pT M).find? (fun e => e.1 == pc) = some (pc, .iadd, a, b)) (H : ∀ z, InI z → z = wr (x + y) → Tx C S M K c s (pc + 1) L (.inl z :: st) mem) : Tx C S M K c s pc L (.inl y :: .inl x :: st) mem :=
  Tx.go hC ht fun h0 lv h h9 h1 h2 h3 => by
    have := H (Int32.ofInt x + Int32.ofInt y).toInt (wiI _) (by unfold wr; rw [Int32.ofInt_add]) h0 lv h h9 h1 (stc (wiI _) (fun u hu => h2 u (List.mem_cons_of_mem _ (List.mem_cons_of_mem _ hu)))) h3
    rw [List.map_cons, show wv (.inl (Int32.ofInt x + Int32.ofInt y).toInt) = .int (Int32.ofInt x + Int32.ofInt y) from by show Value.int (Int32.ofInt _) = _; rw [Int32.ofInt_toInt]] at this
    exact this
theorem Tx.isubX (hC : Cmono C) {a b : Nat} {x y : Int} (ht : (pT M).find? (fun e => e.1 == pc) = some (pc, .isub, a, b)) (H : ∀ z, InI z → z = wr (x - y) → Tx C S M K c s (pc + 1) L (.inl z :: st) mem) : Tx C S M K c s pc L (.inl y :: .inl x :: st) mem :=
  Tx.go hC ht fun h0 lv h h9 h1 h2 h3 => by
    have := H (Int32.ofInt x - Int32.ofInt y).toInt (wiI _) (by unfold wr; rw [Int32.ofInt_sub]) h0 lv h h9 h1 (stc (wiI _) (fun u hu => h2 u (List.mem_cons_of_mem _ (List.mem_cons_of_mem _ hu)))) h3
    rw [List.map_cons, show wv (.inl (Int32.ofInt x - Int32.ofInt y).toInt) = .int (Int32.ofInt x - Int32.ofInt y) from by show Value.int (Int32.ofInt _) = _; rw [Int32.ofInt_toInt]] at this
    exact this
theorem Tx.imulX (hC : Cmono C) {a b : Nat} {x y : Int} (ht : (pT M).find? (fun e => e.1 == pc) = some (pc, .imul, a, b)) (H : ∀ z, InI z → z = wr (x * y) → Tx C S M K c s (pc + 1) L (.inl z :: st) mem) : Tx C S M K c s pc L (.inl y :: .inl x :: st) mem :=
  Tx.go hC ht fun h0 lv h h9 h1 h2 h3 => by
    have := H (Int32.ofInt x * Int32.ofInt y).toInt (wiI _) (by unfold wr; rw [Int32.ofInt_mul]) h0 lv h h9 h1 (stc (wiI _) (fun u hu => h2 u (List.mem_cons_of_mem _ (List.mem_cons_of_mem _ hu)))) h3
    rw [List.map_cons, show wv (.inl (Int32.ofInt x * Int32.ofInt y).toInt) = .int (Int32.ofInt x * Int32.ofInt y) from by show Value.int (Int32.ofInt _) = _; rw [Int32.ofInt_toInt]] at this
    exact this
end TXX
/-- kinds, rows, places, first values, sources and distances of ops -/
abbrev Acc : Type := (Nat → Int) × (Nat → Int) × (Nat → Int) × (Nat → Int) × (Nat → Nat → Int) × (Nat → Nat → Int)
abbrev PSt : Type := (Nat → Nat → Int) × (Nat → Nat → Int)
def lkM (A : Acc) (cm : Nat → Nat → Int) (o k : Nat) (t : Int) : Int := if A.2.2.2.2.1 o k = -1 then t else if A.2.2.2.2.1 o k = -2 then A.2.2.2.2.2 o k else if t - A.2.2.2.2.2 o k < 0 then A.2.2.2.1 (A.2.2.2.2.1 o k).toNat else cm (A.2.2.2.2.1 o k).toNat (t - A.2.2.2.2.2 o k).toNat
def opM (k a b : Int) : Int := if k = 0 then wr (a + b) else if k = 1 then wr (a - b) else if k = 2 then wr (a * b) else min a b
def acM (A : Acc) (s : PSt) (o t : Nat) : Int := if A.1 o = 4 then s.1 (A.2.1 o).toNat (t + A.2.2.1 o).toNat else if A.1 o = 5 then lkM A s.2 o 0 t else opM (A.1 o) (lkM A s.2 o 0 t) (lkM A s.2 o 1 t)
def up2 (f : Nat → Nat → Int) (a b : Nat) (v : Int) : Nat → Nat → Int := fun i j => if i = a ∧ j = b then v else f i j
def stM (A : Acc) (s : PSt) (o t : Nat) : PSt := (if A.1 o = 5 then up2 s.1 (A.2.1 o).toNat (t + A.2.2.1 o).toNat (acM A s o t) else s.1, up2 s.2 o t (acM A s o t))
def opsM (A : Acc) (s : PSt) (t : Nat) : Nat → PSt
  | 0 => s
  | o + 1 => stM A (opsM A s t o) o t
def trM (A : Acc) (N : Nat) : Nat → PSt
  | 0 => (fun r p => if r = 0 then 3 * (p : Int) + 1 else 7 * (p : Int) - 5, fun _ _ => 0)
  | t + 1 => opsM A (trM A N t) t N
/-- what has come when so many ops of a turn are done -/
def dn (N t o o' t' : Nat) : Prop := o' < N ∧ (t' < t ∨ (t' = t ∧ o' < o))
/-- the same ops come to the same -/
theorem lkM.cg {A B : Acc} {cm : Nat → Nat → Int} {o k : Nat} {t : Int} (h1 : A.2.2.2.2.1 o k = B.2.2.2.2.1 o k) (h2 : A.2.2.2.2.2 o k = B.2.2.2.2.2 o k) (h3 : 0 ≤ A.2.2.2.2.1 o k → A.2.2.2.1 (A.2.2.2.2.1 o k).toNat = B.2.2.2.1 (A.2.2.2.2.1 o k).toNat) (h4 : -2 ≤ A.2.2.2.2.1 o k) : lkM A cm o k t = lkM B cm o k t := by
  unfold lkM
  rw [← h1, ← h2]
  by_cases a : A.2.2.2.2.1 o k = -1
  · rw [if_pos a, if_pos a]
  · rw [if_neg a, if_neg a]
    by_cases b : A.2.2.2.2.1 o k = -2
    · rw [if_pos b, if_pos b]
    · rw [if_neg b, if_neg b, h3 (by omega)]
def AgO (A B : Acc) (o : Nat) : Prop := A.1 o = B.1 o ∧ (A.1 o = 4 ∨ A.1 o = 5 → A.2.1 o = B.2.1 o ∧ A.2.2.1 o = B.2.2.1 o) ∧ ∀ k, k < 2 → A.2.2.2.2.1 o k = B.2.2.2.2.1 o k ∧ A.2.2.2.2.2 o k = B.2.2.2.2.2 o k ∧ (0 ≤ A.2.2.2.2.1 o k → A.2.2.2.1 (A.2.2.2.2.1 o k).toNat = B.2.2.2.1 (A.2.2.2.2.1 o k).toNat) ∧ -2 ≤ A.2.2.2.2.1 o k
theorem AgO.lk {A B : Acc} {o : Nat} (h : AgO A B o) {cm : Nat → Nat → Int} {k : Nat} (hk : k < 2) {t : Int} : lkM A cm o k t = lkM B cm o k t := by
  have q := h.2.2 k hk
  exact lkM.cg q.1 q.2.1 q.2.2.1 q.2.2.2
theorem AgO.ac {A B : Acc} {o : Nat} (h : AgO A B o) {s : PSt} {t : Nat} : acM A s o t = acM B s o t := by
  unfold acM
  rw [← h.1, h.lk (k := 0) (by omega), h.lk (k := 1) (by omega)]
  by_cases a : A.1 o = 4
  · rw [if_pos a, if_pos a, (h.2.1 (Or.inl a)).1, (h.2.1 (Or.inl a)).2]
  · rw [if_neg a, if_neg a]
theorem AgO.st {A B : Acc} {o : Nat} (h : AgO A B o) {s : PSt} {t : Nat} : stM A s o t = stM B s o t := by
  unfold stM
  rw [h.ac, ← h.1]
  by_cases a : A.1 o = 5
  · rw [if_pos a, if_pos a, (h.2.1 (Or.inr a)).1, (h.2.1 (Or.inr a)).2]
  · rw [if_neg a, if_neg a]
theorem opsM.cg {A B : Acc} {s : PSt} {t : Nat} : ∀ n, (∀ o, o < n → AgO A B o) → opsM A s t n = opsM B s t n
  | 0, _ => rfl
  | n + 1, h => by
    show stM A (opsM A s t n) n t = stM B (opsM B s t n) n t
    rw [opsM.cg n (fun o ho => h o (by omega)), (h n (by omega)).st]
theorem trM.cg {A B : Acc} {N : Nat} (h : ∀ o, o < N → AgO A B o) : ∀ t, trM A N t = trM B N t
  | 0 => rfl
  | t + 1 => by
    show opsM A (trM A N t) t N = opsM B (trM B N t) t N
    rw [trM.cg h t, opsM.cg N h]
/-- accessors of both sides -/
def acsC (m : MM) : Acc := (m 2, rowB m, plcB m, m 4, fun o k => m 3 (4 * o + 2 * k), fun o k => m 3 (4 * o + 2 * k + 1))
def acsR (m : MM) : Acc := (m 144, rowF m, plcF m, m 149, fun o k => srcA m o k, fun o k => srcB m o k)
/-- what is told of sources lies behind -/
def SrcK (A : Acc) (N : Nat) (o k : Nat) : Prop := A.2.2.2.2.1 o k < 0 ∨ (A.2.2.2.2.1 o k < N ∧ (0 < A.2.2.2.2.2 o k ∨ A.2.2.2.2.1 o k < o) ∧ 0 ≤ A.2.2.2.2.2 o k)
theorem lkM.dnq {A : Acc} {N o k t : Nat} {cm cm2 : Nat → Nat → Int} (hs : SrcK A N o k) (h2 : -2 ≤ A.2.2.2.2.1 o k) (ho : o < N) (h : ∀ o' t', dn N t o o' t' → cm o' t' = cm2 o' t') : lkM A cm o k t = lkM A cm2 o k t := by
  unfold lkM SrcK at *
  by_cases a : A.2.2.2.2.1 o k = -1
  · rw [if_pos a, if_pos a]
  · rw [if_neg a, if_neg a]
    by_cases b : A.2.2.2.2.1 o k = -2
    · rw [if_pos b, if_pos b]
    · rw [if_neg b, if_neg b]
      by_cases c : (t : Int) - A.2.2.2.2.2 o k < 0
      · rw [if_pos c, if_pos c]
      · rw [if_neg c, if_neg c, h]
        unfold dn
        omega
/-- rows and what has come, in the class -/
def PlC (m : MM) (s : PSt) (N t o : Nat) : Prop := (∀ r p : Nat, r < 2 → p < 64 → m (136 + r) p = s.1 r p) ∧ ∀ o' t' : Nat, dn N t o o' t' → m 138 (40 * o' + t') = s.2 o' t'
def PlR (m : MM) (s : PSt) (N t o : Nat) : Prop := (∀ r p : Nat, r < 2 → p < 64 → m 165 (64 * r + p) = s.1 r p) ∧ ∀ o' t' : Nat, dn N t o o' t' → m 167 (41 * o' + t') = s.2 o' t'
def lkC (m : MM) (o k : Nat) (t : Int) : Int := lkM (acsC m) (fun o t => m 138 (40 * o + t)) o k t
def acC (m : MM) (o t : Nat) : Int := acM (acsC m) (fun r p => m (136 + r) p, fun o t => m 138 (40 * o + t)) o t
def lkR (m : MM) (o k : Nat) (t : Int) : Int := lkM (acsR m) (fun o t => m 167 (41 * o + t)) o k t
def acR (m : MM) (o t : Nat) : Int := acM (acsR m) (fun r p => m 165 (64 * r + p), fun o t => m 167 (41 * o + t)) o t
/-- one op of one turn -/
theorem acM.eq {A : Acc} {s s2 : PSt} {N t o : Nat} (ho : o < N) (hs : ¬ A.1 o = 4 → SrcK A N o 0 ∧ (¬ A.1 o = 5 → SrcK A N o 1)) (h2 : ¬ A.1 o = 4 → -2 ≤ A.2.2.2.2.1 o 0 ∧ (¬ A.1 o = 5 → -2 ≤ A.2.2.2.2.1 o 1)) (hr : A.1 o = 4 → s.1 (A.2.1 o).toNat (t + A.2.2.1 o).toNat = s2.1 (A.2.1 o).toNat (t + A.2.2.1 o).toNat) (h : ∀ o' t', dn N t o o' t' → s.2 o' t' = s2.2 o' t') : acM A s o t = acM A s2 o t := by
  unfold acM
  by_cases a : A.1 o = 4
  · rw [if_pos a, if_pos a, hr a]
  · rw [if_neg a, if_neg a]
    have q := hs a
    rw [lkM.dnq q.1 (h2 a).1 ho h]
    by_cases b : A.1 o = 5
    · rw [if_pos b, if_pos b]
    · rw [if_neg b, if_neg b, lkM.dnq (q.2 b) ((h2 a).2 b) ho h]
/-! laid by wip/hand/tg.py: a loop turn by turn -/
def pPx (A _i : Nat) : Prop := 136 ≤ A ∧ A ≤ 138
theorem dn_ne {N t o : Nat} : ¬ dn N t o o t := fun h => by unfold dn at h; omega
theorem dn_next {N t o o' t' : Nat} (h : dn N t (o + 1) o' t') : dn N t o o' t' ∨ (o' = o ∧ t' = t) := by unfold dn at *; omega
theorem dn_turn {N t o' t' : Nat} (h : dn N (t + 1) 0 o' t') : dn N t N o' t' := by unfold dn at *; omega
/-- frames: what the model reads of the class stays -/
theorem acsC_fr {m m' : MM} (e : ∀ A i, 0 < A → A < 9 → m' A i = m A i) : acsC m' = acsC m := by
  have h := bd_fr (q := 0) (fun A i a b _ => e A i a b)
  unfold acsC
  rw [h.2.1, h.2.2.1, show m' 2 = m 2 from funext fun i => e 2 i (by omega) (by omega), show m' 4 = m 4 from funext fun i => e 4 i (by omega) (by omega), show m' 3 = m 3 from funext fun i => e 3 i (by omega) (by omega)]
theorem PlC.ac {m m0 : MM} {N t o : Nat} {s : PSt} (h : PlC m s N t o) (hB : BodyOK m0) (hs : SndX m0) (e : ∀ A i, 0 < A → A < 9 → m A i = m0 A i) (hN : N = (m0 1 0).toNat) (ho : o < N) (ht : t < 40) : acC m o t = acM (acsC m0) s o t := by
  have h8 := hB.1
  have hop := hB.2.1 o (by omega)
  unfold acC
  rw [acsC_fr e]
  unfold BOp at hop
  have sk : ∀ k : Nat, (k : Int) < csN m0 o → SrcK (acsC m0) N o k := fun k hk => by
    have q := hs o k (by omega) hk
    have w := hB.src (o := o) (k := k) (by omega) hk
    unfold SrcC at q
    unfold srcOK at w
    unfold SrcK acsC
    simp only
    omega
  refine acM.eq ho (fun k4 => ⟨sk 0 ?_, fun k5 => sk 1 ?_⟩) (fun k4 => ⟨?_, fun k5 => ?_⟩) (fun k4 => ?_) (fun o' t' hd => h.2 o' t' hd)
  · have k4 : ¬ m0 2 o = 4 := k4
    unfold csN; rw [if_neg k4]; split <;> omega
  · have k4 : ¬ m0 2 o = 4 := k4
    have k5 : ¬ m0 2 o = 5 := k5
    unfold csN; rw [if_neg k4, if_neg k5]; omega
  · have k4 : ¬ m0 2 o = 4 := k4
    show -2 ≤ m0 3 (4 * o)
    unfold srcOK at hop
    omega
  · have k4 : ¬ m0 2 o = 4 := k4
    have k5 : ¬ m0 2 o = 5 := k5
    show -2 ≤ m0 3 (4 * o + 2)
    unfold srcOK at hop
    omega
  · have k4 : m0 2 o = 4 := k4
    have w := hop.2.2.1 k4
    have er : rowB m0 o = m0 3 (4 * o) := by unfold rowB; rw [if_neg (by omega)]
    have ep : plcB m0 o = m0 3 (4 * o + 1) := by unfold plcB; rw [if_neg (by omega)]
    exact h.1 (rowB m0 o).toNat ((t : Int) + plcB m0 o).toNat (by omega) (by omega)
/-- one op of one turn, in the class -/
theorem PlC.step {m m0 : MM} {N t o : Nat} {s : PSt} (h : PlC m s N t o) (hB : BodyOK m0) (hs : SndX m0) (e : ∀ A i, 0 < A → A < 9 → m A i = m0 A i) (hN : N = (m0 1 0).toNat) (ho : o < N) (ht : t < 40) {m2 : MM} (h2 : m2 = upm (if m 2 o = 5 then upm m (136 + (rowB m o).toNat) ((t : Int) + plcB m o).toNat (acC m o t) else m) 138 (40 * o + t) (acC m o t)) : PlC m2 (stM (acsC m0) s o t) N t (o + 1) := by
  have h8 := hB.1
  have hop := hB.2.1 o (by omega)
  have ea := h.ac hB hs e hN ho ht
  have ek := e 2 o (by omega) (by omega)
  have eb := bd_fr (q := 0) (fun A i a b _ => e A i a b)
  unfold BOp at hop
  rw [ea, ek, eb.2.1, eb.2.2.1] at h2
  generalize acM (acsC m0) s o t = v at h2 ea ⊢
  have hv : stM (acsC m0) s o t = (if m0 2 o = 5 then up2 s.1 (rowB m0 o).toNat ((t : Int) + plcB m0 o).toNat v else s.1, up2 s.2 o t v) := by
    have ea2 := h.ac hB hs e hN ho ht
    unfold stM
    rw [← ea2, ea]
    rfl
  rw [hv]
  refine ⟨fun r p hr hp => ?_, fun o' t' hd => ?_⟩
  · rw [h2, upm_ne (by omega)]
    by_cases k5 : m0 2 o = 5
    · rw [if_pos k5]
      show _ = (if m0 2 o = 5 then up2 s.1 (rowB m0 o).toNat ((t : Int) + plcB m0 o).toNat v else s.1) r p
      rw [if_pos k5]
      unfold up2
      by_cases w : r = (rowB m0 o).toNat ∧ p = ((t : Int) + plcB m0 o).toNat
      · rw [if_pos w, w.1, w.2]; exact upm_eq
      · rw [if_neg w, upm_ne (by omega)]; exact h.1 r p hr hp
    · rw [if_neg k5]
      show _ = (if m0 2 o = 5 then up2 s.1 (rowB m0 o).toNat ((t : Int) + plcB m0 o).toNat v else s.1) r p
      rw [if_neg k5]; exact h.1 r p hr hp
  · rw [h2]
    show _ = up2 s.2 o t v o' t'
    unfold up2
    have hd' := hd
    unfold dn at hd'
    by_cases w : o' = o ∧ t' = t
    · rw [if_pos w, w.1, w.2]; exact upm_eq
    · rw [if_neg w, upm_ne (by omega)]
      have hd2 := (dn_next hd).resolve_right w
      by_cases k5 : m0 2 o = 5
      · rw [if_pos k5]
        have q := hop.2.2.2 k5
        have er : rowB m0 o = m0 3 (4 * o + 2) := by unfold rowB; rw [if_pos k5]
        rw [upm_ne (by omega)]; exact h.2 o' t' hd2
      · rw [if_neg k5]; exact h.2 o' t' hd2
theorem lkC_eq {m : MM} {o k : Nat} {t : Int} : lkC m o k t = if m 3 (4 * o + 2 * k) = -1 then t else if m 3 (4 * o + 2 * k) = -2 then m 3 (4 * o + 2 * k + 1) else if t - m 3 (4 * o + 2 * k + 1) < 0 then m 4 (m 3 (4 * o + 2 * k)).toNat else m 138 (40 * (m 3 (4 * o + 2 * k)).toNat + (t - m 3 (4 * o + 2 * k + 1)).toNat) := rfl
theorem acC_eq {m : MM} {o t : Nat} : acC m o t = if m 2 o = 4 then m (136 + (rowB m o).toNat) ((t : Int) + plcB m o).toNat else if m 2 o = 5 then lkC m o 0 t else opM (m 2 o) (lkC m o 0 t) (lkC m o 1 t) := rfl
theorem PlC.turn {m : MM} {s : PSt} {N t : Nat} (h : PlC m s N t N) : PlC m s N (t + 1) 0 := ⟨h.1, fun o' t' hd => h.2 o' t' (dn_turn hd)⟩
theorem PlC.of_fill {m : MM} {A : Acc} {N : Nat} (h : ∀ j : Nat, (j : Int) < 64 → m 136 j = 3 * (j : Int) + 1 ∧ m 137 j = 7 * (j : Int) - 5) : PlC m (trM A N 0) N 0 0 := by
  refine ⟨fun r p hr hp => ?_, fun o' t' hd => ?_⟩
  · have a : r = 0 ∨ r = 1 := by omega
    rcases a with rfl | rfl
    · exact (h p (by omega)).1
    · exact (h p (by omega)).2
  · unfold dn at hd; omega
theorem PlC.eqN {m : MM} {A : Acc} {s : PSt} {N t o : Nat} (h : PlC m (opsM A s t o) N t o) (e : o = N) : PlC m (opsM A s t N) N t N := by rw [e] at h; exact h
theorem lkR_eq {m : MM} {o k : Nat} {t : Int} : lkR m o k t = if srcA m o k = -1 then t else if srcA m o k = -2 then srcB m o k else if t - srcB m o k < 0 then m 149 (srcA m o k).toNat else m 167 (41 * (srcA m o k).toNat + (t - srcB m o k).toNat) := rfl
theorem acR_eq {m : MM} {o t : Nat} : acR m o t = if m 144 o = 4 then m 165 (64 * (rowF m o).toNat + ((t : Int) + plcF m o).toNat) else if m 144 o = 5 then lkR m o 0 t else opM (m 144 o) (lkR m o 0 t) (lkR m o 1 t) := rfl
def pPr (A _i : Nat) : Prop := A = 165 ∨ A = 167
section QQ
variable {S : Nat × (Nat → Int32)} {n : Nat} {mem : MM} {K : Int → MM → Prop} {E : Nat → MM → Prop}
theorem f_242q {o k : Int} (h : 0 ≤ o ∧ o < 8) (H : ∀ r, r = srcA mem o.toNat k → K r mem) : CQI (Ex S (n + 1)) 242 [.inr 143, .inl o, .inl k] mem K E := CWI.q (Ex.mono S (n + 1)) (f_242 h (H _ rfl))
theorem f_243q {o k : Int} (h : 0 ≤ o ∧ o < 8) (H : ∀ r, r = srcB mem o.toNat k → K r mem) : CQI (Ex S (n + 1)) 243 [.inr 143, .inl o, .inl k] mem K E := CWI.q (Ex.mono S (n + 1)) (f_243 h (H _ rfl))
theorem f_250q {o : Int} (h : 0 ≤ o ∧ o < 8) (H : ∀ r, r = rowF mem o.toNat → K r mem) : CQI (Ex S (n + 1)) 250 [.inr 143, .inl o] mem K E := CWI.q (Ex.mono S (n + 1)) (f_250 h (H _ rfl))
theorem f_251q {o : Int} (h : 0 ≤ o ∧ o < 8) (H : ∀ r, r = plcF mem o.toNat → K r mem) : CQI (Ex S (n + 1)) 251 [.inr 143, .inl o] mem K E := CWI.q (Ex.mono S (n + 1)) (f_251 h (H _ rfl))
end QQ
/-- places and rows of ops that have them -/
theorem RefOK.rw {m : MM} (h : RefOK m) {o : Nat} (ho : o < 8) (hk : m 144 o = 4 ∨ m 144 o = 5) : (0 ≤ rowF m o ∧ rowF m o ≤ 1) ∧ 0 ≤ plcF m o ∧ plcF m o ≤ 7 := by
  have q := h.ops.2.1 o ho
  unfold OpOK at q
  unfold rowF plcF
  rcases hk with k | k
  · have := q.2.2.2.1 k
    rw [if_pos k, if_pos k]; omega
  · have := q.2.2.2.2 k
    rw [if_neg (by omega), if_neg (by omega)]; omega
theorem acsR_fr {m m' : MM} (e : ∀ A i, 143 < A → A < 154 → m' A i = m A i) : acsR m' = acsR m := by
  unfold acsR rowF plcF srcA srcB
  rw [show m' 144 = m 144 from funext fun i => e 144 i (by omega) (by omega), show m' 145 = m 145 from funext fun i => e 145 i (by omega) (by omega), show m' 146 = m 146 from funext fun i => e 146 i (by omega) (by omega), show m' 147 = m 147 from funext fun i => e 147 i (by omega) (by omega), show m' 148 = m 148 from funext fun i => e 148 i (by omega) (by omega), show m' 149 = m 149 from funext fun i => e 149 i (by omega) (by omega)]
theorem PlR.ac {m m0 : MM} {N t o : Nat} {s : PSt} (h : PlR m s N t o) (hr : RefOK m0) (hs : SoundM m0) (e : ∀ A i, 143 < A → A < 154 → m A i = m0 A i) (hN : N = (m0 143 1).toNat) (ho : o < N) (ht : t < 40) : acR m o t = acM (acsR m0) s o t := by
  have h8 := hr.ops.1
  have hop := hr.ops.2.1 o (by omega)
  have hab := hr.ab o (by omega)
  unfold acR
  rw [acsR_fr e]
  unfold OpOK at hop
  have sk : ∀ k : Nat, (k : Int) < srcN m0 o → SrcK (acsR m0) N o k := fun k hk => by
    have q := hs o (by omega) k (by omega) hk
    have w := hr.ops.src (o := o) (by omega) (k := (k : Int)) (by omega) hk
    unfold SrcS at q
    unfold srcOK at w
    unfold SrcK acsR
    simp only
    omega
  refine acM.eq ho (fun k4 => ⟨sk 0 ?_, fun k5 => sk 1 ?_⟩) (fun _ => ⟨hab.1.1, fun _ => hab.2.1⟩) (fun k4 => ?_) (fun o' t' hd => h.2 o' t' hd)
  · have k4 : ¬ m0 144 o = 4 := k4
    unfold srcN; rw [if_neg k4]; split <;> omega
  · have k4 : ¬ m0 144 o = 4 := k4
    have k5 : ¬ m0 144 o = 5 := k5
    unfold srcN; rw [if_neg k4, if_neg k5]; omega
  · have k4 : m0 144 o = 4 := k4
    have w := hr.rw (o := o) (by omega) (Or.inl k4)
    exact h.1 (rowF m0 o).toNat ((t : Int) + plcF m0 o).toNat (by omega) (by omega)
/-- one op of one turn, in the reference -/
theorem PlR.step {m m0 : MM} {N t o : Nat} {s : PSt} (h : PlR m s N t o) (hr : RefOK m0) (hs : SoundM m0) (e : ∀ A i, 143 < A → A < 154 → m A i = m0 A i) (hN : N = (m0 143 1).toNat) (ho : o < N) (ht : t < 40) {m2 : MM} (h2 : m2 = if m 144 o = 5 then upm (upm m 167 (41 * o + t) (acR m o t)) 165 (64 * (rowF m o).toNat + ((t : Int) + plcF m o).toNat) (acR m o t) else upm m 167 (41 * o + t) (acR m o t)) : PlR m2 (stM (acsR m0) s o t) N t (o + 1) := by
  have h8 := hr.ops.1
  have ea := h.ac hr hs e hN ho ht
  have ek := e 144 o (by omega) (by omega)
  have eb : rowF m o = rowF m0 o ∧ plcF m o = plcF m0 o := by
    have q := acsR_fr e
    exact ⟨congrFun (congrArg (fun A : Acc => A.2.1) q) o, congrFun (congrArg (fun A : Acc => A.2.2.1) q) o⟩
  rw [ea, ek, eb.1, eb.2] at h2
  generalize hvv : acM (acsR m0) s o t = v at h2 ea
  have hv : stM (acsR m0) s o t = (if m0 144 o = 5 then up2 s.1 (rowF m0 o).toNat ((t : Int) + plcF m0 o).toNat v else s.1, up2 s.2 o t v) := by
    unfold stM
    rw [hvv]
    rfl
  rw [hv]
  have hw : m0 144 o = 5 → (0 ≤ rowF m0 o ∧ rowF m0 o ≤ 1) ∧ 0 ≤ plcF m0 o ∧ plcF m0 o ≤ 7 := fun k5 => hr.rw (o := o) (by omega) (Or.inr k5)
  refine ⟨fun r p hr2 hp => ?_, fun o' t' hd => ?_⟩
  · by_cases k5 : m0 144 o = 5
    · have q := hw k5
      rw [h2, if_pos k5]
      show _ = (if m0 144 o = 5 then up2 s.1 (rowF m0 o).toNat ((t : Int) + plcF m0 o).toNat v else s.1) r p
      rw [if_pos k5]
      unfold up2
      by_cases w : r = (rowF m0 o).toNat ∧ p = ((t : Int) + plcF m0 o).toNat
      · rw [if_pos w, w.1, w.2]; exact upm_eq
      · rw [if_neg w, upm_ne (by omega), upm_ne (by omega)]; exact h.1 r p hr2 hp
    · rw [h2, if_neg k5, upm_ne (by omega)]
      show _ = (if m0 144 o = 5 then up2 s.1 (rowF m0 o).toNat ((t : Int) + plcF m0 o).toNat v else s.1) r p
      rw [if_neg k5]; exact h.1 r p hr2 hp
  · show _ = up2 s.2 o t v o' t'
    unfold up2
    have hd' := hd
    unfold dn at hd'
    have eA : m2 167 (41 * o' + t') = upm m 167 (41 * o + t) v 167 (41 * o' + t') := by
      by_cases k5 : m0 144 o = 5
      · rw [h2, if_pos k5, upm_ne (by omega)]
      · rw [h2, if_neg k5]
    rw [eA]
    by_cases w : o' = o ∧ t' = t
    · rw [if_pos w, w.1, w.2]; exact upm_eq
    · rw [if_neg w, upm_ne (by omega)]; exact h.2 o' t' ((dn_next hd).resolve_right w)
theorem PlR.turn {m : MM} {s : PSt} {N t : Nat} (h : PlR m s N t N) : PlR m s N (t + 1) 0 := ⟨h.1, fun o' t' hd => h.2 o' t' (dn_turn hd)⟩
theorem PlR.of_fill {m : MM} {A : Acc} {N : Nat} (h : ∀ j : Nat, (j : Int) < 64 → m 165 j = 3 * (j : Int) + 1 ∧ m 165 (64 + j) = 7 * (j : Int) - 5) : PlR m (trM A N 0) N 0 0 := by
  refine ⟨fun r p hr hp => ?_, fun o' t' hd => ?_⟩
  · have a : r = 0 ∨ r = 1 := by omega
    rcases a with rfl | rfl
    · have q := (h p (by omega)).1
      rw [show 64 * 0 + p = p by omega]; exact q
    · exact (h p (by omega)).2
  · unfold dn at hd; omega
theorem PlR.eqN {m : MM} {A : Acc} {s : PSt} {N t o : Nat} (h : PlR m (opsM A s t o) N t o) (e : o = N) : PlR m (opsM A s t N) N t N := by rw [e] at h; exact h
theorem f_258q {S : Nat × (Nat → Int32)} {n : Nat} {mem : MM} {K : Int → MM → Prop} {E : Nat → MM → Prop} {a b : Int} (H : ∀ r, r = min a b → K r mem) : CQI (Ex S (n + 1)) 258 [.inl a, .inl b] mem K E := fun hv => CWI.q (Ex.mono S (n + 1)) (f_258 (fun _ => H _ rfl)) hv
/-- rows of runs aside, it stays in order -/
theorem RefOK.fr0 {m m' : MM} (h : RefOK m) (hF : Frm pPr m m') : RefOK m' := Kp.rest (fun A i q => hF A i (by unfold pPr; omega)) h (fun o ho => by rw [hF 160 o (by unfold pPr; omega)]; exact h.sl o ho) (fun j hj => by rw [hF _ _ (by unfold pPr; omega), hF _ _ (by unfold pPr; omega), hF _ _ (by unfold pPr; omega), hF _ _ (by unfold pPr; omega)]; exact h.r48 j hj) (by rw [hF 143 12 (by unfold pPr; omega)]; exact h.nd)
theorem rp_fr {m m' : MM} (e : ∀ A i, 143 < A → A < 154 → m' A i = m A i) {o : Nat} : rowF m' o = rowF m o ∧ plcF m' o = plcF m o := by
  have q := acsR_fr e
  exact ⟨congrFun (congrArg (fun A : Acc => A.2.1) q) o, congrFun (congrArg (fun A : Acc => A.2.2.1) q) o⟩
theorem f_164x {S : Nat × (Nat → Int32)} {n : Nat} {mem : MM} {K : Int → MM → Prop} {E : Nat → MM → Prop} {o t : Int} (ho : 0 ≤ o ∧ o < 8) (ht : t ≤ 39) (H : ∀ r, r = (if t < 0 then mem 4 o.toNat else mem 138 (40 * o.toNat + t.toNat)) → K r mem) : CQI (Ex S (n + 1)) 164 [.inr 134, .inr 1, .inl o, .inl t] mem K E := by
  refine CY.of (k := 0) mt_164 rfl rfl (fun hv => ?_)
  have hC := Ex.mono S n
  have ii_o : InI o := hv (.inl o) (by simp)
  unfold InI at ii_o
  have ii_t : InI t := hv (.inl t) (by simp)
  unfold InI at ii_t
  clear hv
  show Tx (Ex S n) S M_164 (kI K E) 0 0 0 [some (.inr 134), some (.inr 1), some (.inl o), some (.inl t)] [] mem
  refine Tx.iload_n hC te_164_0 rfl ?_
  refine Tx.ifc hC (t := 13) te_164_1 (by decide) (fun q1 => ?_) (fun q1 => ?_)
  · replace q1 : 0 ≤ (t : Int) := q1
    refine Tx.aload_n hC te_164_13 rfl ?_
    refine Tx.getR hC te_164_14 rfl rfl rfl ?_
    refine Tx.iload_n hC te_164_17 rfl ?_
    refine Tx.bipush hC te_164_18 rfl rfl ?_
    refine Tx.imulW hC te_164_20 (fun z2 z2i z2e => ?_)
    unfold InI at z2i z2e
    first | replace z2e := z2e (by omega) | clear z2e
    refine Tx.iload_n hC te_164_21 rfl ?_
    refine Tx.iaddW hC te_164_22 (fun z3 z3i z3e => ?_)
    unfold InI at z3i z3e
    first | replace z3e := z3e (by omega) | clear z3e
    refine Tx.iald hC te_164_23 rfl (by omega) (fun v4 v4e v4i => ?_)
    unfold InI at v4i
    exact Tx.ireturn hC te_164_24 rfl (fun hr => show K v4 mem from H _ (by first | (rw [if_pos (by omega)]; assumption) | (rw [if_neg (by omega), v4e]; congr 1; omega)))
  · replace q1 : ¬ (0 ≤ (t : Int)) := q1
    refine Tx.aload_n hC te_164_4 rfl ?_
    refine Tx.getR hC te_164_5 rfl rfl rfl ?_
    refine Tx.iload_n hC te_164_8 rfl ?_
    refine Tx.iald hC te_164_9 rfl (by omega) (fun v5 v5e v5i => ?_)
    unfold InI at v5i
    refine Tx.goto hC (t := 24) te_164_10 (by decide) ?_
    exact Tx.ireturn hC te_164_24 rfl (fun hr => show K v5 mem from H _ (by first | (rw [if_pos (by omega)]; assumption) | (rw [if_neg (by omega), v5e]; congr 1; omega)))
theorem f_163x {S : Nat × (Nat → Int32)} {n : Nat} {mem : MM} {K : Int → MM → Prop} {E : Nat → MM → Prop} (hB : BodyOK mem) {o w t : Int} (ho : 0 ≤ o ∧ o < 8) (hw : 0 ≤ w ∧ w < csN mem o.toNat) (ht : 0 ≤ t ∧ t ≤ 39) (H : ∀ r, r = lkC mem o.toNat w.toNat t → K r mem) : CQI (Ex S (n + 2)) 163 [.inr 134, .inr 1, .inl o, .inl w, .inl t] mem K E := by
  refine CY.of (k := 2) mt_163 rfl rfl (fun hv => ?_)
  have hC := Ex.mono S (n + 1)
  have ii_o : InI o := hv (.inl o) (by simp)
  unfold InI at ii_o
  have ii_w : InI w := hv (.inl w) (by simp)
  unfold InI at ii_w
  have ii_t : InI t := hv (.inl t) (by simp)
  unfold InI at ii_t
  clear hv
  have hcs := csN_le mem o.toNat
  have hsr := hB.src (o := o.toNat) (k := w.toNat) (by omega) (by omega)
  unfold srcOK at hsr
  show Tx (Ex S (n + 1)) S M_163 (kI K E) 0 0 0 [some (.inr 134), some (.inr 1), some (.inl o), some (.inl w), some (.inl t), none, none] [] mem
  refine Tx.aload_n hC te_163_0 rfl ?_
  refine Tx.iload_n hC te_163_1 rfl ?_
  refine Tx.iload_n hC te_163_2 rfl ?_
  refine Tx.virtI hC te_163_3 mt_14 (args := [.inr 1, .inl o, .inl w]) (rest := []) (c' := 0) (s' := 0) rfl rfl rfl rfl rfl rfl rfl rfl rfl rfl ?_
  refine f_14s hB (by omega) (by omega) (fun r1 r1e r1a r1b r1i => ?_)
  unfold InI at r1i
  refine Tx.istore hC te_163_6 rfl ?_
  refine Tx.aload_n hC te_163_8 rfl ?_
  refine Tx.iload_n hC te_163_9 rfl ?_
  refine Tx.iload_n hC te_163_10 rfl ?_
  refine Tx.virtI hC te_163_11 mt_15 (args := [.inr 1, .inl o, .inl w]) (rest := []) (c' := 0) (s' := 0) rfl rfl rfl rfl rfl rfl rfl rfl rfl rfl ?_
  refine f_15q (by omega) (by omega) (fun r4 r4e r4i => ?_)
  unfold InI at r4i
  refine Tx.istore hC te_163_14 rfl ?_
  refine Tx.iload hC te_163_16 rfl ?_
  refine Tx.iconst hC te_163_18 rfl ?_
  refine Tx.icmp hC (t := 25) te_163_19 (by decide) (fun q7 => ?_) (fun q7 => ?_)
  · replace q7 : ¬ (r1 : Int) = (-1) := q7
    refine Tx.iload hC te_163_25 rfl ?_
    refine Tx.bipush hC te_163_27 rfl rfl ?_
    refine Tx.icmp hC (t := 35) te_163_29 (by decide) (fun q8 => ?_) (fun q8 => ?_)
    · replace q8 : ¬ (r1 : Int) = (-2) := q8
      refine Tx.aload_n hC te_163_35 rfl ?_
      refine Tx.aload_n hC te_163_36 rfl ?_
      refine Tx.iload hC te_163_37 rfl ?_
      refine Tx.iload hC te_163_39 rfl ?_
      refine Tx.iload hC te_163_41 rfl ?_
      refine Tx.isubW hC te_163_43 (fun z9 z9i z9e => ?_)
      unfold InI at z9i z9e
      first | replace z9e := z9e (by omega) | clear z9e
      refine Tx.virtI hC te_163_44 mt_164 (args := [.inr 134, .inr 1, .inl r1, .inl z9]) (rest := []) (c' := 0) (s' := 0) rfl rfl rfl rfl rfl rfl rfl rfl rfl rfl ?_
      refine f_164x (by omega) (by omega) (fun r10 r10e r10i => ?_)
      rw [show z9 = t - r4 by omega] at r10e
      unfold InI at r10i
      exact Tx.ireturn hC te_163_47 rfl (fun hr => show K r10 mem from H _ (by rw [lkC_eq, ← r1e, ← r4e]; first | (rw [if_pos (by omega)]; done) | (rw [if_neg (by omega), if_pos (by omega)]; done) | (rw [if_neg (by omega), if_neg (by omega)]; assumption)))
    · replace q8 : ¬ (¬ (r1 : Int) = (-2)) := q8
      refine Tx.iload hC te_163_32 rfl ?_
      exact Tx.ireturn hC te_163_34 rfl (fun hr => show K r4 mem from H _ (by rw [lkC_eq, ← r1e, ← r4e]; first | (rw [if_pos (by omega)]; done) | (rw [if_neg (by omega), if_pos (by omega)]; done) | (rw [if_neg (by omega), if_neg (by omega)]; assumption)))
  · replace q7 : ¬ (¬ (r1 : Int) = (-1)) := q7
    refine Tx.iload hC te_163_22 rfl ?_
    exact Tx.ireturn hC te_163_24 rfl (fun hr => show K t mem from H _ (by rw [lkC_eq, ← r1e, ← r4e]; first | (rw [if_pos (by omega)]; done) | (rw [if_neg (by omega), if_pos (by omega)]; done) | (rw [if_neg (by omega), if_neg (by omega)]; assumption)))
theorem f_162x {S : Nat × (Nat → Int32)} {n : Nat} {mem : MM} {K : Int → MM → Prop} {E : Nat → MM → Prop} (hB : BodyOK mem) {o t : Int} (ho : 0 ≤ o ∧ o < 8) (ht : 0 ≤ t ∧ t ≤ 39) (H : ∀ r m', r = acC mem o.toNat t.toNat → m' = (if mem 2 o.toNat = 5 then upm mem (136 + (rowB mem o.toNat).toNat) (t + plcB mem o.toNat).toNat r else mem) → Frm pPx mem m' → K r m') : CQI (Ex S (n + 3)) 162 [.inr 134, .inr 1, .inl o, .inl t] mem K E := by
  refine CY.of (k := 3) mt_162 rfl rfl (fun hv => ?_)
  have hC := Ex.mono S (n + 2)
  have ii_o : InI o := hv (.inl o) (by simp)
  unfold InI at ii_o
  have ii_t : InI t := hv (.inl t) (by simp)
  unfold InI at ii_t
  clear hv
  have et : ((t.toNat : Nat) : Int) = t := by omega
  have hkd := hB.kd (o := o.toNat) (by omega)
  have hcs : ¬ mem 2 o.toNat = 4 → 1 ≤ csN mem o.toNat ∧ (¬ mem 2 o.toNat = 5 → csN mem o.toNat = 2) := fun k4 => by
    unfold csN
    rw [if_neg k4]
    refine ⟨by split <;> omega, fun k5 => if_neg k5⟩
  have hrw : 4 ≤ mem 2 o.toNat → (0 ≤ rowB mem o.toNat ∧ rowB mem o.toNat ≤ 1) ∧ 0 ≤ plcB mem o.toNat ∧ plcB mem o.toNat ≤ 7 := fun k => by
    have := hB.row (o := o.toNat) (by omega) k
    omega
  show Tx (Ex S (n + 2)) S M_162 (kI K E) 0 0 0 [some (.inr 134), some (.inr 1), some (.inl o), some (.inl t), none, none, none] [] mem
  refine Tx.aload_n hC te_162_0 rfl ?_
  refine Tx.getR hC te_162_1 rfl rfl rfl ?_
  refine Tx.iload_n hC te_162_4 rfl ?_
  refine Tx.iald hC te_162_5 rfl (by omega) (fun v1 v1e v1i => ?_)
  unfold InI at v1i
  refine Tx.istore hC te_162_6 rfl ?_
  refine Tx.iload hC te_162_8 rfl ?_
  refine Tx.iconst hC te_162_10 rfl ?_
  refine Tx.icmp hC (t := 33) te_162_11 (by decide) (fun q2 => ?_) (fun q2 => ?_)
  · replace q2 : ¬ (v1 : Int) = 4 := q2
    refine Tx.aload_n hC te_162_33 rfl ?_
    refine Tx.aload_n hC te_162_34 rfl ?_
    refine Tx.iload_n hC te_162_35 rfl ?_
    refine Tx.iconst hC te_162_36 rfl ?_
    refine Tx.iload_n hC te_162_37 rfl ?_
    refine Tx.virtI hC te_162_38 mt_163 (args := [.inr 134, .inr 1, .inl o, .inl 0, .inl t]) (rest := []) (c' := 0) (s' := 0) rfl rfl rfl rfl rfl rfl rfl rfl rfl rfl ?_
    refine f_163x hB (by omega) (by omega) (by omega) (fun r3 r3e r3i => ?_)
    change r3 = lkC mem o.toNat 0 t at r3e
    unfold InI at r3i
    refine Tx.istore hC te_162_41 rfl ?_
    refine Tx.iload hC te_162_43 rfl ?_
    refine Tx.iconst hC te_162_45 rfl ?_
    refine Tx.icmp hC (t := 72) te_162_46 (by decide) (fun q6 => ?_) (fun q6 => ?_)
    · replace q6 : ¬ (v1 : Int) = 5 := q6
      refine Tx.aload_n hC te_162_72 rfl ?_
      refine Tx.aload_n hC te_162_73 rfl ?_
      refine Tx.iload_n hC te_162_74 rfl ?_
      refine Tx.iconst hC te_162_75 rfl ?_
      refine Tx.iload_n hC te_162_76 rfl ?_
      refine Tx.virtI hC te_162_77 mt_163 (args := [.inr 134, .inr 1, .inl o, .inl 1, .inl t]) (rest := []) (c' := 0) (s' := 0) rfl rfl rfl rfl rfl rfl rfl rfl rfl rfl ?_
      refine f_163x hB (by omega) (by omega) (by omega) (fun r7 r7e r7i => ?_)
      change r7 = lkC mem o.toNat 1 t at r7e
      unfold InI at r7i
      refine Tx.istore hC te_162_80 rfl ?_
      refine Tx.iload hC te_162_82 rfl ?_
      refine Tx.tsw hC (t := 130) (ts := [112, 118, 124]) te_162_84 rfl (by decide) rfl (fun q10 => ?_) (fun i t e q10 => ?_)
      · skip
        refine Tx.iload hC te_162_130 rfl ?_
        refine Tx.iload hC te_162_132 rfl ?_
        refine Tx.statI hC te_162_134 (by decide) mt_29 (args := [.inl r3, .inl r7]) (rest := []) (c' := 0) (s' := 0) rfl rfl rfl rfl rfl rfl rfl ?_
        refine f_29q (fun r11 r11a r11b r11c r11i => ?_)
        unfold InI at r11i
        exact Tx.ireturn hC te_162_137 rfl (fun hr => show K r11 mem from H _ _ (by { rw [acC_eq, et]; first | (rw [if_pos (by omega), r11e, eR, ← hh, ← hh]; congr 1; omega) | (rw [if_neg (by omega), if_pos (by omega)]; assumption) | (rw [if_neg (by omega), if_neg (by omega), ← r3e, ← r7e]; unfold opM; first | (rw [if_pos (by omega)]; assumption) | (rw [if_neg (by omega), if_pos (by omega)]; assumption) | (rw [if_neg (by omega), if_neg (by omega), if_pos (by omega)]; assumption) | (rw [if_neg (by omega), if_neg (by omega), if_neg (by omega)]; omega)) }) (by rw [if_neg (by omega)]) (Frm.rf))
      · have hi : i = 0 ∨ i = 1 ∨ i = 2 := by
          have := (List.getElem?_eq_some_iff.mp e).1
          simp only [List.length_cons, List.length_nil] at this
          omega
        rcases hi with hi | hi | hi
        · subst hi
          cases (show some 112 = some t from e)
          refine Tx.iload hC te_162_112 rfl ?_
          refine Tx.iload hC te_162_114 rfl ?_
          refine Tx.iaddX hC te_162_116 (fun z14 z14i z14e => ?_)
          unfold InI at z14i
          exact Tx.ireturn hC te_162_117 rfl (fun hr => show K z14 mem from H _ _ (by { rw [acC_eq, et]; first | (rw [if_pos (by omega), z14e, eR, ← hh, ← hh]; congr 1; omega) | (rw [if_neg (by omega), if_pos (by omega)]; assumption) | (rw [if_neg (by omega), if_neg (by omega), ← r3e, ← r7e]; unfold opM; first | (rw [if_pos (by omega)]; assumption) | (rw [if_neg (by omega), if_pos (by omega)]; assumption) | (rw [if_neg (by omega), if_neg (by omega), if_pos (by omega)]; assumption) | (rw [if_neg (by omega), if_neg (by omega), if_neg (by omega)]; omega)) }) (by rw [if_neg (by omega)]) (Frm.rf))
        · subst hi
          cases (show some 118 = some t from e)
          refine Tx.iload hC te_162_118 rfl ?_
          refine Tx.iload hC te_162_120 rfl ?_
          refine Tx.isubX hC te_162_122 (fun z15 z15i z15e => ?_)
          unfold InI at z15i
          exact Tx.ireturn hC te_162_123 rfl (fun hr => show K z15 mem from H _ _ (by { rw [acC_eq, et]; first | (rw [if_pos (by omega), z15e, eR, ← hh, ← hh]; congr 1; omega) | (rw [if_neg (by omega), if_pos (by omega)]; assumption) | (rw [if_neg (by omega), if_neg (by omega), ← r3e, ← r7e]; unfold opM; first | (rw [if_pos (by omega)]; assumption) | (rw [if_neg (by omega), if_pos (by omega)]; assumption) | (rw [if_neg (by omega), if_neg (by omega), if_pos (by omega)]; assumption) | (rw [if_neg (by omega), if_neg (by omega), if_neg (by omega)]; omega)) }) (by rw [if_neg (by omega)]) (Frm.rf))
        · subst hi
          cases (show some 124 = some t from e)
          refine Tx.iload hC te_162_124 rfl ?_
          refine Tx.iload hC te_162_126 rfl ?_
          refine Tx.imulX hC te_162_128 (fun z16 z16i z16e => ?_)
          unfold InI at z16i
          exact Tx.ireturn hC te_162_129 rfl (fun hr => show K z16 mem from H _ _ (by { rw [acC_eq, et]; first | (rw [if_pos (by omega), z16e, eR, ← hh, ← hh]; congr 1; omega) | (rw [if_neg (by omega), if_pos (by omega)]; assumption) | (rw [if_neg (by omega), if_neg (by omega), ← r3e, ← r7e]; unfold opM; first | (rw [if_pos (by omega)]; assumption) | (rw [if_neg (by omega), if_pos (by omega)]; assumption) | (rw [if_neg (by omega), if_neg (by omega), if_pos (by omega)]; assumption) | (rw [if_neg (by omega), if_neg (by omega), if_neg (by omega)]; omega)) }) (by rw [if_neg (by omega)]) (Frm.rf))
    · replace q6 : ¬ (¬ (v1 : Int) = 5) := q6
      refine Tx.aload_n hC te_162_49 rfl ?_
      refine Tx.getR hC te_162_50 rfl rfl rfl ?_
      refine Tx.aload_n hC te_162_53 rfl ?_
      refine Tx.iload_n hC te_162_54 rfl ?_
      refine Tx.virtI hC te_162_55 mt_24 (args := [.inr 1, .inl o]) (rest := [.inr 135]) (c' := 0) (s' := 0) rfl rfl rfl rfl rfl rfl rfl rfl rfl rfl ?_
      refine f_24q (by omega) (fun r17 r17e r17i => ?_)
      unfold InI at r17i
      refine Tx.aaldP hC te_162_58 (by omega) (fun R eR => ?_)
      have hR : shA R = some (.inl 64) := rowP eR (by omega)
      refine Tx.iload_n hC te_162_59 rfl ?_
      refine Tx.aload_n hC te_162_60 rfl ?_
      refine Tx.iload_n hC te_162_61 rfl ?_
      refine Tx.virtI hC te_162_62 mt_25 (args := [.inr 1, .inl o]) (rest := [.inl t, .inr R]) (c' := 0) (s' := 0) rfl rfl rfl rfl rfl rfl rfl rfl rfl rfl ?_
      refine f_25q (by omega) (fun r20 r20e r20i => ?_)
      unfold InI at r20i
      refine Tx.iaddW hC te_162_65 (fun z23 z23i z23e => ?_)
      unfold InI at z23i z23e
      first | replace z23e := z23e (by omega) | clear z23e
      refine Tx.iload hC te_162_66 rfl ?_
      refine Tx.iast hC te_162_68 hR (by omega) ?_
      refine Tx.iload hC te_162_69 rfl ?_
      exact Tx.ireturn hC te_162_71 rfl (fun hr => show K r3 (upm mem R (Int.toNat z23) r3) from H _ _ (by { rw [acC_eq, et]; first | (rw [if_pos (by omega), r3e, eR, ← r17e, ← r20e]; congr 1; omega) | (rw [if_neg (by omega), if_pos (by omega)]; assumption) | (rw [if_neg (by omega), if_neg (by omega), ← r3e, ← hh]; unfold opM; first | (rw [if_pos (by omega)]; assumption) | (rw [if_neg (by omega), if_pos (by omega)]; assumption) | (rw [if_neg (by omega), if_neg (by omega), if_pos (by omega)]; assumption) | (rw [if_neg (by omega), if_neg (by omega), if_neg (by omega)]; omega)) }) (by { rw [if_pos (by omega), eR, ← r17e, ← r20e]; congr 1; omega }) (Frm.up Frm.rf (by unfold pPx; omega)))
  · replace q2 : ¬ (¬ (v1 : Int) = 4) := q2
    refine Tx.aload_n hC te_162_14 rfl ?_
    refine Tx.getR hC te_162_15 rfl rfl rfl ?_
    refine Tx.aload_n hC te_162_18 rfl ?_
    refine Tx.iload_n hC te_162_19 rfl ?_
    refine Tx.virtI hC te_162_20 mt_24 (args := [.inr 1, .inl o]) (rest := [.inr 135]) (c' := 0) (s' := 0) rfl rfl rfl rfl rfl rfl rfl rfl rfl rfl ?_
    refine f_24q (by omega) (fun r25 r25e r25i => ?_)
    unfold InI at r25i
    refine Tx.aaldP hC te_162_23 (by omega) (fun R eR => ?_)
    have hR : shA R = some (.inl 64) := rowP eR (by omega)
    refine Tx.iload_n hC te_162_24 rfl ?_
    refine Tx.aload_n hC te_162_25 rfl ?_
    refine Tx.iload_n hC te_162_26 rfl ?_
    refine Tx.virtI hC te_162_27 mt_25 (args := [.inr 1, .inl o]) (rest := [.inl t, .inr R]) (c' := 0) (s' := 0) rfl rfl rfl rfl rfl rfl rfl rfl rfl rfl ?_
    refine f_25q (by omega) (fun r28 r28e r28i => ?_)
    unfold InI at r28i
    refine Tx.iaddW hC te_162_30 (fun z31 z31i z31e => ?_)
    unfold InI at z31i z31e
    first | replace z31e := z31e (by omega) | clear z31e
    refine Tx.iald hC te_162_31 hR (by omega) (fun v32 v32e v32i => ?_)
    unfold InI at v32i
    exact Tx.ireturn hC te_162_32 rfl (fun hr => show K v32 mem from H _ _ (by { rw [acC_eq, et]; first | (rw [if_pos (by omega), v32e, eR, ← r25e, ← r28e]; congr 1; omega) | (rw [if_neg (by omega), if_pos (by omega)]; assumption) | (rw [if_neg (by omega), if_neg (by omega), ← hh, ← hh]; unfold opM; first | (rw [if_pos (by omega)]; assumption) | (rw [if_neg (by omega), if_pos (by omega)]; assumption) | (rw [if_neg (by omega), if_neg (by omega), if_pos (by omega)]; assumption) | (rw [if_neg (by omega), if_neg (by omega), if_neg (by omega)]; omega)) }) (by rw [if_neg (by omega)]) (Frm.rf))
theorem f_161x {S : Nat × (Nat → Int32)} {n : Nat} {mem : MM} {K : MM → Prop} {E : Nat → MM → Prop} (hB : BodyOK mem) (hS : SndX mem) {t : Int} (ht : 0 ≤ t ∧ t ≤ 40) (H : ∀ m', Frm pPx mem m' → PlC m' (trM (acsC mem) (mem 1 0).toNat t.toNat) (mem 1 0).toNat t.toNat 0 → K m') : CQV (Ex S (n + 4)) 161 [.inr 134, .inr 1, .inl t] mem K E := by
  refine CY.of (k := 2) mt_161 rfl rfl (fun hv => ?_)
  have hC := Ex.mono S (n + 3)
  have ii_t : InI t := hv (.inl t) (by simp)
  unfold InI at ii_t
  clear hv
  have h8 := hB.1
  show Tx (Ex S (n + 3)) S M_161 (kV K E) 0 0 0 [some (.inr 134), some (.inr 1), some (.inl t), none, none] [] mem
  have l_43 : ∀ (N : Nat) (x3 : Int) (m_43 : MM), (0 ≤ x3 ∧ x3 ≤ t) → (PlC m_43 (trM (acsC mem) (mem 1 0).toNat (Int.toNat x3)) (mem 1 0).toNat (Int.toNat x3) 0) → ((40 - x3).toNat) < N → Frm pPx mem m_43 → Tx (Ex S (n + 3)) S M_161 (kV K E) 0 0 43 [some (.inr 134), some (.inr 1), some (.inl t), some (.inl x3), none] [] m_43 := by
    intro N
    induction N with
    | zero => intros; omega
    | succ N ih_43 =>
      intro x3 m_43 i43_0 i43_1 hN_43 hF_43
      have l_51 : ∀ (N : Nat) (x4 : Int) (m_51 : MM), (0 ≤ x4 ∧ x4 ≤ mem 1 0) → (0 ≤ x3 ∧ x3 < t) → (PlC m_51 (opsM (acsC mem) (trM (acsC mem) (mem 1 0).toNat (Int.toNat x3)) (Int.toNat x3) (Int.toNat x4)) (mem 1 0).toNat (Int.toNat x3) (Int.toNat x4)) → ((8 - x4).toNat) < N → Frm pPx mem m_51 → Tx (Ex S (n + 3)) S M_161 (kV K E) 0 0 51 [some (.inr 134), some (.inr 1), some (.inl t), some (.inl x3), some (.inl x4)] [] m_51 := by
        intro N
        induction N with
        | zero => intros; omega
        | succ N ih_51 =>
          intro x4 m_51 i51_0 i51_1 i51_2 hN_51 hF_51
          refine Tx.iload hC te_161_51 rfl ?_
          refine Tx.aload_n hC te_161_53 rfl ?_
          refine Tx.getI hC te_161_54 rfl rfl rfl (fun v1 v1e v1i => ?_)
          unfold InI at v1i
          rw [hF_51 1 _ (by unfold pPx; omega)] at v1e
          refine Tx.icmp hC (t := 86) te_161_57 (by decide) (fun q2 => ?_) (fun q2 => ?_)
          · replace q2 : v1 ≤ (x4 : Int) := q2
            refine Tx.iincW hC te_161_86 rfl rfl (fun z3 z3i z3e => ?_)
            unfold InI at z3i z3e
            first | replace z3e := z3e (by omega) | clear z3e
            refine Tx.goto hC (t := 43) te_161_89 (by decide) ?_
            exact Tx.weak (by repeat' (first | exact trivial | exact rfl | constructor)) (ih_43 z3 m_51 (by omega) (by { have q := PlC.turn (i51_2.eqN (show Int.toNat x4 = (mem 1 0).toNat by omega)); rw [show Int.toNat z3 = Int.toNat x3 + 1 by omega]; exact q }) (by omega) hF_51)
          · replace q2 : ¬ (v1 ≤ (x4 : Int)) := q2
            refine Tx.aload_n hC te_161_60 rfl ?_
            refine Tx.getR hC te_161_61 rfl rfl rfl ?_
            refine Tx.iload hC te_161_64 rfl ?_
            refine Tx.bipush hC te_161_66 rfl rfl ?_
            refine Tx.imulW hC te_161_68 (fun z4 z4i z4e => ?_)
            unfold InI at z4i z4e
            first | replace z4e := z4e (by omega) | clear z4e
            refine Tx.iload_n hC te_161_69 rfl ?_
            refine Tx.iaddW hC te_161_70 (fun z5 z5i z5e => ?_)
            unfold InI at z5i z5e
            first | replace z5e := z5e (by omega) | clear z5e
            refine Tx.aload_n hC te_161_71 rfl ?_
            refine Tx.aload_n hC te_161_72 rfl ?_
            refine Tx.iload hC te_161_73 rfl ?_
            refine Tx.iload_n hC te_161_75 rfl ?_
            refine Tx.virtI hC te_161_76 mt_162 (args := [.inr 134, .inr 1, .inl x4, .inl x3]) (rest := [.inl z5, .inr 138]) (c' := 0) (s' := 0) rfl rfl rfl rfl rfl rfl rfl rfl rfl rfl ?_
            refine f_162x (hB.fr (fun A i a b => hF_51 A i (by unfold pPx; omega))) (by omega) (by omega) (fun r6 m7 r6v r6m r6f r6i => ?_)
            have hF8n : Frm pPx mem m7 := hF_51.tr r6f
            unfold InI at r6i
            refine Tx.iast hC te_161_79 rfl (by omega) ?_
            obtain ⟨m9, hm9⟩ : ∃ m' : MM, m' = upm m7 138 (Int.toNat z5) r6 := ⟨_, rfl⟩
            rw [← hm9]
            have hF10 : Frm pPx mem m9 := by { rw [hm9]; exact Frm.up (hF8n) (by unfold pPx; omega) }
            refine Tx.iincW hC te_161_80 rfl rfl (fun z11 z11i z11e => ?_)
            unfold InI at z11i z11e
            first | replace z11e := z11e (by omega) | clear z11e
            refine Tx.goto hC (t := 51) te_161_83 (by decide) ?_
            exact ih_51 z11 m9 (by omega) (by omega) (by { have q := i51_2.step (m2 := m9) hB hS (fun A i a b => hF_51 A i (by unfold pPx; omega)) rfl (by omega) (by omega) (by { rw [hm9, r6m, show Int.toNat z5 = 40 * Int.toNat x4 + Int.toNat x3 by omega, r6v, show ((Int.toNat x3 : Nat) : Int) = x3 by omega] }); rw [show Int.toNat z11 = Int.toNat x4 + 1 by omega]; exact q }) (by omega) hF10
      refine Tx.iload_n hC te_161_43 rfl ?_
      refine Tx.iload_n hC te_161_44 rfl ?_
      refine Tx.icmp hC (t := 92) te_161_45 (by decide) (fun q12 => ?_) (fun q12 => ?_)
      · replace q12 : t ≤ (x3 : Int) := q12
        exact Tx.vret hC te_161_92 rfl (show K m_43 from H _ hF_43 (by { have e : Int.toNat x3 = Int.toNat t := by { omega }; rw [← e]; exact i43_1 }))
      · replace q12 : ¬ (t ≤ (x3 : Int)) := q12
        refine Tx.iconst hC te_161_48 rfl ?_
        refine Tx.istore hC te_161_49 rfl ?_
        exact l_51 _ 0 m_43 (by omega) (by omega) (i43_1) (Nat.lt_succ_self _) hF_43
  have l_2 : ∀ (N : Nat) (x3 : Int) (m_2 : MM), (0 ≤ x3) → (∀ j : Nat, (j : Int) < x3 → m_2 136 j = 3 * (j : Int) + 1 ∧ m_2 137 j = 7 * (j : Int) - 5) → ((64 - x3).toNat) < N → Frm pPx mem m_2 → Tx (Ex S (n + 3)) S M_161 (kV K E) 0 0 2 [some (.inr 134), some (.inr 1), some (.inl t), some (.inl x3), none] [] m_2 := by
    intro N
    induction N with
    | zero => intros; omega
    | succ N ih_2 =>
      intro x3 m_2 i2_0 i2_1 hN_2 hF_2
      refine Tx.iload_n hC te_161_2 rfl ?_
      refine Tx.bipush hC te_161_3 rfl rfl ?_
      refine Tx.icmp hC (t := 41) te_161_5 (by decide) (fun q13 => ?_) (fun q13 => ?_)
      · replace q13 : 64 ≤ (x3 : Int) := q13
        refine Tx.iconst hC te_161_41 rfl ?_
        refine Tx.istore_n hC te_161_42 rfl ?_
        exact l_43 _ 0 m_2 (by omega) (PlC.of_fill (fun j hj => i2_1 j (by omega))) (Nat.lt_succ_self _) hF_2
      · replace q13 : ¬ (64 ≤ (x3 : Int)) := q13
        refine Tx.aload_n hC te_161_8 rfl ?_
        refine Tx.getR hC te_161_9 rfl rfl rfl ?_
        refine Tx.iconst hC te_161_12 rfl ?_
        refine Tx.aaldP hC te_161_13 (by omega) (fun R eR => ?_)
        have hR : shA R = some (.inl 64) := rowP eR (by omega)
        refine Tx.iload_n hC te_161_14 rfl ?_
        refine Tx.iconst hC te_161_15 rfl ?_
        refine Tx.iload_n hC te_161_16 rfl ?_
        refine Tx.imulW hC te_161_17 (fun z14 z14i z14e => ?_)
        unfold InI at z14i z14e
        first | replace z14e := z14e (by omega) | clear z14e
        refine Tx.iconst hC te_161_18 rfl ?_
        refine Tx.iaddW hC te_161_19 (fun z15 z15i z15e => ?_)
        unfold InI at z15i z15e
        first | replace z15e := z15e (by omega) | clear z15e
        refine Tx.iast hC te_161_20 hR (by omega) ?_
        obtain ⟨m16, hm16⟩ : ∃ m' : MM, m' = upm m_2 R (Int.toNat x3) z15 := ⟨_, rfl⟩
        rw [← hm16]
        have hF17 : Frm pPx mem m16 := by { rw [hm16]; exact Frm.up (hF_2) (by unfold pPx; omega) }
        rw [show R = 136 by omega] at hm16
        refine Tx.aload_n hC te_161_21 rfl ?_
        refine Tx.getR hC te_161_22 rfl rfl rfl ?_
        refine Tx.iconst hC te_161_25 rfl ?_
        refine Tx.aaldP hC te_161_26 (by omega) (fun R eR => ?_)
        have hR : shA R = some (.inl 64) := rowP eR (by omega)
        refine Tx.iload_n hC te_161_27 rfl ?_
        refine Tx.bipush hC te_161_28 rfl rfl ?_
        refine Tx.iload_n hC te_161_30 rfl ?_
        refine Tx.imulW hC te_161_31 (fun z18 z18i z18e => ?_)
        unfold InI at z18i z18e
        first | replace z18e := z18e (by omega) | clear z18e
        refine Tx.iconst hC te_161_32 rfl ?_
        refine Tx.isubW hC te_161_33 (fun z19 z19i z19e => ?_)
        unfold InI at z19i z19e
        first | replace z19e := z19e (by omega) | clear z19e
        refine Tx.iast hC te_161_34 hR (by omega) ?_
        obtain ⟨m20, hm20⟩ : ∃ m' : MM, m' = upm m16 R (Int.toNat x3) z19 := ⟨_, rfl⟩
        rw [← hm20]
        have hF21 : Frm pPx mem m20 := by { rw [hm20]; exact Frm.up (hF17) (by unfold pPx; omega) }
        rw [show R = 137 by omega] at hm20
        refine Tx.iincW hC te_161_35 rfl rfl (fun z22 z22i z22e => ?_)
        unfold InI at z22i z22e
        first | replace z22e := z22e (by omega) | clear z22e
        refine Tx.goto hC (t := 2) te_161_38 (by decide) ?_
        exact ih_2 z22 m20 (by omega) (fun j hj => by
              rw [hm20, hm16]
              by_cases w : j = Int.toNat x3
              · subst w
                refine ⟨?_, ?_⟩
                · rw [upm_ne (by omega), upm_eq]; omega
                · rw [upm_eq]; omega
              · rw [upm_ne (by omega), upm_ne (by omega), upm_ne (by omega), upm_ne (by omega)]; exact i2_1 j (by omega)) (by omega) hF21
  refine Tx.iconst hC te_161_0 rfl ?_
  refine Tx.istore_n hC te_161_1 rfl ?_
  exact l_2 _ 0 mem (by omega) (fun j hj => absurd hj (by omega)) (Nat.lt_succ_self _) Frm.rf
theorem f_324x {S : Nat × (Nat → Int32)} {n : Nat} {mem : MM} {K : Int → MM → Prop} {E : Nat → MM → Prop} {k a b : Int} (H : ∀ r, r = opM k a b → K r mem) : CQI (Ex S (n + 2)) 324 [.inl k, .inl a, .inl b] mem K E := by
  refine CY.of (k := 0) mt_324 rfl rfl (fun hv => ?_)
  have hC := Ex.mono S (n + 1)
  have ii_k : InI k := hv (.inl k) (by simp)
  unfold InI at ii_k
  have ii_a : InI a := hv (.inl a) (by simp)
  unfold InI at ii_a
  have ii_b : InI b := hv (.inl b) (by simp)
  unfold InI at ii_b
  clear hv
  show Tx (Ex S (n + 1)) S M_324 (kI K E) 0 0 0 [some (.inl k), some (.inl a), some (.inl b)] [] mem
  refine Tx.iload_n hC te_324_0 rfl ?_
  refine Tx.ifc hC (t := 10) te_324_1 (by decide) (fun q1 => ?_) (fun q1 => ?_)
  · replace q1 : ¬ (k : Int) = 0 := q1
    refine Tx.iload_n hC te_324_10 rfl ?_
    refine Tx.iconst hC te_324_11 rfl ?_
    refine Tx.icmp hC (t := 21) te_324_12 (by decide) (fun q2 => ?_) (fun q2 => ?_)
    · replace q2 : ¬ (k : Int) = 1 := q2
      refine Tx.iload_n hC te_324_21 rfl ?_
      refine Tx.iconst hC te_324_22 rfl ?_
      refine Tx.icmp hC (t := 32) te_324_23 (by decide) (fun q3 => ?_) (fun q3 => ?_)
      · replace q3 : ¬ (k : Int) = 2 := q3
        refine Tx.iload_n hC te_324_32 rfl ?_
        refine Tx.iload_n hC te_324_33 rfl ?_
        refine Tx.statI hC te_324_34 (by decide) mt_258 (args := [.inl a, .inl b]) (rest := []) (c' := 0) (s' := 0) rfl rfl rfl rfl rfl rfl rfl ?_
        refine f_258q (fun r4 r4e r4i => ?_)
        unfold InI at r4i
        exact Tx.ireturn hC te_324_37 rfl (fun hr => show K r4 mem from H _ (by unfold opM; first | (rw [if_pos (by omega)]; assumption) | (rw [if_neg (by omega), if_pos (by omega)]; assumption) | (rw [if_neg (by omega), if_neg (by omega), if_pos (by omega)]; assumption) | (rw [if_neg (by omega), if_neg (by omega), if_neg (by omega)]; assumption)))
      · replace q3 : ¬ (¬ (k : Int) = 2) := q3
        refine Tx.iload_n hC te_324_26 rfl ?_
        refine Tx.iload_n hC te_324_27 rfl ?_
        refine Tx.imulX hC te_324_28 (fun z7 z7i z7e => ?_)
        unfold InI at z7i
        refine Tx.goto hC (t := 37) te_324_29 (by decide) ?_
        exact Tx.ireturn hC te_324_37 rfl (fun hr => show K z7 mem from H _ (by unfold opM; first | (rw [if_pos (by omega)]; assumption) | (rw [if_neg (by omega), if_pos (by omega)]; assumption) | (rw [if_neg (by omega), if_neg (by omega), if_pos (by omega)]; assumption) | (rw [if_neg (by omega), if_neg (by omega), if_neg (by omega)]; assumption)))
    · replace q2 : ¬ (¬ (k : Int) = 1) := q2
      refine Tx.iload_n hC te_324_15 rfl ?_
      refine Tx.iload_n hC te_324_16 rfl ?_
      refine Tx.isubX hC te_324_17 (fun z8 z8i z8e => ?_)
      unfold InI at z8i
      refine Tx.goto hC (t := 37) te_324_18 (by decide) ?_
      exact Tx.ireturn hC te_324_37 rfl (fun hr => show K z8 mem from H _ (by unfold opM; first | (rw [if_pos (by omega)]; assumption) | (rw [if_neg (by omega), if_pos (by omega)]; assumption) | (rw [if_neg (by omega), if_neg (by omega), if_pos (by omega)]; assumption) | (rw [if_neg (by omega), if_neg (by omega), if_neg (by omega)]; assumption)))
  · replace q1 : ¬ (¬ (k : Int) = 0) := q1
    refine Tx.iload_n hC te_324_4 rfl ?_
    refine Tx.iload_n hC te_324_5 rfl ?_
    refine Tx.iaddX hC te_324_6 (fun z9 z9i z9e => ?_)
    unfold InI at z9i
    refine Tx.goto hC (t := 37) te_324_7 (by decide) ?_
    exact Tx.ireturn hC te_324_37 rfl (fun hr => show K z9 mem from H _ (by unfold opM; first | (rw [if_pos (by omega)]; assumption) | (rw [if_neg (by omega), if_pos (by omega)]; assumption) | (rw [if_neg (by omega), if_neg (by omega), if_pos (by omega)]; assumption) | (rw [if_neg (by omega), if_neg (by omega), if_neg (by omega)]; assumption)))
theorem f_330x {S : Nat × (Nat → Int32)} {n : Nat} {mem : MM} {K : Int → MM → Prop} {E : Nat → MM → Prop} (h : RefOK mem) {o k t : Int} (ho : 0 ≤ o ∧ o < 8) (hk : 0 ≤ k ∧ k < srcN mem o.toNat) (ht : 0 ≤ t ∧ t ≤ 39) (H : ∀ r, r = lkR mem o.toNat k.toNat t → K r mem) : CQI (Ex S (n + 2)) 330 [.inr 143, .inl o, .inl k, .inl t] mem K E := by
  refine CY.of (k := 2) mt_330 rfl rfl (fun hv => ?_)
  have hC := Ex.mono S (n + 1)
  have ii_o : InI o := hv (.inl o) (by simp)
  unfold InI at ii_o
  have ii_k : InI k := hv (.inl k) (by simp)
  unfold InI at ii_k
  have ii_t : InI t := hv (.inl t) (by simp)
  unfold InI at ii_t
  clear hv
  have hsr := h.ops.src (o := o.toNat) (by omega) hk.1 hk.2
  have ek : ((k.toNat : Nat) : Int) = k := by omega
  unfold srcOK at hsr
  show Tx (Ex S (n + 1)) S M_330 (kI K E) 0 0 0 [some (.inr 143), some (.inl o), some (.inl k), some (.inl t), none, none] [] mem
  refine Tx.aload_n hC te_330_0 rfl ?_
  refine Tx.iload_n hC te_330_1 rfl ?_
  refine Tx.iload_n hC te_330_2 rfl ?_
  refine Tx.virtI hC te_330_3 mt_242 (args := [.inr 143, .inl o, .inl k]) (rest := []) (c' := 0) (s' := 0) rfl rfl rfl rfl rfl rfl rfl rfl rfl rfl ?_
  refine f_242q (by omega) (fun r1 r1e r1i => ?_)
  unfold InI at r1i
  refine Tx.istore hC te_330_6 rfl ?_
  refine Tx.iload hC te_330_8 rfl ?_
  refine Tx.iconst hC te_330_10 rfl ?_
  refine Tx.icmp hC (t := 16) te_330_11 (by decide) (fun q4 => ?_) (fun q4 => ?_)
  · replace q4 : ¬ (r1 : Int) = (-1) := q4
    refine Tx.iload hC te_330_16 rfl ?_
    refine Tx.bipush hC te_330_18 rfl rfl ?_
    refine Tx.icmp hC (t := 30) te_330_20 (by decide) (fun q5 => ?_) (fun q5 => ?_)
    · replace q5 : ¬ (r1 : Int) = (-2) := q5
      refine Tx.iload_n hC te_330_30 rfl ?_
      refine Tx.aload_n hC te_330_31 rfl ?_
      refine Tx.iload_n hC te_330_32 rfl ?_
      refine Tx.iload_n hC te_330_33 rfl ?_
      refine Tx.virtI hC te_330_34 mt_243 (args := [.inr 143, .inl o, .inl k]) (rest := [.inl t]) (c' := 0) (s' := 0) rfl rfl rfl rfl rfl rfl rfl rfl rfl rfl ?_
      refine f_243q (by omega) (fun r6 r6e r6i => ?_)
      unfold InI at r6i
      refine Tx.isubW hC te_330_37 (fun z9 z9i z9e => ?_)
      unfold InI at z9i z9e
      first | replace z9e := z9e (by omega) | clear z9e
      refine Tx.istore hC te_330_38 rfl ?_
      refine Tx.iload hC te_330_40 rfl ?_
      refine Tx.ifc hC (t := 55) te_330_42 (by decide) (fun q10 => ?_) (fun q10 => ?_)
      · replace q10 : 0 ≤ (z9 : Int) := q10
        refine Tx.aload_n hC te_330_55 rfl ?_
        refine Tx.getR hC te_330_56 rfl rfl rfl ?_
        refine Tx.bipush hC te_330_59 rfl rfl ?_
        refine Tx.iload hC te_330_61 rfl ?_
        refine Tx.imulW hC te_330_63 (fun z11 z11i z11e => ?_)
        unfold InI at z11i z11e
        first | replace z11e := z11e (by omega) | clear z11e
        refine Tx.iload hC te_330_64 rfl ?_
        refine Tx.iaddW hC te_330_66 (fun z12 z12i z12e => ?_)
        unfold InI at z12i z12e
        first | replace z12e := z12e (by omega) | clear z12e
        refine Tx.iald hC te_330_67 rfl (by omega) (fun v13 v13e v13i => ?_)
        unfold InI at v13i
        exact Tx.ireturn hC te_330_68 rfl (fun hr => show K v13 mem from H _ (by rw [lkR_eq, ek, ← r1e, ← r6e]; first | (rw [if_pos (by omega)]; done) | (rw [if_neg (by omega), if_pos (by omega)]; done) | (rw [if_neg (by omega), if_neg (by omega), if_pos (by omega)]; assumption) | (rw [if_neg (by omega), if_neg (by omega), if_neg (by omega), v13e]; congr 1; omega)))
      · replace q10 : ¬ (0 ≤ (z9 : Int)) := q10
        refine Tx.aload_n hC te_330_45 rfl ?_
        refine Tx.getR hC te_330_46 rfl rfl rfl ?_
        refine Tx.iload hC te_330_49 rfl ?_
        refine Tx.iald hC te_330_51 rfl (by omega) (fun v14 v14e v14i => ?_)
        unfold InI at v14i
        refine Tx.goto hC (t := 68) te_330_52 (by decide) ?_
        exact Tx.ireturn hC te_330_68 rfl (fun hr => show K v14 mem from H _ (by rw [lkR_eq, ek, ← r1e, ← r6e]; first | (rw [if_pos (by omega)]; done) | (rw [if_neg (by omega), if_pos (by omega)]; done) | (rw [if_neg (by omega), if_neg (by omega), if_pos (by omega)]; assumption) | (rw [if_neg (by omega), if_neg (by omega), if_neg (by omega), v14e]; congr 1; omega)))
    · replace q5 : ¬ (¬ (r1 : Int) = (-2)) := q5
      refine Tx.aload_n hC te_330_23 rfl ?_
      refine Tx.iload_n hC te_330_24 rfl ?_
      refine Tx.iload_n hC te_330_25 rfl ?_
      refine Tx.virtI hC te_330_26 mt_243 (args := [.inr 143, .inl o, .inl k]) (rest := []) (c' := 0) (s' := 0) rfl rfl rfl rfl rfl rfl rfl rfl rfl rfl ?_
      refine f_243q (by omega) (fun r15 r15e r15i => ?_)
      unfold InI at r15i
      exact Tx.ireturn hC te_330_29 rfl (fun hr => show K r15 mem from H _ (by rw [lkR_eq, ek, ← r1e, ← r15e]; first | (rw [if_pos (by omega)]; done) | (rw [if_neg (by omega), if_pos (by omega)]; done) | (rw [if_neg (by omega), if_neg (by omega), if_pos (by omega)]; assumption) | (rw [if_neg (by omega), if_neg (by omega), if_neg (by omega), r15e]; congr 1; omega)))
  · replace q4 : ¬ (¬ (r1 : Int) = (-1)) := q4
    refine Tx.iload_n hC te_330_14 rfl ?_
    exact Tx.ireturn hC te_330_15 rfl (fun hr => show K t mem from H _ (by rw [lkR_eq, ek, ← r1e]; first | (rw [if_pos (by omega)]; done) | (rw [if_neg (by omega), if_pos (by omega)]; done) | (rw [if_neg (by omega), if_neg (by omega), if_pos (by omega)]; assumption) | (rw [if_neg (by omega), if_neg (by omega), if_neg (by omega), te]; congr 1; omega)))
theorem f_329x {S : Nat × (Nat → Int32)} {n : Nat} {mem : MM} {K : Int → MM → Prop} {E : Nat → MM → Prop} (h : RefOK mem) {o t : Int} (ho : 0 ≤ o ∧ o < 8) (ht : 0 ≤ t ∧ t ≤ 39) (H : ∀ r, r = acR mem o.toNat t.toNat → K r mem) : CQI (Ex S (n + 3)) 329 [.inr 143, .inl o, .inl t] mem K E := by
  refine CY.of (k := 0) mt_329 rfl rfl (fun hv => ?_)
  have hC := Ex.mono S (n + 2)
  have ii_o : InI o := hv (.inl o) (by simp)
  unfold InI at ii_o
  have ii_t : InI t := hv (.inl t) (by simp)
  unfold InI at ii_t
  clear hv
  have et : ((t.toNat : Nat) : Int) = t := by omega
  have hkd := h.ops.2.1 o.toNat (by omega)
  unfold OpOK at hkd
  have hcs : ¬ mem 144 o.toNat = 4 → 1 ≤ srcN mem o.toNat ∧ (¬ mem 144 o.toNat = 5 → srcN mem o.toNat = 2) := fun k4 => by
    unfold srcN
    rw [if_neg k4]
    refine ⟨by split <;> omega, fun k5 => if_neg k5⟩
  have hrw : mem 144 o.toNat = 4 ∨ mem 144 o.toNat = 5 → (0 ≤ rowF mem o.toNat ∧ rowF mem o.toNat ≤ 1) ∧ 0 ≤ plcF mem o.toNat ∧ plcF mem o.toNat ≤ 7 := fun k => h.rw (o := o.toNat) (by omega) k
  show Tx (Ex S (n + 2)) S M_329 (kI K E) 0 0 0 [some (.inr 143), some (.inl o), some (.inl t)] [] mem
  refine Tx.aload_n hC te_329_0 rfl ?_
  refine Tx.getR hC te_329_1 rfl rfl rfl ?_
  refine Tx.iload_n hC te_329_4 rfl ?_
  refine Tx.iald hC te_329_5 rfl (by omega) (fun v1 v1e v1i => ?_)
  unfold InI at v1i
  refine Tx.iconst hC te_329_6 rfl ?_
  refine Tx.icmp hC (t := 32) te_329_7 (by decide) (fun q2 => ?_) (fun q2 => ?_)
  · replace q2 : ¬ (v1 : Int) = 4 := q2
    refine Tx.aload_n hC te_329_32 rfl ?_
    refine Tx.getR hC te_329_33 rfl rfl rfl ?_
    refine Tx.iload_n hC te_329_36 rfl ?_
    refine Tx.iald hC te_329_37 rfl (by omega) (fun v3 v3e v3i => ?_)
    unfold InI at v3i
    refine Tx.iconst hC te_329_38 rfl ?_
    refine Tx.icmp hC (t := 52) te_329_39 (by decide) (fun q4 => ?_) (fun q4 => ?_)
    · replace q4 : ¬ (v3 : Int) = 5 := q4
      refine Tx.aload_n hC te_329_52 rfl ?_
      refine Tx.getR hC te_329_53 rfl rfl rfl ?_
      refine Tx.iload_n hC te_329_56 rfl ?_
      refine Tx.iald hC te_329_57 rfl (by omega) (fun v5 v5e v5i => ?_)
      unfold InI at v5i
      refine Tx.aload_n hC te_329_58 rfl ?_
      refine Tx.iload_n hC te_329_59 rfl ?_
      refine Tx.iconst hC te_329_60 rfl ?_
      refine Tx.iload_n hC te_329_61 rfl ?_
      refine Tx.virtI hC te_329_62 mt_330 (args := [.inr 143, .inl o, .inl 0, .inl t]) (rest := [.inl v5]) (c' := 0) (s' := 0) rfl rfl rfl rfl rfl rfl rfl rfl rfl rfl ?_
      refine f_330x h (by omega) (by omega) (by omega) (fun r6 r6e r6i => ?_)
      change r6 = lkR mem o.toNat 0 t at r6e
      unfold InI at r6i
      refine Tx.aload_n hC te_329_65 rfl ?_
      refine Tx.iload_n hC te_329_66 rfl ?_
      refine Tx.iconst hC te_329_67 rfl ?_
      refine Tx.iload_n hC te_329_68 rfl ?_
      refine Tx.virtI hC te_329_69 mt_330 (args := [.inr 143, .inl o, .inl 1, .inl t]) (rest := [.inl r6, .inl v5]) (c' := 0) (s' := 0) rfl rfl rfl rfl rfl rfl rfl rfl rfl rfl ?_
      refine f_330x h (by omega) (by omega) (by omega) (fun r9 r9e r9i => ?_)
      change r9 = lkR mem o.toNat 1 t at r9e
      unfold InI at r9i
      refine Tx.statI hC te_329_72 (by decide) mt_324 (args := [.inl v5, .inl r6, .inl r9]) (rest := []) (c' := 0) (s' := 0) rfl rfl rfl rfl rfl rfl rfl ?_
      refine f_324x (fun r12 r12e r12i => ?_)
      have hkk : v5 = mem 144 o.toNat := by assumption
      rw [hkk] at r12e
      unfold InI at r12i
      exact Tx.ireturn hC te_329_75 rfl (fun hr => show K r12 mem from H _ (by rw [acR_eq, et]; first | (rw [if_pos (by omega), r12e, ← hh, ← hh]; congr 1; omega) | (rw [if_neg (by omega), if_pos (by omega)]; assumption) | (rw [if_neg (by omega), if_neg (by omega), ← r6e, ← r9e]; assumption)))
    · replace q4 : ¬ (¬ (v3 : Int) = 5) := q4
      refine Tx.aload_n hC te_329_42 rfl ?_
      refine Tx.iload_n hC te_329_43 rfl ?_
      refine Tx.iconst hC te_329_44 rfl ?_
      refine Tx.iload_n hC te_329_45 rfl ?_
      refine Tx.virtI hC te_329_46 mt_330 (args := [.inr 143, .inl o, .inl 0, .inl t]) (rest := []) (c' := 0) (s' := 0) rfl rfl rfl rfl rfl rfl rfl rfl rfl rfl ?_
      refine f_330x h (by omega) (by omega) (by omega) (fun r15 r15e r15i => ?_)
      change r15 = lkR mem o.toNat 0 t at r15e
      unfold InI at r15i
      refine Tx.goto hC (t := 75) te_329_49 (by decide) ?_
      exact Tx.ireturn hC te_329_75 rfl (fun hr => show K r15 mem from H _ (by rw [acR_eq, et]; first | (rw [if_pos (by omega), r15e, ← hh, ← hh]; congr 1; omega) | (rw [if_neg (by omega), if_pos (by omega)]; assumption) | (rw [if_neg (by omega), if_neg (by omega), ← r15e, ← hh]; assumption)))
  · replace q2 : ¬ (¬ (v1 : Int) = 4) := q2
    refine Tx.aload_n hC te_329_10 rfl ?_
    refine Tx.getR hC te_329_11 rfl rfl rfl ?_
    refine Tx.bipush hC te_329_14 rfl rfl ?_
    refine Tx.aload_n hC te_329_16 rfl ?_
    refine Tx.iload_n hC te_329_17 rfl ?_
    refine Tx.virtI hC te_329_18 mt_250 (args := [.inr 143, .inl o]) (rest := [.inl 64, .inr 165]) (c' := 0) (s' := 0) rfl rfl rfl rfl rfl rfl rfl rfl rfl rfl ?_
    refine f_250q (by omega) (fun r18 r18e r18i => ?_)
    unfold InI at r18i
    refine Tx.imulW hC te_329_21 (fun z21 z21i z21e => ?_)
    unfold InI at z21i z21e
    first | replace z21e := z21e (by omega) | clear z21e
    refine Tx.iload_n hC te_329_22 rfl ?_
    refine Tx.iaddW hC te_329_23 (fun z22 z22i z22e => ?_)
    unfold InI at z22i z22e
    first | replace z22e := z22e (by omega) | clear z22e
    refine Tx.aload_n hC te_329_24 rfl ?_
    refine Tx.iload_n hC te_329_25 rfl ?_
    refine Tx.virtI hC te_329_26 mt_251 (args := [.inr 143, .inl o]) (rest := [.inl z22, .inr 165]) (c' := 0) (s' := 0) rfl rfl rfl rfl rfl rfl rfl rfl rfl rfl ?_
    refine f_251q (by omega) (fun r23 r23e r23i => ?_)
    unfold InI at r23i
    refine Tx.iaddW hC te_329_29 (fun z26 z26i z26e => ?_)
    unfold InI at z26i z26e
    first | replace z26e := z26e (by omega) | clear z26e
    refine Tx.iald hC te_329_30 rfl (by omega) (fun v27 v27e v27i => ?_)
    unfold InI at v27i
    exact Tx.ireturn hC te_329_31 rfl (fun hr => show K v27 mem from H _ (by rw [acR_eq, et]; first | (rw [if_pos (by omega), v27e, ← r18e, ← r23e]; congr 1; omega) | (rw [if_neg (by omega), if_pos (by omega)]; assumption) | (rw [if_neg (by omega), if_neg (by omega), ← hh, ← hh]; assumption)))
theorem f_318x {S : Nat × (Nat → Int32)} {n : Nat} {mem : MM} {K : MM → Prop} {E : Nat → MM → Prop} (H : ∀ m', Frm pPr mem m' → (∀ j : Nat, (j : Int) < 64 → m' 165 j = 3 * (j : Int) + 1 ∧ m' 165 (64 + j) = 7 * (j : Int) - 5) → K m') : CQV (Ex S (n + 1)) 318 [.inr 143] mem K E := by
  refine CY.of (k := 1) mt_318 rfl rfl (fun hv => ?_)
  have hC := Ex.mono S n
  clear hv
  show Tx (Ex S n) S M_318 (kV K E) 0 0 0 [some (.inr 143), none] [] mem
  have l_2 : ∀ (N : Nat) (x1 : Int) (m_2 : MM), (0 ≤ x1 ∧ x1 ≤ 64) → (∀ j : Nat, (j : Int) < x1 → m_2 165 j = 3 * (j : Int) + 1 ∧ m_2 165 (64 + j) = 7 * (j : Int) - 5) → ((64 - x1).toNat) < N → Frm pPr mem m_2 → Tx (Ex S n) S M_318 (kV K E) 0 0 2 [some (.inr 143), some (.inl x1)] [] m_2 := by
    intro N
    induction N with
    | zero => intros; omega
    | succ N ih_2 =>
      intro x1 m_2 i2_0 i2_1 hN_2 hF_2
      refine Tx.iload_n hC te_318_2 rfl ?_
      refine Tx.bipush hC te_318_3 rfl rfl ?_
      refine Tx.icmp hC (t := 40) te_318_5 (by decide) (fun q1 => ?_) (fun q1 => ?_)
      · replace q1 : 64 ≤ (x1 : Int) := q1
        exact Tx.vret hC te_318_40 rfl (show K m_2 from H _ hF_2 (fun j hj => i2_1 j (by omega)))
      · replace q1 : ¬ (64 ≤ (x1 : Int)) := q1
        refine Tx.aload_n hC te_318_8 rfl ?_
        refine Tx.getR hC te_318_9 rfl rfl rfl ?_
        refine Tx.iload_n hC te_318_12 rfl ?_
        refine Tx.iconst hC te_318_13 rfl ?_
        refine Tx.iload_n hC te_318_14 rfl ?_
        refine Tx.imulW hC te_318_15 (fun z2 z2i z2e => ?_)
        unfold InI at z2i z2e
        first | replace z2e := z2e (by omega) | clear z2e
        refine Tx.iconst hC te_318_16 rfl ?_
        refine Tx.iaddW hC te_318_17 (fun z3 z3i z3e => ?_)
        unfold InI at z3i z3e
        first | replace z3e := z3e (by omega) | clear z3e
        refine Tx.iast hC te_318_18 rfl (by omega) ?_
        obtain ⟨m4, hm4⟩ : ∃ m' : MM, m' = upm m_2 165 (Int.toNat x1) z3 := ⟨_, rfl⟩
        rw [← hm4]
        have hF5 : Frm pPr mem m4 := by { rw [hm4]; exact Frm.up (hF_2) (by unfold pPr; omega) }
        refine Tx.aload_n hC te_318_19 rfl ?_
        refine Tx.getR hC te_318_20 rfl rfl rfl ?_
        refine Tx.bipush hC te_318_23 rfl rfl ?_
        refine Tx.iload_n hC te_318_25 rfl ?_
        refine Tx.iaddW hC te_318_26 (fun z6 z6i z6e => ?_)
        unfold InI at z6i z6e
        first | replace z6e := z6e (by omega) | clear z6e
        refine Tx.bipush hC te_318_27 rfl rfl ?_
        refine Tx.iload_n hC te_318_29 rfl ?_
        refine Tx.imulW hC te_318_30 (fun z7 z7i z7e => ?_)
        unfold InI at z7i z7e
        first | replace z7e := z7e (by omega) | clear z7e
        refine Tx.iconst hC te_318_31 rfl ?_
        refine Tx.isubW hC te_318_32 (fun z8 z8i z8e => ?_)
        unfold InI at z8i z8e
        first | replace z8e := z8e (by omega) | clear z8e
        refine Tx.iast hC te_318_33 rfl (by omega) ?_
        obtain ⟨m9, hm9⟩ : ∃ m' : MM, m' = upm m4 165 (Int.toNat z6) z8 := ⟨_, rfl⟩
        rw [← hm9]
        have hF10 : Frm pPr mem m9 := by { rw [hm9]; exact Frm.up (hF5) (by unfold pPr; omega) }
        refine Tx.iincW hC te_318_34 rfl rfl (fun z11 z11i z11e => ?_)
        unfold InI at z11i z11e
        first | replace z11e := z11e (by omega) | clear z11e
        refine Tx.goto hC (t := 2) te_318_37 (by decide) ?_
        exact ih_2 z11 m9 (by omega) (fun j hj => by
              rw [hm9, hm4, show (Int.toNat z6) = 64 + Int.toNat x1 by omega]
              by_cases w : j = Int.toNat x1
              · subst w
                refine ⟨?_, ?_⟩
                · rw [upm_ne (by omega), upm_eq]; omega
                · rw [upm_eq]; omega
              · rw [upm_ne (by omega), upm_ne (by omega), upm_ne (by omega), upm_ne (by omega)]; exact i2_1 j (by omega)) (by omega) hF10
  refine Tx.iconst hC te_318_0 rfl ?_
  refine Tx.istore_n hC te_318_1 rfl ?_
  exact l_2 _ 0 mem (by omega) (fun j hj => absurd hj (by omega)) (Nat.lt_succ_self _) Frm.rf
theorem f_328x {S : Nat × (Nat → Int32)} {n : Nat} {mem : MM} {K : MM → Prop} {E : Nat → MM → Prop} (h : RefOK mem) (hS : SoundM mem) {t : Int} (ht : 0 ≤ t ∧ t ≤ 40) (H : ∀ m', Frm pPr mem m' → PlR m' (trM (acsR mem) (mem 143 1).toNat t.toNat) (mem 143 1).toNat t.toNat 0 → K m') : CQV (Ex S (n + 4)) 328 [.inr 143, .inl t] mem K E := by
  refine CY.of (k := 3) mt_328 rfl rfl (fun hv => ?_)
  have hC := Ex.mono S (n + 3)
  have ii_t : InI t := hv (.inl t) (by simp)
  unfold InI at ii_t
  clear hv
  have h8 := h.ops.1
  show Tx (Ex S (n + 3)) S M_328 (kV K E) 0 0 0 [some (.inr 143), some (.inl t), none, none, none] [] mem
  have l_6 : ∀ (N : Nat) (x2 : Int) (m_6 : MM), (0 ≤ x2 ∧ x2 ≤ t) → (PlR m_6 (trM (acsR mem) (mem 143 1).toNat (Int.toNat x2)) (mem 143 1).toNat (Int.toNat x2) 0) → ((40 - x2).toNat) < N → Frm pPr mem m_6 → Tx (Ex S (n + 3)) S M_328 (kV K E) 0 0 6 [some (.inr 143), some (.inl t), some (.inl x2), none, none] [] m_6 := by
    intro N
    induction N with
    | zero => intros; omega
    | succ N ih_6 =>
      intro x2 m_6 i6_0 i6_1 hN_6 hF_6
      have l_13 : ∀ (N : Nat) (x3 : Int) (m_13 : MM), (0 ≤ x3 ∧ x3 ≤ mem 143 1) → (0 ≤ x2 ∧ x2 < t) → (PlR m_13 (opsM (acsR mem) (trM (acsR mem) (mem 143 1).toNat (Int.toNat x2)) (Int.toNat x2) (Int.toNat x3)) (mem 143 1).toNat (Int.toNat x2) (Int.toNat x3)) → ((8 - x3).toNat) < N → Frm pPr mem m_13 → Tx (Ex S (n + 3)) S M_328 (kV K E) 0 0 13 [some (.inr 143), some (.inl t), some (.inl x2), some (.inl x3), none] [] m_13 := by
        intro N
        induction N with
        | zero => intros; omega
        | succ N ih_13 =>
          intro x3 m_13 i13_0 i13_1 i13_2 hN_13 hF_13
          refine Tx.iload_n hC te_328_13 rfl ?_
          refine Tx.aload_n hC te_328_14 rfl ?_
          refine Tx.getI hC te_328_15 rfl rfl rfl (fun v1 v1e v1i => ?_)
          unfold InI at v1i
          rw [hF_13 143 _ (by unfold pPr; omega)] at v1e
          refine Tx.icmp hC (t := 81) te_328_18 (by decide) (fun q2 => ?_) (fun q2 => ?_)
          · replace q2 : v1 ≤ (x3 : Int) := q2
            refine Tx.iincW hC te_328_81 rfl rfl (fun z3 z3i z3e => ?_)
            unfold InI at z3i z3e
            first | replace z3e := z3e (by omega) | clear z3e
            refine Tx.goto hC (t := 6) te_328_84 (by decide) ?_
            exact Tx.weak (by repeat' (first | exact trivial | exact rfl | constructor)) (ih_6 z3 m_13 (by omega) (by { have q := PlR.turn (i13_2.eqN (show Int.toNat x3 = (mem 143 1).toNat by omega)); rw [show Int.toNat z3 = Int.toNat x2 + 1 by omega]; exact q }) (by omega) hF_13)
          · replace q2 : ¬ (v1 ≤ (x3 : Int)) := q2
            refine Tx.aload_n hC te_328_21 rfl ?_
            refine Tx.iload_n hC te_328_22 rfl ?_
            refine Tx.iload_n hC te_328_23 rfl ?_
            refine Tx.virtI hC te_328_24 mt_329 (args := [.inr 143, .inl x3, .inl x2]) (rest := []) (c' := 0) (s' := 0) rfl rfl rfl rfl rfl rfl rfl rfl rfl rfl ?_
            have r4o : RefOK m_13 := h.fr0 hF_13
            refine f_329x r4o (by omega) (by omega) (fun r4 r4v r4i => ?_)
            unfold InI at r4i
            refine Tx.istore hC te_328_27 rfl ?_
            refine Tx.aload_n hC te_328_29 rfl ?_
            refine Tx.getR hC te_328_30 rfl rfl rfl ?_
            refine Tx.bipush hC te_328_33 rfl rfl ?_
            refine Tx.iload_n hC te_328_35 rfl ?_
            refine Tx.imulW hC te_328_36 (fun z7 z7i z7e => ?_)
            unfold InI at z7i z7e
            first | replace z7e := z7e (by omega) | clear z7e
            refine Tx.iload_n hC te_328_37 rfl ?_
            refine Tx.iaddW hC te_328_38 (fun z8 z8i z8e => ?_)
            unfold InI at z8i z8e
            first | replace z8e := z8e (by omega) | clear z8e
            refine Tx.iload hC te_328_39 rfl ?_
            refine Tx.iast hC te_328_41 rfl (by omega) ?_
            obtain ⟨m9, hm9⟩ : ∃ m' : MM, m' = upm m_13 167 (Int.toNat z8) r4 := ⟨_, rfl⟩
            rw [← hm9]
            have hF10 : Frm pPr mem m9 := by { rw [hm9]; exact Frm.up (hF_13) (by unfold pPr; omega) }
            refine Tx.aload_n hC te_328_42 rfl ?_
            refine Tx.getR hC te_328_43 rfl rfl rfl ?_
            refine Tx.iload_n hC te_328_46 rfl ?_
            refine Tx.iald hC te_328_47 rfl (by omega) (fun v11 v11e v11i => ?_)
            unfold InI at v11i
            rw [hF10 144 _ (by unfold pPr; omega)] at v11e
            refine Tx.iconst hC te_328_48 rfl ?_
            refine Tx.icmp hC (t := 75) te_328_49 (by decide) (fun q12 => ?_) (fun q12 => ?_)
            · replace q12 : ¬ (v11 : Int) = 5 := q12
              refine Tx.iincW hC te_328_75 rfl rfl (fun z13 z13i z13e => ?_)
              unfold InI at z13i z13e
              first | replace z13e := z13e (by omega) | clear z13e
              refine Tx.goto hC (t := 13) te_328_78 (by decide) ?_
              exact Tx.weak (by repeat' (first | exact trivial | exact rfl | constructor)) (ih_13 z13 m9 (by omega) (by omega) (by { have q := i13_2.step (m2 := m9) h hS (fun A i a b => hF_13 A i (by unfold pPr; omega)) rfl (by omega) (by omega) (by { rw [hm9, show (Int.toNat z8) = 41 * Int.toNat x3 + Int.toNat x2 by omega, r4v]; first | rw [if_neg (by rw [hF_13 144 _ (by unfold pPr; omega)]; omega)] | skip }); rw [show Int.toNat z13 = Int.toNat x3 + 1 by omega]; exact q }) (by omega) hF10)
            · replace q12 : ¬ (¬ (v11 : Int) = 5) := q12
              refine Tx.aload_n hC te_328_52 rfl ?_
              refine Tx.getR hC te_328_53 rfl rfl rfl ?_
              refine Tx.bipush hC te_328_56 rfl rfl ?_
              refine Tx.aload_n hC te_328_58 rfl ?_
              refine Tx.iload_n hC te_328_59 rfl ?_
              refine Tx.virtI hC te_328_60 mt_250 (args := [.inr 143, .inl x3]) (rest := [.inl 64, .inr 165]) (c' := 0) (s' := 0) rfl rfl rfl rfl rfl rfl rfl rfl rfl rfl ?_
              refine f_250q (by omega) (fun r14 r14e r14i => ?_)
              have r14g := rp_fr (m := m_13) (m' := m9) (fun A i a b => by { rw [hm9]; exact upm_ne (by omega) }) (o := Int.toNat x3)
              have r14w := (r4o).rw (o := Int.toNat x3) (by omega) (by rw [hF_13 144 _ (by unfold pPr; omega)]; omega)
              unfold InI at r14i
              refine Tx.imulW hC te_328_63 (fun z17 z17i z17e => ?_)
              unfold InI at z17i z17e
              first | replace z17e := z17e (by omega) | clear z17e
              refine Tx.iload_n hC te_328_64 rfl ?_
              refine Tx.iaddW hC te_328_65 (fun z18 z18i z18e => ?_)
              unfold InI at z18i z18e
              first | replace z18e := z18e (by omega) | clear z18e
              refine Tx.aload_n hC te_328_66 rfl ?_
              refine Tx.iload_n hC te_328_67 rfl ?_
              refine Tx.virtI hC te_328_68 mt_251 (args := [.inr 143, .inl x3]) (rest := [.inl z18, .inr 165]) (c' := 0) (s' := 0) rfl rfl rfl rfl rfl rfl rfl rfl rfl rfl ?_
              refine f_251q (by omega) (fun r19 r19e r19i => ?_)
              have r19g := rp_fr (m := m_13) (m' := m9) (fun A i a b => by { rw [hm9]; exact upm_ne (by omega) }) (o := Int.toNat x3)
              have r19w := (r4o).rw (o := Int.toNat x3) (by omega) (by rw [hF_13 144 _ (by unfold pPr; omega)]; omega)
              unfold InI at r19i
              refine Tx.iaddW hC te_328_71 (fun z22 z22i z22e => ?_)
              unfold InI at z22i z22e
              first | replace z22e := z22e (by omega) | clear z22e
              refine Tx.iload hC te_328_72 rfl ?_
              refine Tx.iast hC te_328_74 rfl (by omega) ?_
              obtain ⟨m23, hm23⟩ : ∃ m' : MM, m' = upm m9 165 (Int.toNat z22) r4 := ⟨_, rfl⟩
              rw [← hm23]
              have hF24 : Frm pPr mem m23 := by { rw [hm23]; exact Frm.up (hF10) (by unfold pPr; omega) }
              refine Tx.iincW hC te_328_75 rfl rfl (fun z25 z25i z25e => ?_)
              unfold InI at z25i z25e
              first | replace z25e := z25e (by omega) | clear z25e
              refine Tx.goto hC (t := 13) te_328_78 (by decide) ?_
              exact Tx.weak (by repeat' (first | exact trivial | exact rfl | constructor)) (ih_13 z25 m23 (by omega) (by omega) (by { have q := i13_2.step (m2 := m23) h hS (fun A i a b => hF_13 A i (by unfold pPr; omega)) rfl (by omega) (by omega) (by { rw [hm23, hm9, show (Int.toNat z8) = 41 * Int.toNat x3 + Int.toNat x2 by omega, r4v, if_pos (by rw [hF_13 144 _ (by unfold pPr; omega)]; omega)]; rw [show (Int.toNat z22) = 64 * (rowF m_13 (Int.toNat x3)).toNat + (((Int.toNat x2 : Nat) : Int) + plcF m_13 (Int.toNat x3)).toNat by omega] }); rw [show Int.toNat z25 = Int.toNat x3 + 1 by omega]; exact q }) (by omega) hF24)
      refine Tx.iload_n hC te_328_6 rfl ?_
      refine Tx.iload_n hC te_328_7 rfl ?_
      refine Tx.icmp hC (t := 87) te_328_8 (by decide) (fun q26 => ?_) (fun q26 => ?_)
      · replace q26 : t ≤ (x2 : Int) := q26
        exact Tx.vret hC te_328_87 rfl (show K m_6 from H _ hF_6 (by { have e : Int.toNat x2 = Int.toNat t := by { omega }; rw [← e]; exact i6_1 }))
      · replace q26 : ¬ (t ≤ (x2 : Int)) := q26
        refine Tx.iconst hC te_328_11 rfl ?_
        refine Tx.istore_n hC te_328_12 rfl ?_
        exact l_13 _ 0 m_6 (by omega) (by omega) (i6_1) (Nat.lt_succ_self _) hF_6
  refine Tx.aload_n hC te_328_0 rfl ?_
  refine Tx.virtV hC te_328_1 mt_318 (args := [.inr 143]) (rest := []) (c' := 0) (s' := 0) rfl rfl rfl rfl rfl rfl rfl rfl rfl rfl ?_
  refine f_318x (fun m28 hF29 r27l => ?_)
  have hF29n : Frm pPr mem m28 := hF29
  refine Tx.iconst hC te_328_4 rfl ?_
  refine Tx.istore_n hC te_328_5 rfl ?_
  exact l_6 _ 0 m28 (by omega) (PlR.of_fill r27l) (Nat.lt_succ_self _) hF29n
theorem f_309x {S : Nat × (Nat → Int32)} {n : Nat} {mem : MM} {K : Int → MM → Prop} {E : Nat → MM → Prop} {x : Int} (H1 : 0 ≤ x ∧ x ≤ 40 → K 1 mem) (H0 : ¬ (0 ≤ x ∧ x ≤ 40) → K 0 mem) : CQI (Ex S (n + 2)) 309 [.inl x] mem K E := by
  refine CY.of (k := 0) mt_309 rfl rfl (fun hv => ?_)
  have hC := Ex.mono S (n + 1)
  have ii_x : InI x := hv (.inl x) (by simp)
  unfold InI at ii_x
  clear hv
  show Tx (Ex S (n + 1)) S M_309 (kI K E) 0 0 0 [some (.inl x)] [] mem
  refine Tx.iload_n hC te_309_0 rfl ?_
  refine Tx.iconst hC te_309_1 rfl ?_
  refine Tx.bipush hC te_309_2 rfl rfl ?_
  refine Tx.statI hC te_309_4 (by decide) mt_227 (args := [.inl x, .inl 0, .inl 40]) (rest := []) (c' := 0) (s' := 0) rfl rfl rfl rfl rfl rfl rfl ?_
  refine CWI.q hC (f_227 (fun r1a r1b r1i => ?_) (fun r1q r1i => ?_))
  · skip
    exact Tx.bret hC te_309_7 rfl (by omega) (show K 1 mem from H1 (by omega))
  · skip
    exact Tx.bret hC te_309_7 rfl (by omega) (show K 0 mem from H0 (by omega))
theorem f_316x {S : Nat × (Nat → Int32)} {n : Nat} {mem : MM} {K : Int → MM → Prop} {E : Nat → MM → Prop} {a b : Int} (H1 : (0 ≤ a ∧ a ≤ 1) ∧ 0 ≤ b ∧ b ≤ 63 → K 1 mem) (H0 : ¬ ((0 ≤ a ∧ a ≤ 1) ∧ 0 ≤ b ∧ b ≤ 63) → K 0 mem) : CQI (Ex S (n + 2)) 316 [.inl a, .inl b] mem K E := by
  refine CY.of (k := 0) mt_316 rfl rfl (fun hv => ?_)
  have hC := Ex.mono S (n + 1)
  have ii_a : InI a := hv (.inl a) (by simp)
  unfold InI at ii_a
  have ii_b : InI b := hv (.inl b) (by simp)
  unfold InI at ii_b
  clear hv
  show Tx (Ex S (n + 1)) S M_316 (kI K E) 0 0 0 [some (.inl a), some (.inl b)] [] mem
  refine Tx.iload_n hC te_316_0 rfl ?_
  refine Tx.iconst hC te_316_1 rfl ?_
  refine Tx.iconst hC te_316_2 rfl ?_
  refine Tx.statI hC te_316_3 (by decide) mt_227 (args := [.inl a, .inl 0, .inl 1]) (rest := []) (c' := 0) (s' := 0) rfl rfl rfl rfl rfl rfl rfl ?_
  refine CWI.q hC (f_227 (fun r1a r1b r1i => ?_) (fun r1q r1i => ?_))
  · skip
    refine Tx.ifc hC (t := 23) te_316_6 (by decide) (fun q => absurd q (show ¬ ((1 : Int) = 0) by decide)) (fun q => ?_)
    refine Tx.iload_n hC te_316_9 rfl ?_
    refine Tx.iconst hC te_316_10 rfl ?_
    refine Tx.bipush hC te_316_11 rfl rfl ?_
    refine Tx.statI hC te_316_13 (by decide) mt_227 (args := [.inl b, .inl 0, .inl 63]) (rest := []) (c' := 0) (s' := 0) rfl rfl rfl rfl rfl rfl rfl ?_
    refine CWI.q hC (f_227 (fun r4a r4b r4i => ?_) (fun r4q r4i => ?_))
    · skip
      refine Tx.ifc hC (t := 23) te_316_16 (by decide) (fun q => absurd q (show ¬ ((1 : Int) = 0) by decide)) (fun q => ?_)
      refine Tx.iconst hC te_316_19 rfl ?_
      refine Tx.goto hC (t := 24) te_316_20 (by decide) ?_
      exact Tx.bret hC te_316_24 rfl (by omega) (show K 1 mem from H1 (by omega))
    · skip
      refine Tx.ifc hC (t := 23) te_316_16 (by decide) (fun q => ?_) (fun q => absurd (show (0 : Int) = 0 by decide) q)
      refine Tx.iconst hC te_316_23 rfl ?_
      exact Tx.bret hC te_316_24 rfl (by omega) (show K 0 mem from H0 (by omega))
  · skip
    refine Tx.ifc hC (t := 23) te_316_6 (by decide) (fun q => ?_) (fun q => absurd (show (0 : Int) = 0 by decide) q)
    refine Tx.iconst hC te_316_23 rfl ?_
    exact Tx.bret hC te_316_24 rfl (by omega) (show K 0 mem from H0 (by omega))
theorem f_327x {S : Nat × (Nat → Int32)} {n : Nat} {mem : MM} {K : Int → MM → Prop} {E : Nat → MM → Prop} (h : RefOK mem) {p0 p1 p2 : Int} (H0 : ((0 ≤ p0 ∧ p0 ≤ 1) ∧ 0 ≤ p1 ∧ p1 ≤ 63) ∧ 0 ≤ p2 ∧ p2 ≤ 40 → SoundM mem → ∀ m', Frm pPr (upm mem 143 0 0) m' → PlR m' (trM (acsR mem) (mem 143 1).toNat p2.toNat) (mem 143 1).toNat p2.toNat 0 → ∀ r, r = m' 165 (64 * p0.toNat + p1.toNat) → K r m') (H1 : ¬ (((0 ≤ p0 ∧ p0 ≤ 1) ∧ 0 ≤ p1 ∧ p1 ≤ 63) ∧ 0 ≤ p2 ∧ p2 ≤ 40) → K 0 (upm mem 143 0 1)) (H2 : ((0 ≤ p0 ∧ p0 ≤ 1) ∧ 0 ≤ p1 ∧ p1 ≤ 63) ∧ 0 ≤ p2 ∧ p2 ≤ 40 → ¬ SoundM mem → K 0 (upm mem 143 0 2)) : CQI (Ex S (n + 5)) 327 [.inr 143, .inl p0, .inl p1, .inl p2] mem K E := by
  refine CY.of (k := 0) mt_327 rfl rfl (fun hv => ?_)
  have hC := Ex.mono S (n + 4)
  have ii_p0 : InI p0 := hv (.inl p0) (by simp)
  unfold InI at ii_p0
  have ii_p1 : InI p1 := hv (.inl p1) (by simp)
  unfold InI at ii_p1
  have ii_p2 : InI p2 := hv (.inl p2) (by simp)
  unfold InI at ii_p2
  clear hv
  show Tx (Ex S (n + 4)) S M_327 (kI K E) 0 0 0 [some (.inr 143), some (.inl p0), some (.inl p1), some (.inl p2)] [] mem
  refine Tx.aload_n hC te_327_0 rfl ?_
  refine Tx.iload_n hC te_327_1 rfl ?_
  refine Tx.iload_n hC te_327_2 rfl ?_
  refine Tx.statI hC te_327_3 (by decide) mt_316 (args := [.inl p0, .inl p1]) (rest := [.inr 143]) (c' := 0) (s' := 0) rfl rfl rfl rfl rfl rfl rfl ?_
  refine f_316x (fun r1s r1i => ?_) (fun r1s r1i => ?_)
  · skip
    refine Tx.ifc hC (t := 16) te_327_6 (by decide) (fun q => absurd q (show ¬ ((1 : Int) = 0) by decide)) (fun q => ?_)
    refine Tx.iload_n hC te_327_9 rfl ?_
    refine Tx.statI hC te_327_10 (by decide) mt_309 (args := [.inl p2]) (rest := [.inr 143]) (c' := 0) (s' := 0) rfl rfl rfl rfl rfl rfl rfl ?_
    refine f_309x (fun r4s r4i => ?_) (fun r4s r4i => ?_)
    · skip
      refine Tx.ifc hC (t := 20) te_327_13 (by decide) (fun q => ?_) (fun q => absurd (show ¬ (1 : Int) = 0 by decide) q)
      refine Tx.aload_n hC te_327_20 rfl ?_
      refine Tx.virtI hC te_327_21 mt_240 (args := [.inr 143]) (rest := [.inr 143]) (c' := 0) (s' := 0) rfl rfl rfl rfl rfl rfl rfl rfl rfl rfl ?_
      refine CWI.q hC (f_240 h.ops (fun r7s r7i => ?_) (fun r7s r7i => ?_))
      · skip
        refine Tx.ifc hC (t := 31) te_327_24 (by decide) (fun q => ?_) (fun q => absurd (show ¬ (1 : Int) = 0 by decide) q)
        refine Tx.iconst hC te_327_31 rfl ?_
        refine Tx.putI hC te_327_32 rfl rfl rfl rfl ?_
        refine Tx.aload_n hC te_327_35 rfl ?_
        refine Tx.getI hC te_327_36 rfl rfl rfl (fun v11 v11e v11i => ?_)
        rw [upm_eq] at v11e
        subst v11e
        clear v11i
        refine Tx.ifc hC (t := 44) te_327_39 (by decide) (fun q => ?_) (fun q => absurd (show (0 : Int) ≤ 0 by decide) q)
        refine Tx.aload_n hC te_327_44 rfl ?_
        refine Tx.iload_n hC te_327_45 rfl ?_
        refine Tx.virtV hC te_327_46 mt_328 (args := [.inr 143, .inl p2]) (rest := []) (c' := 0) (s' := 0) rfl rfl rfl rfl rfl rfl rfl rfl rfl rfl ?_
        refine f_328x (h.th' (by omega)) (SoundM.th r7s) (by omega) (fun m13 hF14 r12p => ?_)
        refine Tx.aload_n hC te_327_49 rfl ?_
        refine Tx.getR hC te_327_50 rfl rfl rfl ?_
        refine Tx.bipush hC te_327_53 rfl rfl ?_
        refine Tx.iload_n hC te_327_55 rfl ?_
        refine Tx.imulW hC te_327_56 (fun z15 z15i z15e => ?_)
        unfold InI at z15i z15e
        first | replace z15e := z15e (by omega) | clear z15e
        refine Tx.iload_n hC te_327_57 rfl ?_
        refine Tx.iaddW hC te_327_58 (fun z16 z16i z16e => ?_)
        unfold InI at z16i z16e
        first | replace z16e := z16e (by omega) | clear z16e
        refine Tx.iald hC te_327_59 rfl (by omega) (fun v17 v17e v17i => ?_)
        unfold InI at v17i
        exact Tx.ireturn hC te_327_60 rfl (fun hr => show K v17 m13 from H0 (by omega) r7s _ hF14 r12p _ (by rw [v17e]; congr 1; omega))
      · skip
        refine Tx.ifc hC (t := 31) te_327_24 (by decide) (fun q => absurd q (show ¬ (¬ (0 : Int) = 0) by decide)) (fun q => ?_)
        refine Tx.iconst hC te_327_27 rfl ?_
        refine Tx.goto hC (t := 32) te_327_28 (by decide) ?_
        refine Tx.putI hC te_327_32 rfl rfl rfl rfl ?_
        refine Tx.aload_n hC te_327_35 rfl ?_
        refine Tx.getI hC te_327_36 rfl rfl rfl (fun v19 v19e v19i => ?_)
        rw [upm_eq] at v19e
        subst v19e
        clear v19i
        refine Tx.ifc hC (t := 44) te_327_39 (by decide) (fun q => absurd q (show ¬ ((2 : Int) ≤ 0) by decide)) (fun q => ?_)
        refine Tx.iconst hC te_327_42 rfl ?_
        exact Tx.ireturn hC te_327_43 rfl (fun hr => show K 0 (upm mem 143 0 2) from H2 (by omega) r7s)
    · skip
      refine Tx.ifc hC (t := 20) te_327_13 (by decide) (fun q => absurd q (show ¬ (¬ (0 : Int) = 0) by decide)) (fun q => ?_)
      refine Tx.iconst hC te_327_16 rfl ?_
      refine Tx.goto hC (t := 32) te_327_17 (by decide) ?_
      refine Tx.putI hC te_327_32 rfl rfl rfl rfl ?_
      refine Tx.aload_n hC te_327_35 rfl ?_
      refine Tx.getI hC te_327_36 rfl rfl rfl (fun v21 v21e v21i => ?_)
      rw [upm_eq] at v21e
      subst v21e
      clear v21i
      refine Tx.ifc hC (t := 44) te_327_39 (by decide) (fun q => absurd q (show ¬ ((1 : Int) ≤ 0) by decide)) (fun q => ?_)
      refine Tx.iconst hC te_327_42 rfl ?_
      exact Tx.ireturn hC te_327_43 rfl (fun hr => show K 0 (upm mem 143 0 1) from H1 (by omega))
  · skip
    refine Tx.ifc hC (t := 16) te_327_6 (by decide) (fun q => ?_) (fun q => absurd (show (0 : Int) = 0 by decide) q)
    refine Tx.iconst hC te_327_16 rfl ?_
    refine Tx.goto hC (t := 32) te_327_17 (by decide) ?_
    refine Tx.putI hC te_327_32 rfl rfl rfl rfl ?_
    refine Tx.aload_n hC te_327_35 rfl ?_
    refine Tx.getI hC te_327_36 rfl rfl rfl (fun v23 v23e v23i => ?_)
    rw [upm_eq] at v23e
    subst v23e
    clear v23i
    refine Tx.ifc hC (t := 44) te_327_39 (by decide) (fun q => absurd q (show ¬ ((1 : Int) ≤ 0) by decide)) (fun q => ?_)
    refine Tx.iconst hC te_327_42 rfl ?_
    exact Tx.ireturn hC te_327_43 rfl (fun hr => show K 0 (upm mem 143 0 1) from H1 (by omega))
/-! laid by wip/hand/tg.py: a loop turn by turn -/
theorem f_160n {S : Nat × (Nat → Int32)} {n : Nat} {mem : MM} {K : MM → Prop} {E : Nat → MM → Prop} {r p : Int} (H : (0 ≤ r ∧ r ≤ 1) ∧ 0 ≤ p ∧ p ≤ 63 → K mem) (HE : ¬ ((0 ≤ r ∧ r ≤ 1) ∧ 0 ≤ p ∧ p ≤ 63) → E 0 mem) : CQV (Ex S (n + 1)) 160 [.inl r, .inl p] mem K E := by
  refine CY.of (k := 0) mt_160 rfl rfl (fun hv => ?_)
  have hC := Ex.mono S n
  have ii_r : InI r := hv (.inl r) (by simp)
  unfold InI at ii_r
  have ii_p : InI p := hv (.inl p) (by simp)
  unfold InI at ii_p
  clear hv
  show Tx (Ex S n) S M_160 (kV K E) 0 0 0 [some (.inl r), some (.inl p)] [] mem
  refine Tx.iload_n hC te_160_0 rfl ?_
  refine Tx.ifc hC (t := 19) te_160_1 (by decide) (fun q1 => ?_) (fun q1 => ?_)
  · replace q1 : (r : Int) < 0 := q1
    exact Tx.thr hC te_160_19 rfl rfl rfl rfl rfl (show E 0 mem from HE (by omega))
  · replace q1 : ¬ ((r : Int) < 0) := q1
    refine Tx.iload_n hC te_160_4 rfl ?_
    refine Tx.iconst hC te_160_5 rfl ?_
    refine Tx.icmp hC (t := 19) te_160_6 (by decide) (fun q2 => ?_) (fun q2 => ?_)
    · replace q2 : 1 < (r : Int) := q2
      exact Tx.thr hC te_160_19 rfl rfl rfl rfl rfl (show E 0 mem from HE (by omega))
    · replace q2 : ¬ (1 < (r : Int)) := q2
      refine Tx.iload_n hC te_160_9 rfl ?_
      refine Tx.ifc hC (t := 19) te_160_10 (by decide) (fun q3 => ?_) (fun q3 => ?_)
      · replace q3 : (p : Int) < 0 := q3
        exact Tx.thr hC te_160_19 rfl rfl rfl rfl rfl (show E 0 mem from HE (by omega))
      · replace q3 : ¬ ((p : Int) < 0) := q3
        refine Tx.iload_n hC te_160_13 rfl ?_
        refine Tx.bipush hC te_160_14 rfl rfl ?_
        refine Tx.icmp hC (t := 29) te_160_16 (by decide) (fun q4 => ?_) (fun q4 => ?_)
        · replace q4 : (p : Int) < 64 := q4
          exact Tx.vret hC te_160_29 rfl (show K mem from H (by omega))
        · replace q4 : ¬ ((p : Int) < 64) := q4
          exact Tx.thr hC te_160_19 rfl rfl rfl rfl rfl (show E 0 mem from HE (by omega))
theorem f_151n {S : Nat × (Nat → Int32)} {n : Nat} {mem : MM} {K : MM → Prop} {E : Nat → MM → Prop} {t : Int} (H : 0 ≤ t ∧ t ≤ 40 → K mem) (HE : ¬ (0 ≤ t ∧ t ≤ 40) → E 0 mem) : CQV (Ex S (n + 1)) 151 [.inl t] mem K E := by
  refine CY.of (k := 0) mt_151 rfl rfl (fun hv => ?_)
  have hC := Ex.mono S n
  have ii_t : InI t := hv (.inl t) (by simp)
  unfold InI at ii_t
  clear hv
  show Tx (Ex S n) S M_151 (kV K E) 0 0 0 [some (.inl t)] [] mem
  refine Tx.iload_n hC te_151_0 rfl ?_
  refine Tx.ifc hC (t := 10) te_151_1 (by decide) (fun q1 => ?_) (fun q1 => ?_)
  · replace q1 : (t : Int) < 0 := q1
    exact Tx.thr hC te_151_10 rfl rfl rfl rfl rfl (show E 0 mem from HE (by omega))
  · replace q1 : ¬ ((t : Int) < 0) := q1
    refine Tx.iload_n hC te_151_4 rfl ?_
    refine Tx.bipush hC te_151_5 rfl rfl ?_
    refine Tx.icmp hC (t := 21) te_151_7 (by decide) (fun q2 => ?_) (fun q2 => ?_)
    · replace q2 : (t : Int) ≤ 40 := q2
      exact Tx.vret hC te_151_21 rfl (show K mem from H (by omega))
    · replace q2 : ¬ ((t : Int) ≤ 40) := q2
      exact Tx.thr hC te_151_10 rfl rfl rfl rfl rfl (show E 0 mem from HE (by omega))
theorem f_169x {S : Nat × (Nat → Int32)} {n : Nat} {mem : MM} {K : Int → MM → Prop} {E : Nat → MM → Prop} (hI : ClS mem) {p0 p1 p2 : Int} (H : ((0 ≤ p0 ∧ p0 ≤ 1) ∧ 0 ≤ p1 ∧ p1 ≤ 63) ∧ 0 ≤ p2 ∧ p2 ≤ 40 → ∀ r m', ClS m' → Frm pNb mem m' → SndX m' → r = (trM (acsC m') (m' 1 0).toNat p2.toNat).1 p0.toNat p1.toNat → K r m') (HE0 : ¬ (((0 ≤ p0 ∧ p0 ≤ 1) ∧ 0 ≤ p1 ∧ p1 ≤ 63) ∧ 0 ≤ p2 ∧ p2 ≤ 40) → E 0 mem) (HE1 : ((0 ≤ p0 ∧ p0 ≤ 1) ∧ 0 ≤ p1 ∧ p1 ≤ 63) ∧ 0 ≤ p2 ∧ p2 ≤ 40 → ∀ m', ClS m' → Frm pNb mem m' → ¬ SndX m' → E 1 m') : CQI (Ex S (n + 17)) 169 [.inr 0, .inl p0, .inl p1, .inl p2] mem K E := by
  refine CY.of (k := 0) mt_169 rfl rfl (fun hv => ?_)
  have hC := Ex.mono S (n + 16)
  have ii_p0 : InI p0 := hv (.inl p0) (by simp)
  unfold InI at ii_p0
  have ii_p1 : InI p1 := hv (.inl p1) (by simp)
  unfold InI at ii_p1
  have ii_p2 : InI p2 := hv (.inl p2) (by simp)
  unfold InI at ii_p2
  clear hv
  have h8 := hI.1.b.1
  show Tx (Ex S (n + 16)) S M_169 (kI K E) 0 0 0 [some (.inr 0), some (.inl p0), some (.inl p1), some (.inl p2)] [] mem
  refine Tx.iload_n hC te_169_0 rfl ?_
  refine Tx.iload_n hC te_169_1 rfl ?_
  refine Tx.statV hC te_169_2 (by decide) mt_160 (args := [.inl p0, .inl p1]) (rest := []) (c' := 1) (s' := 6) rfl rfl rfl rfl rfl rfl rfl ?_
  refine f_160n (fun r1a => ?_) (fun r1n => HE0 (by omega))
  refine Tx.iload_n hC te_169_5 rfl ?_
  refine Tx.statV hC te_169_6 (by decide) mt_151 (args := [.inl p2]) (rest := []) (c' := 2) (s' := 12) rfl rfl rfl rfl rfl rfl rfl ?_
  refine f_151n (fun r4a => ?_) (fun r4n => HE0 (by omega))
  refine Tx.aload_n hC te_169_9 rfl ?_
  refine Tx.virtV hC te_169_10 mt_69 (args := [.inr 0]) (rest := []) (c' := 3) (s' := 18) rfl rfl rfl rfl rfl rfl rfl rfl rfl rfl ?_
  refine f_69x hI (fun m8 r7R hF9 => ?_) (fun m8 r7C hF9 r7s => HE1 (by omega) _ r7C (Frm.rf.tr hF9) r7s)
  have r7w := r7R.1.w.2
  have hF9n : Frm pNb mem m8 := Frm.rf.tr hF9
  refine Tx.aload_n hC te_169_13 rfl ?_
  refine Tx.getR hC te_169_14 rfl rfl rfl ?_
  refine Tx.aload_n hC te_169_17 rfl ?_
  refine Tx.getR hC te_169_18 rfl rfl rfl ?_
  refine Tx.iload_n hC te_169_21 rfl ?_
  refine Tx.virtV hC te_169_22 mt_161 (args := [.inr 134, .inr 1, .inl p2]) (rest := []) (c' := 3) (s' := 18) rfl rfl rfl rfl rfl rfl rfl rfl rfl rfl ?_
  refine f_161x r7R.1.b r7R.2.2.2.2 (by omega) (fun m11 hF12x r10p => ?_)
  have hF12 : Frm pPl m8 m11 := hF12x.mono (fun A i q => by unfold pPx at q; unfold pPl; omega)
  have r10R := Rdy.e_play r7R hF12
  have r10a : acsC m11 = acsC m8 := acsC_fr (fun A i a b => hF12x A i (by unfold pPx; omega))
  have r10z : m11 1 0 = m8 1 0 := hF12x 1 0 (by unfold pPx; omega)
  have hF12n : Frm pNb mem m11 := hF9n.tr (hF12.mono (fun A i q => by unfold pPl at q; unfold pNb; omega))
  refine Tx.aload_n hC te_169_25 rfl ?_
  refine Tx.getR hC te_169_26 rfl rfl rfl ?_
  refine Tx.getR hC te_169_29 rfl rfl rfl ?_
  refine Tx.iload_n hC te_169_32 rfl ?_
  refine Tx.aaldP hC te_169_33 (by omega) (fun R eR => ?_)
  have hR : shA R = some (.inl 64) := rowP eR (by omega)
  refine Tx.iload_n hC te_169_34 rfl ?_
  refine Tx.iald hC te_169_35 hR (by omega) (fun v13 v13e v13i => ?_)
  unfold InI at v13i
  exact Tx.ireturn hC te_169_36 rfl (fun hr => show K v13 m11 from H (by omega) _ _ r10R.cs hF12n r10R.2.2.2.2 (by { rw [v13e, eR, r10a, r10z]; exact r10p.1 _ _ (by omega) (by omega) }))
