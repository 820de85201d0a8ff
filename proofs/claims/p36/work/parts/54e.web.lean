/-! the web once more: needs lead from op to op; a chart is drawn: lemmas -/
theorem WbOK.fr {m m' : MM} {W : Nat} (h : WbOK m W) (e : ∀ A i, W ≤ A → A ≤ W + 4 → m' A i = m A i) : WbOK m' W := ⟨fun j hj => by
  rw [e _ _ (by omega) (by omega), e _ _ (by omega) (by omega), e _ _ (by omega) (by omega), e _ _ (by omega) (by omega)]; exact h.1 j hj, by rw [e W 0 (by omega) (by omega)]; exact h.2⟩
theorem WbS.fr {m m' : MM} (h : WbS m) (e : ∀ A i, A = 1 ∨ (9 ≤ A ∧ A ≤ 11) → m' A i = m A i) : WbS m' := fun j hj => by
  rw [e 9 0 (by omega)] at hj
  rw [e 10 j (by omega), e 11 j (by omega), e 1 0 (by omega)]; exact h j hj
theorem R64.up0 {m : MM} {W : Nat} {x : Int} (h : R64 m W) : R64 (upm m W 0 x) W := fun j hj => by
  rw [upm_ne (by omega), upm_ne (by omega), upm_ne (by omega), upm_ne (by omega)]; exact h j hj
theorem ChtOK.fr2 {m m' : MM} {Q : Nat} (h : ChtOK m Q) (e : ∀ A i, (A = Q ∧ i < 4) ∨ (Q < A ∧ A ≤ Q + 3) → m' A i = m A i) : ChtOK m' Q := by
  refine ⟨?_, fun o ho => ?_⟩
  · rw [e Q 1 (by omega), e Q 2 (by omega), e Q 3 (by omega)]; exact h.1
  · rw [e (Q + 1) o (by omega), e (Q + 2) o (by omega), e (Q + 3) o (by omega)]; exact h.2 o ho
theorem ChtOK.up3 {m : MM} {Q i : Nat} {x : Int} (h : ChtOK m Q) (hx : 0 ≤ x ∧ x ≤ 11010) : ChtOK (upm m (Q + 3) i x) Q := by
  refine ⟨?_, fun o ho => ?_⟩
  · rw [upm_ne (by omega), upm_ne (by omega), upm_ne (by omega)]; exact h.1
  · rw [upm_ne (A := Q + 3) (B := Q + 1) (by omega), upm_ne (A := Q + 3) (B := Q + 2) (by omega)]
    exact ⟨(h.2 o ho).1, (h.2 o ho).2.1, upm_rg (fun _ => hx) (fun _ => (h.2 o ho).2.2)⟩
theorem dr_start {mem m1 : MM} {Q : Nat} {v d : Int} (hQ : ChSh Q) (hO : ChtOK mem Q) (hB : BodyOK mem) (hSl : ∀ o, o < 8 → 0 ≤ mem 22 o ∧ mem 22 o ≤ 11) (e : v = mem 1 0) (hd : 1 ≤ d ∧ d ≤ 12) (ha : ∀ A i, ¬ A = Q + 1 → m1 A i = upm (upm mem Q 2 v) Q 3 d A i) (hb : ∀ i, m1 (Q + 1) i = if Int.toNat 0 ≤ i ∧ i < Int.toNat 0 + Int.toNat 8 then upm (upm mem Q 2 v) Q 3 d 22 (Int.toNat 0 + (i - Int.toNat 0)) else upm (upm mem Q 2 v) Q 3 d (Q + 1) i) : ChtOK m1 Q ∧ m1 Q 2 = mem 1 0 ∧ Frm (pCh Q) mem m1 := by
  have hq := hQ.rg
  have h8 := hB.1
  have e2 : m1 Q 2 = mem 1 0 := by rw [ha Q 2 (by omega), upm_ne (by omega), upm_eq]; exact e
  have e3 : m1 Q 3 = d := by rw [ha Q 3 (by omega), upm_eq]
  refine ⟨⟨⟨by omega, by omega, ?_⟩, fun o ho => ⟨?_, ?_, ?_⟩⟩, e2, fun A i q => ?_⟩
  · rw [ha Q 1 (by omega), upm_ne (by omega), upm_ne (by omega)]; exact hO.1.2.2
  · rw [hb o, if_pos ⟨by omega, by omega⟩, upm_ne (by omega), upm_ne (by omega), show Int.toNat 0 + (o - Int.toNat 0) = o by omega]; exact hSl o ho
  · rw [ha (Q + 2) o (by omega), upm_ne (by omega), upm_ne (by omega)]; exact (hO.2 o ho).2.1
  · rw [ha (Q + 3) o (by omega), upm_ne (by omega), upm_ne (by omega)]; exact (hO.2 o ho).2.2
  · unfold pCh at q
    rw [ha A i (by omega), upm_ne (by omega), upm_ne (by omega)]
theorem dr_times {m m' : MM} {Q : Nat} (h : ChtOK m Q) (hF : Frm (pTm Q) m m') (hD : DT m' Q 0 0) : ChtOK m' Q := by
  refine ⟨?_, fun o ho => ?_⟩
  · rw [hF Q 1 (by unfold pTm; omega), hF Q 2 (by unfold pTm; omega), hF Q 3 (by unfold pTm; omega)]; exact h.1
  · rw [hF (Q + 1) o (by unfold pTm; omega), hF (Q + 3) o (by unfold pTm; omega)]
    exact ⟨(h.2 o ho).1, (hD o ho).1, (h.2 o ho).2.2⟩
/-- what soundness says -/
def Snd (m : MM) : Prop := ∀ o k : Nat, (o : Int) < m 1 0 → (k : Int) < csN m o → m 3 (4 * o + 2 * k) < m 1 0
theorem Snd.fr {m m' : MM} (h : Snd m) (e : ∀ A i, 0 < A → A < 9 → m' A i = m A i) : Snd m' := fun o k ho hk => by
  rw [e 1 0 (by omega) (by omega)] at ho ⊢
  have ec : csN m' o = csN m o := by unfold csN; rw [e 2 o (by omega) (by omega)]
  rw [ec] at hk
  rw [e 3 _ (by omega) (by omega)]; exact h o k ho hk
def set4 (m : MM) (j : Nat) (a b e l : Int) : MM := upm (upm (upm (upm m 10 j a) 11 j b) 12 j e) 13 j l
theorem set4_ne {m : MM} {j A i : Nat} {a b e l : Int} (h : ¬ (10 ≤ A ∧ A ≤ 13 ∧ i = j)) : set4 m j a b e l A i = m A i := by
  unfold set4
  rw [upm_ne (by omega), upm_ne (by omega), upm_ne (by omega), upm_ne (by omega)]
theorem set4_0 {m : MM} {j : Nat} {a b e l : Int} : set4 m j a b e l 10 j = a ∧ set4 m j a b e l 11 j = b ∧ set4 m j a b e l 12 j = e ∧ set4 m j a b e l 13 j = l := by
  unfold set4
  refine ⟨?_, ?_, ?_, upm_eq⟩
  · rw [upm_ne (by omega), upm_ne (by omega), upm_ne (by omega), upm_eq]
  · rw [upm_ne (by omega), upm_ne (by omega), upm_eq]
  · rw [upm_ne (by omega), upm_eq]
theorem set4_r {m : MM} {j : Nat} {a b e l : Int} (h : R64 m 9) (hr : Rg a b e l) : R64 (set4 m j a b e l) 9 := fun i hi => by
  by_cases q : i = j
  · subst q
    have z := set4_0 (m := m) (j := i) (a := a) (b := b) (e := e) (l := l)
    show Rg (set4 m i a b e l 10 i) (set4 m i a b e l 11 i) (set4 m i a b e l 12 i) (set4 m i a b e l 13 i)
    rw [z.1, z.2.1, z.2.2.1, z.2.2.2]; exact hr
  · rw [set4_ne (by omega), set4_ne (by omega), set4_ne (by omega), set4_ne (by omega)]; exact h i hi
/-- a web whose needs lead from op to op below s -/
def INS (m : MM) (s : Int) : Prop := WbOK m 9 ∧ ∀ j : Nat, (j : Int) < m 9 0 → m 10 j < s ∧ m 11 j < s
def I72 (mem m : MM) (s x : Int) : Prop := m 9 0 = mem 9 0 ∧ R64 m 9 ∧ ∀ j : Nat, ((j : Int) < m 9 0 ∨ (x < (j : Int) ∧ (j : Int) ≤ m 9 0)) → m 10 j < s ∧ m 11 j < s
theorem I72.step {mem m : MM} {s x y y2 y3 y4 a b e l : Int} {j : Nat} (h : I72 mem m s x) (hx : 1 ≤ x ∧ x ≤ mem 9 0 ∧ mem 9 0 < 64) (hj : (j : Int) = x) (ea : a = m 10 y.toNat) (eb : b = m 11 y2.toNat) (ee : e = m 12 y3.toNat) (el : l = m 13 y4.toNat) (hy : y = x - 1) (q2 : y2 = y) (q3 : y3 = y) (q4 : y4 = y) : I72 mem (set4 m j a b e l) s y := by
  rw [q2] at eb
  rw [q3] at ee
  rw [q4] at el
  obtain ⟨h0, h1, h2⟩ := h
  have e9 : set4 m j a b e l 9 0 = m 9 0 := set4_ne (by omega)
  have z := set4_0 (m := m) (j := j) (a := a) (b := b) (e := e) (l := l)
  have hr := h1 y.toNat (by omega)
  refine ⟨e9.trans h0, set4_r h1 (by rw [ea, eb, ee, el]; exact hr), fun i hi => ?_⟩
  rw [e9] at hi
  by_cases q : i = j
  · rw [q, z.1, z.2.1, ea, eb]; exact h2 _ (by omega)
  · rw [set4_ne (by omega), set4_ne (by omega)]; exact h2 i (by omega)
theorem I72.fin {mem m : MM} {s x a b e l z : Int} {j : Nat} (h : I72 mem m s x) (hx : 0 ≤ x ∧ x ≤ mem 9 0 ∧ mem 9 0 < 64) (hj : (j : Int) = x) (hr : Rg a b e l) (hab : a < s ∧ b < s) (hz : z = mem 9 0 + 1) : INS (upm (set4 m j a b e l) 9 0 z) s := by
  obtain ⟨h0, h1, h2⟩ := h
  have w := set4_0 (m := m) (j := j) (a := a) (b := b) (e := e) (l := l)
  refine ⟨⟨R64.up0 (set4_r h1 hr), by rw [upm_eq]; omega⟩, fun i hi => ?_⟩
  rw [upm_eq] at hi
  rw [upm_ne (by omega), upm_ne (by omega)]
  by_cases q : i = j
  · rw [q, w.1, w.2.1]; exact hab
  · rw [set4_ne (by omega), set4_ne (by omega)]; exact h2 i (by omega)
theorem INS.i72 {mem : MM} {s x : Int} (h : INS mem s) (hx : mem 9 0 ≤ x) : I72 mem mem s x := ⟨rfl, h.1.1, fun j hj => h.2 j (by omega)⟩
theorem I72.eq {mem m : MM} {s x x' : Int} (h : I72 mem m s x) (e : x' = x) : I72 mem m s x' := by rw [e]; exact h
def p9w (A i : Nat) : Prop := (9 < A ∧ A ≤ 13) ∨ (A = 9 ∧ i = 0)
