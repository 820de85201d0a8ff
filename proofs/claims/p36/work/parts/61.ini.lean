/-! the start: what the first heap holds -/
theorem hget_ge {H : HT} (hl : H.length = 11) {a : Nat} (h : 176 ≤ a) : hget H a = none := by
  unfold hget
  rw [lget_eq, List.getElem?_eq_none (by rw [hl]; show 11 ≤ a / 16; omega)]
def padC (c : AE) : Bool := eEq c (.inl (99, []))
theorem all_lt {n : Nat} {p : Nat → Bool} (h : (List.range n).all p = true) {i : Nat} (hi : i < n) : p i = true := List.all_eq_true.mp h i (List.mem_range.mpr hi)
theorem hR9 {θ : Nat → Int32} : hR θ 1 h9 [.inr (9, dflt 9)] := by
  refine ⟨rfl, fun a c hc => ?_⟩
  by_cases a0 : a = 0
  · subst a0
    cases hc
    exact Or.inr ⟨_, rfl, rfl, ⟨_, _, rfl, rfl, _, _, rfl, rfl, _, _, rfl, rfl, _, _, rfl, rfl, _, _, rfl, rfl, _, _, rfl, rfl, _, _, rfl, rfl, _, _, rfl, rfl, _, _, rfl, rfl, _, _, rfl, rfl, _, _, rfl, ⟨0, rfl, rfl⟩, _, _, rfl, ⟨0, rfl, rfl⟩, rfl⟩⟩
  · left
    have h1 : (List.range 176).all (fun a => Nat.beq a 0 || match hget h9 a with | some c => padC c | none => true) = true := by decide +kernel
    by_cases h2 : a < 176
    · have := all_lt h1 h2
      rw [Bool.or_eq_true, beq_iff] at this
      rcases this with q | q
      · exact absurd q a0
      · rw [hc] at q; exact eEq_ok q
    · rw [hget_ge rfl (by omega)] at hc; cases hc
theorem hRM {θ : Nat → Int32} {h : PH} (hh : hR θ 143 hA h) : hR θ 144 hM (h ++ [.inr (10, dflt 10)]) := by
  have hl := hh.1
  refine ⟨by rw [List.length_append, hl]; rfl, fun a c hc => ?_⟩
  by_cases a0 : a = 143
  · subst a0
    cases hc
    exact Or.inr ⟨.inr (10, dflt 10), by rw [List.getElem?_append_right (by omega), hl]; rfl, rfl, ⟨_, _, rfl, ⟨0, rfl, rfl⟩, _, _, rfl, ⟨0, rfl, rfl⟩, _, _, rfl, rfl, _, _, rfl, rfl, _, _, rfl, rfl, _, _, rfl, rfl, _, _, rfl, rfl, _, _, rfl, rfl, _, _, rfl, rfl, _, _, rfl, rfl, _, _, rfl, rfl, _, _, rfl, rfl, _, _, rfl, ⟨0, rfl, rfl⟩, _, _, rfl, rfl, _, _, rfl, rfl, _, _, rfl, rfl, _, _, rfl, rfl, _, _, rfl, rfl, _, _, rfl, ⟨0, rfl, rfl⟩, _, _, rfl, rfl, _, _, rfl, rfl, _, _, rfl, rfl, _, _, rfl, rfl, _, _, rfl, rfl, _, _, rfl, rfl, _, _, rfl, ⟨0, rfl, rfl⟩, _, _, rfl, rfl, _, _, rfl, rfl, _, _, rfl, rfl, _, _, rfl, rfl, _, _, rfl, rfl, _, _, rfl, ⟨0, rfl, rfl⟩, _, _, rfl, ⟨0, rfl, rfl⟩, _, _, rfl, ⟨0, rfl, rfl⟩, _, _, rfl, rfl, _, _, rfl, rfl, _, _, rfl, rfl, rfl⟩⟩
  · have h1 : (List.range 176).all (fun a => Nat.beq a 143 || match hget hM a, hget hA a with | some c, some d => eEq c d | none, none => true | _, _ => false) = true := by decide +kernel
    by_cases h2 : a < 176
    · have := all_lt h1 h2
      rw [Bool.or_eq_true, beq_iff] at this
      rcases this with q | q
      · exact absurd q a0
      · rw [hc] at q
        cases e : hget hA a with
        | none => rw [e] at q; cases q
        | some d =>
          rw [e] at q
          have q2 : c = d := eEq_ok q
          subst q2
          rcases hh.2 a c e with w | ⟨y, w1, w2⟩
          · exact Or.inl w
          · exact Or.inr ⟨y, by rw [List.getElem?_append_left (List.getElem?_eq_some_iff.mp w1).1]; exact w1, w2⟩
    · rw [hget_ge rfl (by omega)] at hc; cases hc
/-- the shape that a cell has -/
def fdS (v : AV) : Option (Option Nat) := match v with
  | .inl _ => some none
  | .inr (.inr (.ref A)) => some (some A)
  | _ => none
def lsS : LW → List (Option Nat) → Bool
  | [], [] => true
  | a :: l, s :: r => (match fdS a with
    | some q => decide (q = s)
    | none => false) && lsS l r
  | _, _ => false
def cSh (c : AE) (s : SH) : Bool := match c, s with
  | .inl (0, l), .inl n => Nat.beq l.length n
  | .inr (ci, l), .inr (cj, fs) => Nat.beq ci cj && lsS l fs
  | _, _ => false
theorem A2.atI {θ : Nat → Int32} : ∀ {l : LW} {l' : List Value} {fs : List (Option Nat)}, A2 (vR θ) l l' → lsS l fs = true → l'.length = fs.length ∧ ∀ i : Nat, match fs[i]? with
    | some none => ∃ z, l'[i]? = some (Value.int z)
    | some (some A) => l'[i]? = some (Value.ref A)
    | none => True
  | [], l', [], h, _ => by
    have h : l' = [] := h
    subst h
    exact ⟨rfl, fun i => by simp⟩
  | [], _, _ :: _, _, h => by cases h
  | _ :: _, _, [], _, h => by cases h
  | a :: l, l', s :: r, h, hs => by
    obtain ⟨w, r', rfl, h1, h2⟩ := h
    unfold lsS at hs
    rw [Bool.and_eq_true] at hs
    have ih := A2.atI h2 hs.2
    refine ⟨by rw [List.length_cons, List.length_cons, ih.1], fun i => ?_⟩
    cases i with
    | succ i => simpa using ih.2 i
    | zero =>
      have hs := hs.1
      split at hs
      · rename_i q hq
        have hs := of_decide_eq_true hs
        subst hs
        unfold fdS at hq
        split at hq
        · cases hq
          obtain ⟨y, e, -⟩ := h1
          exact ⟨y, by rw [e]; rfl⟩
        · cases hq
          have h1 : w = .ref _ := h1
          subst h1
          rfl
        · cases hq
      · cases hs
theorem A2.atV {θ : Nat → Int32} : ∀ {l : LW} {l' : List Value} {i : Nat} {x : Int}, A2 (vR θ) l l' → l[i]? = some (.inl x) → ∃ z, l'[i]? = some (Value.int z) ∧ z.toInt = x
  | [], _, i, x, _, h => by simp at h
  | a :: l, l', 0, x, h, hx => by
    obtain ⟨w, r', rfl, h1, h2⟩ := h
    cases hx
    obtain ⟨y, e, e2⟩ := h1
    exact ⟨y, by rw [e]; rfl, e2⟩
  | a :: l, l', i + 1, x, h, hx => by
    obtain ⟨w, r', rfl, h1, h2⟩ := h
    simpa using A2.atV h2 (show l[i]? = some (.inl x) by simpa using hx)
theorem sh_of {θ : Nat → Int32} {c : AE} {y : PE} {s : SH} {h : PH} {A : Nat} (hy : h[A]? = some y) (hc : cR θ c y) (hs : cSh c s = true) : shR s (memOf h A) y := by
  unfold cSh at hs
  split at hs
  · rename_i l n
    rw [beq_iff] at hs
    subst hs
    cases y with
    | inr q => exact False.elim hc
    | inl q =>
      obtain ⟨t, n, g⟩ := q
      cases t with
      | succ t => exact False.elim hc
      | zero => cases g with
        | inr g => exact False.elim hc
        | inl g =>
          obtain ⟨e, -⟩ := (show n = l.length ∧ _ from hc)
          subst e
          exact ⟨g, rfl, fun i => memOf_row hy⟩
  · rename_i ci l cj fs
    rw [Bool.and_eq_true, beq_iff] at hs
    obtain ⟨e, hs⟩ := hs
    subst e
    cases y with
    | inl q => exact False.elim hc
    | inr q =>
      obtain ⟨ck, gs⟩ := q
      obtain ⟨e, hA⟩ := (show ck = ci ∧ A2 (vR θ) l gs from hc)
      subst e
      have w := A2.atI hA hs
      refine ⟨gs, rfl, w.1, fun i => ?_⟩
      have w2 := w.2 i
      split
      · rename_i q; rw [q] at w2; first | exact w2 | (obtain ⟨z, e⟩ := w2; exact ⟨z, e, memOf_fld hy e⟩)
      · rename_i q; rw [q] at w2; first | exact w2 | (obtain ⟨z, e⟩ := w2; exact ⟨z, e, memOf_fld hy e⟩)
      · trivial
  · cases hs
/-- what the table says of a cell -/
noncomputable def tvI (A i : Nat) : Option Int := match hget hB A with
  | some (.inl (0, l)) => (match l[i]? with | some (.inl x) => some x | _ => none)
  | some (.inr (_, l)) => (match l[i]? with | some (.inl x) => some x | _ => none)
  | _ => none
def St (θ : Nat → Int32) (h : PH) : Prop := hR θ 173 hB h
theorem St.val {θ : Nat → Int32} {h : PH} (hh : St θ h) {A i : Nat} {x : Int} (e : tvI A i = some x) : memOf h A i = x := by
  unfold tvI at e
  split at e
  · rename_i l hl
    split at e
    · rename_i z hz
      cases e
      rcases hh.2 A _ hl with w | ⟨y, w1, w2⟩
      · cases w
      · cases y with
        | inr q => exact False.elim w2
        | inl q =>
          obtain ⟨t, n, g⟩ := q
          cases t with
          | succ t => exact False.elim w2
          | zero => cases g with
            | inr g => exact False.elim w2
            | inl g =>
              obtain ⟨-, w3⟩ := (show n = l.length ∧ ∀ (j : Nat) (a : AV), l[j]? = some a → vR θ a (.int (g j)) from w2)
              obtain ⟨y, e1, e2⟩ := w3 i _ hz
              rw [memOf_row w1]
              cases e1
              exact e2
    · cases e
  · rename_i ci l hl
    split at e
    · rename_i z hz
      cases e
      rcases hh.2 A _ hl with w | ⟨y, w1, w2⟩
      · cases w
      · cases y with
        | inl q => exact False.elim w2
        | inr q =>
          obtain ⟨ck, gs⟩ := q
          obtain ⟨e, hA⟩ := (show ck = ci ∧ A2 (vR θ) l gs from w2)
          obtain ⟨z, e1, e2⟩ := A2.atV hA hz
          rw [memOf_fld w1 e1]; exact e2
    · cases e
  · cases e
noncomputable def ckI (A i : Nat) (lo hi : Int) : Bool := match tvI A i with
  | some x => decide (lo ≤ x) && decide (x ≤ hi)
  | none => false
theorem rg1 {θ : Nat → Int32} {h : PH} (hh : St θ h) (A i : Nat) (lo hi : Int) (e : ckI A i lo hi = true) : lo ≤ memOf h A i ∧ memOf h A i ≤ hi := by
  unfold ckI at e
  split at e
  · rename_i x hx
    rw [hh.val hx]
    rw [Bool.and_eq_true] at e
    exact ⟨of_decide_eq_true e.1, of_decide_eq_true e.2⟩
  · cases e
theorem rgn {θ : Nat → Int32} {h : PH} (hh : St θ h) (A n : Nat) (lo hi : Int) (e : (List.range n).all (fun i => ckI A i lo hi) = true) (i : Nat) (hi_ : i < n) : lo ≤ memOf h A i ∧ memOf h A i ≤ hi := rg1 hh A i lo hi (all_lt e hi_)
theorem St.rg {θ : Nat → Int32} {h : PH} (hh : St θ h) {A : Nat} {s : SH} (hA : shA A = some s) : ∃ y, h[A]? = some y ∧ shR s (memOf h A) y := by
  have h1 : (List.range 200).all (fun A => match shA A with | none => true | some s => match hget hB A with | some c => cSh c s && !padC c | none => false) = true := by decide +kernel
  have := all_lt h1 (shA_lt hA)
  rw [hA] at this
  cases e : hget hB A with
  | none => rw [e] at this; cases this
  | some c =>
    rw [e] at this
    have this : (cSh c s && !padC c) = true := this
    rw [Bool.and_eq_true] at this
    rcases hh.2 A c e with w | ⟨y, w1, w2⟩
    · rw [w] at this
      exact absurd this.2 (by decide)
    · exact ⟨y, w1, sh_of w1 w2 this.1⟩
section INI
variable {θ : Nat → Int32} {hp : PH}
theorem St.body (h : St θ hp) : BodyOK (memOf hp) := by
  refine ⟨rg1 h 1 0 0 8 (by decide +kernel), fun o ho => ?_, rgn h 5 6 0 2 (by decide +kernel), rgn h 6 6 1 6 (by decide +kernel), rgn h 7 6 1 15 (by decide +kernel), rgn h 8 3 1 3 (by decide +kernel)⟩
  have k := rgn h 2 8 0 0 (by decide +kernel) o ho
  have p := rgn h 3 32 0 0 (by decide +kernel)
  have p0 := p (4 * o) (by omega)
  have p1 := p (4 * o + 1) (by omega)
  have p2 := p (4 * o + 2) (by omega)
  have p3 := p (4 * o + 3) (by omega)
  unfold BOp srcOK
  omega
theorem St.web (h : St θ hp) : WbOK (memOf hp) 9 ∧ WbOK (memOf hp) 14 := by
  refine ⟨⟨fun j hj => ?_, rg1 h 9 0 0 64 (by decide +kernel)⟩, ⟨fun j hj => ?_, rg1 h 14 0 0 64 (by decide +kernel)⟩⟩
  · have a := rgn h 10 64 0 0 (by decide +kernel) j hj
    have b := rgn h 11 64 0 0 (by decide +kernel) j hj
    have c := rgn h 12 64 0 0 (by decide +kernel) j hj
    have d := rgn h 13 64 0 0 (by decide +kernel) j hj
    show Rg (memOf hp 10 j) (memOf hp 11 j) (memOf hp 12 j) (memOf hp 13 j)
    unfold Rg; omega
  · have a := rgn h 15 64 0 0 (by decide +kernel) j hj
    have b := rgn h 16 64 0 0 (by decide +kernel) j hj
    have c := rgn h 17 64 0 0 (by decide +kernel) j hj
    have d := rgn h 18 64 0 0 (by decide +kernel) j hj
    show Rg (memOf hp 15 j) (memOf hp 16 j) (memOf hp 17 j) (memOf hp 18 j)
    unfold Rg; omega
theorem St.hst (h : St θ hp) : HsOK (memOf hp) := ⟨fun o ho => ⟨rgn h 130 8 0 900 (by decide +kernel) o ho, rgn h 131 8 (-1) 900 (by decide +kernel) o ho⟩, rg1 h 129 0 0 12 (by decide +kernel), rg1 h 129 1 0 1 (by decide +kernel), rg1 h 129 2 0 48 (by decide +kernel)⟩
theorem St.cht (h : St θ hp) : ∀ Q, ChSh Q → ChtOK (memOf hp) Q := by
  intro Q hQ
  obtain ⟨⟨k, hk, rfl⟩, -⟩ := hQ
  have a : k = 0 ∨ k = 1 ∨ k = 2 ∨ k = 3 ∨ k = 4 ∨ k = 5 ∨ k = 6 ∨ k = 7 ∨ k = 8 ∨ k = 9 ∨ k = 10 ∨ k = 11 ∨ k = 12 := by omega
  rcases a with a | a | a | a | a | a | a | a | a | a | a | a | a <;> subst a
  · exact ⟨⟨rg1 h 38 2 0 8 (by decide +kernel), rg1 h 38 3 1 12 (by decide +kernel), rg1 h 38 1 0 1 (by decide +kernel)⟩, fun o ho => ⟨rgn h 39 8 0 11 (by decide +kernel) o ho, rgn h 40 8 0 11000 (by decide +kernel) o ho, rgn h 41 8 0 11010 (by decide +kernel) o ho⟩⟩
  · exact ⟨⟨rg1 h 45 2 0 8 (by decide +kernel), rg1 h 45 3 1 12 (by decide +kernel), rg1 h 45 1 0 1 (by decide +kernel)⟩, fun o ho => ⟨rgn h 46 8 0 11 (by decide +kernel) o ho, rgn h 47 8 0 11000 (by decide +kernel) o ho, rgn h 48 8 0 11010 (by decide +kernel) o ho⟩⟩
  · exact ⟨⟨rg1 h 52 2 0 8 (by decide +kernel), rg1 h 52 3 1 12 (by decide +kernel), rg1 h 52 1 0 1 (by decide +kernel)⟩, fun o ho => ⟨rgn h 53 8 0 11 (by decide +kernel) o ho, rgn h 54 8 0 11000 (by decide +kernel) o ho, rgn h 55 8 0 11010 (by decide +kernel) o ho⟩⟩
  · exact ⟨⟨rg1 h 59 2 0 8 (by decide +kernel), rg1 h 59 3 1 12 (by decide +kernel), rg1 h 59 1 0 1 (by decide +kernel)⟩, fun o ho => ⟨rgn h 60 8 0 11 (by decide +kernel) o ho, rgn h 61 8 0 11000 (by decide +kernel) o ho, rgn h 62 8 0 11010 (by decide +kernel) o ho⟩⟩
  · exact ⟨⟨rg1 h 66 2 0 8 (by decide +kernel), rg1 h 66 3 1 12 (by decide +kernel), rg1 h 66 1 0 1 (by decide +kernel)⟩, fun o ho => ⟨rgn h 67 8 0 11 (by decide +kernel) o ho, rgn h 68 8 0 11000 (by decide +kernel) o ho, rgn h 69 8 0 11010 (by decide +kernel) o ho⟩⟩
  · exact ⟨⟨rg1 h 73 2 0 8 (by decide +kernel), rg1 h 73 3 1 12 (by decide +kernel), rg1 h 73 1 0 1 (by decide +kernel)⟩, fun o ho => ⟨rgn h 74 8 0 11 (by decide +kernel) o ho, rgn h 75 8 0 11000 (by decide +kernel) o ho, rgn h 76 8 0 11010 (by decide +kernel) o ho⟩⟩
  · exact ⟨⟨rg1 h 80 2 0 8 (by decide +kernel), rg1 h 80 3 1 12 (by decide +kernel), rg1 h 80 1 0 1 (by decide +kernel)⟩, fun o ho => ⟨rgn h 81 8 0 11 (by decide +kernel) o ho, rgn h 82 8 0 11000 (by decide +kernel) o ho, rgn h 83 8 0 11010 (by decide +kernel) o ho⟩⟩
  · exact ⟨⟨rg1 h 87 2 0 8 (by decide +kernel), rg1 h 87 3 1 12 (by decide +kernel), rg1 h 87 1 0 1 (by decide +kernel)⟩, fun o ho => ⟨rgn h 88 8 0 11 (by decide +kernel) o ho, rgn h 89 8 0 11000 (by decide +kernel) o ho, rgn h 90 8 0 11010 (by decide +kernel) o ho⟩⟩
  · exact ⟨⟨rg1 h 94 2 0 8 (by decide +kernel), rg1 h 94 3 1 12 (by decide +kernel), rg1 h 94 1 0 1 (by decide +kernel)⟩, fun o ho => ⟨rgn h 95 8 0 11 (by decide +kernel) o ho, rgn h 96 8 0 11000 (by decide +kernel) o ho, rgn h 97 8 0 11010 (by decide +kernel) o ho⟩⟩
  · exact ⟨⟨rg1 h 101 2 0 8 (by decide +kernel), rg1 h 101 3 1 12 (by decide +kernel), rg1 h 101 1 0 1 (by decide +kernel)⟩, fun o ho => ⟨rgn h 102 8 0 11 (by decide +kernel) o ho, rgn h 103 8 0 11000 (by decide +kernel) o ho, rgn h 104 8 0 11010 (by decide +kernel) o ho⟩⟩
  · exact ⟨⟨rg1 h 108 2 0 8 (by decide +kernel), rg1 h 108 3 1 12 (by decide +kernel), rg1 h 108 1 0 1 (by decide +kernel)⟩, fun o ho => ⟨rgn h 109 8 0 11 (by decide +kernel) o ho, rgn h 110 8 0 11000 (by decide +kernel) o ho, rgn h 111 8 0 11010 (by decide +kernel) o ho⟩⟩
  · exact ⟨⟨rg1 h 115 2 0 8 (by decide +kernel), rg1 h 115 3 1 12 (by decide +kernel), rg1 h 115 1 0 1 (by decide +kernel)⟩, fun o ho => ⟨rgn h 116 8 0 11 (by decide +kernel) o ho, rgn h 117 8 0 11000 (by decide +kernel) o ho, rgn h 118 8 0 11010 (by decide +kernel) o ho⟩⟩
  · exact ⟨⟨rg1 h 122 2 0 8 (by decide +kernel), rg1 h 122 3 1 12 (by decide +kernel), rg1 h 122 1 0 1 (by decide +kernel)⟩, fun o ho => ⟨rgn h 123 8 0 11 (by decide +kernel) o ho, rgn h 124 8 0 11000 (by decide +kernel) o ho, rgn h 125 8 0 11010 (by decide +kernel) o ho⟩⟩
theorem St.cls (h : St θ hp) : ClS (memOf hp) := by
  have e := rg1 h 0 11 1 1 (by decide +kernel)
  exact ⟨⟨h.body, h.web.1, h.web.2, rg1 h 19 0 0 8 (by decide +kernel), h.hst, fun o ho => ⟨rgn h 24 8 0 2 (by decide +kernel) o ho, rgn h 22 8 0 11 (by decide +kernel) o ho⟩, h.cht, rg1 h 0 10 0 1 (by decide +kernel), by omega⟩, fun q => by omega, fun q => by omega⟩
theorem St.ref (h : St θ hp) : RefOK (memOf hp) := by
  have e := rg1 h 143 18 (-1) (-1) (by decide +kernel)
  refine ⟨⟨rg1 h 143 1 0 8 (by decide +kernel), fun o ho => ?_, rgn h 151 6 1 6 (by decide +kernel)⟩, rgn h 150 6 0 2 (by decide +kernel), rgn h 152 6 1 15 (by decide +kernel), rgn h 153 3 1 3 (by decide +kernel), rgn h 149 8 (-9999) 9999 (by decide +kernel), fun o ho => ⟨rgn h 145 8 (-2) 7 (by decide +kernel) o ho, rgn h 147 8 (-2) 7 (by decide +kernel) o ho⟩, rgn h 160 8 (-1) 12 (by decide +kernel), by omega, fun j hj => ?_, rg1 h 143 12 0 44 (by decide +kernel), rg1 h 143 0 0 4 (by decide +kernel), rgn h 168 8 0 45 (by decide +kernel)⟩
  · have a := rgn h 144 8 0 0 (by decide +kernel) o ho
    have b := rgn h 145 8 0 0 (by decide +kernel) o ho
    have c := rgn h 146 8 0 0 (by decide +kernel) o ho
    have d := rgn h 147 8 0 0 (by decide +kernel) o ho
    have f := rgn h 148 8 0 0 (by decide +kernel) o ho
    unfold OpOK srcOK
    omega
  · have a := rgn h 154 48 0 0 (by decide +kernel) j hj
    have b := rgn h 155 48 0 0 (by decide +kernel) j hj
    have c := rgn h 156 48 0 0 (by decide +kernel) j hj
    have d := rgn h 157 48 0 0 (by decide +kernel) j hj
    unfold Rg; omega
end INI
