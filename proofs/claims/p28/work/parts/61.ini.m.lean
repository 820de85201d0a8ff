section
/-! the start: what the first heap holds -/
theorem hget_ge {H : HT} (hl : H.length = 11) {a : Nat} (h : 176 ≤ a) : hget H a = none := by
  unfold hget
  rw [lget_eq, List.getElem?_eq_none (by rw [hl]; show 11 ≤ a / 16; omega)]
def padC (c : AE) : Bool := eEq c (.inl (99, []))
theorem all_lt {n : Nat} {p : Nat → Bool} (h : (List.range n).all p = true) {i : Nat} (hi : i < n) : p i = true := List.all_eq_true.mp h i (List.mem_range.mpr hi)
theorem hR9 {θ : Nat → Int32} : hR θ 1 h9 [.inr (9, dflt 9)] := by
  refine ⟨rfl, fun a c hc => ?_⟩
  by_cases a0 : a = 0
  · subst a0
    cases hc
    exact Or.inr ⟨_, rfl, rfl, ⟨_, _, rfl, rfl, _, _, rfl, rfl, _, _, rfl, rfl, _, _, rfl, rfl, _, _, rfl, rfl, _, _, rfl, rfl, _, _, rfl, rfl, _, _, rfl, rfl, _, _, rfl, rfl, _, _, rfl, rfl, _, _, rfl, ⟨0, rfl, rfl⟩, _, _, rfl, ⟨0, rfl, rfl⟩, rfl⟩⟩
  · left
    have h1 : (List.range 176).all (fun a => Nat.beq a 0 || match hget h9 a with | some c => padC c | none => true) = true := by decide +kernel
    by_cases h2 : a < 176
    · have := all_lt h1 h2
      rw [Bool.or_eq_true, beq_iff] at this
      rcases this with q | q
      · exact absurd q a0
      · rw [hc] at q; exact eEq_ok q
    · rw [hget_ge rfl (by omega)] at hc; cases hc
theorem hRM {θ : Nat → Int32} {h : PH} (hh : hR θ 143 hA h) : hR θ 144 hM (h ++ [.inr (10, dflt 10)]) := by
  have hl := hh.1
  refine ⟨by rw [List.length_append, hl]; rfl, fun a c hc => ?_⟩
  by_cases a0 : a = 143
  · subst a0
    cases hc
    exact Or.inr ⟨.inr (10, dflt 10), by rw [List.getElem?_append_right (by omega), hl]; rfl, rfl, ⟨_, _, rfl, ⟨0, rfl, rfl⟩, _, _, rfl, ⟨0, rfl, rfl⟩, _, _, rfl, rfl, _, _, rfl, rfl, _, _, rfl, rfl, _, _, rfl, rfl, _, _, rfl, rfl, _, _, rfl, rfl, _, _, rfl, rfl, _, _, rfl, rfl, _, _, rfl, rfl, _, _, rfl, rfl, _, _, rfl, ⟨0, rfl, rfl⟩, _, _, rfl, rfl, _, _, rfl, rfl, _, _, rfl, rfl, _, _, rfl, rfl, _, _, rfl, rfl, _, _, rfl, ⟨0, rfl, rfl⟩, _, _, rfl, rfl, _, _, rfl, rfl, _, _, rfl, rfl, _, _, rfl, rfl, _, _, rfl, rfl, _, _, rfl, rfl, _, _, rfl, ⟨0, rfl, rfl⟩, _, _, rfl, rfl, _, _, rfl, rfl, _, _, rfl, rfl, _, _, rfl, rfl, _, _, rfl, rfl, _, _, rfl, ⟨0, rfl, rfl⟩, _, _, rfl, ⟨0, rfl, rfl⟩, _, _, rfl, ⟨0, rfl, rfl⟩, _, _, rfl, rfl, _, _, rfl, rfl, _, _, rfl, rfl, rfl⟩⟩
  · have h1 : (List.range 176).all (fun a => Nat.beq a 143 || match hget hM a, hget hA a with | some c, some d => eEq c d | none, none => true | _, _ => false) = true := by decide +kernel
    by_cases h2 : a < 176
    · have := all_lt h1 h2
      rw [Bool.or_eq_true, beq_iff] at this
      rcases this with q | q
      · exact absurd q a0
      · rw [hc] at q
        cases e : hget hA a with
        | none => rw [e] at q; cases q
        | some d =>
          rw [e] at q
          have q2 : c = d := eEq_ok q
          subst q2
          rcases hh.2 a c e with w | ⟨y, w1, w2⟩
          · exact Or.inl w
          · exact Or.inr ⟨y, by rw [List.getElem?_append_left (List.getElem?_eq_some_iff.mp w1).1]; exact w1, w2⟩
    · rw [hget_ge rfl (by omega)] at hc; cases hc
def fdS (v : AV) : Option (Option Nat) := match v with
  | .inl _ => some none
  | .inr (.inr (.ref A)) => some (some A)
  | _ => none
def lsS : LW → List (Option Nat) → Bool
  | [], [] => true
  | a :: l, s :: r => (match fdS a with
    | some q => decide (q = s)
    | none => false) && lsS l r
  | _, _ => false
def cSh (c : AE) (s : SH) : Bool := match c, s with
  | .inl (0, l), .inl n => Nat.beq l.length n
  | .inr (ci, l), .inr (cj, fs) => Nat.beq ci cj && lsS l fs
  | _, _ => false
theorem A2.atI {θ : Nat → Int32} : ∀ {l : LW} {l' : List Value} {fs : List (Option Nat)}, A2 (vR θ) l l' → lsS l fs = true → l'.length = fs.length ∧ ∀ i : Nat, match fs[i]? with
    | some none => ∃ z, l'[i]? = some (Value.int z)
    | some (some A) => l'[i]? = some (Value.ref A)
    | none => True
  | [], l', [], h, _ => by
    have h : l' = [] := h
    subst h
    exact ⟨rfl, fun i => by simp⟩
  | [], _, _ :: _, _, h => by cases h
  | _ :: _, _, [], _, h => by cases h
  | a :: l, l', s :: r, h, hs => by
    obtain ⟨w, r', rfl, h1, h2⟩ := h
    unfold lsS at hs
    rw [Bool.and_eq_true] at hs
    have ih := A2.atI h2 hs.2
    refine ⟨by rw [List.length_cons, List.length_cons, ih.1], fun i => ?_⟩
    cases i with
    | succ i => simpa using ih.2 i
    | zero =>
      have hs := hs.1
      split at hs
      · rename_i q hq
        have hs := of_decide_eq_true hs
        subst hs
        unfold fdS at hq
        split at hq
        · cases hq
          obtain ⟨y, e, -⟩ := h1
          exact ⟨y, by rw [e]; rfl⟩
        · cases hq
          have h1 : w = .ref _ := h1
          subst h1
          rfl
        · cases hq
      · cases hs
theorem A2.atV {θ : Nat → Int32} : ∀ {l : LW} {l' : List Value} {i : Nat} {x : Int}, A2 (vR θ) l l' → l[i]? = some (.inl x) → ∃ z, l'[i]? = some (Value.int z) ∧ z.toInt = x
  | [], _, i, x, _, h => by simp at h
  | a :: l, l', 0, x, h, hx => by
    obtain ⟨w, r', rfl, h1, h2⟩ := h
    cases hx
    obtain ⟨y, e, e2⟩ := h1
    exact ⟨y, by rw [e]; rfl, e2⟩
  | a :: l, l', i + 1, x, h, hx => by
    obtain ⟨w, r', rfl, h1, h2⟩ := h
    simpa using A2.atV h2 (show l[i]? = some (.inl x) by simpa using hx)
theorem sh_of {θ : Nat → Int32} {c : AE} {y : PE} {s : SH} {h : PH} {A : Nat} (hy : h[A]? = some y) (hc : cR θ c y) (hs : cSh c s = true) : shR s (memOf h A) y := by
  unfold cSh at hs
  split at hs
  · rename_i l n
    rw [beq_iff] at hs
    subst hs
    cases y with
    | inr q => exact False.elim hc
    | inl q =>
      obtain ⟨t, n, g⟩ := q
      cases t with
      | succ t => exact False.elim hc
      | zero => cases g with
        | inr g => exact False.elim hc
        | inl g =>
          obtain ⟨e, -⟩ := (show n = l.length ∧ _ from hc)
          subst e
          exact ⟨g, rfl, fun i => memOf_row hy⟩
  · rename_i ci l cj fs
    rw [Bool.and_eq_true, beq_iff] at hs
    obtain ⟨e, hs⟩ := hs
    subst e
    cases y with
    | inl q => exact False.elim hc
    | inr q =>
      obtain ⟨ck, gs⟩ := q
      obtain ⟨e, hA⟩ := (show ck = ci ∧ A2 (vR θ) l gs from hc)
      subst e
      have w := A2.atI hA hs
      refine ⟨gs, rfl, w.1, fun i => ?_⟩
      have w2 := w.2 i
      split
      · rename_i q; rw [q] at w2; first | exact w2 | (obtain ⟨z, e⟩ := w2; exact ⟨z, e, memOf_fld hy e⟩)
      · rename_i q; rw [q] at w2; first | exact w2 | (obtain ⟨z, e⟩ := w2; exact ⟨z, e, memOf_fld hy e⟩)
      · trivial
  · cases hs
noncomputable def tvI (A i : Nat) : Option Int := match hget hB A with
  | some (.inl (0, l)) => (match l[i]? with | some (.inl x) => some x | _ => none)
  | some (.inr (_, l)) => (match l[i]? with | some (.inl x) => some x | _ => none)
  | _ => none
def St (θ : Nat → Int32) (h : PH) : Prop := hR θ 173 hB h
theorem St.val {θ : Nat → Int32} {h : PH} (hh : St θ h) {A i : Nat} {x : Int} (e : tvI A i = some x) : memOf h A i = x := by
  unfold tvI at e
  split at e
  · rename_i l hl
    split at e
    · rename_i z hz
      cases e
      rcases hh.2 A _ hl with w | ⟨y, w1, w2⟩
      · cases w
      · cases y with
        | inr q => exact False.elim w2
        | inl q =>
          obtain ⟨t, n, g⟩ := q
          cases t with
          | succ t => exact False.elim w2
          | zero => cases g with
            | inr g => exact False.elim w2
            | inl g =>
              obtain ⟨-, w3⟩ := (show n = l.length ∧ ∀ (j : Nat) (a : AV), l[j]? = some a → vR θ a (.int (g j)) from w2)
              obtain ⟨y, e1, e2⟩ := w3 i _ hz
              rw [memOf_row w1]
              cases e1
              exact e2
    · cases e
  · rename_i ci l hl
    split at e
    · rename_i z hz
      cases e
      rcases hh.2 A _ hl with w | ⟨y, w1, w2⟩
      · cases w
      · cases y with
        | inl q => exact False.elim w2
        | inr q =>
          obtain ⟨ck, gs⟩ := q
          obtain ⟨e, hA⟩ := (show ck = ci ∧ A2 (vR θ) l gs from w2)
          obtain ⟨z, e1, e2⟩ := A2.atV hA hz
          rw [memOf_fld w1 e1]; exact e2
    · cases e
  · cases e
noncomputable def ckI (A i : Nat) (lo hi : Int) : Bool := match tvI A i with
  | some x => decide (lo ≤ x) && decide (x ≤ hi)
  | none => false
theorem rg1 {θ : Nat → Int32} {h : PH} (hh : St θ h) (A i : Nat) (lo hi : Int) (e : ckI A i lo hi = true) : lo ≤ memOf h A i ∧ memOf h A i ≤ hi := by
  unfold ckI at e
  split at e
  · rename_i x hx
    rw [hh.val hx]
    rw [Bool.and_eq_true] at e
    exact ⟨of_decide_eq_true e.1, of_decide_eq_true e.2⟩
  · cases e
theorem rgn {θ : Nat → Int32} {h : PH} (hh : St θ h) (A n : Nat) (lo hi : Int) (e : (List.range n).all (fun i => ckI A i lo hi) = true) (i : Nat) (hi_ : i < n) : lo ≤ memOf h A i ∧ memOf h A i ≤ hi := rg1 hh A i lo hi (all_lt e hi_)
theorem St.rg {θ : Nat → Int32} {h : PH} (hh : St θ h) {A : Nat} {s : SH} (hA : shA A = some s) : ∃ y, h[A]? = some y ∧ shR s (memOf h A) y := by
  have h1 : (List.range 200).all (fun A => match shA A with | none => true | some s => match hget hB A with | some c => cSh c s && !padC c | none => false) = true := by decide +kernel
  have := all_lt h1 (shA_lt hA)
  rw [hA] at this
  cases e : hget hB A with
  | none => rw [e] at this; cases this
  | some c =>
    rw [e] at this
    have this : (cSh c s && !padC c) = true := this
    rw [Bool.and_eq_true] at this
    rcases hh.2 A c e with w | ⟨y, w1, w2⟩
    · rw [w] at this
      exact absurd this.2 (by decide)
    · exact ⟨y, w1, sh_of w1 w2 this.1⟩
section INI
variable {θ : Nat → Int32} {hp : PH}
theorem St.body (h : St θ hp) : BodyOK (memOf hp) := by
  refine ⟨rg1 h 1 0 0 8 (by decide +kernel), fun o ho => ?_, rgn h 5 6 0 2 (by decide +kernel), rgn h 6 6 1 6 (by decide +kernel), rgn h 7 6 1 15 (by decide +kernel), rgn h 8 3 1 3 (by decide +kernel)⟩
  have k := rgn h 2 8 0 0 (by decide +kernel) o ho
  have p := rgn h 3 32 0 0 (by decide +kernel)
  have p0 := p (4 * o) (by omega)
  have p1 := p (4 * o + 1) (by omega)
  have p2 := p (4 * o + 2) (by omega)
  have p3 := p (4 * o + 3) (by omega)
  unfold BOp srcOK
  omega
theorem St.web (h : St θ hp) : WbOK (memOf hp) 9 ∧ WbOK (memOf hp) 14 := by
  refine ⟨⟨fun j hj => ?_, rg1 h 9 0 0 64 (by decide +kernel)⟩, ⟨fun j hj => ?_, rg1 h 14 0 0 64 (by decide +kernel)⟩⟩
  · have a := rgn h 10 64 0 0 (by decide +kernel) j hj
    have b := rgn h 11 64 0 0 (by decide +kernel) j hj
    have c := rgn h 12 64 0 0 (by decide +kernel) j hj
    have d := rgn h 13 64 0 0 (by decide +kernel) j hj
    show Rg (memOf hp 10 j) (memOf hp 11 j) (memOf hp 12 j) (memOf hp 13 j)
    unfold Rg; omega
  · have a := rgn h 15 64 0 0 (by decide +kernel) j hj
    have b := rgn h 16 64 0 0 (by decide +kernel) j hj
    have c := rgn h 17 64 0 0 (by decide +kernel) j hj
    have d := rgn h 18 64 0 0 (by decide +kernel) j hj
    show Rg (memOf hp 15 j) (memOf hp 16 j) (memOf hp 17 j) (memOf hp 18 j)
    unfold Rg; omega
theorem St.hst (h : St θ hp) : HsOK (memOf hp) := ⟨fun o ho => ⟨rgn h 130 8 0 900 (by decide +kernel) o ho, rgn h 131 8 (-1) 900 (by decide +kernel) o ho⟩, rg1 h 129 0 0 12 (by decide +kernel), rg1 h 129 1 0 1 (by decide +kernel), rg1 h 129 2 0 48 (by decide +kernel)⟩
theorem St.cht (h : St θ hp) : ∀ Q, ChSh Q → ChtOK (memOf hp) Q := by
  intro Q hQ
  obtain ⟨⟨k, hk, rfl⟩, -⟩ := hQ
  have a : k = 0 ∨ k = 1 ∨ k = 2 ∨ k = 3 ∨ k = 4 ∨ k = 5 ∨ k = 6 ∨ k = 7 ∨ k = 8 ∨ k = 9 ∨ k = 10 ∨ k = 11 ∨ k = 12 := by omega
  rcases a with a | a | a | a | a | a | a | a | a | a | a | a | a <;> subst a
  · exact ⟨⟨rg1 h 38 2 0 8 (by decide +kernel), rg1 h 38 3 1 12 (by decide +kernel), rg1 h 38 1 0 1 (by decide +kernel)⟩, fun o ho => ⟨rgn h 39 8 0 11 (by decide +kernel) o ho, rgn h 40 8 0 11000 (by decide +kernel) o ho, rgn h 41 8 0 11010 (by decide +kernel) o ho⟩⟩
  · exact ⟨⟨rg1 h 45 2 0 8 (by decide +kernel), rg1 h 45 3 1 12 (by decide +kernel), rg1 h 45 1 0 1 (by decide +kernel)⟩, fun o ho => ⟨rgn h 46 8 0 11 (by decide +kernel) o ho, rgn h 47 8 0 11000 (by decide +kernel) o ho, rgn h 48 8 0 11010 (by decide +kernel) o ho⟩⟩
  · exact ⟨⟨rg1 h 52 2 0 8 (by decide +kernel), rg1 h 52 3 1 12 (by decide +kernel), rg1 h 52 1 0 1 (by decide +kernel)⟩, fun o ho => ⟨rgn h 53 8 0 11 (by decide +kernel) o ho, rgn h 54 8 0 11000 (by decide +kernel) o ho, rgn h 55 8 0 11010 (by decide +kernel) o ho⟩⟩
  · exact ⟨⟨rg1 h 59 2 0 8 (by decide +kernel), rg1 h 59 3 1 12 (by decide +kernel), rg1 h 59 1 0 1 (by decide +kernel)⟩, fun o ho => ⟨rgn h 60 8 0 11 (by decide +kernel) o ho, rgn h 61 8 0 11000 (by decide +kernel) o ho, rgn h 62 8 0 11010 (by decide +kernel) o ho⟩⟩
  · exact ⟨⟨rg1 h 66 2 0 8 (by decide +kernel), rg1 h 66 3 1 12 (by decide +kernel), rg1 h 66 1 0 1 (by decide +kernel)⟩, fun o ho => ⟨rgn h 67 8 0 11 (by decide +kernel) o ho, rgn h 68 8 0 11000 (by decide +kernel) o ho, rgn h 69 8 0 11010 (by decide +kernel) o ho⟩⟩
  · exact ⟨⟨rg1 h 73 2 0 8 (by decide +kernel), rg1 h 73 3 1 12 (by decide +kernel), rg1 h 73 1 0 1 (by decide +kernel)⟩, fun o ho => ⟨rgn h 74 8 0 11 (by decide +kernel) o ho, rgn h 75 8 0 11000 (by decide +kernel) o ho, rgn h 76 8 0 11010 (by decide +kernel) o ho⟩⟩
  · exact ⟨⟨rg1 h 80 2 0 8 (by decide +kernel), rg1 h 80 3 1 12 (by decide +kernel), rg1 h 80 1 0 1 (by decide +kernel)⟩, fun o ho => ⟨rgn h 81 8 0 11 (by decide +kernel) o ho, rgn h 82 8 0 11000 (by decide +kernel) o ho, rgn h 83 8 0 11010 (by decide +kernel) o ho⟩⟩
  · exact ⟨⟨rg1 h 87 2 0 8 (by decide +kernel), rg1 h 87 3 1 12 (by decide +kernel), rg1 h 87 1 0 1 (by decide +kernel)⟩, fun o ho => ⟨rgn h 88 8 0 11 (by decide +kernel) o ho, rgn h 89 8 0 11000 (by decide +kernel) o ho, rgn h 90 8 0 11010 (by decide +kernel) o ho⟩⟩
  · exact ⟨⟨rg1 h 94 2 0 8 (by decide +kernel), rg1 h 94 3 1 12 (by decide +kernel), rg1 h 94 1 0 1 (by decide +kernel)⟩, fun o ho => ⟨rgn h 95 8 0 11 (by decide +kernel) o ho, rgn h 96 8 0 11000 (by decide +kernel) o ho, rgn h 97 8 0 11010 (by decide +kernel) o ho⟩⟩
  · exact ⟨⟨rg1 h 101 2 0 8 (by decide +kernel), rg1 h 101 3 1 12 (by decide +kernel), rg1 h 101 1 0 1 (by decide +kernel)⟩, fun o ho => ⟨rgn h 102 8 0 11 (by decide +kernel) o ho, rgn h 103 8 0 11000 (by decide +kernel) o ho, rgn h 104 8 0 11010 (by decide +kernel) o ho⟩⟩
  · exact ⟨⟨rg1 h 108 2 0 8 (by decide +kernel), rg1 h 108 3 1 12 (by decide +kernel), rg1 h 108 1 0 1 (by decide +kernel)⟩, fun o ho => ⟨rgn h 109 8 0 11 (by decide +kernel) o ho, rgn h 110 8 0 11000 (by decide +kernel) o ho, rgn h 111 8 0 11010 (by decide +kernel) o ho⟩⟩
  · exact ⟨⟨rg1 h 115 2 0 8 (by decide +kernel), rg1 h 115 3 1 12 (by decide +kernel), rg1 h 115 1 0 1 (by decide +kernel)⟩, fun o ho => ⟨rgn h 116 8 0 11 (by decide +kernel) o ho, rgn h 117 8 0 11000 (by decide +kernel) o ho, rgn h 118 8 0 11010 (by decide +kernel) o ho⟩⟩
  · exact ⟨⟨rg1 h 122 2 0 8 (by decide +kernel), rg1 h 122 3 1 12 (by decide +kernel), rg1 h 122 1 0 1 (by decide +kernel)⟩, fun o ho => ⟨rgn h 123 8 0 11 (by decide +kernel) o ho, rgn h 124 8 0 11000 (by decide +kernel) o ho, rgn h 125 8 0 11010 (by decide +kernel) o ho⟩⟩
theorem St.cls (h : St θ hp) : ClS (memOf hp) := by
  have e := rg1 h 0 11 1 1 (by decide +kernel)
  exact ⟨⟨h.body, h.web.1, h.web.2, rg1 h 19 0 0 8 (by decide +kernel), h.hst, fun o ho => ⟨rgn h 24 8 0 2 (by decide +kernel) o ho, rgn h 22 8 0 11 (by decide +kernel) o ho⟩, h.cht, rg1 h 0 10 0 1 (by decide +kernel), by omega⟩, fun q => by omega, fun q => by omega⟩
theorem St.ref (h : St θ hp) : RefOK (memOf hp) := by
  have e := rg1 h 143 18 (-1) (-1) (by decide +kernel)
  refine ⟨⟨rg1 h 143 1 0 8 (by decide +kernel), fun o ho => ?_, rgn h 151 6 1 6 (by decide +kernel)⟩, rgn h 150 6 0 2 (by decide +kernel), rgn h 152 6 1 15 (by decide +kernel), rgn h 153 3 1 3 (by decide +kernel), rgn h 149 8 (-9999) 9999 (by decide +kernel), fun o ho => ⟨rgn h 145 8 (-2) 7 (by decide +kernel) o ho, rgn h 147 8 (-2) 7 (by decide +kernel) o ho⟩, rgn h 160 8 (-1) 12 (by decide +kernel), by omega, fun j hj => ?_, rg1 h 143 12 0 44 (by decide +kernel), rg1 h 143 0 0 4 (by decide +kernel), rgn h 168 8 0 45 (by decide +kernel)⟩
  · have a := rgn h 144 8 0 0 (by decide +kernel) o ho
    have b := rgn h 145 8 0 0 (by decide +kernel) o ho
    have c := rgn h 146 8 0 0 (by decide +kernel) o ho
    have d := rgn h 147 8 0 0 (by decide +kernel) o ho
    have f := rgn h 148 8 0 0 (by decide +kernel) o ho
    unfold OpOK srcOK
    omega
  · have a := rgn h 154 48 0 0 (by decide +kernel) j hj
    have b := rgn h 155 48 0 0 (by decide +kernel) j hj
    have c := rgn h 156 48 0 0 (by decide +kernel) j hj
    have d := rgn h 157 48 0 0 (by decide +kernel) j hj
    unfold Rg; omega
end INI
end
section
/-! what both sides tell of ops at the start -/
theorem St.rel {θ : Nat → Int32} {hp : PH} (h : St θ hp) : RelB (memOf hp) := by
  have a1 := rg1 h 1 0 0 0 (by decide +kernel)
  have a2 := rg1 h 143 1 0 0 (by decide +kernel)
  refine ⟨by omega, fun o ho => ?_, fun k hk => ?_, fun u hu => ?_⟩
  · have b0 := rgn h 2 8 0 0 (by decide +kernel) o ho
    have b1 := rgn h 4 8 0 0 (by decide +kernel) o ho
    have b2 := rgn h 144 8 0 0 (by decide +kernel) o ho
    have b3 := rgn h 145 8 0 0 (by decide +kernel) o ho
    have b4 := rgn h 146 8 0 0 (by decide +kernel) o ho
    have b5 := rgn h 147 8 0 0 (by decide +kernel) o ho
    have b6 := rgn h 148 8 0 0 (by decide +kernel) o ho
    have b7 := rgn h 149 8 0 0 (by decide +kernel) o ho
    have c0 := rgn h 3 32 0 0 (by decide +kernel) (4 * o) (by omega)
    have c1 := rgn h 3 32 0 0 (by decide +kernel) (4 * o + 1) (by omega)
    have c2 := rgn h 3 32 0 0 (by decide +kernel) (4 * o + 2) (by omega)
    have c3 := rgn h 3 32 0 0 (by decide +kernel) (4 * o + 3) (by omega)
    omega
  · have q : k = 0 ∨ k = 1 ∨ k = 2 ∨ k = 3 ∨ k = 4 ∨ k = 5 := by omega
    rcases q with rfl | rfl | rfl | rfl | rfl | rfl
    · have e5 := rg1 h 5 0 0 0 (by decide +kernel)
      have e150 := rg1 h 150 0 0 0 (by decide +kernel)
      have e6 := rg1 h 6 0 1 1 (by decide +kernel)
      have e151 := rg1 h 151 0 1 1 (by decide +kernel)
      have e7 := rg1 h 7 0 1 1 (by decide +kernel)
      have e152 := rg1 h 152 0 1 1 (by decide +kernel)
      omega
    · have e5 := rg1 h 5 1 0 0 (by decide +kernel)
      have e150 := rg1 h 150 1 0 0 (by decide +kernel)
      have e6 := rg1 h 6 1 1 1 (by decide +kernel)
      have e151 := rg1 h 151 1 1 1 (by decide +kernel)
      have e7 := rg1 h 7 1 1 1 (by decide +kernel)
      have e152 := rg1 h 152 1 1 1 (by decide +kernel)
      omega
    · have e5 := rg1 h 5 2 1 1 (by decide +kernel)
      have e150 := rg1 h 150 2 1 1 (by decide +kernel)
      have e6 := rg1 h 6 2 3 3 (by decide +kernel)
      have e151 := rg1 h 151 2 3 3 (by decide +kernel)
      have e7 := rg1 h 7 2 3 3 (by decide +kernel)
      have e152 := rg1 h 152 2 3 3 (by decide +kernel)
      omega
    · have e5 := rg1 h 5 3 0 0 (by decide +kernel)
      have e150 := rg1 h 150 3 0 0 (by decide +kernel)
      have e6 := rg1 h 6 3 1 1 (by decide +kernel)
      have e151 := rg1 h 151 3 1 1 (by decide +kernel)
      have e7 := rg1 h 7 3 1 1 (by decide +kernel)
      have e152 := rg1 h 152 3 1 1 (by decide +kernel)
      omega
    · have e5 := rg1 h 5 4 2 2 (by decide +kernel)
      have e150 := rg1 h 150 4 2 2 (by decide +kernel)
      have e6 := rg1 h 6 4 2 2 (by decide +kernel)
      have e151 := rg1 h 151 4 2 2 (by decide +kernel)
      have e7 := rg1 h 7 4 1 1 (by decide +kernel)
      have e152 := rg1 h 152 4 1 1 (by decide +kernel)
      omega
    · have e5 := rg1 h 5 5 2 2 (by decide +kernel)
      have e150 := rg1 h 150 5 2 2 (by decide +kernel)
      have e6 := rg1 h 6 5 1 1 (by decide +kernel)
      have e151 := rg1 h 151 5 1 1 (by decide +kernel)
      have e7 := rg1 h 7 5 1 1 (by decide +kernel)
      have e152 := rg1 h 152 5 1 1 (by decide +kernel)
      omega
  · have e1 := rgn h 8 3 1 1 (by decide +kernel) u hu
    have e2 := rgn h 153 3 1 1 (by decide +kernel) u hu
    omega
end
section
/-! the law from its first instruction on -/
theorem cR2 {θ : Nat → Int32} {l : LW} {y : PE} (h : cR θ (.inl (2, l)) y) : ∃ g, y = .inl (2, l.length, .inr (.inr (.inr (.inr g)))) ∧ ∀ (j : Nat) (a : AV), l[j]? = some a → vR θ a (va_rf (g j)) := by
  unfold cR at h
  split at h <;> first | (rename_i e; cases e; done) | skip
  all_goals first | (rename_i e _; cases e; exact ⟨_, by rw [h.1], h.2⟩) | (rename_i e; cases e; exact ⟨_, by rw [h.1], h.2⟩) | exact h.elim | skip
theorem cR3 {θ : Nat → Int32} {l : LW} {y : PE} (h : cR θ (.inl (3, l)) y) : ∃ g, y = .inl (3, l.length, .inr (.inr (.inr (.inr g)))) ∧ ∀ (j : Nat) (a : AV), l[j]? = some a → vR θ a (va_rf (g j)) := by
  unfold cR at h
  split at h <;> first | (rename_i e; cases e; done) | skip
  all_goals first | (rename_i e _; cases e; exact ⟨_, by rw [h.1], h.2⟩) | (rename_i e; cases e; exact ⟨_, by rw [h.1], h.2⟩) | exact h.elim | skip
theorem St.ra {θ : Nat → Int32} {h : PH} (hh : St θ h) : RA h := by
  constructor
  · rcases hh.2 37 _ rfl with w | ⟨y, w1, w2⟩
    · cases w
    · obtain ⟨g, rfl, w3⟩ := cR2 w2
      refine ⟨g, w1, fun k hk => ?_⟩
      have a : k = 0 ∨ k = 1 ∨ k = 2 ∨ k = 3 ∨ k = 4 ∨ k = 5 ∨ k = 6 ∨ k = 7 ∨ k = 8 ∨ k = 9 ∨ k = 10 ∨ k = 11 ∨ k = 12 := by omega
      rcases a with a | a | a | a | a | a | a | a | a | a | a | a | a <;> subst a <;> exact rf_some (w3 _ _ rfl)
  · rcases hh.2 135 _ rfl with w | ⟨y, w1, w2⟩
    · cases w
    · obtain ⟨g, rfl, w3⟩ := cR3 w2
      refine ⟨g, w1, fun k hk => ?_⟩
      have a : k = 0 ∨ k = 1 := by omega
      rcases a with a | a <;> subst a <;> exact rf_some (w3 _ _ rfl)
theorem St.lr {θ : Nat → Int32} {h : PH} (hh : St θ h) : LR (h ++ [.inl (1, 1, .inr (.inl fun _ => 0))]) := by
  have hl : h.length = 173 := hh.1
  have e : ∀ (A : Nat) (y : PE), h[A]? = some y → (h ++ [.inl (1, 1, .inr (.inl fun _ => 0))])[A]? = some y := fun A y w => by
    rw [List.getElem?_append_left (List.getElem?_eq_some_iff.mp w).1]; exact w
  refine ⟨memOf h, fun _ => 0, ⟨?_, by rw [List.getElem?_append_right (by omega), hl]; rfl, ⟨fun _ _ => rfl, fun A s hA => ?_⟩⟩, hh.cls, hh.ref, hh.rel⟩
  · obtain ⟨⟨g, a, b⟩, g2, c, d⟩ := hh.ra
    exact ⟨⟨g, e _ _ a, b⟩, g2, e _ _ c, d⟩
  · obtain ⟨y, a, b⟩ := hh.rg hA
    exact ⟨y, e _ _ a, b⟩
set_option maxRecDepth 100000 in
theorem mt_0 : MT[0]? = some M_0 := rfl
set_option maxRecDepth 100000 in
theorem mt_224 : MT[224]? = some M_224 := rfl
theorem law_pm {L : Nat} (hL : L ≤ 3072) (xs : Nat → Int32) : Vx (Ex (L, xs) 24) (L, xs) M_368 [] Q1 0 [(0, .retAddr 0)] [] [] 0 0 := by
  have hC := Ex.mono (L, xs) 24
  refine Vx.go hC te_368_0 (Or.inl ⟨rfl, Nat.le_of_ble_eq_true rfl, Nat.le_of_ble_eq_true rfl, ?_⟩)
  show Vx (Ex (L, xs) 24) (L, xs) M_368 [] Q1 3 [(0, .retAddr 0)] [.ref 0] [.inr (9, dflt 9)] 1 12
  refine Vx.go hC te_368_3 ⟨_, _, rfl, rfl, ?_⟩
  refine Vx.go hC te_368_4 (Or.inr ⟨Or.inl rfl, ?_⟩)
  refine p_call_mk (av := [.ref 0]) (rest := [.ref 0]) mt_0 rfl (by decide) (Nat.le_of_ble_eq_true rfl) (Nat.le_of_ble_eq_true rfl) (fun _ => ⟨0, _, rfl, rfl⟩) ?_
  refine hC _ _ _ _ _ ?_ (Ex_S 24 0 rfl _ _ _ (cA (θ := fun _ => 0) hR9))
  rintro _ h1 ⟨rfl, hA1⟩
  show Vx (Ex (L, xs) 24) (L, xs) M_368 [] Q1 7 [(0, .retAddr 0)] [.ref 0] h1 161 4212
  have l1 : h1.length = 143 := hA1.1
  refine Vx.go hC te_368_7 ⟨by decide, ?_⟩
  show Vx (Ex (L, xs) 24) (L, xs) M_368 [] Q1 8 (px_s1 [(0, .retAddr 0)] 1 (.ref 0)) [] h1 161 4212
  refine Vx.go hC te_368_8 (Or.inl ⟨rfl, Nat.le_of_ble_eq_true rfl, Nat.le_of_ble_eq_true rfl, ?_⟩)
  show Vx (Ex (L, xs) 24) (L, xs) M_368 [] Q1 11 (px_s1 [(0, .retAddr 0)] 1 (.ref 0)) [.ref h1.length] (h1 ++ [.inr (10, dflt 10)]) 162 4249
  rw [l1]
  refine Vx.go hC te_368_11 ⟨_, _, rfl, rfl, ?_⟩
  refine Vx.go hC te_368_12 (Or.inr ⟨Or.inl rfl, ?_⟩)
  refine p_call_mk (av := [.ref 143]) (rest := [.ref 143]) mt_224 rfl (by decide) (Nat.le_of_ble_eq_true rfl) (Nat.le_of_ble_eq_true rfl) (fun _ => ⟨143, dflt 10, rfl, by rw [List.getElem?_append_right (by omega), l1]; rfl⟩) ?_
  refine hC _ _ _ _ _ ?_ (Ex_S 24 224 rfl _ _ _ (cB (hRM hA1)))
  rintro _ h2 ⟨rfl, hB2⟩
  have l2 : h2.length = 173 := hB2.1
  show Vx (Ex (L, xs) 24) (L, xs) M_368 [] Q1 15 (px_s1 [(0, .retAddr 0)] 1 (.ref 0)) [.ref 143] h2 222 7249
  refine Vx.go hC te_368_15 ⟨by decide, ?_⟩
  show Vx (Ex (L, xs) 24) (L, xs) M_368 [] Q1 16 (px_s1 (px_s1 [(0, .retAddr 0)] 1 (.ref 0)) 2 (.ref 143)) [] h2 222 7249
  refine Vx.go hC te_368_16 (Vx.go hC te_368_17 ⟨by decide, by decide, Nat.le_of_ble_eq_true rfl, Nat.le_of_ble_eq_true rfl, Or.inr ⟨rfl, ?_⟩⟩)
  show Vx (Ex (L, xs) 24) (L, xs) M_368 [] Q1 19 (px_s1 (px_s1 [(0, .retAddr 0)] 1 (.ref 0)) 2 (.ref 143)) [.ref h2.length] (h2 ++ [.inl (1, 1, .inr (.inl fun _ => 0))]) 223 7250
  rw [l2]
  refine Vx.go hC te_368_19 ⟨by decide, ?_⟩
  show Vx (Ex (L, xs) 24) (L, xs) M_368 [] Q1 20 (px_s1 (px_s1 (px_s1 [(0, .retAddr 0)] 1 (.ref 0)) 2 (.ref 143)) 3 (.ref 173)) [] (h2 ++ [.inl (1, 1, .inr (.inl fun _ => 0))]) 223 7250
  refine Vx.go hC te_368_20 (Vx.go hC te_368_21 ⟨by decide, ?_⟩)
  exact law_loop hL _ (Int32.ofInt 0) _ _ 223 7250 ⟨rfl, rfl, rfl, rfl, rfl⟩ (St.lr hB2) (by decide) (by decide) (Nat.lt_succ_self _) (by decide) (by decide)
end
section
/-! the law's instructions are what its bytes decode to -/
set_option maxRecDepth 100000 in
theorem dk_368 : tb_368.all (teK 11 cL_law false) = true := qk_ok (by decide +kernel)
end
section
/-! the start: what the tables and the premises say of it -/
section STA
variable {s : State} {args : Array Value}
abbrev nar : Cond := Jvm.Cond.and given_1 narrow_1
theorem K_ex (hts : ∀ w ∈ lw_tbl, w.before args s = true) : ∃ (D : va_G) (cy : Nat → ClassId), va_K D vwCl (pTy cy) s := by
  have hk : ∀ (k : Nat) (q : vw_C), vwCl[k]? = some q → ∃ y : ClassId × (Nat → Nat), u_Kn s q.1 q.2.1 q.2.2 y.1 y.2 := by
    intro k q hq
    have hw : ∀ w ∈ u_ws q.1 q.2.1 q.2.2, w ∈ lw_tbl := by
      rcases k with _ | _ | _ | _ | _ | _ | _ | _ | _ | _ | _ | k
      · cases hq; exact fun w h => (LYw_0 w h).1
      · cases hq; exact fun w h => (LYw_1 w h).1
      · cases hq; exact fun w h => (LYw_2 w h).1
      · cases hq; exact fun w h => (LYw_3 w h).1
      · cases hq; exact fun w h => (LYw_4 w h).1
      · cases hq; exact fun w h => (LYw_5 w h).1
      · cases hq; exact fun w h => (LYw_6 w h).1
      · cases hq; exact fun w h => (LYw_7 w h).1
      · cases hq; exact fun w h => (LYw_8 w h).1
      · cases hq; exact fun w h => (LYw_9 w h).1
      · cases hq; exact fun w h => (LYw_10 w h).1
      · simp [vwCl] at hq
    obtain ⟨cC, iS, h⟩ := u_known hts hw (hts _ (IS_ok q (List.mem_of_getElem? hq)).1)
    exact ⟨(cC, iS), h⟩
  obtain ⟨y0, -⟩ := hk 0 _ rfl
  have hk2 : ∀ k : Nat, ∃ y : ClassId × (Nat → Nat), ∀ q : vw_C, vwCl[k]? = some q → u_Kn s q.1 q.2.1 q.2.2 y.1 y.2 := by
    intro k
    cases hq : vwCl[k]? with
    | none => exact ⟨y0, fun q h => by cases h⟩
    | some q =>
      obtain ⟨y, h⟩ := hk k q hq
      exact ⟨y, fun q' h' => by cases h'; exact h⟩
  obtain ⟨f, hf⟩ := Classical.axiomOfChoice hk2
  obtain ⟨c0, k0, p0, f1, f2, f3⟩ := Cond.arrayClass_spec (hts _ AC_int)
  obtain ⟨c1, k1, p1, g1, g2, g3⟩ := Cond.arrayClass_spec (hts _ AC_long)
  obtain ⟨p2, c2, k2, a1, a2, a3, a4, a5⟩ := Cond.arrayOver_spec (hts _ AO_chart)
  obtain ⟨p3, c3, k3, b1, b2, b3, b4⟩ := Cond.arrayOver_specA (hts _ AO_rows)
  refine ⟨(fun k => (f k).1, fun k => (f k).2), fun k => if k = 0 then c0 else if k = 1 then c1 else if k = 2 then c2 else c3, fun k q hq => hf k q hq, ?_⟩
  intro k q hq
  rcases k with _ | _ | _ | _ | k
  · cases hq; exact ⟨fun n z => ⟨(fun k h => by cases h), k0, f2, p0, f3⟩, f1⟩
  · cases hq; exact ⟨fun n z => ⟨(fun k h => by cases h), k1, g2, p1, g3⟩, g1⟩
  · cases hq; exact ⟨fun n z => ⟨(fun k h => by cases h), k2, a3, p2, a4⟩, ⟨k2, p2, a3, a4, a1, a5⟩⟩
  · cases hq; exact ⟨fun n z => ⟨(fun k h => by cases h), k3, b2, p3, b3⟩, b4⟩
  · simp [pTy] at hq
theorem st_85 (hts : ∀ w ∈ lw_tbl, w.before args s = true) (hs : ∀ w ∈ flatC nar, w.before args s = true) : ∃ (tx : String) (a : Nat), vk_R RX9 85 tx a s := by
  have hm : Cond.stringRef "OverlapMill" 85 "the kind or a source is none" ∈ lw_tbl := in_t3 (List.mem_of_getElem? (i := 114) rfl)
  obtain ⟨a, c, cell, k, h1, -⟩ := Cond.exactly_spec (hs (.exactly (.string "OverlapMill" 85) "java/lang/String") (by decide +kernel))
  exact ⟨_, a, vk_R.of (hts _ hm) h1⟩
theorem st_97 (hts : ∀ w ∈ lw_tbl, w.before args s = true) (hs : ∀ w ∈ flatC nar, w.before args s = true) : ∃ (tx : String) (a : Nat), vk_R RX9 97 tx a s := by
  have hm : Cond.stringRef "OverlapMill" 97 "the row or the place is none" ∈ lw_tbl := in_t3 (List.mem_of_getElem? (i := 175) rfl)
  obtain ⟨a, c, cell, k, h1, -⟩ := Cond.exactly_spec (hs (.exactly (.string "OverlapMill" 97) "java/lang/String") (by decide +kernel))
  exact ⟨_, a, vk_R.of (hts _ hm) h1⟩
theorem st_99 (hts : ∀ w ∈ lw_tbl, w.before args s = true) (hs : ∀ w ∈ flatC nar, w.before args s = true) : ∃ (tx : String) (a : Nat), vk_R RX9 99 tx a s := by
  have hm : Cond.stringRef "OverlapMill" 99 "the source, the row or the place is none" ∈ lw_tbl := in_t3 (List.mem_of_getElem? (i := 183) rfl)
  obtain ⟨a, c, cell, k, h1, -⟩ := Cond.exactly_spec (hs (.exactly (.string "OverlapMill" 99) "java/lang/String") (by decide +kernel))
  exact ⟨_, a, vk_R.of (hts _ hm) h1⟩
theorem st_107 (hts : ∀ w ∈ lw_tbl, w.before args s = true) (hs : ∀ w ∈ flatC nar, w.before args s = true) : ∃ (tx : String) (a : Nat), vk_R RX9 107 tx a s := by
  have hm : Cond.stringRef "OverlapMill" 107 "there is no op" ∈ lw_tbl := in_t3 (List.mem_of_getElem? (i := 191) rfl)
  obtain ⟨a, c, cell, k, h1, -⟩ := Cond.exactly_spec (hs (.exactly (.string "OverlapMill" 107) "java/lang/String") (by decide +kernel))
  exact ⟨_, a, vk_R.of (hts _ hm) h1⟩
theorem st_114 (hts : ∀ w ∈ lw_tbl, w.before args s = true) (hs : ∀ w ∈ flatC nar, w.before args s = true) : ∃ (tx : String) (a : Nat), vk_R RX9 114 tx a s := by
  have hm : Cond.stringRef "OverlapMill" 114 "the first value is none" ∈ lw_tbl := in_t3 (List.mem_of_getElem? (i := 220) rfl)
  obtain ⟨a, c, cell, k, h1, -⟩ := Cond.exactly_spec (hs (.exactly (.string "OverlapMill" 114) "java/lang/String") (by decide +kernel))
  exact ⟨_, a, vk_R.of (hts _ hm) h1⟩
theorem st_123 (hts : ∀ w ∈ lw_tbl, w.before args s = true) (hs : ∀ w ∈ flatC nar, w.before args s = true) : ∃ (tx : String) (a : Nat), vk_R RX9 123 tx a s := by
  have hm : Cond.stringRef "OverlapMill" 123 "the unit, latency or busy is none" ∈ lw_tbl := in_t3 (List.mem_of_getElem? (i := 233) rfl)
  obtain ⟨a, c, cell, k, h1, -⟩ := Cond.exactly_spec (hs (.exactly (.string "OverlapMill" 123) "java/lang/String") (by decide +kernel))
  exact ⟨_, a, vk_R.of (hts _ hm) h1⟩
theorem st_137 (hts : ∀ w ∈ lw_tbl, w.before args s = true) (hs : ∀ w ∈ flatC nar, w.before args s = true) : ∃ (tx : String) (a : Nat), vk_R RX9 137 tx a s := by
  have hm : Cond.stringRef "OverlapMill" 137 "the count is none" ∈ lw_tbl := in_t4 (List.mem_of_getElem? (i := 6) rfl)
  obtain ⟨a, c, cell, k, h1, -⟩ := Cond.exactly_spec (hs (.exactly (.string "OverlapMill" 137) "java/lang/String") (by decide +kernel))
  exact ⟨_, a, vk_R.of (hts _ hm) h1⟩
theorem st_281 (hts : ∀ w ∈ lw_tbl, w.before args s = true) (hs : ∀ w ∈ flatC nar, w.before args s = true) : ∃ (tx : String) (a : Nat), vk_R RX9 281 tx a s := by
  have hm : Cond.stringRef "OverlapMill" 281 "the cycle is below 0" ∈ lw_tbl := in_t5 (List.mem_of_getElem? (i := 154) rfl)
  obtain ⟨a, c, cell, k, h1, -⟩ := Cond.exactly_spec (hs (.exactly (.string "OverlapMill" 281) "java/lang/String") (by decide +kernel))
  exact ⟨_, a, vk_R.of (hts _ hm) h1⟩
theorem st_313 (hts : ∀ w ∈ lw_tbl, w.before args s = true) (hs : ∀ w ∈ flatC nar, w.before args s = true) : ∃ (tx : String) (a : Nat), vk_R RX9 313 tx a s := by
  have hm : Cond.stringRef "OverlapMill" 313 "there is no such time" ∈ lw_tbl := in_t5 (List.mem_of_getElem? (i := 238) rfl)
  obtain ⟨a, c, cell, k, h1, -⟩ := Cond.exactly_spec (hs (.exactly (.string "OverlapMill" 313) "java/lang/String") (by decide +kernel))
  exact ⟨_, a, vk_R.of (hts _ hm) h1⟩
theorem st_325 (hts : ∀ w ∈ lw_tbl, w.before args s = true) (hs : ∀ w ∈ flatC nar, w.before args s = true) : ∃ (tx : String) (a : Nat), vk_R RX9 325 tx a s := by
  have hm : Cond.stringRef "OverlapMill" 325 "R is none" ∈ lw_tbl := in_t6 (List.mem_of_getElem? (i := 46) rfl)
  obtain ⟨a, c, cell, k, h1, -⟩ := Cond.exactly_spec (hs (.exactly (.string "OverlapMill" 325) "java/lang/String") (by decide +kernel))
  exact ⟨_, a, vk_R.of (hts _ hm) h1⟩
theorem st_330 (hts : ∀ w ∈ lw_tbl, w.before args s = true) (hs : ∀ w ∈ flatC nar, w.before args s = true) : ∃ (tx : String) (a : Nat), vk_R RX9 330 tx a s := by
  have hm : Cond.stringRef "OverlapMill" 330 "there is no such name or cycle" ∈ lw_tbl := in_t6 (List.mem_of_getElem? (i := 54) rfl)
  obtain ⟨a, c, cell, k, h1, -⟩ := Cond.exactly_spec (hs (.exactly (.string "OverlapMill" 330) "java/lang/String") (by decide +kernel))
  exact ⟨_, a, vk_R.of (hts _ hm) h1⟩
theorem st_345 (hts : ∀ w ∈ lw_tbl, w.before args s = true) (hs : ∀ w ∈ flatC nar, w.before args s = true) : ∃ (tx : String) (a : Nat), vk_R RX9 345 tx a s := by
  have hm : Cond.stringRef "OverlapMill" 345 "k is none" ∈ lw_tbl := in_t6 (List.mem_of_getElem? (i := 80) rfl)
  obtain ⟨a, c, cell, k, h1, -⟩ := Cond.exactly_spec (hs (.exactly (.string "OverlapMill" 345) "java/lang/String") (by decide +kernel))
  exact ⟨_, a, vk_R.of (hts _ hm) h1⟩
theorem st_350 (hts : ∀ w ∈ lw_tbl, w.before args s = true) (hs : ∀ w ∈ flatC nar, w.before args s = true) : ∃ (tx : String) (a : Nat), vk_R RX9 350 tx a s := by
  have hm : Cond.stringRef "OverlapMill" 350 "its latency is 1" ∈ lw_tbl := in_t6 (List.mem_of_getElem? (i := 95) rfl)
  obtain ⟨a, c, cell, k, h1, -⟩ := Cond.exactly_spec (hs (.exactly (.string "OverlapMill" 350) "java/lang/String") (by decide +kernel))
  exact ⟨_, a, vk_R.of (hts _ hm) h1⟩
theorem st_378 (hts : ∀ w ∈ lw_tbl, w.before args s = true) (hs : ∀ w ∈ flatC nar, w.before args s = true) : ∃ (tx : String) (a : Nat), vk_R RX9 378 tx a s := by
  have hm : Cond.stringRef "OverlapMill" 378 "m or e is none" ∈ lw_tbl := in_t6 (List.mem_of_getElem? (i := 166) rfl)
  obtain ⟨a, c, cell, k, h1, -⟩ := Cond.exactly_spec (hs (.exactly (.string "OverlapMill" 378) "java/lang/String") (by decide +kernel))
  exact ⟨_, a, vk_R.of (hts _ hm) h1⟩
theorem st_384 (hts : ∀ w ∈ lw_tbl, w.before args s = true) (hs : ∀ w ∈ flatC nar, w.before args s = true) : ∃ (tx : String) (a : Nat), vk_R RX9 384 tx a s := by
  have hm : Cond.stringRef "OverlapMill" 384 "r is none" ∈ lw_tbl := in_t6 (List.mem_of_getElem? (i := 209) rfl)
  obtain ⟨a, c, cell, k, h1, -⟩ := Cond.exactly_spec (hs (.exactly (.string "OverlapMill" 384) "java/lang/String") (by decide +kernel))
  exact ⟨_, a, vk_R.of (hts _ hm) h1⟩
theorem st_387 (hts : ∀ w ∈ lw_tbl, w.before args s = true) (hs : ∀ w ∈ flatC nar, w.before args s = true) : ∃ (tx : String) (a : Nat), vk_R RX9 387 tx a s := by
  have hm : Cond.stringRef "OverlapMill" 387 "there are 8 ops" ∈ lw_tbl := in_t3 (List.mem_of_getElem? (i := 154) rfl)
  obtain ⟨a, c, cell, k, h1, -⟩ := Cond.exactly_spec (hs (.exactly (.string "OverlapMill" 387) "java/lang/String") (by decide +kernel))
  exact ⟨_, a, vk_R.of (hts _ hm) h1⟩
theorem st_420 (hts : ∀ w ∈ lw_tbl, w.before args s = true) (hs : ∀ w ∈ flatC nar, w.before args s = true) : ∃ (tx : String) (a : Nat), vk_R RX9 420 tx a s := by
  have hm : Cond.stringRef "OverlapMill" 420 "d does not fit" ∈ lw_tbl := in_t5 (List.mem_of_getElem? (i := 6) rfl)
  obtain ⟨a, c, cell, k, h1, -⟩ := Cond.exactly_spec (hs (.exactly (.string "OverlapMill" 420) "java/lang/String") (by decide +kernel))
  exact ⟨_, a, vk_R.of (hts _ hm) h1⟩
theorem st_422 (hts : ∀ w ∈ lw_tbl, w.before args s = true) (hs : ∀ w ∈ flatC nar, w.before args s = true) : ∃ (tx : String) (a : Nat), vk_R RX9 422 tx a s := by
  have hm : Cond.stringRef "OverlapMill" 422 "the loop is not sound" ∈ lw_tbl := in_t4 (List.mem_of_getElem? (i := 45) rfl)
  obtain ⟨a, c, cell, k, h1, -⟩ := Cond.exactly_spec (hs (.exactly (.string "OverlapMill" 422) "java/lang/String") (by decide +kernel))
  exact ⟨_, a, vk_R.of (hts _ hm) h1⟩
theorem st_424 (hts : ∀ w ∈ lw_tbl, w.before args s = true) (hs : ∀ w ∈ flatC nar, w.before args s = true) : ∃ (tx : String) (a : Nat), vk_R RX9 424 tx a s := by
  have hm : Cond.stringRef "OverlapMill" 424 "d is less than rounds" ∈ lw_tbl := in_t4 (List.mem_of_getElem? (i := 66) rfl)
  obtain ⟨a, c, cell, k, h1, -⟩ := Cond.exactly_spec (hs (.exactly (.string "OverlapMill" 424) "java/lang/String") (by decide +kernel))
  exact ⟨_, a, vk_R.of (hts _ hm) h1⟩
theorem st_428 (hts : ∀ w ∈ lw_tbl, w.before args s = true) (hs : ∀ w ∈ flatC nar, w.before args s = true) : ∃ (tx : String) (a : Nat), vk_R RX9 428 tx a s := by
  have hm : Cond.stringRef "OverlapMill" 428 "there is no such op" ∈ lw_tbl := in_t3 (List.mem_of_getElem? (i := 213) rfl)
  obtain ⟨a, c, cell, k, h1, -⟩ := Cond.exactly_spec (hs (.exactly (.string "OverlapMill" 428) "java/lang/String") (by decide +kernel))
  exact ⟨_, a, vk_R.of (hts _ hm) h1⟩
theorem st_431 (hts : ∀ w ∈ lw_tbl, w.before args s = true) (hs : ∀ w ∈ flatC nar, w.before args s = true) : ∃ (tx : String) (a : Nat), vk_R RX9 431 tx a s := by
  have hm : Cond.stringRef "OverlapMill" 431 "there is no such unit" ∈ lw_tbl := in_t4 (List.mem_of_getElem? (i := 5) rfl)
  obtain ⟨a, c, cell, k, h1, -⟩ := Cond.exactly_spec (hs (.exactly (.string "OverlapMill" 431) "java/lang/String") (by decide +kernel))
  exact ⟨_, a, vk_R.of (hts _ hm) h1⟩
theorem st_433 (hts : ∀ w ∈ lw_tbl, w.before args s = true) (hs : ∀ w ∈ flatC nar, w.before args s = true) : ∃ (tx : String) (a : Nat), vk_R RX9 433 tx a s := by
  have hm : Cond.stringRef "OverlapMill" 433 "there is no such kind" ∈ lw_tbl := in_t3 (List.mem_of_getElem? (i := 232) rfl)
  obtain ⟨a, c, cell, k, h1, -⟩ := Cond.exactly_spec (hs (.exactly (.string "OverlapMill" 433) "java/lang/String") (by decide +kernel))
  exact ⟨_, a, vk_R.of (hts _ hm) h1⟩
theorem st_435 (hts : ∀ w ∈ lw_tbl, w.before args s = true) (hs : ∀ w ∈ flatC nar, w.before args s = true) : ∃ (tx : String) (a : Nat), vk_R RX9 435 tx a s := by
  have hm : Cond.stringRef "OverlapMill" 435 "there is no such need" ∈ lw_tbl := in_t4 (List.mem_of_getElem? (i := 50) rfl)
  obtain ⟨a, c, cell, k, h1, -⟩ := Cond.exactly_spec (hs (.exactly (.string "OverlapMill" 435) "java/lang/String") (by decide +kernel))
  exact ⟨_, a, vk_R.of (hts _ hm) h1⟩
theorem st_437 (hts : ∀ w ∈ lw_tbl, w.before args s = true) (hs : ∀ w ∈ flatC nar, w.before args s = true) : ∃ (tx : String) (a : Nat), vk_R RX9 437 tx a s := by
  have hm : Cond.stringRef "OverlapMill" 437 "it is a store" ∈ lw_tbl := in_t5 (List.mem_of_getElem? (i := 222) rfl)
  obtain ⟨a, c, cell, k, h1, -⟩ := Cond.exactly_spec (hs (.exactly (.string "OverlapMill" 437) "java/lang/String") (by decide +kernel))
  exact ⟨_, a, vk_R.of (hts _ hm) h1⟩
theorem st_441 (hts : ∀ w ∈ lw_tbl, w.before args s = true) (hs : ∀ w ∈ flatC nar, w.before args s = true) : ∃ (tx : String) (a : Nat), vk_R RX9 441 tx a s := by
  have hm : Cond.stringRef "OverlapMill" 441 "there is no such what" ∈ lw_tbl := in_t4 (List.mem_of_getElem? (i := 27) rfl)
  obtain ⟨a, c, cell, k, h1, -⟩ := Cond.exactly_spec (hs (.exactly (.string "OverlapMill" 441) "java/lang/String") (by decide +kernel))
  exact ⟨_, a, vk_R.of (hts _ hm) h1⟩
theorem st_444 (hts : ∀ w ∈ lw_tbl, w.before args s = true) (hs : ∀ w ∈ flatC nar, w.before args s = true) : ∃ (tx : String) (a : Nat), vk_R RX9 444 tx a s := by
  have hm : Cond.stringRef "OverlapMill" 444 "d is none" ∈ lw_tbl := in_t4 (List.mem_of_getElem? (i := 65) rfl)
  obtain ⟨a, c, cell, k, h1, -⟩ := Cond.exactly_spec (hs (.exactly (.string "OverlapMill" 444) "java/lang/String") (by decide +kernel))
  exact ⟨_, a, vk_R.of (hts _ hm) h1⟩
theorem st_446 (hts : ∀ w ∈ lw_tbl, w.before args s = true) (hs : ∀ w ∈ flatC nar, w.before args s = true) : ∃ (tx : String) (a : Nat), vk_R RX9 446 tx a s := by
  have hm : Cond.stringRef "OverlapMill" 446 "the slot is none" ∈ lw_tbl := in_t5 (List.mem_of_getElem? (i := 17) rfl)
  obtain ⟨a, c, cell, k, h1, -⟩ := Cond.exactly_spec (hs (.exactly (.string "OverlapMill" 446) "java/lang/String") (by decide +kernel))
  exact ⟨_, a, vk_R.of (hts _ hm) h1⟩
theorem st_448 (hts : ∀ w ∈ lw_tbl, w.before args s = true) (hs : ∀ w ∈ flatC nar, w.before args s = true) : ∃ (tx : String) (a : Nat), vk_R RX9 448 tx a s := by
  have hm : Cond.stringRef "OverlapMill" 448 "n is none" ∈ lw_tbl := in_t5 (List.mem_of_getElem? (i := 153) rfl)
  obtain ⟨a, c, cell, k, h1, -⟩ := Cond.exactly_spec (hs (.exactly (.string "OverlapMill" 448) "java/lang/String") (by decide +kernel))
  exact ⟨_, a, vk_R.of (hts _ hm) h1⟩
theorem st_all (hts : ∀ w ∈ lw_tbl, w.before args s = true) (hs : ∀ w ∈ flatC nar, w.before args s = true) : ∀ k ∈ [85, 97, 99, 107, 114, 123, 137, 281, 313, 325, 330, 345, 350, 378, 384, 387, 420, 422, 424, 428, 431, 433, 435, 437, 441, 444, 446, 448], ∃ (tx : String) (a : Nat), vk_R RX9 k tx a s := List.forall_mem_cons.mpr ⟨st_85 hts hs, List.forall_mem_cons.mpr ⟨st_97 hts hs, List.forall_mem_cons.mpr ⟨st_99 hts hs, List.forall_mem_cons.mpr ⟨st_107 hts hs, List.forall_mem_cons.mpr ⟨st_114 hts hs, List.forall_mem_cons.mpr ⟨st_123 hts hs, List.forall_mem_cons.mpr ⟨st_137 hts hs, List.forall_mem_cons.mpr ⟨st_281 hts hs, List.forall_mem_cons.mpr ⟨st_313 hts hs, List.forall_mem_cons.mpr ⟨st_325 hts hs, List.forall_mem_cons.mpr ⟨st_330 hts hs, List.forall_mem_cons.mpr ⟨st_345 hts hs, List.forall_mem_cons.mpr ⟨st_350 hts hs, List.forall_mem_cons.mpr ⟨st_378 hts hs, List.forall_mem_cons.mpr ⟨st_384 hts hs, List.forall_mem_cons.mpr ⟨st_387 hts hs, List.forall_mem_cons.mpr ⟨st_420 hts hs, List.forall_mem_cons.mpr ⟨st_422 hts hs, List.forall_mem_cons.mpr ⟨st_424 hts hs, List.forall_mem_cons.mpr ⟨st_428 hts hs, List.forall_mem_cons.mpr ⟨st_431 hts hs, List.forall_mem_cons.mpr ⟨st_433 hts hs, List.forall_mem_cons.mpr ⟨st_435 hts hs, List.forall_mem_cons.mpr ⟨st_437 hts hs, List.forall_mem_cons.mpr ⟨st_441 hts hs, List.forall_mem_cons.mpr ⟨st_444 hts hs, List.forall_mem_cons.mpr ⟨st_446 hts hs, List.forall_mem_cons.mpr ⟨st_448 hts hs, fun _ h => absurd h List.not_mem_nil⟩⟩⟩⟩⟩⟩⟩⟩⟩⟩⟩⟩⟩⟩⟩⟩⟩⟩⟩⟩⟩⟩⟩⟩⟩⟩⟩⟩
theorem st_in : ∀ x ∈ XLs, x.2.2.2.2.1 ∈ [85, 97, 99, 107, 114, 123, 137, 281, 313, 325, 330, 345, 350, 378, 384, 387, 420, 422, 424, 428, 431, 433, 435, 437, 441, 444, 446, 448] := by decide
theorem nc_all (hs : ∀ w ∈ flatC nar, w.before args s = true) : ∀ (x y : Nat) (E F : String), xnm[x]? = some E → xnm[y]? = some F → x ≠ y → va_Nc E F s := by
  intro x y E F hx hy hxy
  rcases x with _ | _ | _ | _ | x <;> rcases y with _ | _ | _ | _ | y
  · exact absurd rfl hxy
  · cases hx; cases hy; exact va_Nc.of (hs (.not (.castable "java/lang/IllegalArgumentException" "java/lang/IllegalStateException")) (by decide +kernel))
  · cases hx; cases hy; exact va_Nc.of (hs (.not (.castable "java/lang/IllegalArgumentException" "java/lang/IndexOutOfBoundsException")) (by decide +kernel))
  · cases hx; cases hy; exact va_Nc.of (hs (.not (.castable "java/lang/IllegalArgumentException" "java/util/NoSuchElementException")) (by decide +kernel))
  · simp [xnm] at hx hy
  · cases hx; cases hy; exact va_Nc.of (hs (.not (.castable "java/lang/IllegalStateException" "java/lang/IllegalArgumentException")) (by decide +kernel))
  · exact absurd rfl hxy
  · cases hx; cases hy; exact va_Nc.of (hs (.not (.castable "java/lang/IllegalStateException" "java/lang/IndexOutOfBoundsException")) (by decide +kernel))
  · cases hx; cases hy; exact va_Nc.of (hs (.not (.castable "java/lang/IllegalStateException" "java/util/NoSuchElementException")) (by decide +kernel))
  · simp [xnm] at hx hy
  · cases hx; cases hy; exact va_Nc.of (hs (.not (.castable "java/lang/IndexOutOfBoundsException" "java/lang/IllegalArgumentException")) (by decide +kernel))
  · cases hx; cases hy; exact va_Nc.of (hs (.not (.castable "java/lang/IndexOutOfBoundsException" "java/lang/IllegalStateException")) (by decide +kernel))
  · exact absurd rfl hxy
  · cases hx; cases hy; exact va_Nc.of (hs (.not (.castable "java/lang/IndexOutOfBoundsException" "java/util/NoSuchElementException")) (by decide +kernel))
  · simp [xnm] at hx hy
  · cases hx; cases hy; exact va_Nc.of (hs (.not (.castable "java/util/NoSuchElementException" "java/lang/IllegalArgumentException")) (by decide +kernel))
  · cases hx; cases hy; exact va_Nc.of (hs (.not (.castable "java/util/NoSuchElementException" "java/lang/IllegalStateException")) (by decide +kernel))
  · cases hx; cases hy; exact va_Nc.of (hs (.not (.castable "java/util/NoSuchElementException" "java/lang/IndexOutOfBoundsException")) (by decide +kernel))
  · exact absurd rfl hxy
  · simp [xnm] at hx hy
  · simp [xnm] at hx hy
  · simp [xnm] at hx hy
  · simp [xnm] at hx hy
  · simp [xnm] at hx hy
  · simp [xnm] at hx hy
theorem XK_start {D : va_G} {cy : Nat → ClassId} {b L : Nat} {xs : Nat → Int32} (hK : va_K D vwCl (pTy cy) s) (hts : ∀ w ∈ lw_tbl, w.before args s = true) (hs : ∀ w ∈ flatC nar, w.before args s = true) (hX : va_X b L xs s s.heap) (hbl : b < s.heap.size) : XK D cy (va_A [] s.heap.size) (some b) (L, xs) s s.heap := by
  have hA : ∀ a : Nat, a < s.heap.size → ¬ va_A [] s.heap.size a := by
    intro a ha h
    rcases h with ⟨k, e, h⟩ | h
    · simp at h
    · omega
  have hi : (Cond.initialized "java/lang/Throwable").before args s = true := hts _ (in_t1 (List.mem_of_getElem? (i := 12) rfl))
  have lU : (Cond.laysStatic "java/lang/Throwable" "UNASSIGNED_STACK" "[Ljava/lang/StackTraceElement;").before args s = true := hts _ (in_t3 (List.mem_of_getElem? (i := 99) rfl))
  have lS : (Cond.laysStatic "java/lang/Throwable" "SUPPRESSED_SENTINEL" "Ljava/util/List;").before args s = true := hts _ (in_t3 (List.mem_of_getElem? (i := 101) rfl))
  have rU := hs (.isRef (.static "java/lang/Throwable" "UNASSIGNED_STACK" "[Ljava/lang/StackTraceElement;")) (by decide +kernel)
  have rS := hs (.isRef (.static "java/lang/Throwable" "SUPPRESSED_SENTINEL" "Ljava/util/List;")) (by decide +kernel)
  refine ⟨hK, fun w hw hn => va_tabs (nw_on hn) rfl (hts w hw), va_AO.of (hts _ AO_chart), hts _ AO_rows, ⟨vx_Zqof lU hi rU hA, vx_Zqof lS hi rS hA⟩, fun x hx => st_all hts hs _ (st_in x hx), fun a ha => ?_, nc_all hs⟩
  cases ha
  exact ⟨hX, hbl, hA _ hbl⟩
end STA
end
