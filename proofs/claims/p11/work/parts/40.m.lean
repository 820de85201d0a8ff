/-! the machine by hand: numbers are Int, a heap is a memory of numbers (address, place) of a known shape; Wx: a body from a place on, with locals that are known or not -/
abbrev WV : Type := Int ⊕ Nat
abbrev MM : Type := Nat → Nat → Int
def InI (x : Int) : Prop := -2147483648 ≤ x ∧ x ≤ 2147483647
def wv : WV → Value
  | .inl x => .int (Int32.ofInt x)
  | .inr a => .ref a
def vOK : WV → Prop
  | .inl x => InI x
  | .inr _ => True
theorem wv_cat (v : WV) : (wv v).category = 1 := by cases v <;> rfl
theorem wi {x : Int} (h : InI x) : (Int32.ofInt x).toInt = x := by
  rw [Int32.toInt_ofInt]; exact bm h.1 h.2
theorem wiI (x : Int32) : InI x.toInt := i32_rng x
/-- a row of so many numbers; an object: number of its class, fields (a number, or an address) -/
abbrev SH : Type := Nat ⊕ (Nat × List (Option Nat))
def shR (s : SH) (m : Nat → Int) (y : PE) : Prop := match s with
  | .inl n => ∃ g : Nat → Int32, y = .inl (0, n, .inl g) ∧ ∀ i, m i = (g i).toInt
  | .inr (ci, fs) => ∃ gs, y = .inr (ci, gs) ∧ gs.length = fs.length ∧ ∀ i, match fs[i]? with
    | some none => ∃ z : Int32, gs[i]? = some (.int z) ∧ m i = z.toInt
    | some (some A) => gs[i]? = some (.ref A)
    | none => True
/-- shapes of cells: class (Body, Web, spare, Reach, Seeker, Hasty) and reference -/
def shA (A : Nat) : Option SH := match A with
  | 0 => some (.inr (9, [some 1, some 9, some 14, some 19, some 21, some 37, some 129, some 134, some 139, some 141, none, none]))
  | 1 => some (.inr (0, [none, some 2, some 3, some 4, some 5, some 6, some 7, some 8]))
  | 2 => some (.inl 8)
  | 3 => some (.inl 32)
  | 4 => some (.inl 8)
  | 5 => some (.inl 6)
  | 6 => some (.inl 6)
  | 7 => some (.inl 6)
  | 8 => some (.inl 3)
  | 9 => some (.inr (7, [none, some 10, some 11, some 12, some 13, none, none, none]))
  | 10 => some (.inl 64)
  | 11 => some (.inl 64)
  | 12 => some (.inl 64)
  | 13 => some (.inl 64)
  | 14 => some (.inr (7, [none, some 15, some 16, some 17, some 18, none, none, none]))
  | 15 => some (.inl 64)
  | 16 => some (.inl 64)
  | 17 => some (.inl 64)
  | 18 => some (.inl 64)
  | 19 => some (.inr (5, [none, none, some 20]))
  | 20 => some (.inl 64)
  | 21 => some (.inr (6, [none, none, none, none, none, some 22, some 23, some 24, some 25, some 26, some 27, some 28, some 29, some 30, some 31, some 32, some 33, some 34, some 35, some 36]))
  | 22 => some (.inl 8)
  | 23 => some (.inl 8)
  | 24 => some (.inl 8)
  | 25 => some (.inl 3)
  | 26 => some (.inl 3)
  | 27 => some (.inl 32)
  | 28 => some (.inl 12)
  | 29 => some (.inl 32)
  | 30 => some (.inl 64)
  | 31 => some (.inl 512)
  | 32 => some (.inl 8)
  | 33 => some (.inl 8)
  | 34 => some (.inl 8)
  | 35 => some (.inl 8)
  | 36 => some (.inl 8)
  | 38 => some (.inr (1, [none, none, none, none, none, none, none, none, some 39, some 40, some 41, some 42, some 43, some 44]))
  | 39 => some (.inl 8)
  | 40 => some (.inl 8)
  | 41 => some (.inl 8)
  | 42 => some (.inl 8)
  | 43 => some (.inl 8)
  | 44 => some (.inl 8)
  | 45 => some (.inr (1, [none, none, none, none, none, none, none, none, some 46, some 47, some 48, some 49, some 50, some 51]))
  | 46 => some (.inl 8)
  | 47 => some (.inl 8)
  | 48 => some (.inl 8)
  | 49 => some (.inl 8)
  | 50 => some (.inl 8)
  | 51 => some (.inl 8)
  | 52 => some (.inr (1, [none, none, none, none, none, none, none, none, some 53, some 54, some 55, some 56, some 57, some 58]))
  | 53 => some (.inl 8)
  | 54 => some (.inl 8)
  | 55 => some (.inl 8)
  | 56 => some (.inl 8)
  | 57 => some (.inl 8)
  | 58 => some (.inl 8)
  | 59 => some (.inr (1, [none, none, none, none, none, none, none, none, some 60, some 61, some 62, some 63, some 64, some 65]))
  | 60 => some (.inl 8)
  | 61 => some (.inl 8)
  | 62 => some (.inl 8)
  | 63 => some (.inl 8)
  | 64 => some (.inl 8)
  | 65 => some (.inl 8)
  | 66 => some (.inr (1, [none, none, none, none, none, none, none, none, some 67, some 68, some 69, some 70, some 71, some 72]))
  | 67 => some (.inl 8)
  | 68 => some (.inl 8)
  | 69 => some (.inl 8)
  | 70 => some (.inl 8)
  | 71 => some (.inl 8)
  | 72 => some (.inl 8)
  | 73 => some (.inr (1, [none, none, none, none, none, none, none, none, some 74, some 75, some 76, some 77, some 78, some 79]))
  | 74 => some (.inl 8)
  | 75 => some (.inl 8)
  | 76 => some (.inl 8)
  | 77 => some (.inl 8)
  | 78 => some (.inl 8)
  | 79 => some (.inl 8)
  | 80 => some (.inr (1, [none, none, none, none, none, none, none, none, some 81, some 82, some 83, some 84, some 85, some 86]))
  | 81 => some (.inl 8)
  | 82 => some (.inl 8)
  | 83 => some (.inl 8)
  | 84 => some (.inl 8)
  | 85 => some (.inl 8)
  | 86 => some (.inl 8)
  | 87 => some (.inr (1, [none, none, none, none, none, none, none, none, some 88, some 89, some 90, some 91, some 92, some 93]))
  | 88 => some (.inl 8)
  | 89 => some (.inl 8)
  | 90 => some (.inl 8)
  | 91 => some (.inl 8)
  | 92 => some (.inl 8)
  | 93 => some (.inl 8)
  | 94 => some (.inr (1, [none, none, none, none, none, none, none, none, some 95, some 96, some 97, some 98, some 99, some 100]))
  | 95 => some (.inl 8)
  | 96 => some (.inl 8)
  | 97 => some (.inl 8)
  | 98 => some (.inl 8)
  | 99 => some (.inl 8)
  | 100 => some (.inl 8)
  | 101 => some (.inr (1, [none, none, none, none, none, none, none, none, some 102, some 103, some 104, some 105, some 106, some 107]))
  | 102 => some (.inl 8)
  | 103 => some (.inl 8)
  | 104 => some (.inl 8)
  | 105 => some (.inl 8)
  | 106 => some (.inl 8)
  | 107 => some (.inl 8)
  | 108 => some (.inr (1, [none, none, none, none, none, none, none, none, some 109, some 110, some 111, some 112, some 113, some 114]))
  | 109 => some (.inl 8)
  | 110 => some (.inl 8)
  | 111 => some (.inl 8)
  | 112 => some (.inl 8)
  | 113 => some (.inl 8)
  | 114 => some (.inl 8)
  | 115 => some (.inr (1, [none, none, none, none, none, none, none, none, some 116, some 117, some 118, some 119, some 120, some 121]))
  | 116 => some (.inl 8)
  | 117 => some (.inl 8)
  | 118 => some (.inl 8)
  | 119 => some (.inl 8)
  | 120 => some (.inl 8)
  | 121 => some (.inl 8)
  | 122 => some (.inr (1, [none, none, none, none, none, none, none, none, some 123, some 124, some 125, some 126, some 127, some 128]))
  | 123 => some (.inl 8)
  | 124 => some (.inl 8)
  | 125 => some (.inl 8)
  | 126 => some (.inl 8)
  | 127 => some (.inl 8)
  | 128 => some (.inl 8)
  | 129 => some (.inr (2, [none, none, none, none, some 130, some 131, some 132, some 133]))
  | 130 => some (.inl 8)
  | 131 => some (.inl 8)
  | 132 => some (.inl 12)
  | 133 => some (.inl 8)
  | 134 => some (.inr (4, [some 135, some 138]))
  | 136 => some (.inl 64)
  | 137 => some (.inl 64)
  | 138 => some (.inl 320)
  | 139 => some (.inr (8, [some 140]))
  | 140 => some (.inl 8)
  | 141 => some (.inr (3, [some 142, none, none]))
  | 142 => some (.inl 1024)
  | 143 => some (.inr (10, [none, none, some 144, some 145, some 146, some 147, some 148, some 149, some 150, some 151, some 152, some 153, none, some 154, some 155, some 156, some 157, some 158, none, some 159, some 160, some 161, some 162, some 163, some 164, none, some 165, some 166, some 167, some 168, some 169, none, none, none, some 170, some 171, some 172]))
  | 144 => some (.inl 8)
  | 145 => some (.inl 8)
  | 146 => some (.inl 8)
  | 147 => some (.inl 8)
  | 148 => some (.inl 8)
  | 149 => some (.inl 8)
  | 150 => some (.inl 6)
  | 151 => some (.inl 6)
  | 152 => some (.inl 6)
  | 153 => some (.inl 3)
  | 154 => some (.inl 48)
  | 155 => some (.inl 48)
  | 156 => some (.inl 48)
  | 157 => some (.inl 48)
  | 158 => some (.inl 64)
  | 159 => some (.inl 36)
  | 160 => some (.inl 8)
  | 161 => some (.inl 8)
  | 162 => some (.inl 64)
  | 163 => some (.inl 8)
  | 164 => some (.inl 8)
  | 165 => some (.inl 128)
  | 166 => some (.inl 640)
  | 167 => some (.inl 328)
  | 168 => some (.inl 8)
  | 169 => some (.inl 8)
  | 170 => some (.inl 9)
  | 171 => some (.inl 8)
  | 172 => some (.inl 8)
  | _ => none
/-- cells of a known shape hold the memory; the others are as they were -/
def RH (h0 h : PH) (mem : MM) : Prop := (∀ A, shA A = none → h[A]? = h0[A]?) ∧ ∀ A s, shA A = some s → ∃ y, h[A]? = some y ∧ shR s (mem A) y
def upm (mem : MM) (A i : Nat) (x : Int) : MM := fun B j => if B = A ∧ j = i then x else mem B j
theorem upm_eq {mem : MM} {A i : Nat} {x : Int} : upm mem A i x A i = x := if_pos ⟨rfl, rfl⟩
theorem upm_ne {mem : MM} {A i B j : Nat} {x : Int} (h : ¬ (B = A ∧ j = i)) : upm mem A i x B j = mem B j := if_neg h
theorem RH.row {h0 h : PH} {mem : MM} (H : RH h0 h mem) {A n : Nat} (hA : shA A = some (.inl n)) : ∃ g : Nat → Int32, h[A]? = some (.inl (0, n, .inl g)) ∧ ∀ i, mem A i = (g i).toInt := by
  obtain ⟨y, h1, g, rfl, h2⟩ := H.2 A _ hA
  exact ⟨g, h1, h2⟩
theorem RH.rowI {h0 h : PH} {mem : MM} (H : RH h0 h mem) {A n : Nat} (hA : shA A = some (.inl n)) (i : Nat) : InI (mem A i) := by
  obtain ⟨g, -, h2⟩ := H.row hA
  rw [h2]; exact wiI _
theorem RH.obj {h0 h : PH} {mem : MM} (H : RH h0 h mem) {A ci : Nat} {fs : List (Option Nat)} (hA : shA A = some (.inr (ci, fs))) : ∃ gs, h[A]? = some (.inr (ci, gs)) ∧ gs.length = fs.length ∧ ∀ i, match fs[i]? with
    | some none => ∃ z : Int32, gs[i]? = some (.int z) ∧ mem A i = z.toInt
    | some (some A) => gs[i]? = some (.ref A)
    | none => True := by
  obtain ⟨y, h1, gs, rfl, h2⟩ := H.2 A _ hA
  exact ⟨gs, h1, h2⟩
theorem RH.fldI {h0 h : PH} {mem : MM} (H : RH h0 h mem) {A ci f : Nat} {fs : List (Option Nat)} (hA : shA A = some (.inr (ci, fs))) (hf : fs[f]? = some none) : InI (mem A f) := by
  obtain ⟨gs, -, -, h2⟩ := H.obj hA
  have := h2 f
  rw [hf] at this
  obtain ⟨z, -, e⟩ := this
  rw [e]; exact wiI _
theorem RH.setRow {h0 h : PH} {mem : MM} (H : RH h0 h mem) {A n i : Nat} {g : Nat → Int32} {x : Int32} (hA : shA A = some (.inl n)) (hg : h[A]? = some (.inl (0, n, .inl g))) : RH h0 (h.set A (.inl (0, n, .inl (upd g i x)))) (upm mem A i x.toInt) := by
  obtain ⟨g2, e1, e2⟩ := H.row hA
  rw [hg] at e1
  cases e1
  have hl := (List.getElem?_eq_some_iff.mp hg).1
  refine ⟨fun B hB => by
    rw [List.getElem?_set_ne (fun q => by rw [q, hB] at hA; cases hA)]
    exact H.1 B hB, ?_⟩
  intro B s hB
  by_cases hAB : A = B
  · subst hAB
    rw [hA] at hB
    cases hB
    refine ⟨_, List.getElem?_set_self hl, upd g i x, rfl, fun j => ?_⟩
    show upm mem A i x.toInt A j = _
    unfold upm upd
    by_cases hj : j = i
    · rw [if_pos ⟨rfl, hj⟩, if_pos hj]
    · rw [if_neg (fun q => hj q.2), if_neg hj]; exact e2 j
  · obtain ⟨y, h1, h2⟩ := H.2 B s hB
    refine ⟨y, by rw [List.getElem?_set_ne hAB]; exact h1, ?_⟩
    have : upm mem A i x.toInt B = mem B := by
      funext j
      exact upm_ne (fun q => hAB q.1.symm)
    rw [this]; exact h2
theorem RH.setObj {h0 h : PH} {mem : MM} (H : RH h0 h mem) {A ci f : Nat} {fs : List (Option Nat)} {gs : List Value} {x : Int32} (hA : shA A = some (.inr (ci, fs))) (hf : fs[f]? = some none) (hg : h[A]? = some (.inr (ci, gs))) : RH h0 (h.set A (.inr (ci, gs.set f (.int x)))) (upm mem A f x.toInt) := by
  obtain ⟨g2, e1, e2, e3⟩ := H.obj hA
  rw [hg] at e1
  cases e1
  have hl := (List.getElem?_eq_some_iff.mp hg).1
  have hfl : f < gs.length := by rw [e2]; exact (List.getElem?_eq_some_iff.mp hf).1
  refine ⟨fun B hB => by
    rw [List.getElem?_set_ne (fun q => by rw [q, hB] at hA; cases hA)]
    exact H.1 B hB, ?_⟩
  intro B s hB
  by_cases hAB : A = B
  · subst hAB
    rw [hA] at hB
    cases hB
    refine ⟨_, List.getElem?_set_self hl, gs.set f (.int x), rfl, by rw [List.length_set]; exact e2, fun j => ?_⟩
    by_cases hj : f = j
    · subst hj
      rw [hf]
      exact ⟨x, List.getElem?_set_self hfl, upm_eq⟩
    · have := e3 j
      rw [List.getElem?_set_ne hj, show upm mem A f x.toInt A j = mem A j from upm_ne (fun q => hj q.2.symm)]
      exact this
  · obtain ⟨y, h1, h2⟩ := H.2 B s hB
    refine ⟨y, by rw [List.getElem?_set_ne hAB]; exact h1, ?_⟩
    have : upm mem A f x.toInt B = mem B := by
      funext j
      exact upm_ne (fun q => hAB q.1.symm)
    rw [this]; exact h2
def LkW (lv : LV) (L : List (Option WV)) : Prop := ∀ i v, L[i]? = some (some v) → px_g lv i = some (wv v) ∧ vOK v
/-- what a method comes back with: a number or nothing, and the memory -/
abbrev WK : Type := Option Int → MM → Prop
def QK (h0 : PH) (K : WK) : Rs → PH → Prop := fun r h => ∃ (x : Option Int) (mem : MM), r = .inl (x.map fun y => .int (Int32.ofInt y)) ∧ (∀ y, x = some y → InI y) ∧ RH h0 h mem ∧ K x mem
abbrev CXW : Type := Nat → List Value → PH → (Rs → PH → Prop) → Prop
def Wx (C : CXW) (S : Nat × (Nat → Int32)) (M : PM) (K : WK) (pc : Nat) (L : List (Option WV)) (st : List WV) (mem : MM) : Prop := ∀ (h0 : PH) (lv : LV) (h : PH), LkW lv L → (∀ v ∈ st, vOK v) → RH h0 h mem → Vx C S M [] (QK h0 K) pc lv (st.map wv) h 0 0
/-- a call -/
def CW (C : CXW) (μ : Nat) (args : List WV) (mem : MM) (K : WK) : Prop := (∀ v ∈ args, vOK v) → ∀ h0 h, RH h0 h mem → C μ (args.map wv) h (QK h0 K)
/-- a call that gives a number; one that gives nothing -/
def CWI (C : CXW) (μ : Nat) (args : List WV) (mem : MM) (K : Int → MM → Prop) : Prop := CW C μ args mem fun r m => ∃ y, r = some y ∧ K y m
def CWV (C : CXW) (μ : Nat) (args : List WV) (mem : MM) (K : MM → Prop) : Prop := CW C μ args mem fun r m => r = none ∧ K m
theorem CW.mono {C : CXW} (hC : Cmono C) {μ : Nat} {args : List WV} {mem : MM} {K K' : WK} (h : ∀ r m, K r m → K' r m) (H : CW C μ args mem K) : CW C μ args mem K' := fun h1 h0 h2 h3 => hC _ _ _ _ _ (fun r _ ⟨x, m, e1, e2, e3, e4⟩ => ⟨x, m, e1, e2, e3, h _ _ e4⟩) (H h1 h0 h2 h3)
theorem CWI.mono {C : CXW} (hC : Cmono C) {μ : Nat} {args : List WV} {mem : MM} {K K' : Int → MM → Prop} (h : ∀ r m, K r m → K' r m) (H : CWI C μ args mem K) : CWI C μ args mem K' := CW.mono hC (fun _ _ ⟨y, e, q⟩ => ⟨y, e, h _ _ q⟩) H
theorem CWV.mono {C : CXW} (hC : Cmono C) {μ : Nat} {args : List WV} {mem : MM} {K K' : MM → Prop} (h : ∀ m, K m → K' m) (H : CWV C μ args mem K) : CWV C μ args mem K' := CW.mono hC (fun _ _ ⟨e, q⟩ => ⟨e, h _ q⟩) H
section WX
variable {C : CXW} {S : Nat × (Nat → Int32)} {M : PM} {K : WK} {pc : Nat} {L : List (Option WV)} {st : List WV} {mem : MM}
theorem Wx.go (hC : Cmono C) {te : TE} (ht : (pT M).find? (fun e => e.1 == pc) = some te) (H : ∀ (h0 : PH) (lv : LV) (h : PH), LkW lv L → (∀ v ∈ st, vOK v) → RH h0 h mem → pmI C S M [] (QK h0 K) (Vx C S M [] (QK h0 K)) te lv (st.map wv) h 0 0) : Wx C S M K pc L st mem := fun h0 lv h h1 h2 h3 => Vx.go hC ht (H h0 lv h h1 h2 h3)
theorem stc {v : WV} (hv : vOK v) (hs : ∀ u ∈ st, vOK u) : ∀ u ∈ v :: st, vOK u := by
  intro u hu
  rcases List.mem_cons.mp hu with rfl | hu
  · exact hv
  · exact hs u hu
theorem LkW.set {lv : LV} (h : LkW lv L) {i : Nat} {v : WV} (hv : vOK v) : LkW (px_s1 lv i (wv v)) (L.set i (some v)) := by
  intro j u hu
  by_cases hij : i = j
  · subst hij
    rw [List.getElem?_set] at hu
    simp only [if_true] at hu
    split at hu
    · cases hu; exact ⟨pg_self _ _ _, hv⟩
    · cases hu
  · rw [List.getElem?_set_ne hij] at hu
    obtain ⟨h1, h2⟩ := h j u hu
    exact ⟨pg_ne (fun q => hij q.symm) h1 (wv_cat u), h2⟩
/-! pushes -/
theorem Wx.iconst (hC : Cmono C) {z : Int} {a b : Nat} (ht : (pT M).find? (fun e => e.1 == pc) = some (pc, .iconst z, a, b)) (hz : inI z z = true) (H : Wx C S M K (pc + 1) L (.inl z :: st) mem) : Wx C S M K pc L st mem :=
  Wx.go hC ht fun h0 lv h h1 h2 h3 => H h0 lv h h1 (stc (inI_iff.mp hz) h2) h3
theorem Wx.bipush (hC : Cmono C) {z : Int} {a b : Nat} (ht : (pT M).find? (fun e => e.1 == pc) = some (pc, .bipush z, a, b)) (hz : inI z z = true) (e : (Int8.ofInt z).toInt32 = Int32.ofInt z) (H : Wx C S M K (pc + 2) L (.inl z :: st) mem) : Wx C S M K pc L st mem :=
  Wx.go hC ht fun h0 lv h h1 h2 h3 => by
    have := H h0 lv h h1 (stc (inI_iff.mp hz) h2) h3
    show Vx C S M [] (QK h0 K) (pc + 2) lv (.int (Int8.ofInt z).toInt32 :: st.map wv) h 0 0
    rw [e]; exact this
theorem Wx.sipush (hC : Cmono C) {z : Int} {a b : Nat} (ht : (pT M).find? (fun e => e.1 == pc) = some (pc, .sipush z, a, b)) (hz : inI z z = true) (e : (Int16.ofInt z).toInt32 = Int32.ofInt z) (H : Wx C S M K (pc + 3) L (.inl z :: st) mem) : Wx C S M K pc L st mem :=
  Wx.go hC ht fun h0 lv h h1 h2 h3 => by
    have := H h0 lv h h1 (stc (inI_iff.mp hz) h2) h3
    show Vx C S M [] (QK h0 K) (pc + 3) lv (.int (Int16.ofInt z).toInt32 :: st.map wv) h 0 0
    rw [e]; exact this
theorem Wx.iload (hC : Cmono C) {i a b : Nat} {x : Int} (ht : (pT M).find? (fun e => e.1 == pc) = some (pc, .iload i, a, b)) (hl : L[i]? = some (some (.inl x))) (H : Wx C S M K (pc + 2) L (.inl x :: st) mem) : Wx C S M K pc L st mem :=
  Wx.go hC ht fun h0 lv h h1 h2 h3 => ⟨_, (h1 i _ hl).1, H h0 lv h h1 (stc (h1 i _ hl).2 h2) h3⟩
theorem Wx.iload_n (hC : Cmono C) {i : Fin 4} {a b : Nat} {x : Int} (ht : (pT M).find? (fun e => e.1 == pc) = some (pc, .iload_n i, a, b)) (hl : L[i.val]? = some (some (.inl x))) (H : Wx C S M K (pc + 1) L (.inl x :: st) mem) : Wx C S M K pc L st mem :=
  Wx.go hC ht fun h0 lv h h1 h2 h3 => ⟨_, (h1 i _ hl).1, H h0 lv h h1 (stc (h1 i _ hl).2 h2) h3⟩
theorem Wx.aload (hC : Cmono C) {i a b A : Nat} (ht : (pT M).find? (fun e => e.1 == pc) = some (pc, .aload i, a, b)) (hl : L[i]? = some (some (.inr A))) (H : Wx C S M K (pc + 2) L (.inr A :: st) mem) : Wx C S M K pc L st mem :=
  Wx.go hC ht fun h0 lv h h1 h2 h3 => ⟨_, (h1 i _ hl).1, ⟨A, Or.inl rfl⟩, H h0 lv h h1 (stc trivial h2) h3⟩
theorem Wx.aload_n (hC : Cmono C) {i : Fin 4} {a b A : Nat} (ht : (pT M).find? (fun e => e.1 == pc) = some (pc, .aload_n i, a, b)) (hl : L[i.val]? = some (some (.inr A))) (H : Wx C S M K (pc + 1) L (.inr A :: st) mem) : Wx C S M K pc L st mem :=
  Wx.go hC ht fun h0 lv h h1 h2 h3 => ⟨_, (h1 i _ hl).1, ⟨A, Or.inl rfl⟩, H h0 lv h h1 (stc trivial h2) h3⟩
theorem Wx.istore (hC : Cmono C) {i a b : Nat} {x : Int} (ht : (pT M).find? (fun e => e.1 == pc) = some (pc, .istore i, a, b)) (hi : Nat.blt i (pL M) = true) (H : Wx C S M K (pc + 2) (L.set i (some (.inl x))) st mem) : Wx C S M K pc L (.inl x :: st) mem :=
  Wx.go hC ht fun h0 lv h h1 h2 h3 => ⟨blt_iff.mp hi, H h0 _ h (h1.set (h2 _ List.mem_cons_self)) (fun u hu => h2 u (List.mem_cons_of_mem _ hu)) h3⟩
theorem Wx.istore_n (hC : Cmono C) {i : Fin 4} {a b : Nat} {x : Int} (ht : (pT M).find? (fun e => e.1 == pc) = some (pc, .istore_n i, a, b)) (hi : Nat.blt i.val (pL M) = true) (H : Wx C S M K (pc + 1) (L.set i.val (some (.inl x))) st mem) : Wx C S M K pc L (.inl x :: st) mem :=
  Wx.go hC ht fun h0 lv h h1 h2 h3 => ⟨blt_iff.mp hi, H h0 _ h (h1.set (h2 _ List.mem_cons_self)) (fun u hu => h2 u (List.mem_cons_of_mem _ hu)) h3⟩
theorem Wx.iinc (hC : Cmono C) {i a b : Nat} {z x : Int} (ht : (pT M).find? (fun e => e.1 == pc) = some (pc, .iinc i z, a, b)) (hi : Nat.blt i (pL M) = true) (hl : L[i]? = some (some (.inl x))) (hr : InI (x + z)) (H : Wx C S M K (pc + 3) (L.set i (some (.inl (x + z)))) st mem) : Wx C S M K pc L st mem :=
  Wx.go hC ht fun h0 lv h h1 h2 h3 => ⟨blt_iff.mp hi, _, (h1 i _ hl).1, by
    have := H h0 _ h (h1.set (i := i) (v := .inl (x + z)) hr) h2 h3
    rw [show wv (.inl (x + z)) = .int (Int32.ofInt x + Int32.ofInt z) from by rw [← Int32.ofInt_add]; rfl] at this
    exact this⟩
theorem Wx.iadd (hC : Cmono C) {a b : Nat} {x y : Int} (ht : (pT M).find? (fun e => e.1 == pc) = some (pc, .iadd, a, b)) (hr : InI (x + y)) (H : Wx C S M K (pc + 1) L (.inl (x + y) :: st) mem) : Wx C S M K pc L (.inl y :: .inl x :: st) mem :=
  Wx.go hC ht fun h0 lv h h1 h2 h3 => by
    have := H h0 lv h h1 (stc hr (fun u hu => h2 u (List.mem_cons_of_mem _ (List.mem_cons_of_mem _ hu)))) h3
    rw [List.map_cons, show wv (.inl (x + y)) = .int (Int32.ofInt x + Int32.ofInt y) from by rw [← Int32.ofInt_add]; rfl] at this
    exact this
/-- a sum that may go round -/
theorem Wx.iaddW (hC : Cmono C) {a b : Nat} {x y : Int} (ht : (pT M).find? (fun e => e.1 == pc) = some (pc, .iadd, a, b)) (H : ∀ z, InI z → (InI (x + y) → z = x + y) → Wx C S M K (pc + 1) L (.inl z :: st) mem) : Wx C S M K pc L (.inl y :: .inl x :: st) mem :=
  Wx.go hC ht fun h0 lv h h1 h2 h3 => by
    have hx := wi (h2 _ (List.mem_cons_of_mem _ List.mem_cons_self))
    have hy := wi (h2 _ List.mem_cons_self)
    have := H (Int32.ofInt x + Int32.ofInt y).toInt (wiI _) (fun q => by rw [← Int32.ofInt_add, wi q]) h0 lv h h1 (stc (wiI _) (fun u hu => h2 u (List.mem_cons_of_mem _ (List.mem_cons_of_mem _ hu)))) h3
    rw [List.map_cons, show wv (.inl (Int32.ofInt x + Int32.ofInt y).toInt) = .int (Int32.ofInt x + Int32.ofInt y) from by show Value.int (Int32.ofInt _) = _; rw [Int32.ofInt_toInt]] at this
    exact this
theorem Wx.isub (hC : Cmono C) {a b : Nat} {x y : Int} (ht : (pT M).find? (fun e => e.1 == pc) = some (pc, .isub, a, b)) (hr : InI (x - y)) (H : Wx C S M K (pc + 1) L (.inl (x - y) :: st) mem) : Wx C S M K pc L (.inl y :: .inl x :: st) mem :=
  Wx.go hC ht fun h0 lv h h1 h2 h3 => by
    have := H h0 lv h h1 (stc hr (fun u hu => h2 u (List.mem_cons_of_mem _ (List.mem_cons_of_mem _ hu)))) h3
    rw [List.map_cons, show wv (.inl (x - y)) = .int (Int32.ofInt x - Int32.ofInt y) from by rw [← Int32.ofInt_sub]; rfl] at this
    exact this
theorem Wx.imul (hC : Cmono C) {a b : Nat} {x y : Int} (ht : (pT M).find? (fun e => e.1 == pc) = some (pc, .imul, a, b)) (hr : InI (x * y)) (H : Wx C S M K (pc + 1) L (.inl (x * y) :: st) mem) : Wx C S M K pc L (.inl y :: .inl x :: st) mem :=
  Wx.go hC ht fun h0 lv h h1 h2 h3 => by
    have := H h0 lv h h1 (stc hr (fun u hu => h2 u (List.mem_cons_of_mem _ (List.mem_cons_of_mem _ hu)))) h3
    rw [List.map_cons, show wv (.inl (x * y)) = .int (Int32.ofInt x * Int32.ofInt y) from by rw [← Int32.ofInt_mul]; rfl] at this
    exact this
theorem Wx.ineg (hC : Cmono C) {a b : Nat} {x : Int} (ht : (pT M).find? (fun e => e.1 == pc) = some (pc, .ineg, a, b)) (hr : InI (-x)) (H : Wx C S M K (pc + 1) L (.inl (-x) :: st) mem) : Wx C S M K pc L (.inl x :: st) mem :=
  Wx.go hC ht fun h0 lv h h1 h2 h3 => by
    have := H h0 lv h h1 (stc hr (fun u hu => h2 u (List.mem_cons_of_mem _ hu))) h3
    rw [List.map_cons, show wv (.inl (-x)) = .int (-Int32.ofInt x) from by rw [← Int32.ofInt_neg]; rfl] at this
    exact this
theorem ofI_eq {x : Int32} {y : Int} (h : x.toInt = y) : x = Int32.ofInt y := by rw [← h, Int32.ofInt_toInt]
theorem Wx.idiv (hC : Cmono C) {a b : Nat} {x y : Int} (ht : (pT M).find? (fun e => e.1 == pc) = some (pc, .idiv, a, b)) (hy : 0 < y) (H : Wx C S M K (pc + 1) L (.inl (x.tdiv y) :: st) mem) : Wx C S M K pc L (.inl y :: .inl x :: st) mem :=
  Wx.go hC ht fun h0 lv h h1 h2 h3 => by
    have hy1 := wi (h2 _ List.mem_cons_self)
    have hx1 := wi (h2 _ (List.mem_cons_of_mem _ List.mem_cons_self))
    have e := dv_toInt (x := Int32.ofInt x) (y := Int32.ofInt y) (by rw [hy1]; exact hy)
    rw [hx1, hy1] at e
    have hr : InI (x.tdiv y) := by rw [← e]; exact wiI _
    have := H h0 lv h h1 (stc hr (fun u hu => h2 u (List.mem_cons_of_mem _ (List.mem_cons_of_mem _ hu)))) h3
    rw [List.map_cons, show wv (.inl (x.tdiv y)) = .int (Int32.ofInt x / Int32.ofInt y) from by rw [ofI_eq e]; rfl] at this
    exact ⟨nz_of (by rw [hy1]; omega), this⟩
theorem Wx.irem (hC : Cmono C) {a b : Nat} {x y : Int} (ht : (pT M).find? (fun e => e.1 == pc) = some (pc, .irem, a, b)) (hy : 0 < y) (H : Wx C S M K (pc + 1) L (.inl (x.tmod y) :: st) mem) : Wx C S M K pc L (.inl y :: .inl x :: st) mem :=
  Wx.go hC ht fun h0 lv h h1 h2 h3 => by
    have hy1 := wi (h2 _ List.mem_cons_self)
    have hx1 := wi (h2 _ (List.mem_cons_of_mem _ List.mem_cons_self))
    have e := dv_toInt (x := Int32.ofInt x) (y := Int32.ofInt y) (by rw [hy1]; exact hy)
    rw [hx1, hy1] at e
    have e2 : Int32.ofInt x - Int32.ofInt x / Int32.ofInt y * Int32.ofInt y = Int32.ofInt (x.tmod y) := by
      rw [ofI_eq e, ← Int32.ofInt_mul, ← Int32.ofInt_sub, Int.tmod_def, Int.mul_comm]
    have hr : InI (x.tmod y) := by
      have a1 : InI y := h2 _ List.mem_cons_self
      have a2 : InI x := h2 _ (List.mem_cons_of_mem _ List.mem_cons_self)
      have l1 := Int.tmod_lt_of_pos x hy
      have l2 : -y < x.tmod y := by
        rcases Int.le_total 0 x with h | h
        · have := Int.tmod_nonneg y h; omega
        · have := Int.tmod_lt_of_pos (-x) hy
          rw [Int.neg_tmod] at this; omega
      unfold InI at a1 ⊢
      omega
    have := H h0 lv h h1 (stc hr (fun u hu => h2 u (List.mem_cons_of_mem _ (List.mem_cons_of_mem _ hu)))) h3
    rw [List.map_cons, show wv (.inl (x.tmod y)) = .int (Int32.ofInt x - Int32.ofInt x / Int32.ofInt y * Int32.ofInt y) from by rw [e2]; rfl] at this
    exact ⟨nz_of (by rw [hy1]; omega), this⟩
/-- bits: any number may come of it -/
theorem Wx.bits (hC : Cmono C) {ins : Instr} {a b : Nat} {x y : Int} {f : Int32 → Int32 → Int32} (ht : (pT M).find? (fun e => e.1 == pc) = some (pc, ins, a, b)) (hi : ∀ h0 lv r h, pmI C S M [] (QK h0 K) (Vx C S M [] (QK h0 K)) (pc, ins, a, b) lv (.int (Int32.ofInt y) :: .int (Int32.ofInt x) :: r) h 0 0 ↔ Vx C S M [] (QK h0 K) (pc + 1) lv (.int (f (Int32.ofInt x) (Int32.ofInt y)) :: r) h 0 0) (H : ∀ z, z = (f (Int32.ofInt x) (Int32.ofInt y)).toInt → InI z → Wx C S M K (pc + 1) L (.inl z :: st) mem) : Wx C S M K pc L (.inl y :: .inl x :: st) mem :=
  Wx.go hC ht fun h0 lv h h1 h2 h3 => by
    have := H _ rfl (wiI _) h0 lv h h1 (stc (wiI _) (fun u hu => h2 u (List.mem_cons_of_mem _ (List.mem_cons_of_mem _ hu)))) h3
    rw [List.map_cons, show wv (.inl (f (Int32.ofInt x) (Int32.ofInt y)).toInt) = .int (f (Int32.ofInt x) (Int32.ofInt y)) from by show Value.int (Int32.ofInt _) = _; rw [Int32.ofInt_toInt]] at this
    exact (hi h0 lv _ h).mpr this
theorem Wx.dup (hC : Cmono C) {a b : Nat} {v : WV} (ht : (pT M).find? (fun e => e.1 == pc) = some (pc, .dup, a, b)) (H : Wx C S M K (pc + 1) L (v :: v :: st) mem) : Wx C S M K pc L (v :: st) mem :=
  Wx.go hC ht fun h0 lv h h1 h2 h3 => ⟨wv v, st.map wv, rfl, wv_cat v, H h0 lv h h1 (stc (h2 _ List.mem_cons_self) h2) h3⟩
theorem Wx.dup2 (hC : Cmono C) {a b : Nat} {v w : WV} (ht : (pT M).find? (fun e => e.1 == pc) = some (pc, .dup2, a, b)) (H : Wx C S M K (pc + 1) L (v :: w :: v :: w :: st) mem) : Wx C S M K pc L (v :: w :: st) mem :=
  Wx.go hC ht fun h0 lv h h1 h2 h3 => ⟨wv v, wv w, st.map wv, rfl, wv_cat v, wv_cat w, H h0 lv h h1 (stc (h2 _ List.mem_cons_self) (stc (h2 _ (List.mem_cons_of_mem _ List.mem_cons_self)) h2)) h3⟩
theorem Wx.goto (hC : Cmono C) {a b t : Nat} {z : Int} (ht : (pT M).find? (fun e => e.1 == pc) = some (pc, .goto z, a, b)) (hz : (pc : Int) + z = t) (H : Wx C S M K t L st mem) : Wx C S M K pc L st mem :=
  Wx.go hC ht fun h0 lv h h1 h2 h3 => ⟨by show 0 ≤ (pc : Int) + z; omega, by
    show Vx C S M [] (QK h0 K) ((pc : Int) + z).toNat _ _ _ _ _
    rw [show ((pc : Int) + z).toNat = t by omega]; exact H h0 lv h h1 h2 h3⟩
theorem Wx.ifc (hC : Cmono C) {cc : ClassFile.Cond} {a b t : Nat} {z x : Int} (ht : (pT M).find? (fun e => e.1 == pc) = some (pc, .ifCond cc z, a, b)) (hz : (pc : Int) + z = t) (H1 : ccZ cc x 0 → Wx C S M K t L st mem) (H2 : ¬ ccZ cc x 0 → Wx C S M K (pc + 3) L st mem) : Wx C S M K pc L (.inl x :: st) mem :=
  Wx.go hC ht fun h0 lv h h1 h2 h3 => by
    have hx := wi (h2 _ List.mem_cons_self)
    have hst : ∀ u ∈ st, vOK u := fun u hu => h2 u (List.mem_cons_of_mem _ hu)
    have e : ccI cc (Int32.ofInt x) 0 ↔ ccZ cc x 0 := by rw [ccI_iff, hx]; exact Iff.rfl
    refine ⟨by show 0 ≤ (pc : Int) + z; omega, fun q => ?_, fun q => ?_⟩
    · show Vx C S M [] (QK h0 K) ((pc : Int) + z).toNat _ _ _ _ _
      rw [show ((pc : Int) + z).toNat = t by omega]; exact H1 (e.mp q) h0 lv h h1 hst h3
    · exact H2 (fun w => q (e.mpr w)) h0 lv h h1 hst h3
theorem Wx.icmp (hC : Cmono C) {cc : ClassFile.Cond} {a b t : Nat} {z x y : Int} (ht : (pT M).find? (fun e => e.1 == pc) = some (pc, .if_icmp cc z, a, b)) (hz : (pc : Int) + z = t) (H1 : ccZ cc x y → Wx C S M K t L st mem) (H2 : ¬ ccZ cc x y → Wx C S M K (pc + 3) L st mem) : Wx C S M K pc L (.inl y :: .inl x :: st) mem :=
  Wx.go hC ht fun h0 lv h h1 h2 h3 => by
    have hy := wi (h2 _ List.mem_cons_self)
    have hx := wi (h2 _ (List.mem_cons_of_mem _ List.mem_cons_self))
    have hst : ∀ u ∈ st, vOK u := fun u hu => h2 u (List.mem_cons_of_mem _ (List.mem_cons_of_mem _ hu))
    have e : ccI cc (Int32.ofInt x) (Int32.ofInt y) ↔ ccZ cc x y := by rw [ccI_iff, hx, hy]
    refine ⟨by show 0 ≤ (pc : Int) + z; omega, fun q => ?_, fun q => ?_⟩
    · show Vx C S M [] (QK h0 K) ((pc : Int) + z).toNat _ _ _ _ _
      rw [show ((pc : Int) + z).toNat = t by omega]; exact H1 (e.mp q) h0 lv h h1 hst h3
    · exact H2 (fun w => q (e.mpr w)) h0 lv h h1 hst h3
theorem clampN {i : Int} (h : InI i) (h0 : 0 ≤ i) : (Int32.ofInt i).toNatClampNeg = i.toNat := by
  rw [show (Int32.ofInt i).toNatClampNeg = (Int32.ofInt i).toInt.toNat from rfl, wi h]
theorem Wx.iald (hC : Cmono C) {a b A n : Nat} {i : Int} (ht : (pT M).find? (fun e => e.1 == pc) = some (pc, .iaload, a, b)) (hA : shA A = some (.inl n)) (hi : 0 ≤ i ∧ i < n) (H : ∀ v, v = mem A i.toNat → InI v → Wx C S M K (pc + 1) L (.inl v :: st) mem) : Wx C S M K pc L (.inl i :: .inr A :: st) mem :=
  Wx.go hC ht fun h0 lv h h1 h2 h3 => by
    obtain ⟨g, e1, e2⟩ := h3.row hA
    have hI : InI i := h2 _ List.mem_cons_self
    have hv : InI (mem A i.toNat) := h3.rowI hA _
    show p_iald S h (.int (Int32.ofInt i) :: .ref A :: st.map wv) fun st => Vx C S M [] (QK h0 K) (pc + 1) lv st h 0 0
    refine iald_mk e1 (vp_in_iff.mpr (by rw [wi hI]; exact hi)) ?_
    rw [clampN hI hi.1, show g i.toNat = Int32.ofInt (mem A i.toNat) from ofI_eq (e2 _).symm]
    exact H _ rfl hv h0 lv h h1 (stc hv (fun u hu => h2 u (List.mem_cons_of_mem _ (List.mem_cons_of_mem _ hu)))) h3
theorem Wx.iast (hC : Cmono C) {a b A n : Nat} {i x : Int} (ht : (pT M).find? (fun e => e.1 == pc) = some (pc, .iastore, a, b)) (hA : shA A = some (.inl n)) (hi : 0 ≤ i ∧ i < n) (H : Wx C S M K (pc + 1) L st (upm mem A i.toNat x)) : Wx C S M K pc L (.inl x :: .inl i :: .inr A :: st) mem :=
  Wx.go hC ht fun h0 lv h h1 h2 h3 => by
    obtain ⟨g, e1, e2⟩ := h3.row hA
    have hx : InI x := h2 _ List.mem_cons_self
    have hI : InI i := h2 _ (List.mem_cons_of_mem _ List.mem_cons_self)
    show p_iast h (.int (Int32.ofInt x) :: .int (Int32.ofInt i) :: .ref A :: st.map wv) fun st h => Vx C S M [] (QK h0 K) (pc + 1) lv st h 0 0
    refine iast_mk e1 (vp_in_iff.mpr (by rw [wi hI]; exact hi)) ?_
    have := h3.setRow (i := i.toNat) (x := Int32.ofInt x) hA e1
    rw [wi hx] at this
    rw [clampN hI hi.1]
    exact H h0 lv _ h1 (fun u hu => h2 u (List.mem_cons_of_mem _ (List.mem_cons_of_mem _ (List.mem_cons_of_mem _ hu)))) this
theorem Wx.getI (hC : Cmono C) {p A ci f : Nat} {fs : List (Option Nat)} (ht : (pT M).find? (fun e => e.1 == pc) = some (pc, .getfield p, ci, f)) (hA : shA A = some (.inr (ci, fs))) (hf : fs[f]? = some none) (hn : Nat.blt f (fnum ci) = true) (H : ∀ v, v = mem A f → InI v → Wx C S M K (pc + 3) L (.inl v :: st) mem) : Wx C S M K pc L (.inr A :: st) mem :=
  Wx.go hC ht fun h0 lv h h1 h2 h3 => by
    obtain ⟨gs, e1, -, e2⟩ := h3.obj hA
    have e3 := e2 f
    rw [hf] at e3
    obtain ⟨z, e4, e5⟩ := e3
    have hv : InI (mem A f) := h3.fldI hA hf
    show p_get h ci f (.ref A :: st.map wv) fun st => Vx C S M [] (QK h0 K) (pc + 3) lv st h 0 0
    refine get_mk (v := .int z) e1 (blt_iff.mp hn) e4 ?_
    rw [show z = Int32.ofInt (mem A f) from ofI_eq e5.symm]
    exact H _ rfl hv h0 lv h h1 (stc hv (fun u hu => h2 u (List.mem_cons_of_mem _ hu))) h3
theorem Wx.getR (hC : Cmono C) {p A B ci f : Nat} {fs : List (Option Nat)} (ht : (pT M).find? (fun e => e.1 == pc) = some (pc, .getfield p, ci, f)) (hA : shA A = some (.inr (ci, fs))) (hf : fs[f]? = some (some B)) (hn : Nat.blt f (fnum ci) = true) (H : Wx C S M K (pc + 3) L (.inr B :: st) mem) : Wx C S M K pc L (.inr A :: st) mem :=
  Wx.go hC ht fun h0 lv h h1 h2 h3 => by
    obtain ⟨gs, e1, -, e2⟩ := h3.obj hA
    have e3 := e2 f
    rw [hf] at e3
    show p_get h ci f (.ref A :: st.map wv) fun st => Vx C S M [] (QK h0 K) (pc + 3) lv st h 0 0
    exact get_mk (v := .ref B) e1 (blt_iff.mp hn) e3 (H h0 lv h h1 (stc trivial (fun u hu => h2 u (List.mem_cons_of_mem _ hu))) h3)
theorem Wx.putI (hC : Cmono C) {p A ci f : Nat} {fs : List (Option Nat)} {x : Int} (ht : (pT M).find? (fun e => e.1 == pc) = some (pc, .putfield p, ci, f)) (hA : shA A = some (.inr (ci, fs))) (hf : fs[f]? = some none) (hn : Nat.blt f (fnum ci) = true) (hy : ftyX ci f = .int) (H : Wx C S M K (pc + 3) L st (upm mem A f x)) : Wx C S M K pc L (.inl x :: .inr A :: st) mem :=
  Wx.go hC ht fun h0 lv h h1 h2 h3 => by
    obtain ⟨gs, e1, e0, e2⟩ := h3.obj hA
    have hx : InI x := h2 _ List.mem_cons_self
    have hfl : f < gs.length := by rw [e0]; exact (List.getElem?_eq_some_iff.mp hf).1
    show p_put h ci f (.int (Int32.ofInt x) :: .ref A :: st.map wv) fun st h => Vx C S M [] (QK h0 K) (pc + 3) lv st h 0 0
    refine put_mk e1 (blt_iff.mp hn) hfl (by rw [hy]; rfl) (by rw [hy]; rfl) ?_
    have := h3.setObj (x := Int32.ofInt x) hA hf e1
    rw [wi hx] at this
    exact H h0 lv _ h1 (fun u hu => h2 u (List.mem_cons_of_mem _ (List.mem_cons_of_mem _ hu))) this
/-! ends -/
theorem Wx.ireturn (hC : Cmono C) {a b : Nat} {x : Int} (ht : (pT M).find? (fun e => e.1 == pc) = some (pc, .ireturn, a, b)) (hR : pR M = some .int) (H : InI x → K (some x) mem) : Wx C S M K pc L [.inl x] mem :=
  Wx.go hC ht fun h0 lv h h1 h2 h3 => ⟨_, rfl, ⟨_, hR, rfl⟩, some x, mem, rfl, fun y hy => by cases hy; exact h2 _ List.mem_cons_self, h3, H (h2 _ List.mem_cons_self)⟩
theorem Wx.bret (hC : Cmono C) {a b : Nat} {x : Int} (ht : (pT M).find? (fun e => e.1 == pc) = some (pc, .ireturn, a, b)) (hR : pR M = some .boolean) (hx : x = 0 ∨ x = 1) (H : K (some x) mem) : Wx C S M K pc L [.inl x] mem :=
  Wx.go hC ht fun h0 lv h h1 h2 h3 => ⟨_, rfl, ⟨_, hR, by rcases hx with rfl | rfl <;> rfl⟩, some x, mem, rfl, fun y hy => by cases hy; exact h2 _ List.mem_cons_self, h3, H⟩
theorem Wx.vret (hC : Cmono C) {a b : Nat} (ht : (pT M).find? (fun e => e.1 == pc) = some (pc, .return_, a, b)) (hR : pR M = none) (H : K none mem) : Wx C S M K pc L [] mem :=
  Wx.go hC ht fun h0 lv h h1 h2 h3 => ⟨rfl, hR, none, mem, rfl, (fun y hy => by cases hy), h3, H⟩
/-! calls -/
theorem cats1 : ∀ (l : List WV), ((l.map wv).map Value.category).sum = l.length
  | [] => rfl
  | v :: l => by rw [List.map_cons, List.map_cons, List.sum_cons, wv_cat, cats1 l, List.length_cons]; omega
theorem Wx.call (hC : Cmono C) {N : PM} {μ : Nat} {virt : Bool} {args rest : List WV} (hN : MT[μ]? = some N) (hl : args.length = pN N) (hr : Nat.ble rest.length 8 = true) (hc : pC N = 0) (hs : pS N = 0) (hv : virt = true → ∃ A ci fs, args[0]? = some (.inr A) ∧ shA A = some (.inr (ci, fs)) ∧ ci = pO N) {K2 : WK} (H : CW C μ args mem K2) (Hk : ∀ r m, K2 r m → (∀ y, r = some y → InI y) → Wx C S M K (pc + 3) L ((r.map Sum.inl).toList ++ rest) m) {h0 : PH} {lv : LV} {h : PH} (h1 : LkW lv L) (h2 : ∀ v ∈ args.reverse ++ rest, vOK v) (h3 : RH h0 h mem) : p_call C M [] (QK h0 K) (Vx C S M [] (QK h0 K)) pc μ virt lv ((args.reverse ++ rest).map wv) h 0 0 := by
  unfold p_call
  rw [hN]
  have el : (args.reverse.map wv).length = pN N := by simp [hl]
  have e1 : ((args.reverse ++ rest).map wv).take (pN N) = args.reverse.map wv := by rw [List.map_append, ← el, List.take_left]
  have e2 : ((args.reverse ++ rest).map wv).drop (pN N) = rest.map wv := by rw [List.map_append, ← el, List.drop_left]
  simp only [e1, e2]
  refine ⟨by simp [hl], by rw [cats1]; exact Nat.le_of_ble_eq_true hr, by omega, by omega, ?_, ?_⟩
  · intro q
    obtain ⟨A, ci, fs, g1, g2, g3⟩ := hv q
    obtain ⟨gs, g4, -⟩ := h3.obj g2
    refine ⟨A, gs, ?_, by rw [← g3]; exact g4⟩
    rw [List.getLast?_eq_head?_reverse, ← List.map_reverse, List.reverse_reverse, List.head?_eq_getElem?, List.getElem?_map, g1]
    rfl
  · rw [← List.map_reverse, List.reverse_reverse]
    refine hC _ _ _ _ _ ?_ (H (fun v hv => h2 v (List.mem_append_left _ (List.mem_reverse.mpr hv))) h0 h h3)
    rintro r h' ⟨x, m, rfl, k2, k3, k4⟩
    show Vx C S M [] (QK h0 K) (pc + 3) lv _ h' (0 + pC N) (0 + pS N)
    rw [hc, hs]
    have := Hk x m k4 k2 h0 lv h' h1 (fun u hu => ?_) k3
    · cases x with
      | none => exact this
      | some y => exact this
    · rcases List.mem_append.mp hu with hu | hu
      · cases x with
        | none => cases hu
        | some y =>
          have : u = .inl y := by simpa using hu
          subst this
          exact k2 y rfl
      · exact h2 u (List.mem_append_right _ hu)
theorem Wx.virtI (hC : Cmono C) {p μ b ci A : Nat} {N : PM} {args rest : List WV} {fs : List (Option Nat)} (ht : (pT M).find? (fun e => e.1 == pc) = some (pc, .invokevirtual p, μ, b)) (hN : MT[μ]? = some N) (hst : st = args.reverse ++ rest) (hl : args.length = pN N) (hr : Nat.ble rest.length 8 = true) (hc : pC N = 0) (hs : pS N = 0) (ha : args[0]? = some (.inr A)) (hA : shA A = some (.inr (ci, fs))) (ho : ci = pO N) (H : CWI C μ args mem fun y m => InI y → Wx C S M K (pc + 3) L (.inl y :: rest) m) : Wx C S M K pc L st mem := by
  subst hst
  exact Wx.go hC ht fun h0 lv h h1 h2 h3 => Wx.call hC hN hl hr hc hs (fun _ => ⟨A, ci, fs, ha, hA, ho⟩) H (fun r m ⟨y, e, q⟩ hy => by subst e; exact q (hy y rfl)) h1 h2 h3
theorem Wx.virtV (hC : Cmono C) {p μ b ci A : Nat} {N : PM} {args rest : List WV} {fs : List (Option Nat)} (ht : (pT M).find? (fun e => e.1 == pc) = some (pc, .invokevirtual p, μ, b)) (hN : MT[μ]? = some N) (hst : st = args.reverse ++ rest) (hl : args.length = pN N) (hr : Nat.ble rest.length 8 = true) (hc : pC N = 0) (hs : pS N = 0) (ha : args[0]? = some (.inr A)) (hA : shA A = some (.inr (ci, fs))) (ho : ci = pO N) (H : CWV C μ args mem fun m => Wx C S M K (pc + 3) L rest m) : Wx C S M K pc L st mem := by
  subst hst
  exact Wx.go hC ht fun h0 lv h h1 h2 h3 => Wx.call hC hN hl hr hc hs (fun _ => ⟨A, ci, fs, ha, hA, ho⟩) H (fun r m ⟨e, q⟩ _ => by subst e; exact q) h1 h2 h3
theorem Wx.statI (hC : Cmono C) {p μ b : Nat} {N : PM} {args rest : List WV} (ht : (pT M).find? (fun e => e.1 == pc) = some (pc, .invokestatic p, μ, b)) (hb : b ≠ 7) (hN : MT[μ]? = some N) (hst : st = args.reverse ++ rest) (hl : args.length = pN N) (hr : Nat.ble rest.length 8 = true) (hc : pC N = 0) (hs : pS N = 0) (H : CWI C μ args mem fun y m => InI y → Wx C S M K (pc + 3) L (.inl y :: rest) m) : Wx C S M K pc L st mem := by
  subst hst
  exact Wx.go hC ht fun h0 lv h h1 h2 h3 => Or.inr ⟨hb, Wx.call hC hN hl hr hc hs (fun q => by cases q) H (fun r m ⟨y, e, q⟩ hy => by subst e; exact q (hy y rfl)) h1 h2 h3⟩
end WX
/-- fewer locals known -/
def subL : List (Option WV) → List (Option WV) → Prop
  | [], _ => True
  | none :: a, _ :: c => subL a c
  | some v :: a, w :: c => w = some v ∧ subL a c
  | none :: a, [] => subL a []
  | some _ :: _, [] => False
theorem subL.at : ∀ {a b : List (Option WV)} {i : Nat} {v : WV}, subL a b → a[i]? = some (some v) → b[i]? = some (some v)
  | [], _, i, v, _, h => by simp at h
  | none :: a, _ :: c, 0, v, _, h => by simp at h
  | none :: a, _ :: c, i + 1, v, H, h => by simpa using subL.at (a := a) (b := c) (i := i) H (by simpa using h)
  | some u :: a, w :: c, 0, v, H, h => by
    have e : u = v := by simpa using h
    subst e
    simpa using H.1
  | some u :: a, w :: c, i + 1, v, H, h => by simpa using subL.at (a := a) (b := c) (i := i) H.2 (by simpa using h)
  | none :: a, [], 0, v, _, h => by simp at h
  | none :: a, [], i + 1, v, H, h => by have := subL.at (a := a) (b := []) (i := i) H (by simpa using h); simp at this
  | some _ :: _, [], i, v, H, h => H.elim
theorem Wx.weak {C : CXW} {S : Nat × (Nat → Int32)} {M : PM} {K : WK} {pc : Nat} {L' L : List (Option WV)} {st : List WV} {mem : MM} (h : subL L' L) (H : Wx C S M K pc L' st mem) : Wx C S M K pc L st mem := fun h0 lv hh h1 h2 h3 => H h0 lv hh (fun i v hv => h1 i v (h.at hv)) h2 h3
/-- a method by hand -/
theorem CW.of {S : Nat × (Nat → Int32)} {n μ : Nat} {M : PM} {args : List WV} {mem : MM} {K : WK} (hM : MT[μ]? = some M) (hk : (pK M == 3) = false) (hl : Nat.ble args.length (pL M) = true) {k : Nat} (H : Wx (Ex S n) S M K 0 (args.map some ++ List.replicate k none) [] mem) : CW (Ex S (n + 1)) μ args mem K := by
  intro ha h0 h hh
  refine ⟨M, hM, by rw [cats1]; exact Nat.le_of_ble_eq_true hl, ?_⟩
  rw [if_neg (by simpa using hk)]
  refine H h0 _ h ?_ (fun v hv => by cases hv) hh
  intro i v hv
  have hv : (args.map some)[i]? = some (some v) := by
    rw [List.getElem?_append] at hv
    split at hv
    · exact hv
    · rw [List.getElem?_replicate] at hv
      split at hv <;> cases hv
  rw [List.getElem?_map] at hv
  cases hv2 : args[i]? with
  | none => rw [hv2] at hv; cases hv
  | some u =>
    rw [hv2] at hv
    have hv : u = v := by cases hv; rfl
    subst hv
    refine ⟨?_, ha _ (List.mem_of_getElem? hv2)⟩
    have := pg_args (l := args.map wv) (k := 0) (i := i) (w := wv u) (fun w hw => by obtain ⟨z, -, rfl⟩ := List.mem_map.mp hw; exact wv_cat z) (by rw [List.getElem?_map, hv2]; rfl)
    rwa [Nat.zero_add] at this
/-! laid by wip/hand/wxg.py: leaves: what the paths of methods ask for -/
set_option maxRecDepth 100000 in
theorem mt_227 : MT[227]? = some M_227 := rfl
set_option maxRecDepth 100000 in
theorem mt_241 : MT[241]? = some M_241 := rfl
set_option maxRecDepth 100000 in
theorem mt_242 : MT[242]? = some M_242 := rfl
set_option maxRecDepth 100000 in
theorem mt_243 : MT[243]? = some M_243 := rfl
set_option maxRecDepth 100000 in
theorem mt_246 : MT[246]? = some M_246 := rfl
set_option maxRecDepth 100000 in
theorem mt_248 : MT[248]? = some M_248 := rfl
set_option maxRecDepth 100000 in
theorem mt_249 : MT[249]? = some M_249 := rfl
set_option maxRecDepth 100000 in
theorem mt_250 : MT[250]? = some M_250 := rfl
set_option maxRecDepth 100000 in
theorem mt_251 : MT[251]? = some M_251 := rfl
set_option maxRecDepth 100000 in
theorem mt_257 : MT[257]? = some M_257 := rfl
set_option maxRecDepth 100000 in
theorem mt_258 : MT[258]? = some M_258 := rfl
set_option maxRecDepth 100000 in
theorem mt_264 : MT[264]? = some M_264 := rfl
set_option maxRecDepth 100000 in
theorem mt_265 : MT[265]? = some M_265 := rfl
set_option maxRecDepth 100000 in
theorem mt_272 : MT[272]? = some M_272 := rfl
set_option maxRecDepth 100000 in
theorem mt_275 : MT[275]? = some M_275 := rfl
set_option maxRecDepth 100000 in
theorem mt_299 : MT[299]? = some M_299 := rfl
set_option maxRecDepth 100000 in
theorem mt_319 : MT[319]? = some M_319 := rfl
theorem te_227_0 : (pT M_227).find? (fun e => e.1 == 0) = some (0, .iload_n 0, 0, 0) := rfl
theorem te_227_1 : (pT M_227).find? (fun e => e.1 == 1) = some (1, .iload_n 1, 0, 0) := rfl
theorem te_227_2 : (pT M_227).find? (fun e => e.1 == 2) = some (2, .if_icmp .lt 12, 0, 0) := rfl
theorem te_227_5 : (pT M_227).find? (fun e => e.1 == 5) = some (5, .iload_n 0, 0, 0) := rfl
theorem te_227_6 : (pT M_227).find? (fun e => e.1 == 6) = some (6, .iload_n 2, 0, 0) := rfl
theorem te_227_7 : (pT M_227).find? (fun e => e.1 == 7) = some (7, .if_icmp .gt 7, 0, 0) := rfl
theorem te_227_10 : (pT M_227).find? (fun e => e.1 == 10) = some (10, .iconst 1, 0, 0) := rfl
theorem te_227_11 : (pT M_227).find? (fun e => e.1 == 11) = some (11, .goto 4, 0, 0) := rfl
theorem te_227_14 : (pT M_227).find? (fun e => e.1 == 14) = some (14, .iconst 0, 0, 0) := rfl
theorem te_227_15 : (pT M_227).find? (fun e => e.1 == 15) = some (15, .ireturn, 0, 0) := rfl
theorem te_241_0 : (pT M_241).find? (fun e => e.1 == 0) = some (0, .aload_n 0, 0, 0) := rfl
theorem te_241_1 : (pT M_241).find? (fun e => e.1 == 1) = some (1, .getfield 7, 10, 2) := rfl
theorem te_241_4 : (pT M_241).find? (fun e => e.1 == 4) = some (4, .iload_n 1, 0, 0) := rfl
theorem te_241_5 : (pT M_241).find? (fun e => e.1 == 5) = some (5, .iaload, 0, 0) := rfl
theorem te_241_6 : (pT M_241).find? (fun e => e.1 == 6) = some (6, .iconst 4, 0, 0) := rfl
theorem te_241_7 : (pT M_241).find? (fun e => e.1 == 7) = some (7, .if_icmp .ne 7, 0, 0) := rfl
theorem te_241_10 : (pT M_241).find? (fun e => e.1 == 10) = some (10, .iconst 0, 0, 0) := rfl
theorem te_241_11 : (pT M_241).find? (fun e => e.1 == 11) = some (11, .goto 18, 0, 0) := rfl
theorem te_241_14 : (pT M_241).find? (fun e => e.1 == 14) = some (14, .aload_n 0, 0, 0) := rfl
theorem te_241_15 : (pT M_241).find? (fun e => e.1 == 15) = some (15, .getfield 7, 10, 2) := rfl
theorem te_241_18 : (pT M_241).find? (fun e => e.1 == 18) = some (18, .iload_n 1, 0, 0) := rfl
theorem te_241_19 : (pT M_241).find? (fun e => e.1 == 19) = some (19, .iaload, 0, 0) := rfl
theorem te_241_20 : (pT M_241).find? (fun e => e.1 == 20) = some (20, .iconst 5, 0, 0) := rfl
theorem te_241_21 : (pT M_241).find? (fun e => e.1 == 21) = some (21, .if_icmp .ne 7, 0, 0) := rfl
theorem te_241_24 : (pT M_241).find? (fun e => e.1 == 24) = some (24, .iconst 1, 0, 0) := rfl
theorem te_241_25 : (pT M_241).find? (fun e => e.1 == 25) = some (25, .goto 4, 0, 0) := rfl
theorem te_241_28 : (pT M_241).find? (fun e => e.1 == 28) = some (28, .iconst 2, 0, 0) := rfl
theorem te_241_29 : (pT M_241).find? (fun e => e.1 == 29) = some (29, .ireturn, 0, 0) := rfl
theorem te_242_0 : (pT M_242).find? (fun e => e.1 == 0) = some (0, .iload_n 2, 0, 0) := rfl
theorem te_242_1 : (pT M_242).find? (fun e => e.1 == 1) = some (1, .ifCond .ne 12, 0, 0) := rfl
theorem te_242_4 : (pT M_242).find? (fun e => e.1 == 4) = some (4, .aload_n 0, 0, 0) := rfl
theorem te_242_5 : (pT M_242).find? (fun e => e.1 == 5) = some (5, .getfield 13, 10, 3) := rfl
theorem te_242_8 : (pT M_242).find? (fun e => e.1 == 8) = some (8, .iload_n 1, 0, 0) := rfl
theorem te_242_9 : (pT M_242).find? (fun e => e.1 == 9) = some (9, .iaload, 0, 0) := rfl
theorem te_242_10 : (pT M_242).find? (fun e => e.1 == 10) = some (10, .goto 9, 0, 0) := rfl
theorem te_242_13 : (pT M_242).find? (fun e => e.1 == 13) = some (13, .aload_n 0, 0, 0) := rfl
theorem te_242_14 : (pT M_242).find? (fun e => e.1 == 14) = some (14, .getfield 19, 10, 5) := rfl
theorem te_242_17 : (pT M_242).find? (fun e => e.1 == 17) = some (17, .iload_n 1, 0, 0) := rfl
theorem te_242_18 : (pT M_242).find? (fun e => e.1 == 18) = some (18, .iaload, 0, 0) := rfl
theorem te_242_19 : (pT M_242).find? (fun e => e.1 == 19) = some (19, .ireturn, 0, 0) := rfl
theorem te_243_0 : (pT M_243).find? (fun e => e.1 == 0) = some (0, .iload_n 2, 0, 0) := rfl
theorem te_243_1 : (pT M_243).find? (fun e => e.1 == 1) = some (1, .ifCond .ne 12, 0, 0) := rfl
theorem te_243_4 : (pT M_243).find? (fun e => e.1 == 4) = some (4, .aload_n 0, 0, 0) := rfl
theorem te_243_5 : (pT M_243).find? (fun e => e.1 == 5) = some (5, .getfield 16, 10, 4) := rfl
theorem te_243_8 : (pT M_243).find? (fun e => e.1 == 8) = some (8, .iload_n 1, 0, 0) := rfl
theorem te_243_9 : (pT M_243).find? (fun e => e.1 == 9) = some (9, .iaload, 0, 0) := rfl
theorem te_243_10 : (pT M_243).find? (fun e => e.1 == 10) = some (10, .goto 9, 0, 0) := rfl
theorem te_243_13 : (pT M_243).find? (fun e => e.1 == 13) = some (13, .aload_n 0, 0, 0) := rfl
theorem te_243_14 : (pT M_243).find? (fun e => e.1 == 14) = some (14, .getfield 22, 10, 6) := rfl
theorem te_243_17 : (pT M_243).find? (fun e => e.1 == 17) = some (17, .iload_n 1, 0, 0) := rfl
theorem te_243_18 : (pT M_243).find? (fun e => e.1 == 18) = some (18, .iaload, 0, 0) := rfl
theorem te_243_19 : (pT M_243).find? (fun e => e.1 == 19) = some (19, .ireturn, 0, 0) := rfl
theorem te_246_0 : (pT M_246).find? (fun e => e.1 == 0) = some (0, .aload_n 0, 0, 0) := rfl
theorem te_246_1 : (pT M_246).find? (fun e => e.1 == 1) = some (1, .getfield 31, 10, 9) := rfl
theorem te_246_4 : (pT M_246).find? (fun e => e.1 == 4) = some (4, .aload_n 0, 0, 0) := rfl
theorem te_246_5 : (pT M_246).find? (fun e => e.1 == 5) = some (5, .getfield 7, 10, 2) := rfl
theorem te_246_8 : (pT M_246).find? (fun e => e.1 == 8) = some (8, .iload_n 1, 0, 0) := rfl
theorem te_246_9 : (pT M_246).find? (fun e => e.1 == 9) = some (9, .iaload, 0, 0) := rfl
theorem te_246_10 : (pT M_246).find? (fun e => e.1 == 10) = some (10, .iaload, 0, 0) := rfl
theorem te_246_11 : (pT M_246).find? (fun e => e.1 == 11) = some (11, .ireturn, 0, 0) := rfl
theorem te_248_0 : (pT M_248).find? (fun e => e.1 == 0) = some (0, .aload_n 0, 0, 0) := rfl
theorem te_248_1 : (pT M_248).find? (fun e => e.1 == 1) = some (1, .getfield 40, 10, 13) := rfl
theorem te_248_4 : (pT M_248).find? (fun e => e.1 == 4) = some (4, .iload_n 1, 0, 0) := rfl
theorem te_248_5 : (pT M_248).find? (fun e => e.1 == 5) = some (5, .iaload, 0, 0) := rfl
theorem te_248_6 : (pT M_248).find? (fun e => e.1 == 6) = some (6, .iload_n 2, 0, 0) := rfl
theorem te_248_7 : (pT M_248).find? (fun e => e.1 == 7) = some (7, .if_icmp .eq 19, 0, 0) := rfl
theorem te_248_10 : (pT M_248).find? (fun e => e.1 == 10) = some (10, .aload_n 0, 0, 0) := rfl
theorem te_248_11 : (pT M_248).find? (fun e => e.1 == 11) = some (11, .getfield 40, 10, 13) := rfl
theorem te_248_14 : (pT M_248).find? (fun e => e.1 == 14) = some (14, .iload_n 1, 0, 0) := rfl
theorem te_248_15 : (pT M_248).find? (fun e => e.1 == 15) = some (15, .iaload, 0, 0) := rfl
theorem te_248_16 : (pT M_248).find? (fun e => e.1 == 16) = some (16, .iload_n 2, 0, 0) := rfl
theorem te_248_17 : (pT M_248).find? (fun e => e.1 == 17) = some (17, .if_icmp .le 7, 0, 0) := rfl
theorem te_248_20 : (pT M_248).find? (fun e => e.1 == 20) = some (20, .iconst 1, 0, 0) := rfl
theorem te_248_21 : (pT M_248).find? (fun e => e.1 == 21) = some (21, .goto 4, 0, 0) := rfl
theorem te_248_24 : (pT M_248).find? (fun e => e.1 == 24) = some (24, .iconst 0, 0, 0) := rfl
theorem te_248_25 : (pT M_248).find? (fun e => e.1 == 25) = some (25, .ireturn, 0, 0) := rfl
theorem te_248_26 : (pT M_248).find? (fun e => e.1 == 26) = some (26, .aload_n 0, 0, 0) := rfl
theorem te_248_27 : (pT M_248).find? (fun e => e.1 == 27) = some (27, .getfield 43, 10, 14) := rfl
theorem te_248_30 : (pT M_248).find? (fun e => e.1 == 30) = some (30, .iload_n 1, 0, 0) := rfl
theorem te_248_31 : (pT M_248).find? (fun e => e.1 == 31) = some (31, .iaload, 0, 0) := rfl
theorem te_248_32 : (pT M_248).find? (fun e => e.1 == 32) = some (32, .iload_n 3, 0, 0) := rfl
theorem te_248_33 : (pT M_248).find? (fun e => e.1 == 33) = some (33, .if_icmp .eq 19, 0, 0) := rfl
theorem te_248_36 : (pT M_248).find? (fun e => e.1 == 36) = some (36, .aload_n 0, 0, 0) := rfl
theorem te_248_37 : (pT M_248).find? (fun e => e.1 == 37) = some (37, .getfield 43, 10, 14) := rfl
theorem te_248_40 : (pT M_248).find? (fun e => e.1 == 40) = some (40, .iload_n 1, 0, 0) := rfl
theorem te_248_41 : (pT M_248).find? (fun e => e.1 == 41) = some (41, .iaload, 0, 0) := rfl
theorem te_248_42 : (pT M_248).find? (fun e => e.1 == 42) = some (42, .iload_n 3, 0, 0) := rfl
theorem te_248_43 : (pT M_248).find? (fun e => e.1 == 43) = some (43, .if_icmp .le 7, 0, 0) := rfl
theorem te_248_46 : (pT M_248).find? (fun e => e.1 == 46) = some (46, .iconst 1, 0, 0) := rfl
theorem te_248_47 : (pT M_248).find? (fun e => e.1 == 47) = some (47, .goto 4, 0, 0) := rfl
theorem te_248_50 : (pT M_248).find? (fun e => e.1 == 50) = some (50, .iconst 0, 0, 0) := rfl
theorem te_248_51 : (pT M_248).find? (fun e => e.1 == 51) = some (51, .ireturn, 0, 0) := rfl
theorem te_248_52 : (pT M_248).find? (fun e => e.1 == 52) = some (52, .aload_n 0, 0, 0) := rfl
theorem te_248_53 : (pT M_248).find? (fun e => e.1 == 53) = some (53, .getfield 46, 10, 15) := rfl
theorem te_248_56 : (pT M_248).find? (fun e => e.1 == 56) = some (56, .iload_n 1, 0, 0) := rfl
theorem te_248_57 : (pT M_248).find? (fun e => e.1 == 57) = some (57, .iaload, 0, 0) := rfl
theorem te_248_58 : (pT M_248).find? (fun e => e.1 == 58) = some (58, .iload 4, 0, 0) := rfl
theorem te_248_60 : (pT M_248).find? (fun e => e.1 == 60) = some (60, .if_icmp .eq 22, 0, 0) := rfl
theorem te_248_63 : (pT M_248).find? (fun e => e.1 == 63) = some (63, .aload_n 0, 0, 0) := rfl
theorem te_248_64 : (pT M_248).find? (fun e => e.1 == 64) = some (64, .getfield 46, 10, 15) := rfl
theorem te_248_67 : (pT M_248).find? (fun e => e.1 == 67) = some (67, .iload_n 1, 0, 0) := rfl
theorem te_248_68 : (pT M_248).find? (fun e => e.1 == 68) = some (68, .iaload, 0, 0) := rfl
theorem te_248_69 : (pT M_248).find? (fun e => e.1 == 69) = some (69, .iload 4, 0, 0) := rfl
theorem te_248_71 : (pT M_248).find? (fun e => e.1 == 71) = some (71, .if_icmp .le 7, 0, 0) := rfl
theorem te_248_74 : (pT M_248).find? (fun e => e.1 == 74) = some (74, .iconst 1, 0, 0) := rfl
theorem te_248_75 : (pT M_248).find? (fun e => e.1 == 75) = some (75, .goto 23, 0, 0) := rfl
theorem te_248_78 : (pT M_248).find? (fun e => e.1 == 78) = some (78, .iconst 0, 0, 0) := rfl
theorem te_248_79 : (pT M_248).find? (fun e => e.1 == 79) = some (79, .goto 19, 0, 0) := rfl
theorem te_248_82 : (pT M_248).find? (fun e => e.1 == 82) = some (82, .aload_n 0, 0, 0) := rfl
theorem te_248_83 : (pT M_248).find? (fun e => e.1 == 83) = some (83, .getfield 49, 10, 16) := rfl
theorem te_248_86 : (pT M_248).find? (fun e => e.1 == 86) = some (86, .iload_n 1, 0, 0) := rfl
theorem te_248_87 : (pT M_248).find? (fun e => e.1 == 87) = some (87, .iaload, 0, 0) := rfl
theorem te_248_88 : (pT M_248).find? (fun e => e.1 == 88) = some (88, .iload 5, 0, 0) := rfl
theorem te_248_90 : (pT M_248).find? (fun e => e.1 == 90) = some (90, .if_icmp .le 7, 0, 0) := rfl
theorem te_248_93 : (pT M_248).find? (fun e => e.1 == 93) = some (93, .iconst 1, 0, 0) := rfl
theorem te_248_94 : (pT M_248).find? (fun e => e.1 == 94) = some (94, .goto 4, 0, 0) := rfl
theorem te_248_97 : (pT M_248).find? (fun e => e.1 == 97) = some (97, .iconst 0, 0, 0) := rfl
theorem te_248_98 : (pT M_248).find? (fun e => e.1 == 98) = some (98, .ireturn, 0, 0) := rfl
theorem te_249_0 : (pT M_249).find? (fun e => e.1 == 0) = some (0, .aload_n 0, 0, 0) := rfl
theorem te_249_1 : (pT M_249).find? (fun e => e.1 == 1) = some (1, .getfield 7, 10, 2) := rfl
theorem te_249_4 : (pT M_249).find? (fun e => e.1 == 4) = some (4, .iload_n 1, 0, 0) := rfl
theorem te_249_5 : (pT M_249).find? (fun e => e.1 == 5) = some (5, .iaload, 0, 0) := rfl
theorem te_249_6 : (pT M_249).find? (fun e => e.1 == 6) = some (6, .iconst 4, 0, 0) := rfl
theorem te_249_7 : (pT M_249).find? (fun e => e.1 == 7) = some (7, .if_icmp .eq 13, 0, 0) := rfl
theorem te_249_10 : (pT M_249).find? (fun e => e.1 == 10) = some (10, .aload_n 0, 0, 0) := rfl
theorem te_249_11 : (pT M_249).find? (fun e => e.1 == 11) = some (11, .getfield 7, 10, 2) := rfl
theorem te_249_14 : (pT M_249).find? (fun e => e.1 == 14) = some (14, .iload_n 1, 0, 0) := rfl
theorem te_249_15 : (pT M_249).find? (fun e => e.1 == 15) = some (15, .iaload, 0, 0) := rfl
theorem te_249_16 : (pT M_249).find? (fun e => e.1 == 16) = some (16, .iconst 5, 0, 0) := rfl
theorem te_249_17 : (pT M_249).find? (fun e => e.1 == 17) = some (17, .if_icmp .ne 7, 0, 0) := rfl
theorem te_249_20 : (pT M_249).find? (fun e => e.1 == 20) = some (20, .iconst 1, 0, 0) := rfl
theorem te_249_21 : (pT M_249).find? (fun e => e.1 == 21) = some (21, .goto 4, 0, 0) := rfl
theorem te_249_24 : (pT M_249).find? (fun e => e.1 == 24) = some (24, .iconst 0, 0, 0) := rfl
theorem te_249_25 : (pT M_249).find? (fun e => e.1 == 25) = some (25, .ireturn, 0, 0) := rfl
theorem te_250_0 : (pT M_250).find? (fun e => e.1 == 0) = some (0, .aload_n 0, 0, 0) := rfl
theorem te_250_1 : (pT M_250).find? (fun e => e.1 == 1) = some (1, .getfield 7, 10, 2) := rfl
theorem te_250_4 : (pT M_250).find? (fun e => e.1 == 4) = some (4, .iload_n 1, 0, 0) := rfl
theorem te_250_5 : (pT M_250).find? (fun e => e.1 == 5) = some (5, .iaload, 0, 0) := rfl
theorem te_250_6 : (pT M_250).find? (fun e => e.1 == 6) = some (6, .iconst 4, 0, 0) := rfl
theorem te_250_7 : (pT M_250).find? (fun e => e.1 == 7) = some (7, .if_icmp .ne 12, 0, 0) := rfl
theorem te_250_10 : (pT M_250).find? (fun e => e.1 == 10) = some (10, .aload_n 0, 0, 0) := rfl
theorem te_250_11 : (pT M_250).find? (fun e => e.1 == 11) = some (11, .getfield 13, 10, 3) := rfl
theorem te_250_14 : (pT M_250).find? (fun e => e.1 == 14) = some (14, .iload_n 1, 0, 0) := rfl
theorem te_250_15 : (pT M_250).find? (fun e => e.1 == 15) = some (15, .iaload, 0, 0) := rfl
theorem te_250_16 : (pT M_250).find? (fun e => e.1 == 16) = some (16, .goto 9, 0, 0) := rfl
theorem te_250_19 : (pT M_250).find? (fun e => e.1 == 19) = some (19, .aload_n 0, 0, 0) := rfl
theorem te_250_20 : (pT M_250).find? (fun e => e.1 == 20) = some (20, .getfield 19, 10, 5) := rfl
theorem te_250_23 : (pT M_250).find? (fun e => e.1 == 23) = some (23, .iload_n 1, 0, 0) := rfl
theorem te_250_24 : (pT M_250).find? (fun e => e.1 == 24) = some (24, .iaload, 0, 0) := rfl
theorem te_250_25 : (pT M_250).find? (fun e => e.1 == 25) = some (25, .ireturn, 0, 0) := rfl
theorem te_251_0 : (pT M_251).find? (fun e => e.1 == 0) = some (0, .aload_n 0, 0, 0) := rfl
theorem te_251_1 : (pT M_251).find? (fun e => e.1 == 1) = some (1, .getfield 7, 10, 2) := rfl
theorem te_251_4 : (pT M_251).find? (fun e => e.1 == 4) = some (4, .iload_n 1, 0, 0) := rfl
theorem te_251_5 : (pT M_251).find? (fun e => e.1 == 5) = some (5, .iaload, 0, 0) := rfl
theorem te_251_6 : (pT M_251).find? (fun e => e.1 == 6) = some (6, .iconst 4, 0, 0) := rfl
theorem te_251_7 : (pT M_251).find? (fun e => e.1 == 7) = some (7, .if_icmp .ne 12, 0, 0) := rfl
theorem te_251_10 : (pT M_251).find? (fun e => e.1 == 10) = some (10, .aload_n 0, 0, 0) := rfl
theorem te_251_11 : (pT M_251).find? (fun e => e.1 == 11) = some (11, .getfield 16, 10, 4) := rfl
theorem te_251_14 : (pT M_251).find? (fun e => e.1 == 14) = some (14, .iload_n 1, 0, 0) := rfl
theorem te_251_15 : (pT M_251).find? (fun e => e.1 == 15) = some (15, .iaload, 0, 0) := rfl
theorem te_251_16 : (pT M_251).find? (fun e => e.1 == 16) = some (16, .goto 9, 0, 0) := rfl
theorem te_251_19 : (pT M_251).find? (fun e => e.1 == 19) = some (19, .aload_n 0, 0, 0) := rfl
theorem te_251_20 : (pT M_251).find? (fun e => e.1 == 20) = some (20, .getfield 22, 10, 6) := rfl
theorem te_251_23 : (pT M_251).find? (fun e => e.1 == 23) = some (23, .iload_n 1, 0, 0) := rfl
theorem te_251_24 : (pT M_251).find? (fun e => e.1 == 24) = some (24, .iaload, 0, 0) := rfl
theorem te_251_25 : (pT M_251).find? (fun e => e.1 == 25) = some (25, .ireturn, 0, 0) := rfl
theorem te_257_0 : (pT M_257).find? (fun e => e.1 == 0) = some (0, .iload_n 0, 0, 0) := rfl
theorem te_257_1 : (pT M_257).find? (fun e => e.1 == 1) = some (1, .iload_n 1, 0, 0) := rfl
theorem te_257_2 : (pT M_257).find? (fun e => e.1 == 2) = some (2, .if_icmp .le 7, 0, 0) := rfl
theorem te_257_5 : (pT M_257).find? (fun e => e.1 == 5) = some (5, .iload_n 0, 0, 0) := rfl
theorem te_257_6 : (pT M_257).find? (fun e => e.1 == 6) = some (6, .goto 4, 0, 0) := rfl
theorem te_257_9 : (pT M_257).find? (fun e => e.1 == 9) = some (9, .iload_n 1, 0, 0) := rfl
theorem te_257_10 : (pT M_257).find? (fun e => e.1 == 10) = some (10, .ireturn, 0, 0) := rfl
theorem te_258_0 : (pT M_258).find? (fun e => e.1 == 0) = some (0, .iload_n 0, 0, 0) := rfl
theorem te_258_1 : (pT M_258).find? (fun e => e.1 == 1) = some (1, .iload_n 1, 0, 0) := rfl
theorem te_258_2 : (pT M_258).find? (fun e => e.1 == 2) = some (2, .if_icmp .ge 7, 0, 0) := rfl
theorem te_258_5 : (pT M_258).find? (fun e => e.1 == 5) = some (5, .iload_n 0, 0, 0) := rfl
theorem te_258_6 : (pT M_258).find? (fun e => e.1 == 6) = some (6, .goto 4, 0, 0) := rfl
theorem te_258_9 : (pT M_258).find? (fun e => e.1 == 9) = some (9, .iload_n 1, 0, 0) := rfl
theorem te_258_10 : (pT M_258).find? (fun e => e.1 == 10) = some (10, .ireturn, 0, 0) := rfl
theorem te_264_0 : (pT M_264).find? (fun e => e.1 == 0) = some (0, .aload_n 0, 0, 0) := rfl
theorem te_264_1 : (pT M_264).find? (fun e => e.1 == 1) = some (1, .getfield 28, 10, 8) := rfl
theorem te_264_4 : (pT M_264).find? (fun e => e.1 == 4) = some (4, .aload_n 0, 0, 0) := rfl
theorem te_264_5 : (pT M_264).find? (fun e => e.1 == 5) = some (5, .getfield 7, 10, 2) := rfl
theorem te_264_8 : (pT M_264).find? (fun e => e.1 == 8) = some (8, .iload_n 1, 0, 0) := rfl
theorem te_264_9 : (pT M_264).find? (fun e => e.1 == 9) = some (9, .iaload, 0, 0) := rfl
theorem te_264_10 : (pT M_264).find? (fun e => e.1 == 10) = some (10, .iaload, 0, 0) := rfl
theorem te_264_11 : (pT M_264).find? (fun e => e.1 == 11) = some (11, .ireturn, 0, 0) := rfl
theorem te_265_0 : (pT M_265).find? (fun e => e.1 == 0) = some (0, .aload_n 0, 0, 0) := rfl
theorem te_265_1 : (pT M_265).find? (fun e => e.1 == 1) = some (1, .getfield 34, 10, 10) := rfl
theorem te_265_4 : (pT M_265).find? (fun e => e.1 == 4) = some (4, .aload_n 0, 0, 0) := rfl
theorem te_265_5 : (pT M_265).find? (fun e => e.1 == 5) = some (5, .getfield 7, 10, 2) := rfl
theorem te_265_8 : (pT M_265).find? (fun e => e.1 == 8) = some (8, .iload_n 1, 0, 0) := rfl
theorem te_265_9 : (pT M_265).find? (fun e => e.1 == 9) = some (9, .iaload, 0, 0) := rfl
theorem te_265_10 : (pT M_265).find? (fun e => e.1 == 10) = some (10, .iaload, 0, 0) := rfl
theorem te_265_11 : (pT M_265).find? (fun e => e.1 == 11) = some (11, .ireturn, 0, 0) := rfl
theorem te_272_0 : (pT M_272).find? (fun e => e.1 == 0) = some (0, .iload_n 0, 0, 0) := rfl
theorem te_272_1 : (pT M_272).find? (fun e => e.1 == 1) = some (1, .iload_n 1, 0, 0) := rfl
theorem te_272_2 : (pT M_272).find? (fun e => e.1 == 2) = some (2, .irem, 0, 0) := rfl
theorem te_272_3 : (pT M_272).find? (fun e => e.1 == 3) = some (3, .iload_n 1, 0, 0) := rfl
theorem te_272_4 : (pT M_272).find? (fun e => e.1 == 4) = some (4, .iadd, 0, 0) := rfl
theorem te_272_5 : (pT M_272).find? (fun e => e.1 == 5) = some (5, .iload_n 1, 0, 0) := rfl
theorem te_272_6 : (pT M_272).find? (fun e => e.1 == 6) = some (6, .irem, 0, 0) := rfl
theorem te_272_7 : (pT M_272).find? (fun e => e.1 == 7) = some (7, .ireturn, 0, 0) := rfl
theorem te_275_0 : (pT M_275).find? (fun e => e.1 == 0) = some (0, .iload_n 0, 0, 0) := rfl
theorem te_275_1 : (pT M_275).find? (fun e => e.1 == 1) = some (1, .ifCond .le 13, 0, 0) := rfl
theorem te_275_4 : (pT M_275).find? (fun e => e.1 == 4) = some (4, .iload_n 0, 0, 0) := rfl
theorem te_275_5 : (pT M_275).find? (fun e => e.1 == 5) = some (5, .iload_n 1, 0, 0) := rfl
theorem te_275_6 : (pT M_275).find? (fun e => e.1 == 6) = some (6, .iadd, 0, 0) := rfl
theorem te_275_7 : (pT M_275).find? (fun e => e.1 == 7) = some (7, .iconst 1, 0, 0) := rfl
theorem te_275_8 : (pT M_275).find? (fun e => e.1 == 8) = some (8, .isub, 0, 0) := rfl
theorem te_275_9 : (pT M_275).find? (fun e => e.1 == 9) = some (9, .iload_n 1, 0, 0) := rfl
theorem te_275_10 : (pT M_275).find? (fun e => e.1 == 10) = some (10, .idiv, 0, 0) := rfl
theorem te_275_11 : (pT M_275).find? (fun e => e.1 == 11) = some (11, .goto 8, 0, 0) := rfl
theorem te_275_14 : (pT M_275).find? (fun e => e.1 == 14) = some (14, .iload_n 0, 0, 0) := rfl
theorem te_275_15 : (pT M_275).find? (fun e => e.1 == 15) = some (15, .ineg, 0, 0) := rfl
theorem te_275_16 : (pT M_275).find? (fun e => e.1 == 16) = some (16, .iload_n 1, 0, 0) := rfl
theorem te_275_17 : (pT M_275).find? (fun e => e.1 == 17) = some (17, .idiv, 0, 0) := rfl
theorem te_275_18 : (pT M_275).find? (fun e => e.1 == 18) = some (18, .ineg, 0, 0) := rfl
theorem te_275_19 : (pT M_275).find? (fun e => e.1 == 19) = some (19, .ireturn, 0, 0) := rfl
theorem te_299_0 : (pT M_299).find? (fun e => e.1 == 0) = some (0, .aload_n 0, 0, 0) := rfl
theorem te_299_1 : (pT M_299).find? (fun e => e.1 == 1) = some (1, .getfield 65, 10, 21) := rfl
theorem te_299_4 : (pT M_299).find? (fun e => e.1 == 4) = some (4, .iload_n 1, 0, 0) := rfl
theorem te_299_5 : (pT M_299).find? (fun e => e.1 == 5) = some (5, .iaload, 0, 0) := rfl
theorem te_299_6 : (pT M_299).find? (fun e => e.1 == 6) = some (6, .aload_n 0, 0, 0) := rfl
theorem te_299_7 : (pT M_299).find? (fun e => e.1 == 7) = some (7, .iload_n 1, 0, 0) := rfl
theorem te_299_8 : (pT M_299).find? (fun e => e.1 == 8) = some (8, .invokevirtual 148, 246, 0) := rfl
theorem te_299_11 : (pT M_299).find? (fun e => e.1 == 11) = some (11, .iadd, 0, 0) := rfl
theorem te_299_12 : (pT M_299).find? (fun e => e.1 == 12) = some (12, .ireturn, 0, 0) := rfl
theorem te_319_0 : (pT M_319).find? (fun e => e.1 == 0) = some (0, .iload_n 0, 0, 0) := rfl
theorem te_319_1 : (pT M_319).find? (fun e => e.1 == 1) = some (1, .iload_n 1, 0, 0) := rfl
theorem te_319_2 : (pT M_319).find? (fun e => e.1 == 2) = some (2, .isub, 0, 0) := rfl
theorem te_319_3 : (pT M_319).find? (fun e => e.1 == 3) = some (3, .istore 4, 0, 0) := rfl
theorem te_319_5 : (pT M_319).find? (fun e => e.1 == 5) = some (5, .iload 4, 0, 0) := rfl
theorem te_319_7 : (pT M_319).find? (fun e => e.1 == 7) = some (7, .ifCond .lt 25, 0, 0) := rfl
theorem te_319_10 : (pT M_319).find? (fun e => e.1 == 10) = some (10, .iload 4, 0, 0) := rfl
theorem te_319_12 : (pT M_319).find? (fun e => e.1 == 12) = some (12, .iload_n 2, 0, 0) := rfl
theorem te_319_13 : (pT M_319).find? (fun e => e.1 == 13) = some (13, .irem, 0, 0) := rfl
theorem te_319_14 : (pT M_319).find? (fun e => e.1 == 14) = some (14, .ifCond .ne 18, 0, 0) := rfl
theorem te_319_17 : (pT M_319).find? (fun e => e.1 == 17) = some (17, .iload 4, 0, 0) := rfl
theorem te_319_19 : (pT M_319).find? (fun e => e.1 == 19) = some (19, .iload_n 2, 0, 0) := rfl
theorem te_319_20 : (pT M_319).find? (fun e => e.1 == 20) = some (20, .idiv, 0, 0) := rfl
theorem te_319_21 : (pT M_319).find? (fun e => e.1 == 21) = some (21, .iload_n 3, 0, 0) := rfl
theorem te_319_22 : (pT M_319).find? (fun e => e.1 == 22) = some (22, .if_icmp .ge 10, 0, 0) := rfl
theorem te_319_25 : (pT M_319).find? (fun e => e.1 == 25) = some (25, .iload 4, 0, 0) := rfl
theorem te_319_27 : (pT M_319).find? (fun e => e.1 == 27) = some (27, .iload_n 2, 0, 0) := rfl
theorem te_319_28 : (pT M_319).find? (fun e => e.1 == 28) = some (28, .idiv, 0, 0) := rfl
theorem te_319_29 : (pT M_319).find? (fun e => e.1 == 29) = some (29, .goto 4, 0, 0) := rfl
theorem te_319_32 : (pT M_319).find? (fun e => e.1 == 32) = some (32, .iconst (-1), 0, 0) := rfl
theorem te_319_33 : (pT M_319).find? (fun e => e.1 == 33) = some (33, .ireturn, 0, 0) := rfl
theorem w_257_0 {C : CXW} (hC : Cmono C) {S : Nat × (Nat → Int32)} {K : WK} {mem : MM} {x0 x1 : Int} (H : ((x0 ≤ x1 → (InI x1 → K (some x1) mem)) ∧ (¬ (x0 ≤ x1) → (InI x0 → K (some x0) mem)))) : Wx C S M_257 K 0 [some (.inl x0), some (.inl x1)] [] mem := by
  refine Wx.iload_n hC te_257_0 rfl ?_
  refine Wx.iload_n hC te_257_1 rfl ?_
  refine Wx.icmp hC (t := 9) te_257_2 (by decide) (fun q => ?_) (fun q => ?_)
  · replace H := H.1 q
    refine Wx.iload_n hC te_257_9 rfl ?_
    exact Wx.ireturn hC te_257_10 rfl H
  · replace H := H.2 q
    refine Wx.iload_n hC te_257_5 rfl ?_
    refine Wx.goto hC (t := 10) te_257_6 (by decide) ?_
    exact Wx.ireturn hC te_257_10 rfl H
theorem w_258_0 {C : CXW} (hC : Cmono C) {S : Nat × (Nat → Int32)} {K : WK} {mem : MM} {x0 x1 : Int} (H : ((x1 ≤ x0 → (InI x1 → K (some x1) mem)) ∧ (¬ (x1 ≤ x0) → (InI x0 → K (some x0) mem)))) : Wx C S M_258 K 0 [some (.inl x0), some (.inl x1)] [] mem := by
  refine Wx.iload_n hC te_258_0 rfl ?_
  refine Wx.iload_n hC te_258_1 rfl ?_
  refine Wx.icmp hC (t := 9) te_258_2 (by decide) (fun q => ?_) (fun q => ?_)
  · replace H := H.1 q
    refine Wx.iload_n hC te_258_9 rfl ?_
    exact Wx.ireturn hC te_258_10 rfl H
  · replace H := H.2 q
    refine Wx.iload_n hC te_258_5 rfl ?_
    refine Wx.goto hC (t := 10) te_258_6 (by decide) ?_
    exact Wx.ireturn hC te_258_10 rfl H
theorem w_272_0 {C : CXW} (hC : Cmono C) {S : Nat × (Nat → Int32)} {K : WK} {mem : MM} {x0 x1 : Int} (H : (0 < x1) ∧ (InI (((x0 : Int).tmod x1) + x1)) ∧ (0 < x1) ∧ (InI (((((x0 : Int).tmod x1) + x1) : Int).tmod x1) → K (some (((((x0 : Int).tmod x1) + x1) : Int).tmod x1)) mem)) : Wx C S M_272 K 0 [some (.inl x0), some (.inl x1)] [] mem := by
  refine Wx.iload_n hC te_272_0 rfl ?_
  refine Wx.iload_n hC te_272_1 rfl ?_
  refine Wx.irem hC te_272_2 H.1 ?_
  replace H := H.2
  refine Wx.iload_n hC te_272_3 rfl ?_
  refine Wx.iadd hC te_272_4 H.1 ?_
  replace H := H.2
  refine Wx.iload_n hC te_272_5 rfl ?_
  refine Wx.irem hC te_272_6 H.1 ?_
  replace H := H.2
  exact Wx.ireturn hC te_272_7 rfl H
theorem w_275_0 {C : CXW} (hC : Cmono C) {S : Nat × (Nat → Int32)} {K : WK} {mem : MM} {x0 x1 : Int} (H : ((x0 ≤ 0 → (InI (-x0)) ∧ (0 < x1) ∧ (InI (-(((-x0) : Int).tdiv x1))) ∧ (InI (-(((-x0) : Int).tdiv x1)) → K (some (-(((-x0) : Int).tdiv x1))) mem)) ∧ (¬ (x0 ≤ 0) → (InI (x0 + x1)) ∧ (InI ((x0 + x1) - 1)) ∧ (0 < x1) ∧ (InI ((((x0 + x1) - 1) : Int).tdiv x1) → K (some ((((x0 + x1) - 1) : Int).tdiv x1)) mem)))) : Wx C S M_275 K 0 [some (.inl x0), some (.inl x1)] [] mem := by
  refine Wx.iload_n hC te_275_0 rfl ?_
  refine Wx.ifc hC (t := 14) te_275_1 (by decide) (fun q => ?_) (fun q => ?_)
  · replace H := H.1 q
    refine Wx.iload_n hC te_275_14 rfl ?_
    refine Wx.ineg hC te_275_15 H.1 ?_
    replace H := H.2
    refine Wx.iload_n hC te_275_16 rfl ?_
    refine Wx.idiv hC te_275_17 H.1 ?_
    replace H := H.2
    refine Wx.ineg hC te_275_18 H.1 ?_
    replace H := H.2
    exact Wx.ireturn hC te_275_19 rfl H
  · replace H := H.2 q
    refine Wx.iload_n hC te_275_4 rfl ?_
    refine Wx.iload_n hC te_275_5 rfl ?_
    refine Wx.iadd hC te_275_6 H.1 ?_
    replace H := H.2
    refine Wx.iconst hC te_275_7 rfl ?_
    refine Wx.isub hC te_275_8 H.1 ?_
    replace H := H.2
    refine Wx.iload_n hC te_275_9 rfl ?_
    refine Wx.idiv hC te_275_10 H.1 ?_
    replace H := H.2
    refine Wx.goto hC (t := 19) te_275_11 (by decide) ?_
    exact Wx.ireturn hC te_275_19 rfl H
theorem w_319_0 {C : CXW} (hC : Cmono C) {S : Nat × (Nat → Int32)} {K : WK} {mem : MM} {x0 x1 x2 x3 : Int} (H : (InI (x0 - x1)) ∧ (((x0 - x1) < 0 → (InI (-1) → K (some (-1)) mem)) ∧ (¬ ((x0 - x1) < 0) → (0 < x2) ∧ ((¬ (((x0 - x1) : Int).tmod x2) = 0 → (InI (-1) → K (some (-1)) mem)) ∧ (¬ (¬ (((x0 - x1) : Int).tmod x2) = 0) → (0 < x2) ∧ ((x3 ≤ (((x0 - x1) : Int).tdiv x2) → (InI (-1) → K (some (-1)) mem)) ∧ (¬ (x3 ≤ (((x0 - x1) : Int).tdiv x2)) → (0 < x2) ∧ (InI (((x0 - x1) : Int).tdiv x2) → K (some (((x0 - x1) : Int).tdiv x2)) mem)))))))) : Wx C S M_319 K 0 [some (.inl x0), some (.inl x1), some (.inl x2), some (.inl x3), none] [] mem := by
  refine Wx.iload_n hC te_319_0 rfl ?_
  refine Wx.iload_n hC te_319_1 rfl ?_
  refine Wx.isub hC te_319_2 H.1 ?_
  replace H := H.2
  refine Wx.istore hC te_319_3 rfl ?_
  refine Wx.iload hC te_319_5 rfl ?_
  refine Wx.ifc hC (t := 32) te_319_7 (by decide) (fun q => ?_) (fun q => ?_)
  · replace H := H.1 q
    refine Wx.iconst hC te_319_32 rfl ?_
    exact Wx.ireturn hC te_319_33 rfl H
  · replace H := H.2 q
    refine Wx.iload hC te_319_10 rfl ?_
    refine Wx.iload_n hC te_319_12 rfl ?_
    refine Wx.irem hC te_319_13 H.1 ?_
    replace H := H.2
    refine Wx.ifc hC (t := 32) te_319_14 (by decide) (fun q => ?_) (fun q => ?_)
    · replace H := H.1 q
      refine Wx.iconst hC te_319_32 rfl ?_
      exact Wx.ireturn hC te_319_33 rfl H
    · replace H := H.2 q
      refine Wx.iload hC te_319_17 rfl ?_
      refine Wx.iload_n hC te_319_19 rfl ?_
      refine Wx.idiv hC te_319_20 H.1 ?_
      replace H := H.2
      refine Wx.iload_n hC te_319_21 rfl ?_
      refine Wx.icmp hC (t := 32) te_319_22 (by decide) (fun q => ?_) (fun q => ?_)
      · replace H := H.1 q
        refine Wx.iconst hC te_319_32 rfl ?_
        exact Wx.ireturn hC te_319_33 rfl H
      · replace H := H.2 q
        refine Wx.iload hC te_319_25 rfl ?_
        refine Wx.iload_n hC te_319_27 rfl ?_
        refine Wx.idiv hC te_319_28 H.1 ?_
        replace H := H.2
        refine Wx.goto hC (t := 33) te_319_29 (by decide) ?_
        exact Wx.ireturn hC te_319_33 rfl H
theorem w_241_0 {C : CXW} (hC : Cmono C) {S : Nat × (Nat → Int32)} {K : WK} {mem : MM} {x1 : Int} (H : (0 ≤ x1 ∧ x1 < 8) ∧ ∀ v1 : Int, v1 = mem 144 (Int.toNat x1) → InI v1 → ((¬ v1 = 4 → (0 ≤ x1 ∧ x1 < 8) ∧ ∀ v2 : Int, v2 = mem 144 (Int.toNat x1) → InI v2 → ((¬ v2 = 5 → (InI 2 → K (some 2) mem)) ∧ (¬ (¬ v2 = 5) → (InI 1 → K (some 1) mem)))) ∧ (¬ (¬ v1 = 4) → (InI 0 → K (some 0) mem)))) : Wx C S M_241 K 0 [some (.inr 143), some (.inl x1)] [] mem := by
  refine Wx.aload_n hC te_241_0 rfl ?_
  refine Wx.getR hC te_241_1 rfl rfl rfl ?_
  refine Wx.iload_n hC te_241_4 rfl ?_
  refine Wx.iald hC te_241_5 rfl H.1 (fun v1 e1 e2 => ?_)
  replace H := H.2 v1 e1 e2
  refine Wx.iconst hC te_241_6 rfl ?_
  refine Wx.icmp hC (t := 14) te_241_7 (by decide) (fun q => ?_) (fun q => ?_)
  · replace H := H.1 q
    refine Wx.aload_n hC te_241_14 rfl ?_
    refine Wx.getR hC te_241_15 rfl rfl rfl ?_
    refine Wx.iload_n hC te_241_18 rfl ?_
    refine Wx.iald hC te_241_19 rfl H.1 (fun v2 e1 e2 => ?_)
    replace H := H.2 v2 e1 e2
    refine Wx.iconst hC te_241_20 rfl ?_
    refine Wx.icmp hC (t := 28) te_241_21 (by decide) (fun q => ?_) (fun q => ?_)
    · replace H := H.1 q
      refine Wx.iconst hC te_241_28 rfl ?_
      exact Wx.ireturn hC te_241_29 rfl H
    · replace H := H.2 q
      refine Wx.iconst hC te_241_24 rfl ?_
      refine Wx.goto hC (t := 29) te_241_25 (by decide) ?_
      exact Wx.ireturn hC te_241_29 rfl H
  · replace H := H.2 q
    refine Wx.iconst hC te_241_10 rfl ?_
    refine Wx.goto hC (t := 29) te_241_11 (by decide) ?_
    exact Wx.ireturn hC te_241_29 rfl H
theorem w_242_0 {C : CXW} (hC : Cmono C) {S : Nat × (Nat → Int32)} {K : WK} {mem : MM} {x1 x2 : Int} (H : ((¬ x2 = 0 → (0 ≤ x1 ∧ x1 < 8) ∧ ∀ v1 : Int, v1 = mem 147 (Int.toNat x1) → InI v1 → (InI v1 → K (some v1) mem)) ∧ (¬ (¬ x2 = 0) → (0 ≤ x1 ∧ x1 < 8) ∧ ∀ v2 : Int, v2 = mem 145 (Int.toNat x1) → InI v2 → (InI v2 → K (some v2) mem)))) : Wx C S M_242 K 0 [some (.inr 143), some (.inl x1), some (.inl x2)] [] mem := by
  refine Wx.iload_n hC te_242_0 rfl ?_
  refine Wx.ifc hC (t := 13) te_242_1 (by decide) (fun q => ?_) (fun q => ?_)
  · replace H := H.1 q
    refine Wx.aload_n hC te_242_13 rfl ?_
    refine Wx.getR hC te_242_14 rfl rfl rfl ?_
    refine Wx.iload_n hC te_242_17 rfl ?_
    refine Wx.iald hC te_242_18 rfl H.1 (fun v1 e1 e2 => ?_)
    replace H := H.2 v1 e1 e2
    exact Wx.ireturn hC te_242_19 rfl H
  · replace H := H.2 q
    refine Wx.aload_n hC te_242_4 rfl ?_
    refine Wx.getR hC te_242_5 rfl rfl rfl ?_
    refine Wx.iload_n hC te_242_8 rfl ?_
    refine Wx.iald hC te_242_9 rfl H.1 (fun v2 e1 e2 => ?_)
    replace H := H.2 v2 e1 e2
    refine Wx.goto hC (t := 19) te_242_10 (by decide) ?_
    exact Wx.ireturn hC te_242_19 rfl H
theorem w_243_0 {C : CXW} (hC : Cmono C) {S : Nat × (Nat → Int32)} {K : WK} {mem : MM} {x1 x2 : Int} (H : ((¬ x2 = 0 → (0 ≤ x1 ∧ x1 < 8) ∧ ∀ v1 : Int, v1 = mem 148 (Int.toNat x1) → InI v1 → (InI v1 → K (some v1) mem)) ∧ (¬ (¬ x2 = 0) → (0 ≤ x1 ∧ x1 < 8) ∧ ∀ v2 : Int, v2 = mem 146 (Int.toNat x1) → InI v2 → (InI v2 → K (some v2) mem)))) : Wx C S M_243 K 0 [some (.inr 143), some (.inl x1), some (.inl x2)] [] mem := by
  refine Wx.iload_n hC te_243_0 rfl ?_
  refine Wx.ifc hC (t := 13) te_243_1 (by decide) (fun q => ?_) (fun q => ?_)
  · replace H := H.1 q
    refine Wx.aload_n hC te_243_13 rfl ?_
    refine Wx.getR hC te_243_14 rfl rfl rfl ?_
    refine Wx.iload_n hC te_243_17 rfl ?_
    refine Wx.iald hC te_243_18 rfl H.1 (fun v1 e1 e2 => ?_)
    replace H := H.2 v1 e1 e2
    exact Wx.ireturn hC te_243_19 rfl H
  · replace H := H.2 q
    refine Wx.aload_n hC te_243_4 rfl ?_
    refine Wx.getR hC te_243_5 rfl rfl rfl ?_
    refine Wx.iload_n hC te_243_8 rfl ?_
    refine Wx.iald hC te_243_9 rfl H.1 (fun v2 e1 e2 => ?_)
    replace H := H.2 v2 e1 e2
    refine Wx.goto hC (t := 19) te_243_10 (by decide) ?_
    exact Wx.ireturn hC te_243_19 rfl H
theorem w_246_0 {C : CXW} (hC : Cmono C) {S : Nat × (Nat → Int32)} {K : WK} {mem : MM} {x1 : Int} (H : (0 ≤ x1 ∧ x1 < 8) ∧ ∀ v1 : Int, v1 = mem 144 (Int.toNat x1) → InI v1 → (0 ≤ v1 ∧ v1 < 6) ∧ ∀ v2 : Int, v2 = mem 151 (Int.toNat v1) → InI v2 → (InI v2 → K (some v2) mem)) : Wx C S M_246 K 0 [some (.inr 143), some (.inl x1)] [] mem := by
  refine Wx.aload_n hC te_246_0 rfl ?_
  refine Wx.getR hC te_246_1 rfl rfl rfl ?_
  refine Wx.aload_n hC te_246_4 rfl ?_
  refine Wx.getR hC te_246_5 rfl rfl rfl ?_
  refine Wx.iload_n hC te_246_8 rfl ?_
  refine Wx.iald hC te_246_9 rfl H.1 (fun v1 e1 e2 => ?_)
  replace H := H.2 v1 e1 e2
  refine Wx.iald hC te_246_10 rfl H.1 (fun v2 e1 e2 => ?_)
  replace H := H.2 v2 e1 e2
  exact Wx.ireturn hC te_246_11 rfl H
theorem w_249_0 {C : CXW} (hC : Cmono C) {S : Nat × (Nat → Int32)} {K : WK} {mem : MM} {x1 : Int} (H : (0 ≤ x1 ∧ x1 < 8) ∧ ∀ v1 : Int, v1 = mem 144 (Int.toNat x1) → InI v1 → ((v1 = 4 → (K (some 1) mem)) ∧ (¬ (v1 = 4) → (0 ≤ x1 ∧ x1 < 8) ∧ ∀ v2 : Int, v2 = mem 144 (Int.toNat x1) → InI v2 → ((¬ v2 = 5 → (K (some 0) mem)) ∧ (¬ (¬ v2 = 5) → (K (some 1) mem)))))) : Wx C S M_249 K 0 [some (.inr 143), some (.inl x1)] [] mem := by
  refine Wx.aload_n hC te_249_0 rfl ?_
  refine Wx.getR hC te_249_1 rfl rfl rfl ?_
  refine Wx.iload_n hC te_249_4 rfl ?_
  refine Wx.iald hC te_249_5 rfl H.1 (fun v1 e1 e2 => ?_)
  replace H := H.2 v1 e1 e2
  refine Wx.iconst hC te_249_6 rfl ?_
  refine Wx.icmp hC (t := 20) te_249_7 (by decide) (fun q => ?_) (fun q => ?_)
  · replace H := H.1 q
    refine Wx.iconst hC te_249_20 rfl ?_
    refine Wx.goto hC (t := 25) te_249_21 (by decide) ?_
    exact Wx.bret hC te_249_25 rfl (Or.inr rfl) H
  · replace H := H.2 q
    refine Wx.aload_n hC te_249_10 rfl ?_
    refine Wx.getR hC te_249_11 rfl rfl rfl ?_
    refine Wx.iload_n hC te_249_14 rfl ?_
    refine Wx.iald hC te_249_15 rfl H.1 (fun v2 e1 e2 => ?_)
    replace H := H.2 v2 e1 e2
    refine Wx.iconst hC te_249_16 rfl ?_
    refine Wx.icmp hC (t := 24) te_249_17 (by decide) (fun q => ?_) (fun q => ?_)
    · replace H := H.1 q
      refine Wx.iconst hC te_249_24 rfl ?_
      exact Wx.bret hC te_249_25 rfl (Or.inl rfl) H
    · replace H := H.2 q
      refine Wx.iconst hC te_249_20 rfl ?_
      refine Wx.goto hC (t := 25) te_249_21 (by decide) ?_
      exact Wx.bret hC te_249_25 rfl (Or.inr rfl) H
theorem w_250_0 {C : CXW} (hC : Cmono C) {S : Nat × (Nat → Int32)} {K : WK} {mem : MM} {x1 : Int} (H : (0 ≤ x1 ∧ x1 < 8) ∧ ∀ v1 : Int, v1 = mem 144 (Int.toNat x1) → InI v1 → ((¬ v1 = 4 → (0 ≤ x1 ∧ x1 < 8) ∧ ∀ v2 : Int, v2 = mem 147 (Int.toNat x1) → InI v2 → (InI v2 → K (some v2) mem)) ∧ (¬ (¬ v1 = 4) → (0 ≤ x1 ∧ x1 < 8) ∧ ∀ v3 : Int, v3 = mem 145 (Int.toNat x1) → InI v3 → (InI v3 → K (some v3) mem)))) : Wx C S M_250 K 0 [some (.inr 143), some (.inl x1)] [] mem := by
  refine Wx.aload_n hC te_250_0 rfl ?_
  refine Wx.getR hC te_250_1 rfl rfl rfl ?_
  refine Wx.iload_n hC te_250_4 rfl ?_
  refine Wx.iald hC te_250_5 rfl H.1 (fun v1 e1 e2 => ?_)
  replace H := H.2 v1 e1 e2
  refine Wx.iconst hC te_250_6 rfl ?_
  refine Wx.icmp hC (t := 19) te_250_7 (by decide) (fun q => ?_) (fun q => ?_)
  · replace H := H.1 q
    refine Wx.aload_n hC te_250_19 rfl ?_
    refine Wx.getR hC te_250_20 rfl rfl rfl ?_
    refine Wx.iload_n hC te_250_23 rfl ?_
    refine Wx.iald hC te_250_24 rfl H.1 (fun v2 e1 e2 => ?_)
    replace H := H.2 v2 e1 e2
    exact Wx.ireturn hC te_250_25 rfl H
  · replace H := H.2 q
    refine Wx.aload_n hC te_250_10 rfl ?_
    refine Wx.getR hC te_250_11 rfl rfl rfl ?_
    refine Wx.iload_n hC te_250_14 rfl ?_
    refine Wx.iald hC te_250_15 rfl H.1 (fun v3 e1 e2 => ?_)
    replace H := H.2 v3 e1 e2
    refine Wx.goto hC (t := 25) te_250_16 (by decide) ?_
    exact Wx.ireturn hC te_250_25 rfl H
theorem w_251_0 {C : CXW} (hC : Cmono C) {S : Nat × (Nat → Int32)} {K : WK} {mem : MM} {x1 : Int} (H : (0 ≤ x1 ∧ x1 < 8) ∧ ∀ v1 : Int, v1 = mem 144 (Int.toNat x1) → InI v1 → ((¬ v1 = 4 → (0 ≤ x1 ∧ x1 < 8) ∧ ∀ v2 : Int, v2 = mem 148 (Int.toNat x1) → InI v2 → (InI v2 → K (some v2) mem)) ∧ (¬ (¬ v1 = 4) → (0 ≤ x1 ∧ x1 < 8) ∧ ∀ v3 : Int, v3 = mem 146 (Int.toNat x1) → InI v3 → (InI v3 → K (some v3) mem)))) : Wx C S M_251 K 0 [some (.inr 143), some (.inl x1)] [] mem := by
  refine Wx.aload_n hC te_251_0 rfl ?_
  refine Wx.getR hC te_251_1 rfl rfl rfl ?_
  refine Wx.iload_n hC te_251_4 rfl ?_
  refine Wx.iald hC te_251_5 rfl H.1 (fun v1 e1 e2 => ?_)
  replace H := H.2 v1 e1 e2
  refine Wx.iconst hC te_251_6 rfl ?_
  refine Wx.icmp hC (t := 19) te_251_7 (by decide) (fun q => ?_) (fun q => ?_)
  · replace H := H.1 q
    refine Wx.aload_n hC te_251_19 rfl ?_
    refine Wx.getR hC te_251_20 rfl rfl rfl ?_
    refine Wx.iload_n hC te_251_23 rfl ?_
    refine Wx.iald hC te_251_24 rfl H.1 (fun v2 e1 e2 => ?_)
    replace H := H.2 v2 e1 e2
    exact Wx.ireturn hC te_251_25 rfl H
  · replace H := H.2 q
    refine Wx.aload_n hC te_251_10 rfl ?_
    refine Wx.getR hC te_251_11 rfl rfl rfl ?_
    refine Wx.iload_n hC te_251_14 rfl ?_
    refine Wx.iald hC te_251_15 rfl H.1 (fun v3 e1 e2 => ?_)
    replace H := H.2 v3 e1 e2
    refine Wx.goto hC (t := 25) te_251_16 (by decide) ?_
    exact Wx.ireturn hC te_251_25 rfl H
theorem w_248_0 {C : CXW} (hC : Cmono C) {S : Nat × (Nat → Int32)} {K : WK} {mem : MM} {x1 x2 x3 x4 x5 : Int} (H : (0 ≤ x1 ∧ x1 < 48) ∧ ∀ v1 : Int, v1 = mem 154 (Int.toNat x1) → InI v1 → ((v1 = x2 → (0 ≤ x1 ∧ x1 < 48) ∧ ∀ v2 : Int, v2 = mem 155 (Int.toNat x1) → InI v2 → ((v2 = x3 → (0 ≤ x1 ∧ x1 < 48) ∧ ∀ v3 : Int, v3 = mem 156 (Int.toNat x1) → InI v3 → ((v3 = x4 → (0 ≤ x1 ∧ x1 < 48) ∧ ∀ v4 : Int, v4 = mem 157 (Int.toNat x1) → InI v4 → ((v4 ≤ x5 → (K (some 0) mem)) ∧ (¬ (v4 ≤ x5) → (K (some 1) mem)))) ∧ (¬ (v3 = x4) → (0 ≤ x1 ∧ x1 < 48) ∧ ∀ v5 : Int, v5 = mem 156 (Int.toNat x1) → InI v5 → ((v5 ≤ x4 → (K (some 0) mem)) ∧ (¬ (v5 ≤ x4) → (K (some 1) mem)))))) ∧ (¬ (v2 = x3) → (0 ≤ x1 ∧ x1 < 48) ∧ ∀ v6 : Int, v6 = mem 155 (Int.toNat x1) → InI v6 → ((v6 ≤ x3 → (K (some 0) mem)) ∧ (¬ (v6 ≤ x3) → (K (some 1) mem)))))) ∧ (¬ (v1 = x2) → (0 ≤ x1 ∧ x1 < 48) ∧ ∀ v7 : Int, v7 = mem 154 (Int.toNat x1) → InI v7 → ((v7 ≤ x2 → (K (some 0) mem)) ∧ (¬ (v7 ≤ x2) → (K (some 1) mem)))))) : Wx C S M_248 K 0 [some (.inr 143), some (.inl x1), some (.inl x2), some (.inl x3), some (.inl x4), some (.inl x5)] [] mem := by
  refine Wx.aload_n hC te_248_0 rfl ?_
  refine Wx.getR hC te_248_1 rfl rfl rfl ?_
  refine Wx.iload_n hC te_248_4 rfl ?_
  refine Wx.iald hC te_248_5 rfl H.1 (fun v1 e1 e2 => ?_)
  replace H := H.2 v1 e1 e2
  refine Wx.iload_n hC te_248_6 rfl ?_
  refine Wx.icmp hC (t := 26) te_248_7 (by decide) (fun q => ?_) (fun q => ?_)
  · replace H := H.1 q
    refine Wx.aload_n hC te_248_26 rfl ?_
    refine Wx.getR hC te_248_27 rfl rfl rfl ?_
    refine Wx.iload_n hC te_248_30 rfl ?_
    refine Wx.iald hC te_248_31 rfl H.1 (fun v2 e1 e2 => ?_)
    replace H := H.2 v2 e1 e2
    refine Wx.iload_n hC te_248_32 rfl ?_
    refine Wx.icmp hC (t := 52) te_248_33 (by decide) (fun q => ?_) (fun q => ?_)
    · replace H := H.1 q
      refine Wx.aload_n hC te_248_52 rfl ?_
      refine Wx.getR hC te_248_53 rfl rfl rfl ?_
      refine Wx.iload_n hC te_248_56 rfl ?_
      refine Wx.iald hC te_248_57 rfl H.1 (fun v3 e1 e2 => ?_)
      replace H := H.2 v3 e1 e2
      refine Wx.iload hC te_248_58 rfl ?_
      refine Wx.icmp hC (t := 82) te_248_60 (by decide) (fun q => ?_) (fun q => ?_)
      · replace H := H.1 q
        refine Wx.aload_n hC te_248_82 rfl ?_
        refine Wx.getR hC te_248_83 rfl rfl rfl ?_
        refine Wx.iload_n hC te_248_86 rfl ?_
        refine Wx.iald hC te_248_87 rfl H.1 (fun v4 e1 e2 => ?_)
        replace H := H.2 v4 e1 e2
        refine Wx.iload hC te_248_88 rfl ?_
        refine Wx.icmp hC (t := 97) te_248_90 (by decide) (fun q => ?_) (fun q => ?_)
        · replace H := H.1 q
          refine Wx.iconst hC te_248_97 rfl ?_
          exact Wx.bret hC te_248_98 rfl (Or.inl rfl) H
        · replace H := H.2 q
          refine Wx.iconst hC te_248_93 rfl ?_
          refine Wx.goto hC (t := 98) te_248_94 (by decide) ?_
          exact Wx.bret hC te_248_98 rfl (Or.inr rfl) H
      · replace H := H.2 q
        refine Wx.aload_n hC te_248_63 rfl ?_
        refine Wx.getR hC te_248_64 rfl rfl rfl ?_
        refine Wx.iload_n hC te_248_67 rfl ?_
        refine Wx.iald hC te_248_68 rfl H.1 (fun v5 e1 e2 => ?_)
        replace H := H.2 v5 e1 e2
        refine Wx.iload hC te_248_69 rfl ?_
        refine Wx.icmp hC (t := 78) te_248_71 (by decide) (fun q => ?_) (fun q => ?_)
        · replace H := H.1 q
          refine Wx.iconst hC te_248_78 rfl ?_
          refine Wx.goto hC (t := 98) te_248_79 (by decide) ?_
          exact Wx.bret hC te_248_98 rfl (Or.inl rfl) H
        · replace H := H.2 q
          refine Wx.iconst hC te_248_74 rfl ?_
          refine Wx.goto hC (t := 98) te_248_75 (by decide) ?_
          exact Wx.bret hC te_248_98 rfl (Or.inr rfl) H
    · replace H := H.2 q
      refine Wx.aload_n hC te_248_36 rfl ?_
      refine Wx.getR hC te_248_37 rfl rfl rfl ?_
      refine Wx.iload_n hC te_248_40 rfl ?_
      refine Wx.iald hC te_248_41 rfl H.1 (fun v6 e1 e2 => ?_)
      replace H := H.2 v6 e1 e2
      refine Wx.iload_n hC te_248_42 rfl ?_
      refine Wx.icmp hC (t := 50) te_248_43 (by decide) (fun q => ?_) (fun q => ?_)
      · replace H := H.1 q
        refine Wx.iconst hC te_248_50 rfl ?_
        exact Wx.bret hC te_248_51 rfl (Or.inl rfl) H
      · replace H := H.2 q
        refine Wx.iconst hC te_248_46 rfl ?_
        refine Wx.goto hC (t := 51) te_248_47 (by decide) ?_
        exact Wx.bret hC te_248_51 rfl (Or.inr rfl) H
  · replace H := H.2 q
    refine Wx.aload_n hC te_248_10 rfl ?_
    refine Wx.getR hC te_248_11 rfl rfl rfl ?_
    refine Wx.iload_n hC te_248_14 rfl ?_
    refine Wx.iald hC te_248_15 rfl H.1 (fun v7 e1 e2 => ?_)
    replace H := H.2 v7 e1 e2
    refine Wx.iload_n hC te_248_16 rfl ?_
    refine Wx.icmp hC (t := 24) te_248_17 (by decide) (fun q => ?_) (fun q => ?_)
    · replace H := H.1 q
      refine Wx.iconst hC te_248_24 rfl ?_
      exact Wx.bret hC te_248_25 rfl (Or.inl rfl) H
    · replace H := H.2 q
      refine Wx.iconst hC te_248_20 rfl ?_
      refine Wx.goto hC (t := 25) te_248_21 (by decide) ?_
      exact Wx.bret hC te_248_25 rfl (Or.inr rfl) H
theorem w_299_0 {C : CXW} (hC : Cmono C) {S : Nat × (Nat → Int32)} {K : WK} {mem : MM} {x1 : Int} (H : (0 ≤ x1 ∧ x1 < 8) ∧ ∀ v1 : Int, v1 = mem 161 (Int.toNat x1) → InI v1 → (CWI C 246 [.inr 143, .inl x1] mem fun r3 m2 => InI r3 → (InI (v1 + r3)) ∧ (InI (v1 + r3) → K (some (v1 + r3)) m2))) : Wx C S M_299 K 0 [some (.inr 143), some (.inl x1)] [] mem := by
  refine Wx.aload_n hC te_299_0 rfl ?_
  refine Wx.getR hC te_299_1 rfl rfl rfl ?_
  refine Wx.iload_n hC te_299_4 rfl ?_
  refine Wx.iald hC te_299_5 rfl H.1 (fun v1 e1 e2 => ?_)
  replace H := H.2 v1 e1 e2
  refine Wx.aload_n hC te_299_6 rfl ?_
  refine Wx.iload_n hC te_299_7 rfl ?_
  refine Wx.virtI hC te_299_8 mt_246 (args := [.inr 143, .inl x1]) (rest := [.inl v1]) rfl rfl rfl rfl rfl rfl rfl rfl ?_
  refine CWI.mono hC (fun r3 m2 H hy => ?_) H
  replace H := H hy
  refine Wx.iadd hC te_299_11 H.1 ?_
  replace H := H.2
  exact Wx.ireturn hC te_299_12 rfl H
theorem w_227_0 {C : CXW} (hC : Cmono C) {S : Nat × (Nat → Int32)} {K : WK} {mem : MM} {x0 x1 x2 : Int} (H : ((x0 < x1 → (K (some 0) mem)) ∧ (¬ (x0 < x1) → ((x2 < x0 → (K (some 0) mem)) ∧ (¬ (x2 < x0) → (K (some 1) mem)))))) : Wx C S M_227 K 0 [some (.inl x0), some (.inl x1), some (.inl x2)] [] mem := by
  refine Wx.iload_n hC te_227_0 rfl ?_
  refine Wx.iload_n hC te_227_1 rfl ?_
  refine Wx.icmp hC (t := 14) te_227_2 (by decide) (fun q => ?_) (fun q => ?_)
  · replace H := H.1 q
    refine Wx.iconst hC te_227_14 rfl ?_
    exact Wx.bret hC te_227_15 rfl (Or.inl rfl) H
  · replace H := H.2 q
    refine Wx.iload_n hC te_227_5 rfl ?_
    refine Wx.iload_n hC te_227_6 rfl ?_
    refine Wx.icmp hC (t := 14) te_227_7 (by decide) (fun q => ?_) (fun q => ?_)
    · replace H := H.1 q
      refine Wx.iconst hC te_227_14 rfl ?_
      exact Wx.bret hC te_227_15 rfl (Or.inl rfl) H
    · replace H := H.2 q
      refine Wx.iconst hC te_227_10 rfl ?_
      refine Wx.goto hC (t := 15) te_227_11 (by decide) ?_
      exact Wx.bret hC te_227_15 rfl (Or.inr rfl) H
theorem w_264_0 {C : CXW} (hC : Cmono C) {S : Nat × (Nat → Int32)} {K : WK} {mem : MM} {x1 : Int} (H : (0 ≤ x1 ∧ x1 < 8) ∧ ∀ v1 : Int, v1 = mem 144 (Int.toNat x1) → InI v1 → (0 ≤ v1 ∧ v1 < 6) ∧ ∀ v2 : Int, v2 = mem 150 (Int.toNat v1) → InI v2 → (InI v2 → K (some v2) mem)) : Wx C S M_264 K 0 [some (.inr 143), some (.inl x1)] [] mem := by
  refine Wx.aload_n hC te_264_0 rfl ?_
  refine Wx.getR hC te_264_1 rfl rfl rfl ?_
  refine Wx.aload_n hC te_264_4 rfl ?_
  refine Wx.getR hC te_264_5 rfl rfl rfl ?_
  refine Wx.iload_n hC te_264_8 rfl ?_
  refine Wx.iald hC te_264_9 rfl H.1 (fun v1 e1 e2 => ?_)
  replace H := H.2 v1 e1 e2
  refine Wx.iald hC te_264_10 rfl H.1 (fun v2 e1 e2 => ?_)
  replace H := H.2 v2 e1 e2
  exact Wx.ireturn hC te_264_11 rfl H
theorem w_265_0 {C : CXW} (hC : Cmono C) {S : Nat × (Nat → Int32)} {K : WK} {mem : MM} {x1 : Int} (H : (0 ≤ x1 ∧ x1 < 8) ∧ ∀ v1 : Int, v1 = mem 144 (Int.toNat x1) → InI v1 → (0 ≤ v1 ∧ v1 < 6) ∧ ∀ v2 : Int, v2 = mem 152 (Int.toNat v1) → InI v2 → (InI v2 → K (some v2) mem)) : Wx C S M_265 K 0 [some (.inr 143), some (.inl x1)] [] mem := by
  refine Wx.aload_n hC te_265_0 rfl ?_
  refine Wx.getR hC te_265_1 rfl rfl rfl ?_
  refine Wx.aload_n hC te_265_4 rfl ?_
  refine Wx.getR hC te_265_5 rfl rfl rfl ?_
  refine Wx.iload_n hC te_265_8 rfl ?_
  refine Wx.iald hC te_265_9 rfl H.1 (fun v1 e1 e2 => ?_)
  replace H := H.2 v1 e1 e2
  refine Wx.iald hC te_265_10 rfl H.1 (fun v2 e1 e2 => ?_)
  replace H := H.2 v2 e1 e2
  exact Wx.ireturn hC te_265_11 rfl H
/-! what small methods of the reference come to -/
section SPEC
variable {S : Nat × (Nat → Int32)} {n : Nat} {mem : MM} {K : Int → MM → Prop}
theorem f_257 {a b : Int} (H : InI (max a b) → K (max a b) mem) : CWI (Ex S (n + 1)) 257 [.inl a, .inl b] mem K := by
  refine CW.of (k := 0) mt_257 rfl rfl (w_257_0 (Ex.mono S n) ⟨fun q h => ⟨_, rfl, ?_⟩, fun q h => ⟨_, rfl, ?_⟩⟩)
  · rw [Int.max_eq_right q] at H; exact H h
  · rw [Int.max_eq_left (by omega)] at H; exact H h
theorem f_258 {a b : Int} (H : InI (min a b) → K (min a b) mem) : CWI (Ex S (n + 1)) 258 [.inl a, .inl b] mem K := by
  refine CW.of (k := 0) mt_258 rfl rfl (w_258_0 (Ex.mono S n) ⟨fun q h => ⟨_, rfl, ?_⟩, fun q h => ⟨_, rfl, ?_⟩⟩)
  · rw [Int.min_eq_right q] at H; exact H h
  · rw [Int.min_eq_left (by omega)] at H; exact H h
theorem tm_rng (x : Int) {b : Int} (hb : 0 < b) : -b < x.tmod b ∧ x.tmod b < b := by
  refine ⟨?_, Int.tmod_lt_of_pos x hb⟩
  rcases Int.le_total 0 x with h | h
  · have := Int.tmod_nonneg b h; omega
  · have := Int.tmod_lt_of_pos (-x) hb
    rw [Int.neg_tmod] at this; omega
theorem f_272 {a b : Int} (hb : 0 < b ∧ b ≤ 1000000) (H : ∀ r, 0 ≤ r → r < b → K r mem) : CWI (Ex S (n + 1)) 272 [.inl a, .inl b] mem K := by
  have h1 := tm_rng a hb.1
  have h2 : 0 ≤ a.tmod b + b := by omega
  have h3 := Int.tmod_nonneg b h2
  have h4 := Int.tmod_lt_of_pos (a.tmod b + b) hb.1
  exact CW.of (k := 0) mt_272 rfl rfl (w_272_0 (Ex.mono S n) ⟨hb.1, by unfold InI; omega, hb.1, fun _ => ⟨_, rfl, H _ h3 h4⟩⟩)
/-- rounded up -/
theorem f_275 {a b : Int} (hb : 0 < b ∧ b ≤ 1000000) (ha : -1000000000 ≤ a ∧ a ≤ 1000000000) (H : ∀ u, b * (u - 1) < a → a ≤ b * u → K u mem) : CWI (Ex S (n + 1)) 275 [.inl a, .inl b] mem K := by
  refine CW.of (k := 0) mt_275 rfl rfl (w_275_0 (Ex.mono S n) ⟨fun q => ?_, fun q => ?_⟩)
  · have e := Int.tmod_add_mul_tdiv (-a) b
    have h1 := Int.tmod_nonneg b (a := -a) (by omega)
    have h2 := Int.tmod_lt_of_pos (-a) hb.1
    have h3 : 0 ≤ (-a).tdiv b := Int.tdiv_nonneg (by omega) (by omega)
    have h4 := Int.tdiv_le_self (a := -a) b (by omega)
    have e2 : b * (-((-a).tdiv b)) = - (b * (-a).tdiv b) := Int.mul_neg _ _
    have e3 : b * (-((-a).tdiv b) - 1) = - (b * (-a).tdiv b) - b := by rw [Int.mul_sub, e2, Int.mul_one]
    exact ⟨by unfold InI; omega, hb.1, by unfold InI; omega, fun _ => ⟨_, rfl, H _ (by omega) (by omega)⟩⟩
  · have e := Int.tmod_add_mul_tdiv (a + b - 1) b
    have h1 := Int.tmod_nonneg b (a := a + b - 1) (by omega)
    have h2 := Int.tmod_lt_of_pos (a + b - 1) hb.1
    have e3 : b * ((a + b - 1).tdiv b - 1) = b * (a + b - 1).tdiv b - b := by rw [Int.mul_sub, Int.mul_one]
    exact ⟨by unfold InI; omega, by unfold InI; omega, hb.1, fun _ => ⟨_, rfl, H _ (by omega) (by omega)⟩⟩
/-- a turn, or -1 -/
theorem f_319 {c b d t : Int} (hd : 0 < d) (h : InI (c - b)) (H : ∀ r, -1 ≤ r → (r < t ∨ r = -1) → (0 ≤ r → c = b + d * r) → K r mem) : CWI (Ex S (n + 1)) 319 [.inl c, .inl b, .inl d, .inl t] mem K := by
  have hN : K (-1) mem := H (-1) (by omega) (Or.inr rfl) (fun q => by omega)
  refine CW.of (k := 1) mt_319 rfl rfl (w_319_0 (Ex.mono S n) ⟨h, fun q _ => ⟨_, rfl, hN⟩, fun q => ⟨hd, fun q2 _ => ⟨_, rfl, hN⟩, fun q2 => ⟨hd, fun q3 _ => ⟨_, rfl, hN⟩, fun q3 => ⟨hd, fun _ => ⟨_, rfl, ?_⟩⟩⟩⟩⟩)
  have e := Int.tmod_add_mul_tdiv (c - b) d
  have h3 : 0 ≤ (c - b).tdiv d := Int.tdiv_nonneg (by omega) (by omega)
  exact H _ (by omega) (Or.inl (by omega)) (fun _ => by omega)
/-- isIn -/
theorem f_227 {v lo hi : Int} (H1 : lo ≤ v → v ≤ hi → K 1 mem) (H0 : v < lo ∨ hi < v → K 0 mem) : CWI (Ex S (n + 1)) 227 [.inl v, .inl lo, .inl hi] mem K := by
  refine CW.of (k := 0) mt_227 rfl rfl (w_227_0 (Ex.mono S n) ?_)
  refine ⟨fun q => ⟨_, rfl, H0 (Or.inl (by omega))⟩, fun q => ⟨fun q2 => ⟨_, rfl, H0 (Or.inr (by omega))⟩, fun q2 => ⟨_, rfl, H1 (by omega) (by omega)⟩⟩⟩
end SPEC
/-! laid by wip/hand/wxg.py: needs: what the paths of methods ask for -/
set_option maxRecDepth 100000 in
theorem mt_240 : MT[240]? = some M_240 := rfl
set_option maxRecDepth 100000 in
theorem mt_245 : MT[245]? = some M_245 := rfl
set_option maxRecDepth 100000 in
theorem mt_247 : MT[247]? = some M_247 := rfl
theorem te_240_0 : (pT M_240).find? (fun e => e.1 == 0) = some (0, .iconst 0, 0, 0) := rfl
theorem te_240_1 : (pT M_240).find? (fun e => e.1 == 1) = some (1, .istore_n 1, 0, 0) := rfl
theorem te_240_2 : (pT M_240).find? (fun e => e.1 == 2) = some (2, .iload_n 1, 0, 0) := rfl
theorem te_240_3 : (pT M_240).find? (fun e => e.1 == 3) = some (3, .aload_n 0, 0, 0) := rfl
theorem te_240_4 : (pT M_240).find? (fun e => e.1 == 4) = some (4, .getfield 108, 10, 1) := rfl
theorem te_240_7 : (pT M_240).find? (fun e => e.1 == 7) = some (7, .if_icmp .ge 74, 0, 0) := rfl
theorem te_240_10 : (pT M_240).find? (fun e => e.1 == 10) = some (10, .iconst 0, 0, 0) := rfl
theorem te_240_11 : (pT M_240).find? (fun e => e.1 == 11) = some (11, .istore_n 2, 0, 0) := rfl
theorem te_240_12 : (pT M_240).find? (fun e => e.1 == 12) = some (12, .iload_n 2, 0, 0) := rfl
theorem te_240_13 : (pT M_240).find? (fun e => e.1 == 13) = some (13, .aload_n 0, 0, 0) := rfl
theorem te_240_14 : (pT M_240).find? (fun e => e.1 == 14) = some (14, .iload_n 1, 0, 0) := rfl
theorem te_240_15 : (pT M_240).find? (fun e => e.1 == 15) = some (15, .invokevirtual 126, 241, 0) := rfl
theorem te_240_18 : (pT M_240).find? (fun e => e.1 == 18) = some (18, .if_icmp .ge 57, 0, 0) := rfl
theorem te_240_21 : (pT M_240).find? (fun e => e.1 == 21) = some (21, .aload_n 0, 0, 0) := rfl
theorem te_240_22 : (pT M_240).find? (fun e => e.1 == 22) = some (22, .iload_n 1, 0, 0) := rfl
theorem te_240_23 : (pT M_240).find? (fun e => e.1 == 23) = some (23, .iload_n 2, 0, 0) := rfl
theorem te_240_24 : (pT M_240).find? (fun e => e.1 == 24) = some (24, .invokevirtual 130, 242, 0) := rfl
theorem te_240_27 : (pT M_240).find? (fun e => e.1 == 27) = some (27, .istore_n 3, 0, 0) := rfl
theorem te_240_28 : (pT M_240).find? (fun e => e.1 == 28) = some (28, .iload_n 3, 0, 0) := rfl
theorem te_240_29 : (pT M_240).find? (fun e => e.1 == 29) = some (29, .ifCond .ge 6, 0, 0) := rfl
theorem te_240_32 : (pT M_240).find? (fun e => e.1 == 32) = some (32, .goto 37, 0, 0) := rfl
theorem te_240_35 : (pT M_240).find? (fun e => e.1 == 35) = some (35, .iload_n 3, 0, 0) := rfl
theorem te_240_36 : (pT M_240).find? (fun e => e.1 == 36) = some (36, .aload_n 0, 0, 0) := rfl
theorem te_240_37 : (pT M_240).find? (fun e => e.1 == 37) = some (37, .getfield 108, 10, 1) := rfl
theorem te_240_40 : (pT M_240).find? (fun e => e.1 == 40) = some (40, .if_icmp .ge 27, 0, 0) := rfl
theorem te_240_43 : (pT M_240).find? (fun e => e.1 == 43) = some (43, .aload_n 0, 0, 0) := rfl
theorem te_240_44 : (pT M_240).find? (fun e => e.1 == 44) = some (44, .getfield 7, 10, 2) := rfl
theorem te_240_47 : (pT M_240).find? (fun e => e.1 == 47) = some (47, .iload_n 3, 0, 0) := rfl
theorem te_240_48 : (pT M_240).find? (fun e => e.1 == 48) = some (48, .iaload, 0, 0) := rfl
theorem te_240_49 : (pT M_240).find? (fun e => e.1 == 49) = some (49, .iconst 5, 0, 0) := rfl
theorem te_240_50 : (pT M_240).find? (fun e => e.1 == 50) = some (50, .if_icmp .eq 17, 0, 0) := rfl
theorem te_240_53 : (pT M_240).find? (fun e => e.1 == 53) = some (53, .aload_n 0, 0, 0) := rfl
theorem te_240_54 : (pT M_240).find? (fun e => e.1 == 54) = some (54, .iload_n 1, 0, 0) := rfl
theorem te_240_55 : (pT M_240).find? (fun e => e.1 == 55) = some (55, .iload_n 2, 0, 0) := rfl
theorem te_240_56 : (pT M_240).find? (fun e => e.1 == 56) = some (56, .invokevirtual 134, 243, 0) := rfl
theorem te_240_59 : (pT M_240).find? (fun e => e.1 == 59) = some (59, .ifCond .ne 10, 0, 0) := rfl
theorem te_240_62 : (pT M_240).find? (fun e => e.1 == 62) = some (62, .iload_n 3, 0, 0) := rfl
theorem te_240_63 : (pT M_240).find? (fun e => e.1 == 63) = some (63, .iload_n 1, 0, 0) := rfl
theorem te_240_64 : (pT M_240).find? (fun e => e.1 == 64) = some (64, .if_icmp .lt 5, 0, 0) := rfl
theorem te_240_67 : (pT M_240).find? (fun e => e.1 == 67) = some (67, .iconst 0, 0, 0) := rfl
theorem te_240_68 : (pT M_240).find? (fun e => e.1 == 68) = some (68, .ireturn, 0, 0) := rfl
theorem te_240_69 : (pT M_240).find? (fun e => e.1 == 69) = some (69, .iinc 2 1, 0, 0) := rfl
theorem te_240_72 : (pT M_240).find? (fun e => e.1 == 72) = some (72, .goto (-60), 0, 0) := rfl
theorem te_240_75 : (pT M_240).find? (fun e => e.1 == 75) = some (75, .iinc 1 1, 0, 0) := rfl
theorem te_240_78 : (pT M_240).find? (fun e => e.1 == 78) = some (78, .goto (-76), 0, 0) := rfl
theorem te_240_81 : (pT M_240).find? (fun e => e.1 == 81) = some (81, .iconst 1, 0, 0) := rfl
theorem te_240_82 : (pT M_240).find? (fun e => e.1 == 82) = some (82, .ireturn, 0, 0) := rfl
theorem te_245_0 : (pT M_245).find? (fun e => e.1 == 0) = some (0, .aload_n 0, 0, 0) := rfl
theorem te_245_1 : (pT M_245).find? (fun e => e.1 == 1) = some (1, .iconst 0, 0, 0) := rfl
theorem te_245_2 : (pT M_245).find? (fun e => e.1 == 2) = some (2, .putfield 141, 10, 12) := rfl
theorem te_245_5 : (pT M_245).find? (fun e => e.1 == 5) = some (5, .iconst 0, 0, 0) := rfl
theorem te_245_6 : (pT M_245).find? (fun e => e.1 == 6) = some (6, .istore_n 1, 0, 0) := rfl
theorem te_245_7 : (pT M_245).find? (fun e => e.1 == 7) = some (7, .iload_n 1, 0, 0) := rfl
theorem te_245_8 : (pT M_245).find? (fun e => e.1 == 8) = some (8, .aload_n 0, 0, 0) := rfl
theorem te_245_9 : (pT M_245).find? (fun e => e.1 == 9) = some (9, .getfield 108, 10, 1) := rfl
theorem te_245_12 : (pT M_245).find? (fun e => e.1 == 12) = some (12, .if_icmp .ge 62, 0, 0) := rfl
theorem te_245_15 : (pT M_245).find? (fun e => e.1 == 15) = some (15, .iconst 0, 0, 0) := rfl
theorem te_245_16 : (pT M_245).find? (fun e => e.1 == 16) = some (16, .istore_n 2, 0, 0) := rfl
theorem te_245_17 : (pT M_245).find? (fun e => e.1 == 17) = some (17, .iload_n 2, 0, 0) := rfl
theorem te_245_18 : (pT M_245).find? (fun e => e.1 == 18) = some (18, .aload_n 0, 0, 0) := rfl
theorem te_245_19 : (pT M_245).find? (fun e => e.1 == 19) = some (19, .iload_n 1, 0, 0) := rfl
theorem te_245_20 : (pT M_245).find? (fun e => e.1 == 20) = some (20, .invokevirtual 126, 241, 0) := rfl
theorem te_245_23 : (pT M_245).find? (fun e => e.1 == 23) = some (23, .if_icmp .ge 45, 0, 0) := rfl
theorem te_245_26 : (pT M_245).find? (fun e => e.1 == 26) = some (26, .aload_n 0, 0, 0) := rfl
theorem te_245_27 : (pT M_245).find? (fun e => e.1 == 27) = some (27, .iload_n 1, 0, 0) := rfl
theorem te_245_28 : (pT M_245).find? (fun e => e.1 == 28) = some (28, .iload_n 2, 0, 0) := rfl
theorem te_245_29 : (pT M_245).find? (fun e => e.1 == 29) = some (29, .invokevirtual 130, 242, 0) := rfl
theorem te_245_32 : (pT M_245).find? (fun e => e.1 == 32) = some (32, .ifCond .lt 30, 0, 0) := rfl
theorem te_245_35 : (pT M_245).find? (fun e => e.1 == 35) = some (35, .aload_n 0, 0, 0) := rfl
theorem te_245_36 : (pT M_245).find? (fun e => e.1 == 36) = some (36, .aload_n 0, 0, 0) := rfl
theorem te_245_37 : (pT M_245).find? (fun e => e.1 == 37) = some (37, .iload_n 1, 0, 0) := rfl
theorem te_245_38 : (pT M_245).find? (fun e => e.1 == 38) = some (38, .iload_n 2, 0, 0) := rfl
theorem te_245_39 : (pT M_245).find? (fun e => e.1 == 39) = some (39, .invokevirtual 130, 242, 0) := rfl
theorem te_245_42 : (pT M_245).find? (fun e => e.1 == 42) = some (42, .iload_n 1, 0, 0) := rfl
theorem te_245_43 : (pT M_245).find? (fun e => e.1 == 43) = some (43, .aload_n 0, 0, 0) := rfl
theorem te_245_44 : (pT M_245).find? (fun e => e.1 == 44) = some (44, .iload_n 1, 0, 0) := rfl
theorem te_245_45 : (pT M_245).find? (fun e => e.1 == 45) = some (45, .iload_n 2, 0, 0) := rfl
theorem te_245_46 : (pT M_245).find? (fun e => e.1 == 46) = some (46, .invokevirtual 134, 243, 0) := rfl
theorem te_245_49 : (pT M_245).find? (fun e => e.1 == 49) = some (49, .aload_n 0, 0, 0) := rfl
theorem te_245_50 : (pT M_245).find? (fun e => e.1 == 50) = some (50, .aload_n 0, 0, 0) := rfl
theorem te_245_51 : (pT M_245).find? (fun e => e.1 == 51) = some (51, .iload_n 1, 0, 0) := rfl
theorem te_245_52 : (pT M_245).find? (fun e => e.1 == 52) = some (52, .iload_n 2, 0, 0) := rfl
theorem te_245_53 : (pT M_245).find? (fun e => e.1 == 53) = some (53, .invokevirtual 130, 242, 0) := rfl
theorem te_245_56 : (pT M_245).find? (fun e => e.1 == 56) = some (56, .invokevirtual 148, 246, 0) := rfl
theorem te_245_59 : (pT M_245).find? (fun e => e.1 == 59) = some (59, .invokevirtual 151, 247, 0) := rfl
theorem te_245_62 : (pT M_245).find? (fun e => e.1 == 62) = some (62, .iinc 2 1, 0, 0) := rfl
theorem te_245_65 : (pT M_245).find? (fun e => e.1 == 65) = some (65, .goto (-48), 0, 0) := rfl
theorem te_245_68 : (pT M_245).find? (fun e => e.1 == 68) = some (68, .iinc 1 1, 0, 0) := rfl
theorem te_245_71 : (pT M_245).find? (fun e => e.1 == 71) = some (71, .goto (-64), 0, 0) := rfl
theorem te_245_74 : (pT M_245).find? (fun e => e.1 == 74) = some (74, .iconst 0, 0, 0) := rfl
theorem te_245_75 : (pT M_245).find? (fun e => e.1 == 75) = some (75, .istore_n 1, 0, 0) := rfl
theorem te_245_76 : (pT M_245).find? (fun e => e.1 == 76) = some (76, .iload_n 1, 0, 0) := rfl
theorem te_245_77 : (pT M_245).find? (fun e => e.1 == 77) = some (77, .aload_n 0, 0, 0) := rfl
theorem te_245_78 : (pT M_245).find? (fun e => e.1 == 78) = some (78, .getfield 108, 10, 1) := rfl
theorem te_245_81 : (pT M_245).find? (fun e => e.1 == 81) = some (81, .if_icmp .ge 180, 0, 0) := rfl
theorem te_245_84 : (pT M_245).find? (fun e => e.1 == 84) = some (84, .iconst 0, 0, 0) := rfl
theorem te_245_85 : (pT M_245).find? (fun e => e.1 == 85) = some (85, .istore_n 2, 0, 0) := rfl
theorem te_245_86 : (pT M_245).find? (fun e => e.1 == 86) = some (86, .iload_n 2, 0, 0) := rfl
theorem te_245_87 : (pT M_245).find? (fun e => e.1 == 87) = some (87, .aload_n 0, 0, 0) := rfl
theorem te_245_88 : (pT M_245).find? (fun e => e.1 == 88) = some (88, .getfield 108, 10, 1) := rfl
theorem te_245_91 : (pT M_245).find? (fun e => e.1 == 91) = some (91, .if_icmp .ge 164, 0, 0) := rfl
theorem te_245_94 : (pT M_245).find? (fun e => e.1 == 94) = some (94, .aload_n 0, 0, 0) := rfl
theorem te_245_95 : (pT M_245).find? (fun e => e.1 == 95) = some (95, .getfield 7, 10, 2) := rfl
theorem te_245_98 : (pT M_245).find? (fun e => e.1 == 98) = some (98, .iload_n 1, 0, 0) := rfl
theorem te_245_99 : (pT M_245).find? (fun e => e.1 == 99) = some (99, .iaload, 0, 0) := rfl
theorem te_245_100 : (pT M_245).find? (fun e => e.1 == 100) = some (100, .iconst 5, 0, 0) := rfl
theorem te_245_101 : (pT M_245).find? (fun e => e.1 == 101) = some (101, .if_icmp .ne 154, 0, 0) := rfl
theorem te_245_104 : (pT M_245).find? (fun e => e.1 == 104) = some (104, .iload_n 2, 0, 0) := rfl
theorem te_245_105 : (pT M_245).find? (fun e => e.1 == 105) = some (105, .iload_n 1, 0, 0) := rfl
theorem te_245_106 : (pT M_245).find? (fun e => e.1 == 106) = some (106, .if_icmp .eq 143, 0, 0) := rfl
theorem te_245_109 : (pT M_245).find? (fun e => e.1 == 109) = some (109, .aload_n 0, 0, 0) := rfl
theorem te_245_110 : (pT M_245).find? (fun e => e.1 == 110) = some (110, .iload_n 2, 0, 0) := rfl
theorem te_245_111 : (pT M_245).find? (fun e => e.1 == 111) = some (111, .invokevirtual 155, 249, 0) := rfl
theorem te_245_114 : (pT M_245).find? (fun e => e.1 == 114) = some (114, .ifCond .eq 135, 0, 0) := rfl
theorem te_245_117 : (pT M_245).find? (fun e => e.1 == 117) = some (117, .aload_n 0, 0, 0) := rfl
theorem te_245_118 : (pT M_245).find? (fun e => e.1 == 118) = some (118, .iload_n 2, 0, 0) := rfl
theorem te_245_119 : (pT M_245).find? (fun e => e.1 == 119) = some (119, .invokevirtual 158, 250, 0) := rfl
theorem te_245_122 : (pT M_245).find? (fun e => e.1 == 122) = some (122, .aload_n 0, 0, 0) := rfl
theorem te_245_123 : (pT M_245).find? (fun e => e.1 == 123) = some (123, .iload_n 1, 0, 0) := rfl
theorem te_245_124 : (pT M_245).find? (fun e => e.1 == 124) = some (124, .invokevirtual 158, 250, 0) := rfl
theorem te_245_127 : (pT M_245).find? (fun e => e.1 == 127) = some (127, .if_icmp .eq 6, 0, 0) := rfl
theorem te_245_130 : (pT M_245).find? (fun e => e.1 == 130) = some (130, .goto 119, 0, 0) := rfl
theorem te_245_133 : (pT M_245).find? (fun e => e.1 == 133) = some (133, .aload_n 0, 0, 0) := rfl
theorem te_245_134 : (pT M_245).find? (fun e => e.1 == 134) = some (134, .iload_n 1, 0, 0) := rfl
theorem te_245_135 : (pT M_245).find? (fun e => e.1 == 135) = some (135, .invokevirtual 161, 251, 0) := rfl
theorem te_245_138 : (pT M_245).find? (fun e => e.1 == 138) = some (138, .istore_n 3, 0, 0) := rfl
theorem te_245_139 : (pT M_245).find? (fun e => e.1 == 139) = some (139, .aload_n 0, 0, 0) := rfl
theorem te_245_140 : (pT M_245).find? (fun e => e.1 == 140) = some (140, .iload_n 2, 0, 0) := rfl
theorem te_245_141 : (pT M_245).find? (fun e => e.1 == 141) = some (141, .invokevirtual 161, 251, 0) := rfl
theorem te_245_144 : (pT M_245).find? (fun e => e.1 == 144) = some (144, .istore 4, 0, 0) := rfl
theorem te_245_146 : (pT M_245).find? (fun e => e.1 == 146) = some (146, .iload_n 3, 0, 0) := rfl
theorem te_245_147 : (pT M_245).find? (fun e => e.1 == 147) = some (147, .iload 4, 0, 0) := rfl
theorem te_245_149 : (pT M_245).find? (fun e => e.1 == 149) = some (149, .if_icmp .gt 14, 0, 0) := rfl
theorem te_245_152 : (pT M_245).find? (fun e => e.1 == 152) = some (152, .iload_n 3, 0, 0) := rfl
theorem te_245_153 : (pT M_245).find? (fun e => e.1 == 153) = some (153, .iload 4, 0, 0) := rfl
theorem te_245_155 : (pT M_245).find? (fun e => e.1 == 155) = some (155, .if_icmp .ne 12, 0, 0) := rfl
theorem te_245_158 : (pT M_245).find? (fun e => e.1 == 158) = some (158, .iload_n 1, 0, 0) := rfl
theorem te_245_159 : (pT M_245).find? (fun e => e.1 == 159) = some (159, .iload_n 2, 0, 0) := rfl
theorem te_245_160 : (pT M_245).find? (fun e => e.1 == 160) = some (160, .if_icmp .ge 7, 0, 0) := rfl
theorem te_245_163 : (pT M_245).find? (fun e => e.1 == 163) = some (163, .iconst 1, 0, 0) := rfl
theorem te_245_164 : (pT M_245).find? (fun e => e.1 == 164) = some (164, .goto 4, 0, 0) := rfl
theorem te_245_167 : (pT M_245).find? (fun e => e.1 == 167) = some (167, .iconst 0, 0, 0) := rfl
theorem te_245_168 : (pT M_245).find? (fun e => e.1 == 168) = some (168, .istore 5, 0, 0) := rfl
theorem te_245_170 : (pT M_245).find? (fun e => e.1 == 170) = some (170, .aload_n 0, 0, 0) := rfl
theorem te_245_171 : (pT M_245).find? (fun e => e.1 == 171) = some (171, .getfield 7, 10, 2) := rfl
theorem te_245_174 : (pT M_245).find? (fun e => e.1 == 174) = some (174, .iload_n 2, 0, 0) := rfl
theorem te_245_175 : (pT M_245).find? (fun e => e.1 == 175) = some (175, .iaload, 0, 0) := rfl
theorem te_245_176 : (pT M_245).find? (fun e => e.1 == 176) = some (176, .iconst 4, 0, 0) := rfl
theorem te_245_177 : (pT M_245).find? (fun e => e.1 == 177) = some (177, .if_icmp .ne 26, 0, 0) := rfl
theorem te_245_180 : (pT M_245).find? (fun e => e.1 == 180) = some (180, .iload 5, 0, 0) := rfl
theorem te_245_182 : (pT M_245).find? (fun e => e.1 == 182) = some (182, .ifCond .eq 21, 0, 0) := rfl
theorem te_245_185 : (pT M_245).find? (fun e => e.1 == 185) = some (185, .aload_n 0, 0, 0) := rfl
theorem te_245_186 : (pT M_245).find? (fun e => e.1 == 186) = some (186, .iload_n 1, 0, 0) := rfl
theorem te_245_187 : (pT M_245).find? (fun e => e.1 == 187) = some (187, .iload_n 2, 0, 0) := rfl
theorem te_245_188 : (pT M_245).find? (fun e => e.1 == 188) = some (188, .iload_n 3, 0, 0) := rfl
theorem te_245_189 : (pT M_245).find? (fun e => e.1 == 189) = some (189, .iload 4, 0, 0) := rfl
theorem te_245_191 : (pT M_245).find? (fun e => e.1 == 191) = some (191, .isub, 0, 0) := rfl
theorem te_245_192 : (pT M_245).find? (fun e => e.1 == 192) = some (192, .aload_n 0, 0, 0) := rfl
theorem te_245_193 : (pT M_245).find? (fun e => e.1 == 193) = some (193, .iload_n 1, 0, 0) := rfl
theorem te_245_194 : (pT M_245).find? (fun e => e.1 == 194) = some (194, .invokevirtual 148, 246, 0) := rfl
theorem te_245_197 : (pT M_245).find? (fun e => e.1 == 197) = some (197, .invokevirtual 151, 247, 0) := rfl
theorem te_245_200 : (pT M_245).find? (fun e => e.1 == 200) = some (200, .goto 49, 0, 0) := rfl
theorem te_245_203 : (pT M_245).find? (fun e => e.1 == 203) = some (203, .aload_n 0, 0, 0) := rfl
theorem te_245_204 : (pT M_245).find? (fun e => e.1 == 204) = some (204, .getfield 7, 10, 2) := rfl
theorem te_245_207 : (pT M_245).find? (fun e => e.1 == 207) = some (207, .iload_n 2, 0, 0) := rfl
theorem te_245_208 : (pT M_245).find? (fun e => e.1 == 208) = some (208, .iaload, 0, 0) := rfl
theorem te_245_209 : (pT M_245).find? (fun e => e.1 == 209) = some (209, .iconst 4, 0, 0) := rfl
theorem te_245_210 : (pT M_245).find? (fun e => e.1 == 210) = some (210, .if_icmp .ne 23, 0, 0) := rfl
theorem te_245_213 : (pT M_245).find? (fun e => e.1 == 213) = some (213, .aload_n 0, 0, 0) := rfl
theorem te_245_214 : (pT M_245).find? (fun e => e.1 == 214) = some (214, .iload_n 2, 0, 0) := rfl
theorem te_245_215 : (pT M_245).find? (fun e => e.1 == 215) = some (215, .iload_n 1, 0, 0) := rfl
theorem te_245_216 : (pT M_245).find? (fun e => e.1 == 216) = some (216, .iload 4, 0, 0) := rfl
theorem te_245_218 : (pT M_245).find? (fun e => e.1 == 218) = some (218, .iload_n 3, 0, 0) := rfl
theorem te_245_219 : (pT M_245).find? (fun e => e.1 == 219) = some (219, .isub, 0, 0) := rfl
theorem te_245_220 : (pT M_245).find? (fun e => e.1 == 220) = some (220, .iconst 1, 0, 0) := rfl
theorem te_245_221 : (pT M_245).find? (fun e => e.1 == 221) = some (221, .aload_n 0, 0, 0) := rfl
theorem te_245_222 : (pT M_245).find? (fun e => e.1 == 222) = some (222, .iload_n 1, 0, 0) := rfl
theorem te_245_223 : (pT M_245).find? (fun e => e.1 == 223) = some (223, .invokevirtual 148, 246, 0) := rfl
theorem te_245_226 : (pT M_245).find? (fun e => e.1 == 226) = some (226, .isub, 0, 0) := rfl
theorem te_245_227 : (pT M_245).find? (fun e => e.1 == 227) = some (227, .invokevirtual 151, 247, 0) := rfl
theorem te_245_230 : (pT M_245).find? (fun e => e.1 == 230) = some (230, .goto 19, 0, 0) := rfl
theorem te_245_233 : (pT M_245).find? (fun e => e.1 == 233) = some (233, .iload 5, 0, 0) := rfl
theorem te_245_235 : (pT M_245).find? (fun e => e.1 == 235) = some (235, .ifCond .eq 14, 0, 0) := rfl
theorem te_245_238 : (pT M_245).find? (fun e => e.1 == 238) = some (238, .aload_n 0, 0, 0) := rfl
theorem te_245_239 : (pT M_245).find? (fun e => e.1 == 239) = some (239, .iload_n 1, 0, 0) := rfl
theorem te_245_240 : (pT M_245).find? (fun e => e.1 == 240) = some (240, .iload_n 2, 0, 0) := rfl
theorem te_245_241 : (pT M_245).find? (fun e => e.1 == 241) = some (241, .iload_n 3, 0, 0) := rfl
theorem te_245_242 : (pT M_245).find? (fun e => e.1 == 242) = some (242, .iload 4, 0, 0) := rfl
theorem te_245_244 : (pT M_245).find? (fun e => e.1 == 244) = some (244, .isub, 0, 0) := rfl
theorem te_245_245 : (pT M_245).find? (fun e => e.1 == 245) = some (245, .iconst 1, 0, 0) := rfl
theorem te_245_246 : (pT M_245).find? (fun e => e.1 == 246) = some (246, .invokevirtual 151, 247, 0) := rfl
theorem te_245_249 : (pT M_245).find? (fun e => e.1 == 249) = some (249, .iinc 2 1, 0, 0) := rfl
theorem te_245_252 : (pT M_245).find? (fun e => e.1 == 252) = some (252, .goto (-166), 0, 0) := rfl
theorem te_245_255 : (pT M_245).find? (fun e => e.1 == 255) = some (255, .iinc 1 1, 0, 0) := rfl
theorem te_245_258 : (pT M_245).find? (fun e => e.1 == 258) = some (258, .goto (-182), 0, 0) := rfl
theorem te_245_261 : (pT M_245).find? (fun e => e.1 == 261) = some (261, .return_, 0, 0) := rfl
theorem te_247_0 : (pT M_247).find? (fun e => e.1 == 0) = some (0, .iconst 0, 0, 0) := rfl
theorem te_247_1 : (pT M_247).find? (fun e => e.1 == 1) = some (1, .istore 5, 0, 0) := rfl
theorem te_247_3 : (pT M_247).find? (fun e => e.1 == 3) = some (3, .iload 5, 0, 0) := rfl
theorem te_247_5 : (pT M_247).find? (fun e => e.1 == 5) = some (5, .aload_n 0, 0, 0) := rfl
theorem te_247_6 : (pT M_247).find? (fun e => e.1 == 6) = some (6, .getfield 141, 10, 12) := rfl
theorem te_247_9 : (pT M_247).find? (fun e => e.1 == 9) = some (9, .if_icmp .ge 55, 0, 0) := rfl
theorem te_247_12 : (pT M_247).find? (fun e => e.1 == 12) = some (12, .aload_n 0, 0, 0) := rfl
theorem te_247_13 : (pT M_247).find? (fun e => e.1 == 13) = some (13, .getfield 40, 10, 13) := rfl
theorem te_247_16 : (pT M_247).find? (fun e => e.1 == 16) = some (16, .iload 5, 0, 0) := rfl
theorem te_247_18 : (pT M_247).find? (fun e => e.1 == 18) = some (18, .iaload, 0, 0) := rfl
theorem te_247_19 : (pT M_247).find? (fun e => e.1 == 19) = some (19, .iload_n 1, 0, 0) := rfl
theorem te_247_20 : (pT M_247).find? (fun e => e.1 == 20) = some (20, .if_icmp .ne 38, 0, 0) := rfl
theorem te_247_23 : (pT M_247).find? (fun e => e.1 == 23) = some (23, .aload_n 0, 0, 0) := rfl
theorem te_247_24 : (pT M_247).find? (fun e => e.1 == 24) = some (24, .getfield 43, 10, 14) := rfl
theorem te_247_27 : (pT M_247).find? (fun e => e.1 == 27) = some (27, .iload 5, 0, 0) := rfl
theorem te_247_29 : (pT M_247).find? (fun e => e.1 == 29) = some (29, .iaload, 0, 0) := rfl
theorem te_247_30 : (pT M_247).find? (fun e => e.1 == 30) = some (30, .iload_n 2, 0, 0) := rfl
theorem te_247_31 : (pT M_247).find? (fun e => e.1 == 31) = some (31, .if_icmp .ne 27, 0, 0) := rfl
theorem te_247_34 : (pT M_247).find? (fun e => e.1 == 34) = some (34, .aload_n 0, 0, 0) := rfl
theorem te_247_35 : (pT M_247).find? (fun e => e.1 == 35) = some (35, .getfield 46, 10, 15) := rfl
theorem te_247_38 : (pT M_247).find? (fun e => e.1 == 38) = some (38, .iload 5, 0, 0) := rfl
theorem te_247_40 : (pT M_247).find? (fun e => e.1 == 40) = some (40, .iaload, 0, 0) := rfl
theorem te_247_41 : (pT M_247).find? (fun e => e.1 == 41) = some (41, .iload_n 3, 0, 0) := rfl
theorem te_247_42 : (pT M_247).find? (fun e => e.1 == 42) = some (42, .if_icmp .ne 16, 0, 0) := rfl
theorem te_247_45 : (pT M_247).find? (fun e => e.1 == 45) = some (45, .aload_n 0, 0, 0) := rfl
theorem te_247_46 : (pT M_247).find? (fun e => e.1 == 46) = some (46, .getfield 49, 10, 16) := rfl
theorem te_247_49 : (pT M_247).find? (fun e => e.1 == 49) = some (49, .iload 5, 0, 0) := rfl
theorem te_247_51 : (pT M_247).find? (fun e => e.1 == 51) = some (51, .iaload, 0, 0) := rfl
theorem te_247_52 : (pT M_247).find? (fun e => e.1 == 52) = some (52, .iload 4, 0, 0) := rfl
theorem te_247_54 : (pT M_247).find? (fun e => e.1 == 54) = some (54, .if_icmp .ne 4, 0, 0) := rfl
theorem te_247_57 : (pT M_247).find? (fun e => e.1 == 57) = some (57, .return_, 0, 0) := rfl
theorem te_247_58 : (pT M_247).find? (fun e => e.1 == 58) = some (58, .iinc 5 1, 0, 0) := rfl
theorem te_247_61 : (pT M_247).find? (fun e => e.1 == 61) = some (61, .goto (-58), 0, 0) := rfl
theorem te_247_64 : (pT M_247).find? (fun e => e.1 == 64) = some (64, .aload_n 0, 0, 0) := rfl
theorem te_247_65 : (pT M_247).find? (fun e => e.1 == 65) = some (65, .getfield 141, 10, 12) := rfl
theorem te_247_68 : (pT M_247).find? (fun e => e.1 == 68) = some (68, .istore 5, 0, 0) := rfl
theorem te_247_70 : (pT M_247).find? (fun e => e.1 == 70) = some (70, .iload 5, 0, 0) := rfl
theorem te_247_72 : (pT M_247).find? (fun e => e.1 == 72) = some (72, .ifCond .le 89, 0, 0) := rfl
theorem te_247_75 : (pT M_247).find? (fun e => e.1 == 75) = some (75, .aload_n 0, 0, 0) := rfl
theorem te_247_76 : (pT M_247).find? (fun e => e.1 == 76) = some (76, .iload 5, 0, 0) := rfl
theorem te_247_78 : (pT M_247).find? (fun e => e.1 == 78) = some (78, .iconst 1, 0, 0) := rfl
theorem te_247_79 : (pT M_247).find? (fun e => e.1 == 79) = some (79, .isub, 0, 0) := rfl
theorem te_247_80 : (pT M_247).find? (fun e => e.1 == 80) = some (80, .iload_n 1, 0, 0) := rfl
theorem te_247_81 : (pT M_247).find? (fun e => e.1 == 81) = some (81, .iload_n 2, 0, 0) := rfl
theorem te_247_82 : (pT M_247).find? (fun e => e.1 == 82) = some (82, .iload_n 3, 0, 0) := rfl
theorem te_247_83 : (pT M_247).find? (fun e => e.1 == 83) = some (83, .iload 4, 0, 0) := rfl
theorem te_247_85 : (pT M_247).find? (fun e => e.1 == 85) = some (85, .invokevirtual 144, 248, 0) := rfl
theorem te_247_88 : (pT M_247).find? (fun e => e.1 == 88) = some (88, .ifCond .eq 73, 0, 0) := rfl
theorem te_247_91 : (pT M_247).find? (fun e => e.1 == 91) = some (91, .aload_n 0, 0, 0) := rfl
theorem te_247_92 : (pT M_247).find? (fun e => e.1 == 92) = some (92, .getfield 40, 10, 13) := rfl
theorem te_247_95 : (pT M_247).find? (fun e => e.1 == 95) = some (95, .iload 5, 0, 0) := rfl
theorem te_247_97 : (pT M_247).find? (fun e => e.1 == 97) = some (97, .aload_n 0, 0, 0) := rfl
theorem te_247_98 : (pT M_247).find? (fun e => e.1 == 98) = some (98, .getfield 40, 10, 13) := rfl
theorem te_247_101 : (pT M_247).find? (fun e => e.1 == 101) = some (101, .iload 5, 0, 0) := rfl
theorem te_247_103 : (pT M_247).find? (fun e => e.1 == 103) = some (103, .iconst 1, 0, 0) := rfl
theorem te_247_104 : (pT M_247).find? (fun e => e.1 == 104) = some (104, .isub, 0, 0) := rfl
theorem te_247_105 : (pT M_247).find? (fun e => e.1 == 105) = some (105, .iaload, 0, 0) := rfl
theorem te_247_106 : (pT M_247).find? (fun e => e.1 == 106) = some (106, .iastore, 0, 0) := rfl
theorem te_247_107 : (pT M_247).find? (fun e => e.1 == 107) = some (107, .aload_n 0, 0, 0) := rfl
theorem te_247_108 : (pT M_247).find? (fun e => e.1 == 108) = some (108, .getfield 43, 10, 14) := rfl
theorem te_247_111 : (pT M_247).find? (fun e => e.1 == 111) = some (111, .iload 5, 0, 0) := rfl
theorem te_247_113 : (pT M_247).find? (fun e => e.1 == 113) = some (113, .aload_n 0, 0, 0) := rfl
theorem te_247_114 : (pT M_247).find? (fun e => e.1 == 114) = some (114, .getfield 43, 10, 14) := rfl
theorem te_247_117 : (pT M_247).find? (fun e => e.1 == 117) = some (117, .iload 5, 0, 0) := rfl
theorem te_247_119 : (pT M_247).find? (fun e => e.1 == 119) = some (119, .iconst 1, 0, 0) := rfl
theorem te_247_120 : (pT M_247).find? (fun e => e.1 == 120) = some (120, .isub, 0, 0) := rfl
theorem te_247_121 : (pT M_247).find? (fun e => e.1 == 121) = some (121, .iaload, 0, 0) := rfl
theorem te_247_122 : (pT M_247).find? (fun e => e.1 == 122) = some (122, .iastore, 0, 0) := rfl
theorem te_247_123 : (pT M_247).find? (fun e => e.1 == 123) = some (123, .aload_n 0, 0, 0) := rfl
theorem te_247_124 : (pT M_247).find? (fun e => e.1 == 124) = some (124, .getfield 46, 10, 15) := rfl
theorem te_247_127 : (pT M_247).find? (fun e => e.1 == 127) = some (127, .iload 5, 0, 0) := rfl
theorem te_247_129 : (pT M_247).find? (fun e => e.1 == 129) = some (129, .aload_n 0, 0, 0) := rfl
theorem te_247_130 : (pT M_247).find? (fun e => e.1 == 130) = some (130, .getfield 46, 10, 15) := rfl
theorem te_247_133 : (pT M_247).find? (fun e => e.1 == 133) = some (133, .iload 5, 0, 0) := rfl
theorem te_247_135 : (pT M_247).find? (fun e => e.1 == 135) = some (135, .iconst 1, 0, 0) := rfl
theorem te_247_136 : (pT M_247).find? (fun e => e.1 == 136) = some (136, .isub, 0, 0) := rfl
theorem te_247_137 : (pT M_247).find? (fun e => e.1 == 137) = some (137, .iaload, 0, 0) := rfl
theorem te_247_138 : (pT M_247).find? (fun e => e.1 == 138) = some (138, .iastore, 0, 0) := rfl
theorem te_247_139 : (pT M_247).find? (fun e => e.1 == 139) = some (139, .aload_n 0, 0, 0) := rfl
theorem te_247_140 : (pT M_247).find? (fun e => e.1 == 140) = some (140, .getfield 49, 10, 16) := rfl
theorem te_247_143 : (pT M_247).find? (fun e => e.1 == 143) = some (143, .iload 5, 0, 0) := rfl
theorem te_247_145 : (pT M_247).find? (fun e => e.1 == 145) = some (145, .aload_n 0, 0, 0) := rfl
theorem te_247_146 : (pT M_247).find? (fun e => e.1 == 146) = some (146, .getfield 49, 10, 16) := rfl
theorem te_247_149 : (pT M_247).find? (fun e => e.1 == 149) = some (149, .iload 5, 0, 0) := rfl
theorem te_247_151 : (pT M_247).find? (fun e => e.1 == 151) = some (151, .iconst 1, 0, 0) := rfl
theorem te_247_152 : (pT M_247).find? (fun e => e.1 == 152) = some (152, .isub, 0, 0) := rfl
theorem te_247_153 : (pT M_247).find? (fun e => e.1 == 153) = some (153, .iaload, 0, 0) := rfl
theorem te_247_154 : (pT M_247).find? (fun e => e.1 == 154) = some (154, .iastore, 0, 0) := rfl
theorem te_247_155 : (pT M_247).find? (fun e => e.1 == 155) = some (155, .iinc 5 (-1), 0, 0) := rfl
theorem te_247_158 : (pT M_247).find? (fun e => e.1 == 158) = some (158, .goto (-88), 0, 0) := rfl
theorem te_247_161 : (pT M_247).find? (fun e => e.1 == 161) = some (161, .aload_n 0, 0, 0) := rfl
theorem te_247_162 : (pT M_247).find? (fun e => e.1 == 162) = some (162, .getfield 40, 10, 13) := rfl
theorem te_247_165 : (pT M_247).find? (fun e => e.1 == 165) = some (165, .iload 5, 0, 0) := rfl
theorem te_247_167 : (pT M_247).find? (fun e => e.1 == 167) = some (167, .iload_n 1, 0, 0) := rfl
theorem te_247_168 : (pT M_247).find? (fun e => e.1 == 168) = some (168, .iastore, 0, 0) := rfl
theorem te_247_169 : (pT M_247).find? (fun e => e.1 == 169) = some (169, .aload_n 0, 0, 0) := rfl
theorem te_247_170 : (pT M_247).find? (fun e => e.1 == 170) = some (170, .getfield 43, 10, 14) := rfl
theorem te_247_173 : (pT M_247).find? (fun e => e.1 == 173) = some (173, .iload 5, 0, 0) := rfl
theorem te_247_175 : (pT M_247).find? (fun e => e.1 == 175) = some (175, .iload_n 2, 0, 0) := rfl
theorem te_247_176 : (pT M_247).find? (fun e => e.1 == 176) = some (176, .iastore, 0, 0) := rfl
theorem te_247_177 : (pT M_247).find? (fun e => e.1 == 177) = some (177, .aload_n 0, 0, 0) := rfl
theorem te_247_178 : (pT M_247).find? (fun e => e.1 == 178) = some (178, .getfield 46, 10, 15) := rfl
theorem te_247_181 : (pT M_247).find? (fun e => e.1 == 181) = some (181, .iload 5, 0, 0) := rfl
theorem te_247_183 : (pT M_247).find? (fun e => e.1 == 183) = some (183, .iload_n 3, 0, 0) := rfl
theorem te_247_184 : (pT M_247).find? (fun e => e.1 == 184) = some (184, .iastore, 0, 0) := rfl
theorem te_247_185 : (pT M_247).find? (fun e => e.1 == 185) = some (185, .aload_n 0, 0, 0) := rfl
theorem te_247_186 : (pT M_247).find? (fun e => e.1 == 186) = some (186, .getfield 49, 10, 16) := rfl
theorem te_247_189 : (pT M_247).find? (fun e => e.1 == 189) = some (189, .iload 5, 0, 0) := rfl
theorem te_247_191 : (pT M_247).find? (fun e => e.1 == 191) = some (191, .iload 4, 0, 0) := rfl
theorem te_247_193 : (pT M_247).find? (fun e => e.1 == 193) = some (193, .iastore, 0, 0) := rfl
theorem te_247_194 : (pT M_247).find? (fun e => e.1 == 194) = some (194, .aload_n 0, 0, 0) := rfl
theorem te_247_195 : (pT M_247).find? (fun e => e.1 == 195) = some (195, .dup, 0, 0) := rfl
theorem te_247_196 : (pT M_247).find? (fun e => e.1 == 196) = some (196, .getfield 141, 10, 12) := rfl
theorem te_247_199 : (pT M_247).find? (fun e => e.1 == 199) = some (199, .iconst 1, 0, 0) := rfl
theorem te_247_200 : (pT M_247).find? (fun e => e.1 == 200) = some (200, .iadd, 0, 0) := rfl
theorem te_247_201 : (pT M_247).find? (fun e => e.1 == 201) = some (201, .putfield 141, 10, 12) := rfl
theorem te_247_204 : (pT M_247).find? (fun e => e.1 == 204) = some (204, .return_, 0, 0) := rfl
theorem w_240_0 {C : CXW} (hC : Cmono C) {S : Nat × (Nat → Int32)} {K : WK} {mem : MM} (H : (Wx C S M_240 K 2 [some (.inr 143), some (.inl 0), none, none] [] mem)) : Wx C S M_240 K 0 [some (.inr 143), none, none, none] [] mem := by
  refine Wx.iconst hC te_240_0 rfl ?_
  refine Wx.istore_n hC te_240_1 rfl ?_
  exact H
theorem w_240_2 {C : CXW} (hC : Cmono C) {S : Nat × (Nat → Int32)} {K : WK} {mem : MM} {x1 : Int} (H : ∀ v1 : Int, v1 = mem 143 1 → InI v1 → ((v1 ≤ x1 → (K (some 1) mem)) ∧ (¬ (v1 ≤ x1) → (Wx C S M_240 K 12 [some (.inr 143), some (.inl x1), some (.inl 0), none] [] mem)))) : Wx C S M_240 K 2 [some (.inr 143), some (.inl x1), none, none] [] mem := by
  refine Wx.iload_n hC te_240_2 rfl ?_
  refine Wx.aload_n hC te_240_3 rfl ?_
  refine Wx.getI hC te_240_4 rfl rfl rfl (fun v1 e1 e2 => ?_)
  replace H := H v1 e1 e2
  refine Wx.icmp hC (t := 81) te_240_7 (by decide) (fun q => ?_) (fun q => ?_)
  · replace H := H.1 q
    refine Wx.iconst hC te_240_81 rfl ?_
    exact Wx.bret hC te_240_82 rfl (Or.inr rfl) H
  · replace H := H.2 q
    refine Wx.iconst hC te_240_10 rfl ?_
    refine Wx.istore_n hC te_240_11 rfl ?_
    exact H
theorem w_240_12 {C : CXW} (hC : Cmono C) {S : Nat × (Nat → Int32)} {K : WK} {mem : MM} {x1 x2 : Int} (H : (CWI C 241 [.inr 143, .inl x1] mem fun r2 m1 => InI r2 → ((r2 ≤ x2 → (InI (x1 + 1)) ∧ (Wx C S M_240 K 2 [some (.inr 143), some (.inl (x1 + 1)), none, none] [] m1)) ∧ (¬ (r2 ≤ x2) → (CWI C 242 [.inr 143, .inl x1, .inl x2] m1 fun r4 m3 => InI r4 → ((0 ≤ r4 → ∀ v5 : Int, v5 = m3 143 1 → InI v5 → ((v5 ≤ r4 → (K (some 0) m3)) ∧ (¬ (v5 ≤ r4) → (0 ≤ r4 ∧ r4 < 8) ∧ ∀ v6 : Int, v6 = m3 144 (Int.toNat r4) → InI v6 → ((v6 = 5 → (K (some 0) m3)) ∧ (¬ (v6 = 5) → (CWI C 243 [.inr 143, .inl x1, .inl x2] m3 fun r8 m7 => InI r8 → ((¬ r8 = 0 → (InI (x2 + 1)) ∧ (Wx C S M_240 K 12 [some (.inr 143), some (.inl x1), some (.inl (x2 + 1)), none] [] m7)) ∧ (¬ (¬ r8 = 0) → ((r4 < x1 → (InI (x2 + 1)) ∧ (Wx C S M_240 K 12 [some (.inr 143), some (.inl x1), some (.inl (x2 + 1)), none] [] m7)) ∧ (¬ (r4 < x1) → (K (some 0) m7))))))))))) ∧ (¬ (0 ≤ r4) → (InI (x2 + 1)) ∧ (Wx C S M_240 K 12 [some (.inr 143), some (.inl x1), some (.inl (x2 + 1)), none] [] m3)))))))) : Wx C S M_240 K 12 [some (.inr 143), some (.inl x1), some (.inl x2), none] [] mem := by
  refine Wx.iload_n hC te_240_12 rfl ?_
  refine Wx.aload_n hC te_240_13 rfl ?_
  refine Wx.iload_n hC te_240_14 rfl ?_
  refine Wx.virtI hC te_240_15 mt_241 (args := [.inr 143, .inl x1]) (rest := [.inl x2]) rfl rfl rfl rfl rfl rfl rfl rfl ?_
  refine CWI.mono hC (fun r2 m1 H hy => ?_) H
  replace H := H hy
  refine Wx.icmp hC (t := 75) te_240_18 (by decide) (fun q => ?_) (fun q => ?_)
  · replace H := H.1 q
    refine Wx.iinc hC te_240_75 rfl rfl H.1 ?_
    replace H := H.2
    refine Wx.goto hC (t := 2) te_240_78 (by decide) ?_
    exact Wx.weak (by repeat' (first | exact trivial | exact rfl | constructor)) H
  · replace H := H.2 q
    refine Wx.aload_n hC te_240_21 rfl ?_
    refine Wx.iload_n hC te_240_22 rfl ?_
    refine Wx.iload_n hC te_240_23 rfl ?_
    refine Wx.virtI hC te_240_24 mt_242 (args := [.inr 143, .inl x1, .inl x2]) (rest := []) rfl rfl rfl rfl rfl rfl rfl rfl ?_
    refine CWI.mono hC (fun r4 m3 H hy => ?_) H
    replace H := H hy
    refine Wx.istore_n hC te_240_27 rfl ?_
    refine Wx.iload_n hC te_240_28 rfl ?_
    refine Wx.ifc hC (t := 35) te_240_29 (by decide) (fun q => ?_) (fun q => ?_)
    · replace H := H.1 q
      refine Wx.iload_n hC te_240_35 rfl ?_
      refine Wx.aload_n hC te_240_36 rfl ?_
      refine Wx.getI hC te_240_37 rfl rfl rfl (fun v5 e1 e2 => ?_)
      replace H := H v5 e1 e2
      refine Wx.icmp hC (t := 67) te_240_40 (by decide) (fun q => ?_) (fun q => ?_)
      · replace H := H.1 q
        refine Wx.iconst hC te_240_67 rfl ?_
        exact Wx.bret hC te_240_68 rfl (Or.inl rfl) H
      · replace H := H.2 q
        refine Wx.aload_n hC te_240_43 rfl ?_
        refine Wx.getR hC te_240_44 rfl rfl rfl ?_
        refine Wx.iload_n hC te_240_47 rfl ?_
        refine Wx.iald hC te_240_48 rfl H.1 (fun v6 e1 e2 => ?_)
        replace H := H.2 v6 e1 e2
        refine Wx.iconst hC te_240_49 rfl ?_
        refine Wx.icmp hC (t := 67) te_240_50 (by decide) (fun q => ?_) (fun q => ?_)
        · replace H := H.1 q
          refine Wx.iconst hC te_240_67 rfl ?_
          exact Wx.bret hC te_240_68 rfl (Or.inl rfl) H
        · replace H := H.2 q
          refine Wx.aload_n hC te_240_53 rfl ?_
          refine Wx.iload_n hC te_240_54 rfl ?_
          refine Wx.iload_n hC te_240_55 rfl ?_
          refine Wx.virtI hC te_240_56 mt_243 (args := [.inr 143, .inl x1, .inl x2]) (rest := []) rfl rfl rfl rfl rfl rfl rfl rfl ?_
          refine CWI.mono hC (fun r8 m7 H hy => ?_) H
          replace H := H hy
          refine Wx.ifc hC (t := 69) te_240_59 (by decide) (fun q => ?_) (fun q => ?_)
          · replace H := H.1 q
            refine Wx.iinc hC te_240_69 rfl rfl H.1 ?_
            replace H := H.2
            refine Wx.goto hC (t := 12) te_240_72 (by decide) ?_
            exact Wx.weak (by repeat' (first | exact trivial | exact rfl | constructor)) H
          · replace H := H.2 q
            refine Wx.iload_n hC te_240_62 rfl ?_
            refine Wx.iload_n hC te_240_63 rfl ?_
            refine Wx.icmp hC (t := 69) te_240_64 (by decide) (fun q => ?_) (fun q => ?_)
            · replace H := H.1 q
              refine Wx.iinc hC te_240_69 rfl rfl H.1 ?_
              replace H := H.2
              refine Wx.goto hC (t := 12) te_240_72 (by decide) ?_
              exact Wx.weak (by repeat' (first | exact trivial | exact rfl | constructor)) H
            · replace H := H.2 q
              refine Wx.iconst hC te_240_67 rfl ?_
              exact Wx.bret hC te_240_68 rfl (Or.inl rfl) H
    · replace H := H.2 q
      refine Wx.goto hC (t := 69) te_240_32 (by decide) ?_
      refine Wx.iinc hC te_240_69 rfl rfl H.1 ?_
      replace H := H.2
      refine Wx.goto hC (t := 12) te_240_72 (by decide) ?_
      exact Wx.weak (by repeat' (first | exact trivial | exact rfl | constructor)) H
theorem w_247_0 {C : CXW} (hC : Cmono C) {S : Nat × (Nat → Int32)} {K : WK} {mem : MM} {x1 x2 x3 x4 : Int} (H : (Wx C S M_247 K 3 [some (.inr 143), some (.inl x1), some (.inl x2), some (.inl x3), some (.inl x4), some (.inl 0)] [] mem)) : Wx C S M_247 K 0 [some (.inr 143), some (.inl x1), some (.inl x2), some (.inl x3), some (.inl x4), none] [] mem := by
  refine Wx.iconst hC te_247_0 rfl ?_
  refine Wx.istore hC te_247_1 rfl ?_
  exact H
theorem w_247_3 {C : CXW} (hC : Cmono C) {S : Nat × (Nat → Int32)} {K : WK} {mem : MM} {x1 x2 x3 x4 x5 : Int} (H : ∀ v1 : Int, v1 = mem 143 12 → InI v1 → ((v1 ≤ x5 → ∀ v2 : Int, v2 = mem 143 12 → InI v2 → (Wx C S M_247 K 70 [some (.inr 143), some (.inl x1), some (.inl x2), some (.inl x3), some (.inl x4), some (.inl v2)] [] mem)) ∧ (¬ (v1 ≤ x5) → (0 ≤ x5 ∧ x5 < 48) ∧ ∀ v3 : Int, v3 = mem 154 (Int.toNat x5) → InI v3 → ((¬ v3 = x1 → (InI (x5 + 1)) ∧ (Wx C S M_247 K 3 [some (.inr 143), some (.inl x1), some (.inl x2), some (.inl x3), some (.inl x4), some (.inl (x5 + 1))] [] mem)) ∧ (¬ (¬ v3 = x1) → (0 ≤ x5 ∧ x5 < 48) ∧ ∀ v4 : Int, v4 = mem 155 (Int.toNat x5) → InI v4 → ((¬ v4 = x2 → (InI (x5 + 1)) ∧ (Wx C S M_247 K 3 [some (.inr 143), some (.inl x1), some (.inl x2), some (.inl x3), some (.inl x4), some (.inl (x5 + 1))] [] mem)) ∧ (¬ (¬ v4 = x2) → (0 ≤ x5 ∧ x5 < 48) ∧ ∀ v5 : Int, v5 = mem 156 (Int.toNat x5) → InI v5 → ((¬ v5 = x3 → (InI (x5 + 1)) ∧ (Wx C S M_247 K 3 [some (.inr 143), some (.inl x1), some (.inl x2), some (.inl x3), some (.inl x4), some (.inl (x5 + 1))] [] mem)) ∧ (¬ (¬ v5 = x3) → (0 ≤ x5 ∧ x5 < 48) ∧ ∀ v6 : Int, v6 = mem 157 (Int.toNat x5) → InI v6 → ((¬ v6 = x4 → (InI (x5 + 1)) ∧ (Wx C S M_247 K 3 [some (.inr 143), some (.inl x1), some (.inl x2), some (.inl x3), some (.inl x4), some (.inl (x5 + 1))] [] mem)) ∧ (¬ (¬ v6 = x4) → (K none mem)))))))))))) : Wx C S M_247 K 3 [some (.inr 143), some (.inl x1), some (.inl x2), some (.inl x3), some (.inl x4), some (.inl x5)] [] mem := by
  refine Wx.iload hC te_247_3 rfl ?_
  refine Wx.aload_n hC te_247_5 rfl ?_
  refine Wx.getI hC te_247_6 rfl rfl rfl (fun v1 e1 e2 => ?_)
  replace H := H v1 e1 e2
  refine Wx.icmp hC (t := 64) te_247_9 (by decide) (fun q => ?_) (fun q => ?_)
  · replace H := H.1 q
    refine Wx.aload_n hC te_247_64 rfl ?_
    refine Wx.getI hC te_247_65 rfl rfl rfl (fun v2 e1 e2 => ?_)
    replace H := H v2 e1 e2
    refine Wx.istore hC te_247_68 rfl ?_
    exact H
  · replace H := H.2 q
    refine Wx.aload_n hC te_247_12 rfl ?_
    refine Wx.getR hC te_247_13 rfl rfl rfl ?_
    refine Wx.iload hC te_247_16 rfl ?_
    refine Wx.iald hC te_247_18 rfl H.1 (fun v3 e1 e2 => ?_)
    replace H := H.2 v3 e1 e2
    refine Wx.iload_n hC te_247_19 rfl ?_
    refine Wx.icmp hC (t := 58) te_247_20 (by decide) (fun q => ?_) (fun q => ?_)
    · replace H := H.1 q
      refine Wx.iinc hC te_247_58 rfl rfl H.1 ?_
      replace H := H.2
      refine Wx.goto hC (t := 3) te_247_61 (by decide) ?_
      exact H
    · replace H := H.2 q
      refine Wx.aload_n hC te_247_23 rfl ?_
      refine Wx.getR hC te_247_24 rfl rfl rfl ?_
      refine Wx.iload hC te_247_27 rfl ?_
      refine Wx.iald hC te_247_29 rfl H.1 (fun v4 e1 e2 => ?_)
      replace H := H.2 v4 e1 e2
      refine Wx.iload_n hC te_247_30 rfl ?_
      refine Wx.icmp hC (t := 58) te_247_31 (by decide) (fun q => ?_) (fun q => ?_)
      · replace H := H.1 q
        refine Wx.iinc hC te_247_58 rfl rfl H.1 ?_
        replace H := H.2
        refine Wx.goto hC (t := 3) te_247_61 (by decide) ?_
        exact H
      · replace H := H.2 q
        refine Wx.aload_n hC te_247_34 rfl ?_
        refine Wx.getR hC te_247_35 rfl rfl rfl ?_
        refine Wx.iload hC te_247_38 rfl ?_
        refine Wx.iald hC te_247_40 rfl H.1 (fun v5 e1 e2 => ?_)
        replace H := H.2 v5 e1 e2
        refine Wx.iload_n hC te_247_41 rfl ?_
        refine Wx.icmp hC (t := 58) te_247_42 (by decide) (fun q => ?_) (fun q => ?_)
        · replace H := H.1 q
          refine Wx.iinc hC te_247_58 rfl rfl H.1 ?_
          replace H := H.2
          refine Wx.goto hC (t := 3) te_247_61 (by decide) ?_
          exact H
        · replace H := H.2 q
          refine Wx.aload_n hC te_247_45 rfl ?_
          refine Wx.getR hC te_247_46 rfl rfl rfl ?_
          refine Wx.iload hC te_247_49 rfl ?_
          refine Wx.iald hC te_247_51 rfl H.1 (fun v6 e1 e2 => ?_)
          replace H := H.2 v6 e1 e2
          refine Wx.iload hC te_247_52 rfl ?_
          refine Wx.icmp hC (t := 58) te_247_54 (by decide) (fun q => ?_) (fun q => ?_)
          · replace H := H.1 q
            refine Wx.iinc hC te_247_58 rfl rfl H.1 ?_
            replace H := H.2
            refine Wx.goto hC (t := 3) te_247_61 (by decide) ?_
            exact H
          · replace H := H.2 q
            exact Wx.vret hC te_247_57 rfl H
theorem w_247_70 {C : CXW} (hC : Cmono C) {S : Nat × (Nat → Int32)} {K : WK} {mem : MM} {x1 x2 x3 x4 x5 : Int} (H : ((x5 ≤ 0 → (0 ≤ x5 ∧ x5 < 48) ∧ (0 ≤ x5 ∧ x5 < 48) ∧ (0 ≤ x5 ∧ x5 < 48) ∧ (0 ≤ x5 ∧ x5 < 48) ∧ ∀ v1 : Int, v1 = (upm (upm (upm (upm mem 154 (Int.toNat x5) x1) 155 (Int.toNat x5) x2) 156 (Int.toNat x5) x3) 157 (Int.toNat x5) x4) 143 12 → InI v1 → (InI (v1 + 1)) ∧ (K none (upm (upm (upm (upm (upm mem 154 (Int.toNat x5) x1) 155 (Int.toNat x5) x2) 156 (Int.toNat x5) x3) 157 (Int.toNat x5) x4) 143 12 (v1 + 1)))) ∧ (¬ (x5 ≤ 0) → (InI (x5 - 1)) ∧ (CWI C 248 [.inr 143, .inl (x5 - 1), .inl x1, .inl x2, .inl x3, .inl x4] mem fun r3 m2 => InI r3 → ((r3 = 0 → (0 ≤ x5 ∧ x5 < 48) ∧ (0 ≤ x5 ∧ x5 < 48) ∧ (0 ≤ x5 ∧ x5 < 48) ∧ (0 ≤ x5 ∧ x5 < 48) ∧ ∀ v4 : Int, v4 = (upm (upm (upm (upm m2 154 (Int.toNat x5) x1) 155 (Int.toNat x5) x2) 156 (Int.toNat x5) x3) 157 (Int.toNat x5) x4) 143 12 → InI v4 → (InI (v4 + 1)) ∧ (K none (upm (upm (upm (upm (upm m2 154 (Int.toNat x5) x1) 155 (Int.toNat x5) x2) 156 (Int.toNat x5) x3) 157 (Int.toNat x5) x4) 143 12 (v4 + 1)))) ∧ (¬ (r3 = 0) → (InI (x5 - 1)) ∧ (0 ≤ (x5 - 1) ∧ (x5 - 1) < 48) ∧ ∀ v5 : Int, v5 = m2 154 (Int.toNat (x5 - 1)) → InI v5 → (0 ≤ x5 ∧ x5 < 48) ∧ (InI (x5 - 1)) ∧ (0 ≤ (x5 - 1) ∧ (x5 - 1) < 48) ∧ ∀ v6 : Int, v6 = (upm m2 154 (Int.toNat x5) v5) 155 (Int.toNat (x5 - 1)) → InI v6 → (0 ≤ x5 ∧ x5 < 48) ∧ (InI (x5 - 1)) ∧ (0 ≤ (x5 - 1) ∧ (x5 - 1) < 48) ∧ ∀ v7 : Int, v7 = (upm (upm m2 154 (Int.toNat x5) v5) 155 (Int.toNat x5) v6) 156 (Int.toNat (x5 - 1)) → InI v7 → (0 ≤ x5 ∧ x5 < 48) ∧ (InI (x5 - 1)) ∧ (0 ≤ (x5 - 1) ∧ (x5 - 1) < 48) ∧ ∀ v8 : Int, v8 = (upm (upm (upm m2 154 (Int.toNat x5) v5) 155 (Int.toNat x5) v6) 156 (Int.toNat x5) v7) 157 (Int.toNat (x5 - 1)) → InI v8 → (0 ≤ x5 ∧ x5 < 48) ∧ (InI (x5 + (-1))) ∧ (Wx C S M_247 K 70 [some (.inr 143), some (.inl x1), some (.inl x2), some (.inl x3), some (.inl x4), some (.inl (x5 + (-1)))] [] (upm (upm (upm (upm m2 154 (Int.toNat x5) v5) 155 (Int.toNat x5) v6) 156 (Int.toNat x5) v7) 157 (Int.toNat x5) v8)))))))) : Wx C S M_247 K 70 [some (.inr 143), some (.inl x1), some (.inl x2), some (.inl x3), some (.inl x4), some (.inl x5)] [] mem := by
  refine Wx.iload hC te_247_70 rfl ?_
  refine Wx.ifc hC (t := 161) te_247_72 (by decide) (fun q => ?_) (fun q => ?_)
  · replace H := H.1 q
    refine Wx.aload_n hC te_247_161 rfl ?_
    refine Wx.getR hC te_247_162 rfl rfl rfl ?_
    refine Wx.iload hC te_247_165 rfl ?_
    refine Wx.iload_n hC te_247_167 rfl ?_
    refine Wx.iast hC te_247_168 rfl H.1 ?_
    replace H := H.2
    refine Wx.aload_n hC te_247_169 rfl ?_
    refine Wx.getR hC te_247_170 rfl rfl rfl ?_
    refine Wx.iload hC te_247_173 rfl ?_
    refine Wx.iload_n hC te_247_175 rfl ?_
    refine Wx.iast hC te_247_176 rfl H.1 ?_
    replace H := H.2
    refine Wx.aload_n hC te_247_177 rfl ?_
    refine Wx.getR hC te_247_178 rfl rfl rfl ?_
    refine Wx.iload hC te_247_181 rfl ?_
    refine Wx.iload_n hC te_247_183 rfl ?_
    refine Wx.iast hC te_247_184 rfl H.1 ?_
    replace H := H.2
    refine Wx.aload_n hC te_247_185 rfl ?_
    refine Wx.getR hC te_247_186 rfl rfl rfl ?_
    refine Wx.iload hC te_247_189 rfl ?_
    refine Wx.iload hC te_247_191 rfl ?_
    refine Wx.iast hC te_247_193 rfl H.1 ?_
    replace H := H.2
    refine Wx.aload_n hC te_247_194 rfl ?_
    refine Wx.dup hC te_247_195 ?_
    refine Wx.getI hC te_247_196 rfl rfl rfl (fun v1 e1 e2 => ?_)
    replace H := H v1 e1 e2
    refine Wx.iconst hC te_247_199 rfl ?_
    refine Wx.iadd hC te_247_200 H.1 ?_
    replace H := H.2
    refine Wx.putI hC te_247_201 rfl rfl rfl rfl ?_
    exact Wx.vret hC te_247_204 rfl H
  · replace H := H.2 q
    refine Wx.aload_n hC te_247_75 rfl ?_
    refine Wx.iload hC te_247_76 rfl ?_
    refine Wx.iconst hC te_247_78 rfl ?_
    refine Wx.isub hC te_247_79 H.1 ?_
    replace H := H.2
    refine Wx.iload_n hC te_247_80 rfl ?_
    refine Wx.iload_n hC te_247_81 rfl ?_
    refine Wx.iload_n hC te_247_82 rfl ?_
    refine Wx.iload hC te_247_83 rfl ?_
    refine Wx.virtI hC te_247_85 mt_248 (args := [.inr 143, .inl (x5 - 1), .inl x1, .inl x2, .inl x3, .inl x4]) (rest := []) rfl rfl rfl rfl rfl rfl rfl rfl ?_
    refine CWI.mono hC (fun r3 m2 H hy => ?_) H
    replace H := H hy
    refine Wx.ifc hC (t := 161) te_247_88 (by decide) (fun q => ?_) (fun q => ?_)
    · replace H := H.1 q
      refine Wx.aload_n hC te_247_161 rfl ?_
      refine Wx.getR hC te_247_162 rfl rfl rfl ?_
      refine Wx.iload hC te_247_165 rfl ?_
      refine Wx.iload_n hC te_247_167 rfl ?_
      refine Wx.iast hC te_247_168 rfl H.1 ?_
      replace H := H.2
      refine Wx.aload_n hC te_247_169 rfl ?_
      refine Wx.getR hC te_247_170 rfl rfl rfl ?_
      refine Wx.iload hC te_247_173 rfl ?_
      refine Wx.iload_n hC te_247_175 rfl ?_
      refine Wx.iast hC te_247_176 rfl H.1 ?_
      replace H := H.2
      refine Wx.aload_n hC te_247_177 rfl ?_
      refine Wx.getR hC te_247_178 rfl rfl rfl ?_
      refine Wx.iload hC te_247_181 rfl ?_
      refine Wx.iload_n hC te_247_183 rfl ?_
      refine Wx.iast hC te_247_184 rfl H.1 ?_
      replace H := H.2
      refine Wx.aload_n hC te_247_185 rfl ?_
      refine Wx.getR hC te_247_186 rfl rfl rfl ?_
      refine Wx.iload hC te_247_189 rfl ?_
      refine Wx.iload hC te_247_191 rfl ?_
      refine Wx.iast hC te_247_193 rfl H.1 ?_
      replace H := H.2
      refine Wx.aload_n hC te_247_194 rfl ?_
      refine Wx.dup hC te_247_195 ?_
      refine Wx.getI hC te_247_196 rfl rfl rfl (fun v4 e1 e2 => ?_)
      replace H := H v4 e1 e2
      refine Wx.iconst hC te_247_199 rfl ?_
      refine Wx.iadd hC te_247_200 H.1 ?_
      replace H := H.2
      refine Wx.putI hC te_247_201 rfl rfl rfl rfl ?_
      exact Wx.vret hC te_247_204 rfl H
    · replace H := H.2 q
      refine Wx.aload_n hC te_247_91 rfl ?_
      refine Wx.getR hC te_247_92 rfl rfl rfl ?_
      refine Wx.iload hC te_247_95 rfl ?_
      refine Wx.aload_n hC te_247_97 rfl ?_
      refine Wx.getR hC te_247_98 rfl rfl rfl ?_
      refine Wx.iload hC te_247_101 rfl ?_
      refine Wx.iconst hC te_247_103 rfl ?_
      refine Wx.isub hC te_247_104 H.1 ?_
      replace H := H.2
      refine Wx.iald hC te_247_105 rfl H.1 (fun v5 e1 e2 => ?_)
      replace H := H.2 v5 e1 e2
      refine Wx.iast hC te_247_106 rfl H.1 ?_
      replace H := H.2
      refine Wx.aload_n hC te_247_107 rfl ?_
      refine Wx.getR hC te_247_108 rfl rfl rfl ?_
      refine Wx.iload hC te_247_111 rfl ?_
      refine Wx.aload_n hC te_247_113 rfl ?_
      refine Wx.getR hC te_247_114 rfl rfl rfl ?_
      refine Wx.iload hC te_247_117 rfl ?_
      refine Wx.iconst hC te_247_119 rfl ?_
      refine Wx.isub hC te_247_120 H.1 ?_
      replace H := H.2
      refine Wx.iald hC te_247_121 rfl H.1 (fun v6 e1 e2 => ?_)
      replace H := H.2 v6 e1 e2
      refine Wx.iast hC te_247_122 rfl H.1 ?_
      replace H := H.2
      refine Wx.aload_n hC te_247_123 rfl ?_
      refine Wx.getR hC te_247_124 rfl rfl rfl ?_
      refine Wx.iload hC te_247_127 rfl ?_
      refine Wx.aload_n hC te_247_129 rfl ?_
      refine Wx.getR hC te_247_130 rfl rfl rfl ?_
      refine Wx.iload hC te_247_133 rfl ?_
      refine Wx.iconst hC te_247_135 rfl ?_
      refine Wx.isub hC te_247_136 H.1 ?_
      replace H := H.2
      refine Wx.iald hC te_247_137 rfl H.1 (fun v7 e1 e2 => ?_)
      replace H := H.2 v7 e1 e2
      refine Wx.iast hC te_247_138 rfl H.1 ?_
      replace H := H.2
      refine Wx.aload_n hC te_247_139 rfl ?_
      refine Wx.getR hC te_247_140 rfl rfl rfl ?_
      refine Wx.iload hC te_247_143 rfl ?_
      refine Wx.aload_n hC te_247_145 rfl ?_
      refine Wx.getR hC te_247_146 rfl rfl rfl ?_
      refine Wx.iload hC te_247_149 rfl ?_
      refine Wx.iconst hC te_247_151 rfl ?_
      refine Wx.isub hC te_247_152 H.1 ?_
      replace H := H.2
      refine Wx.iald hC te_247_153 rfl H.1 (fun v8 e1 e2 => ?_)
      replace H := H.2 v8 e1 e2
      refine Wx.iast hC te_247_154 rfl H.1 ?_
      replace H := H.2
      refine Wx.iinc hC te_247_155 rfl rfl H.1 ?_
      replace H := H.2
      refine Wx.goto hC (t := 70) te_247_158 (by decide) ?_
      exact H
theorem w_245_0 {C : CXW} (hC : Cmono C) {S : Nat × (Nat → Int32)} {K : WK} {mem : MM} (H : (Wx C S M_245 K 7 [some (.inr 143), some (.inl 0), none, none, none, none] [] (upm mem 143 12 0))) : Wx C S M_245 K 0 [some (.inr 143), none, none, none, none, none] [] mem := by
  refine Wx.aload_n hC te_245_0 rfl ?_
  refine Wx.iconst hC te_245_1 rfl ?_
  refine Wx.putI hC te_245_2 rfl rfl rfl rfl ?_
  refine Wx.iconst hC te_245_5 rfl ?_
  refine Wx.istore_n hC te_245_6 rfl ?_
  exact H
theorem w_245_7 {C : CXW} (hC : Cmono C) {S : Nat × (Nat → Int32)} {K : WK} {mem : MM} {x1 : Int} (H : ∀ v1 : Int, v1 = mem 143 1 → InI v1 → ((v1 ≤ x1 → (Wx C S M_245 K 76 [some (.inr 143), some (.inl 0), none, none, none, none] [] mem)) ∧ (¬ (v1 ≤ x1) → (Wx C S M_245 K 17 [some (.inr 143), some (.inl x1), some (.inl 0), none, none, none] [] mem)))) : Wx C S M_245 K 7 [some (.inr 143), some (.inl x1), none, none, none, none] [] mem := by
  refine Wx.iload_n hC te_245_7 rfl ?_
  refine Wx.aload_n hC te_245_8 rfl ?_
  refine Wx.getI hC te_245_9 rfl rfl rfl (fun v1 e1 e2 => ?_)
  replace H := H v1 e1 e2
  refine Wx.icmp hC (t := 74) te_245_12 (by decide) (fun q => ?_) (fun q => ?_)
  · replace H := H.1 q
    refine Wx.iconst hC te_245_74 rfl ?_
    refine Wx.istore_n hC te_245_75 rfl ?_
    exact H
  · replace H := H.2 q
    refine Wx.iconst hC te_245_15 rfl ?_
    refine Wx.istore_n hC te_245_16 rfl ?_
    exact H
theorem w_245_17 {C : CXW} (hC : Cmono C) {S : Nat × (Nat → Int32)} {K : WK} {mem : MM} {x1 x2 : Int} (H : (CWI C 241 [.inr 143, .inl x1] mem fun r2 m1 => InI r2 → ((r2 ≤ x2 → (InI (x1 + 1)) ∧ (Wx C S M_245 K 7 [some (.inr 143), some (.inl (x1 + 1)), none, none, none, none] [] m1)) ∧ (¬ (r2 ≤ x2) → (CWI C 242 [.inr 143, .inl x1, .inl x2] m1 fun r4 m3 => InI r4 → ((r4 < 0 → (InI (x2 + 1)) ∧ (Wx C S M_245 K 17 [some (.inr 143), some (.inl x1), some (.inl (x2 + 1)), none, none, none] [] m3)) ∧ (¬ (r4 < 0) → (CWI C 242 [.inr 143, .inl x1, .inl x2] m3 fun r6 m5 => InI r6 → (CWI C 243 [.inr 143, .inl x1, .inl x2] m5 fun r8 m7 => InI r8 → (CWI C 242 [.inr 143, .inl x1, .inl x2] m7 fun r10 m9 => InI r10 → (CWI C 246 [.inr 143, .inl r10] m9 fun r12 m11 => InI r12 → (CWV C 247 [.inr 143, .inl r6, .inl x1, .inl r8, .inl r12] m11 fun m13 => (InI (x2 + 1)) ∧ (Wx C S M_245 K 17 [some (.inr 143), some (.inl x1), some (.inl (x2 + 1)), none, none, none] [] m13))))))))))))) : Wx C S M_245 K 17 [some (.inr 143), some (.inl x1), some (.inl x2), none, none, none] [] mem := by
  refine Wx.iload_n hC te_245_17 rfl ?_
  refine Wx.aload_n hC te_245_18 rfl ?_
  refine Wx.iload_n hC te_245_19 rfl ?_
  refine Wx.virtI hC te_245_20 mt_241 (args := [.inr 143, .inl x1]) (rest := [.inl x2]) rfl rfl rfl rfl rfl rfl rfl rfl ?_
  refine CWI.mono hC (fun r2 m1 H hy => ?_) H
  replace H := H hy
  refine Wx.icmp hC (t := 68) te_245_23 (by decide) (fun q => ?_) (fun q => ?_)
  · replace H := H.1 q
    refine Wx.iinc hC te_245_68 rfl rfl H.1 ?_
    replace H := H.2
    refine Wx.goto hC (t := 7) te_245_71 (by decide) ?_
    exact Wx.weak (by repeat' (first | exact trivial | exact rfl | constructor)) H
  · replace H := H.2 q
    refine Wx.aload_n hC te_245_26 rfl ?_
    refine Wx.iload_n hC te_245_27 rfl ?_
    refine Wx.iload_n hC te_245_28 rfl ?_
    refine Wx.virtI hC te_245_29 mt_242 (args := [.inr 143, .inl x1, .inl x2]) (rest := []) rfl rfl rfl rfl rfl rfl rfl rfl ?_
    refine CWI.mono hC (fun r4 m3 H hy => ?_) H
    replace H := H hy
    refine Wx.ifc hC (t := 62) te_245_32 (by decide) (fun q => ?_) (fun q => ?_)
    · replace H := H.1 q
      refine Wx.iinc hC te_245_62 rfl rfl H.1 ?_
      replace H := H.2
      refine Wx.goto hC (t := 17) te_245_65 (by decide) ?_
      exact H
    · replace H := H.2 q
      refine Wx.aload_n hC te_245_35 rfl ?_
      refine Wx.aload_n hC te_245_36 rfl ?_
      refine Wx.iload_n hC te_245_37 rfl ?_
      refine Wx.iload_n hC te_245_38 rfl ?_
      refine Wx.virtI hC te_245_39 mt_242 (args := [.inr 143, .inl x1, .inl x2]) (rest := [.inr 143]) rfl rfl rfl rfl rfl rfl rfl rfl ?_
      refine CWI.mono hC (fun r6 m5 H hy => ?_) H
      replace H := H hy
      refine Wx.iload_n hC te_245_42 rfl ?_
      refine Wx.aload_n hC te_245_43 rfl ?_
      refine Wx.iload_n hC te_245_44 rfl ?_
      refine Wx.iload_n hC te_245_45 rfl ?_
      refine Wx.virtI hC te_245_46 mt_243 (args := [.inr 143, .inl x1, .inl x2]) (rest := [.inl x1, .inl r6, .inr 143]) rfl rfl rfl rfl rfl rfl rfl rfl ?_
      refine CWI.mono hC (fun r8 m7 H hy => ?_) H
      replace H := H hy
      refine Wx.aload_n hC te_245_49 rfl ?_
      refine Wx.aload_n hC te_245_50 rfl ?_
      refine Wx.iload_n hC te_245_51 rfl ?_
      refine Wx.iload_n hC te_245_52 rfl ?_
      refine Wx.virtI hC te_245_53 mt_242 (args := [.inr 143, .inl x1, .inl x2]) (rest := [.inr 143, .inl r8, .inl x1, .inl r6, .inr 143]) rfl rfl rfl rfl rfl rfl rfl rfl ?_
      refine CWI.mono hC (fun r10 m9 H hy => ?_) H
      replace H := H hy
      refine Wx.virtI hC te_245_56 mt_246 (args := [.inr 143, .inl r10]) (rest := [.inl r8, .inl x1, .inl r6, .inr 143]) rfl rfl rfl rfl rfl rfl rfl rfl ?_
      refine CWI.mono hC (fun r12 m11 H hy => ?_) H
      replace H := H hy
      refine Wx.virtV hC te_245_59 mt_247 (args := [.inr 143, .inl r6, .inl x1, .inl r8, .inl r12]) (rest := []) rfl rfl rfl rfl rfl rfl rfl rfl ?_
      refine CWV.mono hC (fun m13 H => ?_) H
      refine Wx.iinc hC te_245_62 rfl rfl H.1 ?_
      replace H := H.2
      refine Wx.goto hC (t := 17) te_245_65 (by decide) ?_
      exact H
theorem w_245_76 {C : CXW} (hC : Cmono C) {S : Nat × (Nat → Int32)} {K : WK} {mem : MM} {x1 : Int} (H : ∀ v1 : Int, v1 = mem 143 1 → InI v1 → ((v1 ≤ x1 → (K none mem)) ∧ (¬ (v1 ≤ x1) → (Wx C S M_245 K 86 [some (.inr 143), some (.inl x1), some (.inl 0), none, none, none] [] mem)))) : Wx C S M_245 K 76 [some (.inr 143), some (.inl x1), none, none, none, none] [] mem := by
  refine Wx.iload_n hC te_245_76 rfl ?_
  refine Wx.aload_n hC te_245_77 rfl ?_
  refine Wx.getI hC te_245_78 rfl rfl rfl (fun v1 e1 e2 => ?_)
  replace H := H v1 e1 e2
  refine Wx.icmp hC (t := 261) te_245_81 (by decide) (fun q => ?_) (fun q => ?_)
  · replace H := H.1 q
    exact Wx.vret hC te_245_261 rfl H
  · replace H := H.2 q
    refine Wx.iconst hC te_245_84 rfl ?_
    refine Wx.istore_n hC te_245_85 rfl ?_
    exact H
theorem w_245_86 {C : CXW} (hC : Cmono C) {S : Nat × (Nat → Int32)} {K : WK} {mem : MM} {x1 x2 : Int} (H : ∀ v1 : Int, v1 = mem 143 1 → InI v1 → ((v1 ≤ x2 → (InI (x1 + 1)) ∧ (Wx C S M_245 K 76 [some (.inr 143), some (.inl (x1 + 1)), none, none, none, none] [] mem)) ∧ (¬ (v1 ≤ x2) → (0 ≤ x1 ∧ x1 < 8) ∧ ∀ v2 : Int, v2 = mem 144 (Int.toNat x1) → InI v2 → ((¬ v2 = 5 → (InI (x1 + 1)) ∧ (Wx C S M_245 K 76 [some (.inr 143), some (.inl (x1 + 1)), none, none, none, none] [] mem)) ∧ (¬ (¬ v2 = 5) → ((x2 = x1 → (InI (x2 + 1)) ∧ (Wx C S M_245 K 86 [some (.inr 143), some (.inl x1), some (.inl (x2 + 1)), none, none, none] [] mem)) ∧ (¬ (x2 = x1) → (CWI C 249 [.inr 143, .inl x2] mem fun r4 m3 => InI r4 → ((r4 = 0 → (InI (x2 + 1)) ∧ (Wx C S M_245 K 86 [some (.inr 143), some (.inl x1), some (.inl (x2 + 1)), none, none, none] [] m3)) ∧ (¬ (r4 = 0) → (CWI C 250 [.inr 143, .inl x2] m3 fun r6 m5 => InI r6 → (CWI C 250 [.inr 143, .inl x1] m5 fun r8 m7 => InI r8 → ((r6 = r8 → (CWI C 251 [.inr 143, .inl x1] m7 fun r10 m9 => InI r10 → (CWI C 251 [.inr 143, .inl x2] m9 fun r12 m11 => InI r12 → (Wx C S M_245 K 146 [some (.inr 143), some (.inl x1), some (.inl x2), some (.inl r10), some (.inl r12), none] [] m11)))) ∧ (¬ (r6 = r8) → (InI (x2 + 1)) ∧ (Wx C S M_245 K 86 [some (.inr 143), some (.inl x1), some (.inl (x2 + 1)), none, none, none] [] m7))))))))))))))) : Wx C S M_245 K 86 [some (.inr 143), some (.inl x1), some (.inl x2), none, none, none] [] mem := by
  refine Wx.iload_n hC te_245_86 rfl ?_
  refine Wx.aload_n hC te_245_87 rfl ?_
  refine Wx.getI hC te_245_88 rfl rfl rfl (fun v1 e1 e2 => ?_)
  replace H := H v1 e1 e2
  refine Wx.icmp hC (t := 255) te_245_91 (by decide) (fun q => ?_) (fun q => ?_)
  · replace H := H.1 q
    refine Wx.iinc hC te_245_255 rfl rfl H.1 ?_
    replace H := H.2
    refine Wx.goto hC (t := 76) te_245_258 (by decide) ?_
    exact Wx.weak (by repeat' (first | exact trivial | exact rfl | constructor)) H
  · replace H := H.2 q
    refine Wx.aload_n hC te_245_94 rfl ?_
    refine Wx.getR hC te_245_95 rfl rfl rfl ?_
    refine Wx.iload_n hC te_245_98 rfl ?_
    refine Wx.iald hC te_245_99 rfl H.1 (fun v2 e1 e2 => ?_)
    replace H := H.2 v2 e1 e2
    refine Wx.iconst hC te_245_100 rfl ?_
    refine Wx.icmp hC (t := 255) te_245_101 (by decide) (fun q => ?_) (fun q => ?_)
    · replace H := H.1 q
      refine Wx.iinc hC te_245_255 rfl rfl H.1 ?_
      replace H := H.2
      refine Wx.goto hC (t := 76) te_245_258 (by decide) ?_
      exact Wx.weak (by repeat' (first | exact trivial | exact rfl | constructor)) H
    · replace H := H.2 q
      refine Wx.iload_n hC te_245_104 rfl ?_
      refine Wx.iload_n hC te_245_105 rfl ?_
      refine Wx.icmp hC (t := 249) te_245_106 (by decide) (fun q => ?_) (fun q => ?_)
      · replace H := H.1 q
        refine Wx.iinc hC te_245_249 rfl rfl H.1 ?_
        replace H := H.2
        refine Wx.goto hC (t := 86) te_245_252 (by decide) ?_
        exact H
      · replace H := H.2 q
        refine Wx.aload_n hC te_245_109 rfl ?_
        refine Wx.iload_n hC te_245_110 rfl ?_
        refine Wx.virtI hC te_245_111 mt_249 (args := [.inr 143, .inl x2]) (rest := []) rfl rfl rfl rfl rfl rfl rfl rfl ?_
        refine CWI.mono hC (fun r4 m3 H hy => ?_) H
        replace H := H hy
        refine Wx.ifc hC (t := 249) te_245_114 (by decide) (fun q => ?_) (fun q => ?_)
        · replace H := H.1 q
          refine Wx.iinc hC te_245_249 rfl rfl H.1 ?_
          replace H := H.2
          refine Wx.goto hC (t := 86) te_245_252 (by decide) ?_
          exact H
        · replace H := H.2 q
          refine Wx.aload_n hC te_245_117 rfl ?_
          refine Wx.iload_n hC te_245_118 rfl ?_
          refine Wx.virtI hC te_245_119 mt_250 (args := [.inr 143, .inl x2]) (rest := []) rfl rfl rfl rfl rfl rfl rfl rfl ?_
          refine CWI.mono hC (fun r6 m5 H hy => ?_) H
          replace H := H hy
          refine Wx.aload_n hC te_245_122 rfl ?_
          refine Wx.iload_n hC te_245_123 rfl ?_
          refine Wx.virtI hC te_245_124 mt_250 (args := [.inr 143, .inl x1]) (rest := [.inl r6]) rfl rfl rfl rfl rfl rfl rfl rfl ?_
          refine CWI.mono hC (fun r8 m7 H hy => ?_) H
          replace H := H hy
          refine Wx.icmp hC (t := 133) te_245_127 (by decide) (fun q => ?_) (fun q => ?_)
          · replace H := H.1 q
            refine Wx.aload_n hC te_245_133 rfl ?_
            refine Wx.iload_n hC te_245_134 rfl ?_
            refine Wx.virtI hC te_245_135 mt_251 (args := [.inr 143, .inl x1]) (rest := []) rfl rfl rfl rfl rfl rfl rfl rfl ?_
            refine CWI.mono hC (fun r10 m9 H hy => ?_) H
            replace H := H hy
            refine Wx.istore_n hC te_245_138 rfl ?_
            refine Wx.aload_n hC te_245_139 rfl ?_
            refine Wx.iload_n hC te_245_140 rfl ?_
            refine Wx.virtI hC te_245_141 mt_251 (args := [.inr 143, .inl x2]) (rest := []) rfl rfl rfl rfl rfl rfl rfl rfl ?_
            refine CWI.mono hC (fun r12 m11 H hy => ?_) H
            replace H := H hy
            refine Wx.istore hC te_245_144 rfl ?_
            exact H
          · replace H := H.2 q
            refine Wx.goto hC (t := 249) te_245_130 (by decide) ?_
            refine Wx.iinc hC te_245_249 rfl rfl H.1 ?_
            replace H := H.2
            refine Wx.goto hC (t := 86) te_245_252 (by decide) ?_
            exact H
theorem w_245_146 {C : CXW} (hC : Cmono C) {S : Nat × (Nat → Int32)} {K : WK} {mem : MM} {x1 x2 x3 x4 : Int} (H : ((x4 < x3 → (Wx C S M_245 K 170 [some (.inr 143), some (.inl x1), some (.inl x2), some (.inl x3), some (.inl x4), some (.inl 1)] [] mem)) ∧ (¬ (x4 < x3) → ((¬ x3 = x4 → (Wx C S M_245 K 170 [some (.inr 143), some (.inl x1), some (.inl x2), some (.inl x3), some (.inl x4), some (.inl 0)] [] mem)) ∧ (¬ (¬ x3 = x4) → ((x2 ≤ x1 → (Wx C S M_245 K 170 [some (.inr 143), some (.inl x1), some (.inl x2), some (.inl x3), some (.inl x4), some (.inl 0)] [] mem)) ∧ (¬ (x2 ≤ x1) → (Wx C S M_245 K 170 [some (.inr 143), some (.inl x1), some (.inl x2), some (.inl x3), some (.inl x4), some (.inl 1)] [] mem)))))))) : Wx C S M_245 K 146 [some (.inr 143), some (.inl x1), some (.inl x2), some (.inl x3), some (.inl x4), none] [] mem := by
  refine Wx.iload_n hC te_245_146 rfl ?_
  refine Wx.iload hC te_245_147 rfl ?_
  refine Wx.icmp hC (t := 163) te_245_149 (by decide) (fun q => ?_) (fun q => ?_)
  · replace H := H.1 q
    refine Wx.iconst hC te_245_163 rfl ?_
    refine Wx.goto hC (t := 168) te_245_164 (by decide) ?_
    refine Wx.istore hC te_245_168 rfl ?_
    exact H
  · replace H := H.2 q
    refine Wx.iload_n hC te_245_152 rfl ?_
    refine Wx.iload hC te_245_153 rfl ?_
    refine Wx.icmp hC (t := 167) te_245_155 (by decide) (fun q => ?_) (fun q => ?_)
    · replace H := H.1 q
      refine Wx.iconst hC te_245_167 rfl ?_
      refine Wx.istore hC te_245_168 rfl ?_
      exact H
    · replace H := H.2 q
      refine Wx.iload_n hC te_245_158 rfl ?_
      refine Wx.iload_n hC te_245_159 rfl ?_
      refine Wx.icmp hC (t := 167) te_245_160 (by decide) (fun q => ?_) (fun q => ?_)
      · replace H := H.1 q
        refine Wx.iconst hC te_245_167 rfl ?_
        refine Wx.istore hC te_245_168 rfl ?_
        exact H
      · replace H := H.2 q
        refine Wx.iconst hC te_245_163 rfl ?_
        refine Wx.goto hC (t := 168) te_245_164 (by decide) ?_
        refine Wx.istore hC te_245_168 rfl ?_
        exact H
theorem w_245_170 {C : CXW} (hC : Cmono C) {S : Nat × (Nat → Int32)} {K : WK} {mem : MM} {x1 x2 x3 x4 x5 : Int} (H : (0 ≤ x2 ∧ x2 < 8) ∧ ∀ v1 : Int, v1 = mem 144 (Int.toNat x2) → InI v1 → ((¬ v1 = 4 → (0 ≤ x2 ∧ x2 < 8) ∧ ∀ v2 : Int, v2 = mem 144 (Int.toNat x2) → InI v2 → ((¬ v2 = 4 → ((x5 = 0 → (InI (x2 + 1)) ∧ (Wx C S M_245 K 86 [some (.inr 143), some (.inl x1), some (.inl (x2 + 1)), none, none, none] [] mem)) ∧ (¬ (x5 = 0) → (InI (x3 - x4)) ∧ (CWV C 247 [.inr 143, .inl x1, .inl x2, .inl (x3 - x4), .inl 1] mem fun m3 => (InI (x2 + 1)) ∧ (Wx C S M_245 K 86 [some (.inr 143), some (.inl x1), some (.inl (x2 + 1)), none, none, none] [] m3))))) ∧ (¬ (¬ v2 = 4) → (InI (x4 - x3)) ∧ (CWI C 246 [.inr 143, .inl x1] mem fun r5 m4 => InI r5 → (InI (1 - r5)) ∧ (CWV C 247 [.inr 143, .inl x2, .inl x1, .inl (x4 - x3), .inl (1 - r5)] m4 fun m6 => (InI (x2 + 1)) ∧ (Wx C S M_245 K 86 [some (.inr 143), some (.inl x1), some (.inl (x2 + 1)), none, none, none] [] m6)))))) ∧ (¬ (¬ v1 = 4) → ((x5 = 0 → (0 ≤ x2 ∧ x2 < 8) ∧ ∀ v7 : Int, v7 = mem 144 (Int.toNat x2) → InI v7 → ((¬ v7 = 4 → ((x5 = 0 → (InI (x2 + 1)) ∧ (Wx C S M_245 K 86 [some (.inr 143), some (.inl x1), some (.inl (x2 + 1)), none, none, none] [] mem)) ∧ (¬ (x5 = 0) → (InI (x3 - x4)) ∧ (CWV C 247 [.inr 143, .inl x1, .inl x2, .inl (x3 - x4), .inl 1] mem fun m8 => (InI (x2 + 1)) ∧ (Wx C S M_245 K 86 [some (.inr 143), some (.inl x1), some (.inl (x2 + 1)), none, none, none] [] m8))))) ∧ (¬ (¬ v7 = 4) → (InI (x4 - x3)) ∧ (CWI C 246 [.inr 143, .inl x1] mem fun r10 m9 => InI r10 → (InI (1 - r10)) ∧ (CWV C 247 [.inr 143, .inl x2, .inl x1, .inl (x4 - x3), .inl (1 - r10)] m9 fun m11 => (InI (x2 + 1)) ∧ (Wx C S M_245 K 86 [some (.inr 143), some (.inl x1), some (.inl (x2 + 1)), none, none, none] [] m11)))))) ∧ (¬ (x5 = 0) → (InI (x3 - x4)) ∧ (CWI C 246 [.inr 143, .inl x1] mem fun r13 m12 => InI r13 → (CWV C 247 [.inr 143, .inl x1, .inl x2, .inl (x3 - x4), .inl r13] m12 fun m14 => (InI (x2 + 1)) ∧ (Wx C S M_245 K 86 [some (.inr 143), some (.inl x1), some (.inl (x2 + 1)), none, none, none] [] m14)))))))) : Wx C S M_245 K 170 [some (.inr 143), some (.inl x1), some (.inl x2), some (.inl x3), some (.inl x4), some (.inl x5)] [] mem := by
  refine Wx.aload_n hC te_245_170 rfl ?_
  refine Wx.getR hC te_245_171 rfl rfl rfl ?_
  refine Wx.iload_n hC te_245_174 rfl ?_
  refine Wx.iald hC te_245_175 rfl H.1 (fun v1 e1 e2 => ?_)
  replace H := H.2 v1 e1 e2
  refine Wx.iconst hC te_245_176 rfl ?_
  refine Wx.icmp hC (t := 203) te_245_177 (by decide) (fun q => ?_) (fun q => ?_)
  · replace H := H.1 q
    refine Wx.aload_n hC te_245_203 rfl ?_
    refine Wx.getR hC te_245_204 rfl rfl rfl ?_
    refine Wx.iload_n hC te_245_207 rfl ?_
    refine Wx.iald hC te_245_208 rfl H.1 (fun v2 e1 e2 => ?_)
    replace H := H.2 v2 e1 e2
    refine Wx.iconst hC te_245_209 rfl ?_
    refine Wx.icmp hC (t := 233) te_245_210 (by decide) (fun q => ?_) (fun q => ?_)
    · replace H := H.1 q
      refine Wx.iload hC te_245_233 rfl ?_
      refine Wx.ifc hC (t := 249) te_245_235 (by decide) (fun q => ?_) (fun q => ?_)
      · replace H := H.1 q
        refine Wx.iinc hC te_245_249 rfl rfl H.1 ?_
        replace H := H.2
        refine Wx.goto hC (t := 86) te_245_252 (by decide) ?_
        exact Wx.weak (by repeat' (first | exact trivial | exact rfl | constructor)) H
      · replace H := H.2 q
        refine Wx.aload_n hC te_245_238 rfl ?_
        refine Wx.iload_n hC te_245_239 rfl ?_
        refine Wx.iload_n hC te_245_240 rfl ?_
        refine Wx.iload_n hC te_245_241 rfl ?_
        refine Wx.iload hC te_245_242 rfl ?_
        refine Wx.isub hC te_245_244 H.1 ?_
        replace H := H.2
        refine Wx.iconst hC te_245_245 rfl ?_
        refine Wx.virtV hC te_245_246 mt_247 (args := [.inr 143, .inl x1, .inl x2, .inl (x3 - x4), .inl 1]) (rest := []) rfl rfl rfl rfl rfl rfl rfl rfl ?_
        refine CWV.mono hC (fun m3 H => ?_) H
        refine Wx.iinc hC te_245_249 rfl rfl H.1 ?_
        replace H := H.2
        refine Wx.goto hC (t := 86) te_245_252 (by decide) ?_
        exact Wx.weak (by repeat' (first | exact trivial | exact rfl | constructor)) H
    · replace H := H.2 q
      refine Wx.aload_n hC te_245_213 rfl ?_
      refine Wx.iload_n hC te_245_214 rfl ?_
      refine Wx.iload_n hC te_245_215 rfl ?_
      refine Wx.iload hC te_245_216 rfl ?_
      refine Wx.iload_n hC te_245_218 rfl ?_
      refine Wx.isub hC te_245_219 H.1 ?_
      replace H := H.2
      refine Wx.iconst hC te_245_220 rfl ?_
      refine Wx.aload_n hC te_245_221 rfl ?_
      refine Wx.iload_n hC te_245_222 rfl ?_
      refine Wx.virtI hC te_245_223 mt_246 (args := [.inr 143, .inl x1]) (rest := [.inl 1, .inl (x4 - x3), .inl x1, .inl x2, .inr 143]) rfl rfl rfl rfl rfl rfl rfl rfl ?_
      refine CWI.mono hC (fun r5 m4 H hy => ?_) H
      replace H := H hy
      refine Wx.isub hC te_245_226 H.1 ?_
      replace H := H.2
      refine Wx.virtV hC te_245_227 mt_247 (args := [.inr 143, .inl x2, .inl x1, .inl (x4 - x3), .inl (1 - r5)]) (rest := []) rfl rfl rfl rfl rfl rfl rfl rfl ?_
      refine CWV.mono hC (fun m6 H => ?_) H
      refine Wx.goto hC (t := 249) te_245_230 (by decide) ?_
      refine Wx.iinc hC te_245_249 rfl rfl H.1 ?_
      replace H := H.2
      refine Wx.goto hC (t := 86) te_245_252 (by decide) ?_
      exact Wx.weak (by repeat' (first | exact trivial | exact rfl | constructor)) H
  · replace H := H.2 q
    refine Wx.iload hC te_245_180 rfl ?_
    refine Wx.ifc hC (t := 203) te_245_182 (by decide) (fun q => ?_) (fun q => ?_)
    · replace H := H.1 q
      refine Wx.aload_n hC te_245_203 rfl ?_
      refine Wx.getR hC te_245_204 rfl rfl rfl ?_
      refine Wx.iload_n hC te_245_207 rfl ?_
      refine Wx.iald hC te_245_208 rfl H.1 (fun v7 e1 e2 => ?_)
      replace H := H.2 v7 e1 e2
      refine Wx.iconst hC te_245_209 rfl ?_
      refine Wx.icmp hC (t := 233) te_245_210 (by decide) (fun q => ?_) (fun q => ?_)
      · replace H := H.1 q
        refine Wx.iload hC te_245_233 rfl ?_
        refine Wx.ifc hC (t := 249) te_245_235 (by decide) (fun q => ?_) (fun q => ?_)
        · replace H := H.1 q
          refine Wx.iinc hC te_245_249 rfl rfl H.1 ?_
          replace H := H.2
          refine Wx.goto hC (t := 86) te_245_252 (by decide) ?_
          exact Wx.weak (by repeat' (first | exact trivial | exact rfl | constructor)) H
        · replace H := H.2 q
          refine Wx.aload_n hC te_245_238 rfl ?_
          refine Wx.iload_n hC te_245_239 rfl ?_
          refine Wx.iload_n hC te_245_240 rfl ?_
          refine Wx.iload_n hC te_245_241 rfl ?_
          refine Wx.iload hC te_245_242 rfl ?_
          refine Wx.isub hC te_245_244 H.1 ?_
          replace H := H.2
          refine Wx.iconst hC te_245_245 rfl ?_
          refine Wx.virtV hC te_245_246 mt_247 (args := [.inr 143, .inl x1, .inl x2, .inl (x3 - x4), .inl 1]) (rest := []) rfl rfl rfl rfl rfl rfl rfl rfl ?_
          refine CWV.mono hC (fun m8 H => ?_) H
          refine Wx.iinc hC te_245_249 rfl rfl H.1 ?_
          replace H := H.2
          refine Wx.goto hC (t := 86) te_245_252 (by decide) ?_
          exact Wx.weak (by repeat' (first | exact trivial | exact rfl | constructor)) H
      · replace H := H.2 q
        refine Wx.aload_n hC te_245_213 rfl ?_
        refine Wx.iload_n hC te_245_214 rfl ?_
        refine Wx.iload_n hC te_245_215 rfl ?_
        refine Wx.iload hC te_245_216 rfl ?_
        refine Wx.iload_n hC te_245_218 rfl ?_
        refine Wx.isub hC te_245_219 H.1 ?_
        replace H := H.2
        refine Wx.iconst hC te_245_220 rfl ?_
        refine Wx.aload_n hC te_245_221 rfl ?_
        refine Wx.iload_n hC te_245_222 rfl ?_
        refine Wx.virtI hC te_245_223 mt_246 (args := [.inr 143, .inl x1]) (rest := [.inl 1, .inl (x4 - x3), .inl x1, .inl x2, .inr 143]) rfl rfl rfl rfl rfl rfl rfl rfl ?_
        refine CWI.mono hC (fun r10 m9 H hy => ?_) H
        replace H := H hy
        refine Wx.isub hC te_245_226 H.1 ?_
        replace H := H.2
        refine Wx.virtV hC te_245_227 mt_247 (args := [.inr 143, .inl x2, .inl x1, .inl (x4 - x3), .inl (1 - r10)]) (rest := []) rfl rfl rfl rfl rfl rfl rfl rfl ?_
        refine CWV.mono hC (fun m11 H => ?_) H
        refine Wx.goto hC (t := 249) te_245_230 (by decide) ?_
        refine Wx.iinc hC te_245_249 rfl rfl H.1 ?_
        replace H := H.2
        refine Wx.goto hC (t := 86) te_245_252 (by decide) ?_
        exact Wx.weak (by repeat' (first | exact trivial | exact rfl | constructor)) H
    · replace H := H.2 q
      refine Wx.aload_n hC te_245_185 rfl ?_
      refine Wx.iload_n hC te_245_186 rfl ?_
      refine Wx.iload_n hC te_245_187 rfl ?_
      refine Wx.iload_n hC te_245_188 rfl ?_
      refine Wx.iload hC te_245_189 rfl ?_
      refine Wx.isub hC te_245_191 H.1 ?_
      replace H := H.2
      refine Wx.aload_n hC te_245_192 rfl ?_
      refine Wx.iload_n hC te_245_193 rfl ?_
      refine Wx.virtI hC te_245_194 mt_246 (args := [.inr 143, .inl x1]) (rest := [.inl (x3 - x4), .inl x2, .inl x1, .inr 143]) rfl rfl rfl rfl rfl rfl rfl rfl ?_
      refine CWI.mono hC (fun r13 m12 H hy => ?_) H
      replace H := H hy
      refine Wx.virtV hC te_245_197 mt_247 (args := [.inr 143, .inl x1, .inl x2, .inl (x3 - x4), .inl r13]) (rest := []) rfl rfl rfl rfl rfl rfl rfl rfl ?_
      refine CWV.mono hC (fun m14 H => ?_) H
      refine Wx.goto hC (t := 249) te_245_200 (by decide) ?_
      refine Wx.iinc hC te_245_249 rfl rfl H.1 ?_
      replace H := H.2
      refine Wx.goto hC (t := 86) te_245_252 (by decide) ?_
      exact Wx.weak (by repeat' (first | exact trivial | exact rfl | constructor)) H
/-! the reference's ops and its soundness -/
def srcOK (a da : Int) : Prop := a = -1 ∨ a = -2 ∨ (0 ≤ a ∧ a ≤ 7 ∧ 0 ≤ da ∧ da ≤ 3)
def OpOK (m : MM) (o : Nat) : Prop := 0 ≤ m 144 o ∧ m 144 o ≤ 5 ∧ (m 144 o ≤ 3 → srcOK (m 145 o) (m 146 o) ∧ srcOK (m 147 o) (m 148 o)) ∧ (m 144 o = 4 → 0 ≤ m 145 o ∧ m 145 o ≤ 1 ∧ 0 ≤ m 146 o ∧ m 146 o ≤ 7) ∧ (m 144 o = 5 → srcOK (m 145 o) (m 146 o) ∧ 0 ≤ m 147 o ∧ m 147 o ≤ 1 ∧ 0 ≤ m 148 o ∧ m 148 o ≤ 7)
def OpsOK (m : MM) : Prop := (0 ≤ m 143 1 ∧ m 143 1 ≤ 8) ∧ (∀ o, o < 8 → OpOK m o) ∧ ∀ k, k < 6 → 1 ≤ m 151 k ∧ m 151 k ≤ 6
def srcN (m : MM) (o : Nat) : Int := if m 144 o = 4 then 0 else if m 144 o = 5 then 1 else 2
def srcA (m : MM) (o : Nat) (k : Int) : Int := if k = 0 then m 145 o else m 147 o
def srcB (m : MM) (o : Nat) (k : Int) : Int := if k = 0 then m 146 o else m 148 o
def latF (m : MM) (o : Nat) : Int := m 151 (m 144 o).toNat
def SrcS (m : MM) (o : Nat) (k : Int) : Prop := srcA m o k < 0 ∨ (srcA m o k < m 143 1 ∧ ¬ m 144 (srcA m o k).toNat = 5 ∧ (¬ srcB m o k = 0 ∨ srcA m o k < o))
def SoundM (m : MM) : Prop := ∀ o : Nat, (o : Int) < m 143 1 → ∀ k : Int, 0 ≤ k → k < srcN m o → SrcS m o k
theorem OpsOK.src {m : MM} (H : OpsOK m) {o : Nat} (ho : o < 8) {k : Int} (hk : 0 ≤ k) (hn : k < srcN m o) : srcOK (srcA m o k) (srcB m o k) := by
  obtain ⟨h1, h2, h3, h4, h5⟩ := H.2.1 o ho
  unfold srcN at hn
  unfold srcA srcB
  split at hn
  · omega
  · split at hn
    · rw [if_pos (by omega), if_pos (by omega)]
      exact (h5 (by assumption)).1
    · split
      · exact (h3 (by omega)).1
      · exact (h3 (by omega)).2
theorem OpsOK.lat {m : MM} (H : OpsOK m) {o : Nat} (ho : o < 8) : 1 ≤ latF m o ∧ latF m o ≤ 6 := by
  obtain ⟨h1, h2, -⟩ := H.2.1 o ho
  exact H.2.2 _ (by omega)
section SND
variable {S : Nat × (Nat → Int32)} {n : Nat} {mem : MM} {K : Int → MM → Prop}
theorem f_241 {o : Int} (h : 0 ≤ o ∧ o < 8) (H : K (srcN mem o.toNat) mem) : CWI (Ex S (n + 1)) 241 [.inr 143, .inl o] mem K := by
  refine CW.of (k := 0) mt_241 rfl rfl (w_241_0 (Ex.mono S n) ⟨h, fun v e _ => ⟨fun q => ⟨h, fun v2 e2 _ => ⟨fun q2 _ => ⟨_, rfl, ?_⟩, fun q2 _ => ⟨_, rfl, ?_⟩⟩⟩, fun q _ => ⟨_, rfl, ?_⟩⟩⟩)
  · unfold srcN at H; rw [if_neg (by omega), if_neg (by omega)] at H; exact H
  · unfold srcN at H; rw [if_neg (by omega), if_pos (by omega)] at H; exact H
  · unfold srcN at H; rw [if_pos (by omega)] at H; exact H
theorem f_242 {o k : Int} (h : 0 ≤ o ∧ o < 8) (H : K (srcA mem o.toNat k) mem) : CWI (Ex S (n + 1)) 242 [.inr 143, .inl o, .inl k] mem K := by
  refine CW.of (k := 0) mt_242 rfl rfl (w_242_0 (Ex.mono S n) ⟨fun q => ⟨h, fun v e _ _ => ⟨_, rfl, ?_⟩⟩, fun q => ⟨h, fun v e _ _ => ⟨_, rfl, ?_⟩⟩⟩)
  · unfold srcA at H; rw [if_neg (by omega)] at H; rw [e]; exact H
  · unfold srcA at H; rw [if_pos (by omega)] at H; rw [e]; exact H
theorem f_243 {o k : Int} (h : 0 ≤ o ∧ o < 8) (H : K (srcB mem o.toNat k) mem) : CWI (Ex S (n + 1)) 243 [.inr 143, .inl o, .inl k] mem K := by
  refine CW.of (k := 0) mt_243 rfl rfl (w_243_0 (Ex.mono S n) ⟨fun q => ⟨h, fun v e _ _ => ⟨_, rfl, ?_⟩⟩, fun q => ⟨h, fun v e _ _ => ⟨_, rfl, ?_⟩⟩⟩)
  · unfold srcB at H; rw [if_neg (by omega)] at H; rw [e]; exact H
  · unfold srcB at H; rw [if_pos (by omega)] at H; rw [e]; exact H
theorem f_246 {o : Int} (hO : OpsOK mem) (h : 0 ≤ o ∧ o < 8) (H : K (latF mem o.toNat) mem) : CWI (Ex S (n + 1)) 246 [.inr 143, .inl o] mem K := by
  obtain ⟨h1, h2, -⟩ := hO.2.1 o.toNat (by omega)
  refine CW.of (k := 0) mt_246 rfl rfl (w_246_0 (Ex.mono S n) ⟨h, fun v e _ => ⟨by omega, fun v2 e2 _ _ => ⟨_, rfl, ?_⟩⟩⟩)
  rw [e2, e]; exact H
theorem f_249 {o : Int} (h : 0 ≤ o ∧ o < 8) (H1 : mem 144 o.toNat = 4 ∨ mem 144 o.toNat = 5 → K 1 mem) (H0 : ¬ mem 144 o.toNat = 4 → ¬ mem 144 o.toNat = 5 → K 0 mem) : CWI (Ex S (n + 1)) 249 [.inr 143, .inl o] mem K := by
  refine CW.of (k := 0) mt_249 rfl rfl (w_249_0 (Ex.mono S n) ⟨h, fun v e _ => ⟨fun q => ⟨_, rfl, H1 (Or.inl (by omega))⟩, fun q => ⟨h, fun v2 e2 _ => ⟨fun q2 => ⟨_, rfl, H0 (by omega) (by omega)⟩, fun q2 => ⟨_, rfl, H1 (Or.inr (by omega))⟩⟩⟩⟩⟩)
def rowF (m : MM) (o : Nat) : Int := if m 144 o = 4 then m 145 o else m 147 o
def plcF (m : MM) (o : Nat) : Int := if m 144 o = 4 then m 146 o else m 148 o
theorem f_250 {o : Int} (h : 0 ≤ o ∧ o < 8) (H : K (rowF mem o.toNat) mem) : CWI (Ex S (n + 1)) 250 [.inr 143, .inl o] mem K := by
  refine CW.of (k := 0) mt_250 rfl rfl (w_250_0 (Ex.mono S n) ⟨h, fun v e _ => ⟨fun q => ⟨h, fun v2 e2 _ _ => ⟨_, rfl, ?_⟩⟩, fun q => ⟨h, fun v2 e2 _ _ => ⟨_, rfl, ?_⟩⟩⟩⟩)
  · unfold rowF at H; rw [if_neg (by omega)] at H; rw [e2]; exact H
  · unfold rowF at H; rw [if_pos (by omega)] at H; rw [e2]; exact H
theorem f_251 {o : Int} (h : 0 ≤ o ∧ o < 8) (H : K (plcF mem o.toNat) mem) : CWI (Ex S (n + 1)) 251 [.inr 143, .inl o] mem K := by
  refine CW.of (k := 0) mt_251 rfl rfl (w_251_0 (Ex.mono S n) ⟨h, fun v e _ => ⟨fun q => ⟨h, fun v2 e2 _ _ => ⟨_, rfl, ?_⟩⟩, fun q => ⟨h, fun v2 e2 _ _ => ⟨_, rfl, ?_⟩⟩⟩⟩)
  · unfold plcF at H; rw [if_neg (by omega)] at H; rw [e2]; exact H
  · unfold plcF at H; rw [if_pos (by omega)] at H; rw [e2]; exact H
/-- sound -/
theorem snd_12 (hO : OpsOK mem) {Kk : WK} (H1 : SoundM mem → Kk (some 1) mem) (H0 : ¬ SoundM mem → Kk (some 0) mem) : ∀ (N : Nat) (o k : Int), 0 ≤ o → o < mem 143 1 → 0 ≤ k → k ≤ 2 → (3 * (mem 143 1 - o) + (3 - k)).toNat < N → (∀ o2 : Nat, (o2 : Int) < o → ∀ k2 : Int, 0 ≤ k2 → k2 < srcN mem o2 → SrcS mem o2 k2) → (∀ k2 : Int, 0 ≤ k2 → k2 < k → SrcS mem o.toNat k2) → Wx (Ex S (n + 1)) S M_240 Kk 12 [some (.inr 143), some (.inl o), some (.inl k), none] [] mem := by
  intro N
  induction N with
  | zero => intros; omega
  | succ N ih =>
    intro o k ho1 ho2 hk1 hk2 hN hA hB
    have ho8 : 0 ≤ o ∧ o < 8 := by have := hO.1; omega
    refine w_240_12 (Ex.mono S (n + 1)) (f_241 ho8 (fun _ => ⟨fun q => ⟨by unfold InI; omega, ?_⟩, fun q => ?_⟩))
    · refine w_240_2 (Ex.mono S (n + 1)) (fun v e _ => ⟨fun q2 => H1 ?_, fun q2 => ?_⟩)
      · intro o2 ho k2 hk hn
        by_cases h : (o2 : Int) < o
        · exact hA o2 h k2 hk hn
        · have e2 : o2 = o.toNat := by omega
          subst e2
          exact hB k2 hk (by omega)
      · refine ih (o + 1) 0 (by omega) (by omega) (by omega) (by omega) (by omega) ?_ (fun k2 h1 h2 => by omega)
        intro o2 ho k2 hk hn
        by_cases h : (o2 : Int) < o
        · exact hA o2 h k2 hk hn
        · have e2 : o2 = o.toNat := by omega
          subst e2
          exact hB k2 hk (by omega)
    · have hs := hO.src (o := o.toNat) (by omega) hk1 (by omega)
      have hn2 : srcN mem o.toNat ≤ 2 := by unfold srcN; split <;> (try split) <;> omega
      have next : SrcS mem o.toNat k → Wx (Ex S (n + 1)) S M_240 Kk 12 [some (.inr 143), some (.inl o), some (.inl (k + 1)), none] [] mem := fun hS => by
        refine ih o (k + 1) ho1 ho2 (by omega) (by omega) (by omega) hA ?_
        intro k2 h1 h2
        by_cases h : k2 < k
        · exact hB k2 h1 h
        · rw [show k2 = k by omega]; exact hS
      have bad : ¬ SrcS mem o.toNat k → ¬ SoundM mem := fun h1 h2 => h1 (h2 o.toNat (by omega) k hk1 (by omega))
      refine f_242 ho8 (fun _ => ⟨fun q2 v e _ => ⟨fun q3 => H0 (bad ?_), fun q3 => ⟨?_, fun v2 e2 _ => ⟨fun q4 => H0 (bad ?_), fun q4 => f_243 ho8 (fun _ => ⟨fun q5 => ⟨by unfold InI; omega, next ?_⟩, fun q5 => ⟨fun q6 => ⟨by unfold InI; omega, next ?_⟩, fun q6 => H0 (bad ?_)⟩⟩)⟩⟩⟩, fun q2 => ⟨by unfold InI; omega, next ?_⟩⟩)
      · unfold SrcS; omega
      · unfold srcOK at hs; omega
      · unfold SrcS; rw [← e2]; omega
      · unfold SrcS; rw [← e2]; omega
      · unfold SrcS; rw [← e2]; omega
      · unfold SrcS; rw [← e2]; omega
      · unfold SrcS; omega
theorem f_240 (hO : OpsOK mem) (H1 : SoundM mem → K 1 mem) (H0 : ¬ SoundM mem → K 0 mem) : CWI (Ex S (n + 2)) 240 [.inr 143] mem K := by
  refine CW.of (k := 3) mt_240 rfl rfl (w_240_0 (Ex.mono S (n + 1)) (w_240_2 (Ex.mono S (n + 1)) (fun v e _ => ⟨fun q2 => ⟨_, rfl, H1 ?_⟩, fun q2 => ?_⟩)))
  · intro o ho; omega
  · exact snd_12 hO (fun h => ⟨_, rfl, H1 h⟩) (fun h => ⟨_, rfl, H0 h⟩) _ 0 0 (by omega) (by omega) (by omega) (by omega) (Nat.lt_succ_self _) (fun o2 h => by omega) (fun k2 h1 h2 => by omega)
end SND
/-! needs of the reference: what comes in, how many there are -/
def NdAll (P : Int → Int → Int → Int → Prop) (m : MM) (k : Int) : Prop := ∀ j : Nat, (j : Int) < k → P (m 154 j) (m 155 j) (m 156 j) (m 157 j)
def FrN (m m' : MM) : Prop := ∀ A i, ¬ A = 154 → ¬ A = 155 → ¬ A = 156 → ¬ A = 157 → ¬ (A = 143 ∧ i = 12) → m' A i = m A i
theorem FrN.rf {m : MM} : FrN m m := fun _ _ _ _ _ _ _ => rfl
theorem FrN.tr {a b c : MM} (h1 : FrN a b) (h2 : FrN b c) : FrN a c := fun A i e1 e2 e3 e4 e5 => (h2 A i e1 e2 e3 e4 e5).trans (h1 A i e1 e2 e3 e4 e5)
/-- ranges of what may lie in the rows of needs, all 48 places -/
def Rg (a b d l : Int) : Prop := (0 ≤ a ∧ a ≤ 7) ∧ (0 ≤ b ∧ b ≤ 7) ∧ (0 ≤ d ∧ d ≤ 7) ∧ -5 ≤ l ∧ l ≤ 6
def R48 (m : MM) : Prop := ∀ j, j < 48 → Rg (m 154 j) (m 155 j) (m 156 j) (m 157 j)
def R4 (m m' : MM) : Prop := R48 m → R48 m'
theorem R4.rf {m : MM} : R4 m m := fun h => h
theorem R4.tr {a b c : MM} (h1 : R4 a b) (h2 : R4 b c) : R4 a c := fun h => h2 (h1 h)
theorem R4.same {m m' : MM} (h : ∀ A i, A = 154 ∨ A = 155 ∨ A = 156 ∨ A = 157 → m' A i = m A i) : R4 m m' := fun H j hj => by
  rw [h 154 j (by omega), h 155 j (by omega), h 156 j (by omega), h 157 j (by omega)]; exact H j hj
section NEED
variable {S : Nat × (Nat → Int32)} {n : Nat} {mem : MM} {P : Int → Int → Int → Int → Prop} {a b d l : Int}
theorem f_248 {K : Int → MM → Prop} {k : Int} (h : 0 ≤ k ∧ k < 48) (H : ∀ r, r = 0 ∨ r = 1 → K r mem) : CWI (Ex S (n + 1)) 248 [.inr 143, .inl k, .inl a, .inl b, .inl d, .inl l] mem K := by
  have h0 : ∃ y, some (0 : Int) = some y ∧ K y mem := ⟨_, rfl, H _ (Or.inl rfl)⟩
  have h1 : ∃ y, some (1 : Int) = some y ∧ K y mem := ⟨_, rfl, H _ (Or.inr rfl)⟩
  refine CW.of (k := 0) mt_248 rfl rfl (w_248_0 (Ex.mono S n) ⟨h, fun v1 _ _ => ⟨fun _ => ⟨h, fun v2 _ _ => ⟨fun _ => ⟨h, fun v3 _ _ => ⟨fun _ => ⟨h, fun v4 _ _ => ⟨fun _ => h0, fun _ => h1⟩⟩, fun _ => ⟨h, fun v4 _ _ => ⟨fun _ => h0, fun _ => h1⟩⟩⟩⟩, fun _ => ⟨h, fun v4 _ _ => ⟨fun _ => h0, fun _ => h1⟩⟩⟩⟩, fun _ => ⟨h, fun v4 _ _ => ⟨fun _ => h0, fun _ => h1⟩⟩⟩⟩)
/-- the place is made -/
theorem cn_70 {m0 : MM} {c : Int} (hc : 0 ≤ c ∧ c < 48) (hP : P a b d l) (hr : Rg a b d l) {Kk : WK} (H : ∀ m', FrN m0 m' → R4 m0 m' → m' 143 12 = c + 1 → NdAll P m' (c + 1) → Kk none m') : ∀ (N : Nat) (k : Int) (mem : MM), 0 ≤ k → k ≤ c → k.toNat < N → FrN m0 mem → R4 m0 mem → mem 143 12 = c → (∀ j : Nat, (j : Int) ≤ c → ¬ (j : Int) = k → P (mem 154 j) (mem 155 j) (mem 156 j) (mem 157 j)) → Wx (Ex S (n + 1)) S M_247 Kk 70 [some (.inr 143), some (.inl a), some (.inl b), some (.inl d), some (.inl l), some (.inl k)] [] mem := by
  intro N
  induction N with
  | zero => intros; omega
  | succ N ih =>
    intro k mem hk1 hk2 hN hF h4r hc2 hA
    have hk : 0 ≤ k ∧ k < 48 := by omega
    have fin : ∀ v1 : Int, v1 = (upm (upm (upm (upm mem 154 (Int.toNat k) a) 155 (Int.toNat k) b) 156 (Int.toNat k) d) 157 (Int.toNat k) l) 143 12 → InI v1 → (InI (v1 + 1)) ∧ (Kk none (upm (upm (upm (upm (upm mem 154 (Int.toNat k) a) 155 (Int.toNat k) b) 156 (Int.toNat k) d) 157 (Int.toNat k) l) 143 12 (v1 + 1))) := by
      intro v1 e _
      have e : v1 = c := by rw [e]; simp [upm]; exact hc2
      subst e
      refine ⟨by unfold InI; omega, H _ ?_ ?_ (by simp [upm]) ?_⟩
      · intro A i h1 h2 h3 h4 h5
        rw [← hF A i h1 h2 h3 h4 h5]
        simp only [upm]
        rw [if_neg h5, if_neg (fun q => h4 q.1), if_neg (fun q => h3 q.1), if_neg (fun q => h2 q.1), if_neg (fun q => h1 q.1)]
      · intro h0 j hj
        have := h4r h0 j hj
        by_cases hjk : j = k.toNat
        · subst hjk
          simp [upm]
          exact hr
        · simp [upm, hjk]
          exact this
      · intro j hj
        by_cases hjk : j = k.toNat
        · subst hjk
          simp [upm]
          exact hP
        · have := hA j (by omega) (by omega)
          simp [upm, hjk]
          exact this
    refine w_247_70 (Ex.mono S (n + 1)) ⟨fun q => ⟨hk, hk, hk, hk, fin⟩, fun q => ⟨by unfold InI; omega, f_248 ⟨by omega, by omega⟩ (fun r _ _ => ⟨fun _ => ⟨hk, hk, hk, hk, fin⟩, fun _ => ?_⟩)⟩⟩
    have hk3 : 0 ≤ k - 1 ∧ k - 1 < 48 := by omega
    have hI : InI (k - 1) := by unfold InI; omega
    refine ⟨hI, hk3, fun v5 e5 _ => ⟨hk, hI, hk3, fun v6 e6 _ => ⟨hk, hI, hk3, fun v7 e7 _ => ⟨hk, hI, hk3, fun v8 e8 _ => ⟨hk, by unfold InI; omega, ?_⟩⟩⟩⟩⟩
    have e6 : v6 = mem 155 (k - 1).toNat := by rw [e6]; simp [upm]
    have e7 : v7 = mem 156 (k - 1).toNat := by rw [e7]; simp [upm]
    have e8 : v8 = mem 157 (k - 1).toNat := by rw [e8]; simp [upm]
    rw [show k + -1 = k - 1 by omega]
    refine ih (k - 1) _ (by omega) (by omega) (by omega) ?_ ?_ (by simp [upm]; exact hc2) ?_
    · intro A i h1 h2 h3 h4 h5
      rw [← hF A i h1 h2 h3 h4 h5]
      simp only [upm]
      rw [if_neg (fun q => h4 q.1), if_neg (fun q => h3 q.1), if_neg (fun q => h2 q.1), if_neg (fun q => h1 q.1)]
    · intro h0 j hj
      have := h4r h0 j hj
      by_cases hjk : j = k.toNat
      · subst hjk
        simp [upm]
        rw [e5, e6, e7, e8]
        exact h4r h0 _ (by omega)
      · simp [upm, hjk]
        exact this
    · intro j h1 h2
      by_cases hjk : j = k.toNat
      · subst hjk
        simp [upm]
        rw [e5, e6, e7, e8]
        exact hA _ (by omega) (by omega)
      · have := hA j (by omega) (by omega)
        simp [upm, hjk]
        exact this
/-- one more need, or it was there -/
theorem f_247 {K : MM → Prop} (hc : 0 ≤ mem 143 12 ∧ mem 143 12 < 48) (hP : P a b d l) (hr : Rg a b d l) (hA : NdAll P mem (mem 143 12)) (H : ∀ m', FrN mem m' → R4 mem m' → mem 143 12 ≤ m' 143 12 → m' 143 12 ≤ mem 143 12 + 1 → NdAll P m' (m' 143 12) → K m') : CWV (Ex S (n + 2)) 247 [.inr 143, .inl a, .inl b, .inl d, .inl l] mem K := by
  refine CW.of (k := 1) mt_247 rfl rfl (w_247_0 (Ex.mono S (n + 1)) ?_)
  have key : ∀ (N : Nat) (k : Int), 0 ≤ k → k ≤ mem 143 12 → (mem 143 12 - k).toNat < N → Wx (Ex S (n + 1)) S M_247 (fun r m => r = none ∧ K m) 3 [some (.inr 143), some (.inl a), some (.inl b), some (.inl d), some (.inl l), some (.inl k)] [] mem := by
    intro N
    induction N with
    | zero => intros; omega
    | succ N ih =>
      intro k hk1 hk2 hN
      refine w_247_3 (Ex.mono S (n + 1)) (fun v e _ => ⟨fun q v2 e2 _ => ?_, fun q => ?_⟩)
      · subst e2
        refine cn_70 hc hP hr (m0 := mem) (fun m' h1 h4 h2 h3 => ⟨rfl, H m' h1 h4 (by omega) (by omega) (by rw [h2]; exact h3)⟩) _ _ mem hc.1 (Int.le_refl _) (Nat.lt_succ_self _) FrN.rf R4.rf rfl (fun j h1 h2 => hA j (by omega))
      · have hk : 0 ≤ k ∧ k < 48 := by omega
        have nx : InI (k + 1) ∧ Wx (Ex S (n + 1)) S M_247 (fun r m => r = none ∧ K m) 3 [some (.inr 143), some (.inl a), some (.inl b), some (.inl d), some (.inl l), some (.inl (k + 1))] [] mem := ⟨by unfold InI; omega, ih (k + 1) (by omega) (by omega) (by omega)⟩
        exact ⟨hk, fun v3 _ _ => ⟨fun _ => nx, fun _ => ⟨hk, fun v4 _ _ => ⟨fun _ => nx, fun _ => ⟨hk, fun v5 _ _ => ⟨fun _ => nx, fun _ => ⟨hk, fun v6 _ _ => ⟨fun _ => nx, fun _ => ⟨rfl, H mem FrN.rf R4.rf (by omega) (by omega) hA⟩⟩⟩⟩⟩⟩⟩⟩⟩
  exact key _ 0 (by omega) hc.1 (Nat.lt_succ_self _)
end NEED
/-! laysNeeds: there are no more than 44, and each that is of no distance goes up -/
def smN (f : Nat → Nat) : Nat → Nat
  | 0 => 0
  | k + 1 => smN f k + f k
theorem smN_add (f g : Nat → Nat) : ∀ k, smN (fun i => f i + g i) k = smN f k + smN g k
  | 0 => rfl
  | k + 1 => by simp only [smN]; rw [smN_add f g k]; omega
theorem smN_le {f : Nat → Nat} {c : Nat} : ∀ k, (∀ i, i < k → f i ≤ c) → smN f k ≤ c * k
  | 0, _ => by simp [smN]
  | k + 1, h => by
    have := smN_le k (fun i hi => h i (by omega))
    have := h k (by omega)
    simp only [smN]
    rw [Nat.mul_succ]; omega
theorem smN_up {f : Nat → Nat} {a b : Nat} (h : a ≤ b) : smN f a ≤ smN f b := by
  induction b with
  | zero => rw [show a = 0 by omega]; exact Nat.le_refl _
  | succ b ih =>
    by_cases hb : a = b + 1
    · rw [hb]; exact Nat.le_refl _
    · have := ih (by omega)
      simp only [smN]; omega
theorem tri28 {T : Nat → Nat} (t0 : T 0 = 0) (step : ∀ k, T (k + 1) ≤ T k + k) (k : Nat) (hk : k ≤ 8) : T k ≤ 28 := by
  have t1 : T 1 ≤ T 0 + 0 := step 0
  have t2 : T 2 ≤ T 1 + 1 := step 1
  have t3 : T 3 ≤ T 2 + 2 := step 2
  have t4 : T 4 ≤ T 3 + 3 := step 3
  have t5 : T 5 ≤ T 4 + 4 := step 4
  have t6 : T 6 ≤ T 5 + 5 := step 5
  have t7 : T 7 ≤ T 6 + 6 := step 6
  have t8 : T 8 ≤ T 7 + 7 := step 7
  match k, hk with
  | 0, _ => omega
  | 1, _ => omega
  | 2, _ => omega
  | 3, _ => omega
  | 4, _ => omega
  | 5, _ => omega
  | 6, _ => omega
  | 7, _ => omega
  | 8, _ => omega
/-- pairs of which at most one counts -/
theorem pairs28 {c : Nat → Nat → Nat} (h0 : ∀ a, c a a = 0) (h1 : ∀ a b, c a b + c b a ≤ 1) : ∀ k, k ≤ 8 → smN (fun s => smN (c s) k) k ≤ 28 := by
  have step : ∀ k, smN (fun s => smN (c s) (k + 1)) (k + 1) ≤ smN (fun s => smN (c s) k) k + k := by
    intro k
    have e : smN (fun s => smN (c s) (k + 1)) (k + 1) = smN (fun s => smN (c s) k + c s k) k + (smN (c k) k + c k k) := rfl
    rw [e, smN_add, h0]
    have e2 := smN_add (fun s => c s k) (c k) k
    have e3 := smN_le (f := fun i => c i k + c k i) (c := 1) k (fun i _ => h1 i k)
    omega
  exact fun k hk => tri28 (T := fun k => smN (fun s => smN (c s) k) k) rfl step k hk
def cNd (m : MM) (s o : Nat) : Nat := if m 144 s = 5 ∧ ¬ o = s ∧ (m 144 o = 4 ∨ (m 144 o = 5 ∧ (plcF m o < plcF m s ∨ (plcF m s = plcF m o ∧ s < o)))) then 1 else 0
theorem cNd_le (m : MM) (s o : Nat) : cNd m s o ≤ 1 := by unfold cNd; split <;> omega
theorem cNd_self (m : MM) (a : Nat) : cNd m a a = 0 := by unfold cNd; rw [if_neg (fun q => q.2.1 rfl)]
theorem cNd_anti (m : MM) (a b : Nat) : cNd m a b + cNd m b a ≤ 1 := by
  unfold cNd
  split
  · rename_i h
    split
    · rename_i h2
      exfalso
      omega
    · omega
  · split <;> omega
/-- what is so of each need -/
def PN (c a b d l : Int) : Prop := 0 ≤ a ∧ a < c ∧ 0 ≤ b ∧ b < c ∧ 0 ≤ d ∧ d ≤ 7 ∧ -5 ≤ l ∧ l ≤ 6 ∧ (1 ≤ d ∨ a < b)
theorem FrN.ops {m m' : MM} (h : FrN m m') (H : OpsOK m) : OpsOK m' := by
  have e : ∀ A i, (A = 144 ∨ A = 145 ∨ A = 146 ∨ A = 147 ∨ A = 148 ∨ A = 151) → m' A i = m A i := fun A i q => h A i (by omega) (by omega) (by omega) (by omega) (by omega)
  refine ⟨by rw [h 143 1 (by omega) (by omega) (by omega) (by omega) (by omega)]; exact H.1, fun o ho => ?_, fun k hk => by rw [e 151 k (by omega)]; exact H.2.2 k hk⟩
  have := H.2.1 o ho
  unfold OpOK at this ⊢
  rw [e 144 o (by omega), e 145 o (by omega), e 146 o (by omega), e 147 o (by omega), e 148 o (by omega)]
  exact this
section LAYS
variable {S : Nat × (Nat → Int32)} {n : Nat} {m0 : MM}
theorem ln_86 (hO : OpsOK m0) {Kk : WK} (H : ∀ m', FrN m0 m' → R4 m0 m' → 0 ≤ m' 143 12 → m' 143 12 ≤ 44 → NdAll (PN (m0 143 1)) m' (m' 143 12) → Kk none m') : ∀ (N : Nat) (s o : Nat) (mem : MM), (s : Int) < m0 143 1 → (o : Int) ≤ m0 143 1 → (9 * (m0 143 1 - s) + (9 - o)).toNat < N → FrN m0 mem → R4 m0 mem → 0 ≤ mem 143 12 → mem 143 12 ≤ 16 + smN (fun s => smN (cNd m0 s) (m0 143 1).toNat) s + smN (cNd m0 s) o → NdAll (PN (m0 143 1)) mem (mem 143 12) → Wx (Ex S (n + 2)) S M_245 Kk 86 [some (.inr 143), some (.inl (s : Int)), some (.inl (o : Int)), none, none, none] [] mem := by
  intro N
  induction N with
  | zero => intros; omega
  | succ N ih =>
    intro s o mem hs ho hN hF hR4 hn0 hn1 hA
    have hO2 := hF.ops hO
    have h8 := hO.1
    have eops : mem 143 1 = m0 143 1 := hF _ _ (by omega) (by omega) (by omega) (by omega) (by omega)
    have e144 : ∀ i, mem 144 i = m0 144 i := fun i => hF _ _ (by omega) (by omega) (by omega) (by omega) (by omega)
    have e146 : ∀ i, mem 146 i = m0 146 i := fun i => hF _ _ (by omega) (by omega) (by omega) (by omega) (by omega)
    have e148 : ∀ i, mem 148 i = m0 148 i := fun i => hF _ _ (by omega) (by omega) (by omega) (by omega) (by omega)
    have epl : ∀ i, plcF mem i = plcF m0 i := fun i => by unfold plcF; rw [e144, e146, e148]
    have elat : ∀ i, latF mem i = latF m0 i := fun i => by
      unfold latF
      rw [e144]
      exact hF _ _ (by omega) (by omega) (by omega) (by omega) (by omega)
    have hs8 : 0 ≤ (s : Int) ∧ (s : Int) < 8 := by omega
    -- the next of s
    have outer : Wx (Ex S (n + 2)) S M_245 Kk 76 [some (.inr 143), some (.inl ((s : Int) + 1)), none, none, none, none] [] mem := by
      have hle : smN (cNd m0 s) o ≤ smN (cNd m0 s) (m0 143 1).toNat := smN_up (by omega)
      have hn2 : mem 143 12 ≤ 16 + smN (fun s => smN (cNd m0 s) (m0 143 1).toNat) (s + 1) := by simp only [smN]; omega
      refine w_245_76 (Ex.mono S (n + 2)) (fun v e _ => ⟨fun q => H mem hF hR4 hn0 ?_ hA, fun q => ?_⟩)
      · have := pairs28 (cNd_self m0) (cNd_anti m0) (m0 143 1).toNat (by omega)
        rw [show s + 1 = (m0 143 1).toNat by omega] at hn2
        omega
      · exact ih (s + 1) 0 mem (by omega) (by omega) (by omega) hF hR4 hn0 (by simp only [smN] at hn2 ⊢; omega) hA
    -- the next of o
    have inner : ∀ m', FrN mem m' → R4 mem m' → 0 ≤ m' 143 12 → m' 143 12 ≤ mem 143 12 + cNd m0 s o → NdAll (PN (m0 143 1)) m' (m' 143 12) → (o : Int) < m0 143 1 → InI ((o : Int) + 1) ∧ Wx (Ex S (n + 2)) S M_245 Kk 86 [some (.inr 143), some (.inl (s : Int)), some (.inl ((o : Int) + 1)), none, none, none] [] m' := fun m' h1 hr h2 h3 h4 h5 => by
      refine ⟨by unfold InI; omega, ih s (o + 1) m' hs (by omega) (by omega) (hF.tr h1) (hR4.tr hr) h2 ?_ h4⟩
      simp only [smN]; omega
    refine w_245_86 (Ex.mono S (n + 2)) (fun v e _ => ⟨fun q => ⟨by unfold InI; omega, outer⟩, fun q => ⟨hs8, fun v2 e2 _ => ⟨fun q2 => ⟨by unfold InI; omega, outer⟩, fun q2 => ?_⟩⟩⟩)
    have ho2 : (o : Int) < m0 143 1 := by omega
    have ho8 : 0 ≤ (o : Int) ∧ (o : Int) < 8 := by omega
    have same := inner mem FrN.rf R4.rf hn0 (by omega) hA ho2
    refine ⟨fun q3 => same, fun q3 => ?_⟩
    have ks : m0 144 s = 5 := by
      have := e144 s
      simp only [Int.toNat_natCast] at e2
      omega
    refine f_249 ho8 (fun q4 _ => ⟨fun q5 => same, fun _ => ?_⟩) (fun _ _ _ => ⟨fun _ => same, fun q5 => absurd rfl q5⟩)
    refine f_250 ho8 (fun _ => f_250 hs8 (fun _ => ⟨fun q5 => ?_, fun q5 => same⟩))
    refine f_251 hs8 (fun _ => f_251 ho8 (fun _ => ?_))
    simp only [Int.toNat_natCast] at q4 ⊢
    have hps : 0 ≤ plcF mem s ∧ plcF mem s ≤ 7 := by
      obtain ⟨-, -, -, h4, h5⟩ := hO2.2.1 s (by omega)
      have := h5 (by rw [e144]; exact ks)
      unfold plcF; rw [if_neg (by rw [e144]; omega)]; omega
    have hpo : 0 ≤ plcF mem o ∧ plcF mem o ≤ 7 := by
      obtain ⟨-, -, -, h4, h5⟩ := hO2.2.1 o (by omega)
      unfold plcF
      split
      · have := h4 (by assumption); omega
      · have := h5 (by omega); omega
    have hls := hO2.lat (o := s) (by omega)
    have c48 : mem 143 12 < 48 := by
      have h1 := pairs28 (cNd_self m0) (cNd_anti m0) (m0 143 1).toNat (by omega)
      have h2 : smN (cNd m0 s) o ≤ smN (cNd m0 s) (m0 143 1).toNat := smN_up (by omega)
      have h3 : smN (fun s => smN (cNd m0 s) (m0 143 1).toNat) (s + 1) ≤ smN (fun s => smN (cNd m0 s) (m0 143 1).toNat) (m0 143 1).toNat := smN_up (by omega)
      simp only [smN] at h3
      omega
    -- a need comes
    have put : ∀ a b d l : Int, PN (m0 143 1) a b d l → cNd m0 s o = 1 → CWV (Ex S (n + 2)) 247 [.inr 143, .inl a, .inl b, .inl d, .inl l] mem fun m' => InI ((o : Int) + 1) ∧ Wx (Ex S (n + 2)) S M_245 Kk 86 [some (.inr 143), some (.inl (s : Int)), some (.inl ((o : Int) + 1)), none, none, none] [] m' := fun a b d l hp hc =>
      f_247 (P := PN (m0 143 1)) ⟨hn0, c48⟩ hp (by unfold PN at hp; unfold Rg; omega) hA (fun m' h1 hr h2 h3 h4 => inner m' h1 hr (by omega) (by omega) h4 ho2)
    have sub7 : ∀ x y : Int, 0 ≤ x ∧ x ≤ 7 → 0 ≤ y ∧ y ≤ 7 → InI (x - y) := fun x y h1 h2 => by unfold InI; omega
    have at170 : ∀ ah : Int, (ah = 1 ∧ (plcF m0 o < plcF m0 s ∨ (plcF m0 s = plcF m0 o ∧ s < o))) ∨ (ah = 0 ∧ ¬ (plcF m0 o < plcF m0 s ∨ (plcF m0 s = plcF m0 o ∧ s < o))) → Wx (Ex S (n + 2)) S M_245 Kk 170 [some (.inr 143), some (.inl (s : Int)), some (.inl (o : Int)), some (.inl (plcF mem s)), some (.inl (plcF mem o)), some (.inl ah)] [] mem := by
      intro ah hah
      have kE := e144 o
      have pE := epl o
      have pS := epl s
      have nso : ¬ o = s := by omega
      have c4 : m0 144 o = 4 → cNd m0 s o = 1 := fun h => by unfold cNd; rw [if_pos ⟨ks, nso, Or.inl h⟩]
      have c5 : m0 144 o = 5 → ah = 1 → cNd m0 s o = 1 := fun h h2 => by unfold cNd; rw [if_pos ⟨ks, nso, Or.inr ⟨h, by omega⟩⟩]
      refine w_245_170 (Ex.mono S (n + 2)) ⟨ho8, fun v1 g1 _ => ⟨fun z1 => ⟨ho8, fun v2 g2 _ => ⟨fun z2 => ⟨fun z3 => same, fun z3 => ⟨sub7 _ _ hps hpo, put _ _ _ _ ?_ ?_⟩⟩, fun z2 => ?_⟩⟩, fun z1 => ⟨fun z2 => ⟨ho8, fun v2 g2 _ => ⟨fun z3 => ?_, fun z3 => ⟨sub7 _ _ hpo hps, f_246 hO2 hs8 (fun _ => ⟨?_, put _ _ _ _ ?_ ?_⟩)⟩⟩⟩, fun z2 => ⟨sub7 _ _ hps hpo, f_246 hO2 hs8 (fun _ => put _ _ _ _ ?_ ?_)⟩⟩⟩⟩
      · simp only [Int.toNat_natCast] at g1 g2; unfold PN; omega
      · simp only [Int.toNat_natCast] at g1 g2; exact c5 (by omega) (by omega)
      · exfalso; omega
      · exfalso; omega
      · simp only [Int.toNat_natCast]; unfold InI; omega
      · simp only [Int.toNat_natCast] at g1 g2 ⊢; unfold PN; omega
      · simp only [Int.toNat_natCast] at g1 g2; exact c4 (by omega)
      · simp only [Int.toNat_natCast] at g1 ⊢; unfold PN; omega
      · simp only [Int.toNat_natCast] at g1; exact c4 (by omega)
    have pE := epl o
    have pS := epl s
    exact w_245_146 (Ex.mono S (n + 2)) ⟨fun z => at170 1 (Or.inl ⟨rfl, by omega⟩), fun z => ⟨fun z2 => at170 0 (Or.inr ⟨rfl, by omega⟩), fun z2 => ⟨fun z3 => at170 0 (Or.inr ⟨rfl, by omega⟩), fun z3 => at170 1 (Or.inl ⟨rfl, by omega⟩)⟩⟩⟩
theorem ln_17 (hO : OpsOK m0) (hS : SoundM m0) {Kk : WK} (H : ∀ m', FrN m0 m' → R4 m0 m' → 0 ≤ m' 143 12 → m' 143 12 ≤ 44 → NdAll (PN (m0 143 1)) m' (m' 143 12) → Kk none m') : ∀ (N : Nat) (o : Nat) (k : Int) (mem : MM), (o : Int) < m0 143 1 → 0 ≤ k → k ≤ 2 → (3 * (m0 143 1 - o) + (3 - k)).toNat < N → FrN m0 mem → R4 m0 mem → 0 ≤ mem 143 12 → mem 143 12 ≤ 2 * o + k → NdAll (PN (m0 143 1)) mem (mem 143 12) → Wx (Ex S (n + 2)) S M_245 Kk 17 [some (.inr 143), some (.inl (o : Int)), some (.inl k), none, none, none] [] mem := by
  intro N
  induction N with
  | zero => intros; omega
  | succ N ih =>
    intro o k mem ho hk1 hk2 hN hF hR4 hn0 hn1 hA
    have hO2 := hF.ops hO
    have h8 := hO.1
    have eops : mem 143 1 = m0 143 1 := hF _ _ (by omega) (by omega) (by omega) (by omega) (by omega)
    have e : ∀ A i, (A = 144 ∨ A = 145 ∨ A = 146 ∨ A = 147 ∨ A = 148 ∨ A = 151) → mem A i = m0 A i := fun A i q => hF A i (by omega) (by omega) (by omega) (by omega) (by omega)
    have esN : srcN mem o = srcN m0 o := by unfold srcN; rw [e 144 _ (by omega)]
    have esA : srcA mem o k = srcA m0 o k := by unfold srcA; rw [e 145 _ (by omega), e 147 _ (by omega)]
    have esB : srcB mem o k = srcB m0 o k := by unfold srcB; rw [e 146 _ (by omega), e 148 _ (by omega)]
    have ho8 : 0 ≤ (o : Int) ∧ (o : Int) < 8 := by omega
    refine w_245_17 (Ex.mono S (n + 2)) (f_241 ho8 (fun _ => ⟨fun q => ⟨by unfold InI; omega, ?_⟩, fun q => ?_⟩))
    · refine w_245_7 (Ex.mono S (n + 2)) (fun v ev _ => ⟨fun q2 => ?_, fun q2 => ?_⟩)
      · refine w_245_76 (Ex.mono S (n + 2)) (fun v ev _ => ⟨fun q3 => ?_, fun q3 => ?_⟩)
        · exact H mem hF hR4 hn0 (by omega) hA
        · exact ln_86 hO H _ 0 0 mem (by omega) (by omega) (Nat.lt_succ_self _) hF hR4 hn0 (by simp only [smN]; omega) hA
      · exact ih (o + 1) 0 mem (by omega) (by omega) (by omega) (by omega) hF hR4 hn0 (by omega) hA
    · simp only [Int.toNat_natCast] at q
      have hs := hO2.src (o := o) (by omega) hk1 (by omega)
      have hS2 := hS o ho k hk1 (by omega)
      have hnn : srcN mem o ≤ 2 := by unfold srcN; split <;> (try split) <;> omega
      have nx : ∀ m', FrN mem m' → R4 mem m' → 0 ≤ m' 143 12 → m' 143 12 ≤ mem 143 12 + 1 → NdAll (PN (m0 143 1)) m' (m' 143 12) → InI (k + 1) ∧ Wx (Ex S (n + 2)) S M_245 Kk 17 [some (.inr 143), some (.inl (o : Int)), some (.inl (k + 1)), none, none, none] [] m' := fun m' h1 hr h2 h3 h4 => ⟨by unfold InI; omega, ih o (k + 1) m' ho (by omega) (by omega) (by omega) (hF.tr h1) (hR4.tr hr) h2 (by omega) h4⟩
      refine f_242 ho8 (fun _ => ⟨fun q2 => nx mem FrN.rf R4.rf hn0 (by omega) hA, fun q2 => ?_⟩)
      simp only [Int.toNat_natCast] at q2
      have hA7 : 0 ≤ srcA mem o k ∧ srcA mem o k < 8 := by unfold srcOK at hs; omega
      have hl := hO2.lat (o := (srcA mem o k).toNat) (by omega)
      refine f_242 ho8 (fun _ => f_243 ho8 (fun _ => f_242 ho8 (fun _ => f_246 hO2 (by simpa only [Int.toNat_natCast] using hA7) (fun _ => ?_))))
      simp only [Int.toNat_natCast]
      have hpn : PN (m0 143 1) (srcA mem o k) (o : Int) (srcB mem o k) (latF mem (srcA mem o k).toNat) := by
        unfold SrcS at hS2
        unfold srcOK at hs
        unfold PN
        omega
      exact f_247 (P := PN (m0 143 1)) ⟨hn0, by omega⟩ hpn (by unfold PN at hpn; unfold Rg; omega) hA (fun m' h1 hr h2 h3 h4 => nx m' h1 hr (by omega) (by omega) h4)
theorem f_245 {K : MM → Prop} (hO : OpsOK m0) (hS : SoundM m0) (H : ∀ m', FrN m0 m' → R4 m0 m' → 0 ≤ m' 143 12 → m' 143 12 ≤ 44 → NdAll (PN (m0 143 1)) m' (m' 143 12) → K m') : CWV (Ex S (n + 3)) 245 [.inr 143] m0 K := by
  have hF : FrN m0 (upm m0 143 12 0) := fun A i _ _ _ _ h => upm_ne h
  have hR : R4 m0 (upm m0 143 12 0) := R4.same (fun A i e => upm_ne (by omega))
  refine CW.of (k := 5) mt_245 rfl rfl (w_245_0 (Ex.mono S (n + 2)) (w_245_7 (Ex.mono S (n + 2)) (fun v e _ => ⟨fun q => ?_, fun q => ?_⟩)))
  · have e : v = m0 143 1 := by rw [e]; simp [upm]
    refine w_245_76 (Ex.mono S (n + 2)) (fun v2 e2 _ => ⟨fun q3 => ⟨rfl, H _ hF hR (by simp [upm]) (by simp [upm]) ?_⟩, fun q3 => ?_⟩)
    · intro j hj; simp [upm] at hj; omega
    · have e2 : v2 = m0 143 1 := by rw [e2]; simp [upm]
      omega
  · have e : v = m0 143 1 := by rw [e]; simp [upm]
    exact ln_17 hO hS (fun m' h1 hr h2 h3 h4 => ⟨rfl, H m' h1 hr h2 h3 h4⟩) _ 0 0 _ (by omega) (by omega) (by omega) (Nat.lt_succ_self _) hF hR (by simp [upm]) (by simp [upm]) (by intro j hj; simp [upm] at hj; omega)
end LAYS
/-! ways in a graph of few places: walks, rings that are not above 0, heights -/
/-- a walk from a over p to b, of a value -/
def Wk (E : Nat → Nat → Int → Prop) : Nat → List Nat → Nat → Int → Prop
  | a, [], b, v => E a b v
  | a, c :: p, b, v => ∃ x y, E a c x ∧ Wk E c p b y ∧ v = x + y
section WALK
variable {E : Nat → Nat → Int → Prop}
theorem Wk.app : ∀ {p : List Nat} {a c b : Nat} {q : List Nat} {x y : Int}, Wk E a p c x → Wk E c q b y → Wk E a (p ++ c :: q) b (x + y)
  | [], a, c, b, q, x, y, h1, h2 => ⟨x, y, h1, h2, rfl⟩
  | e :: p, a, c, b, q, x, y, ⟨u, v, g1, g2, g3⟩, h2 => ⟨u, v + y, g1, Wk.app g2 h2, by omega⟩
theorem Wk.split : ∀ {p : List Nat} {a c b : Nat} {q : List Nat} {z : Int}, Wk E a (p ++ c :: q) b z → ∃ x y, Wk E a p c x ∧ Wk E c q b y ∧ z = x + y
  | [], a, c, b, q, z, ⟨x, y, h1, h2, h3⟩ => ⟨x, y, h1, h2, h3⟩
  | e :: p, a, c, b, q, z, ⟨u, v, g1, g2, g3⟩ => by
    obtain ⟨x, y, h1, h2, h3⟩ := Wk.split g2
    exact ⟨u + x, y, ⟨u, x, g1, h1, rfl⟩, h2, by omega⟩
theorem Wk.le (hE : ∀ a b x, E a b x → x ≤ 99) : ∀ {p : List Nat} {a b : Nat} {v : Int}, Wk E a p b v → v ≤ 99 * (p.length + 1)
  | [], a, b, v, h => by have := hE a b v h; simp; omega
  | c :: p, a, b, v, ⟨x, y, h1, h2, h3⟩ => by
    have := hE _ _ _ h1
    have := Wk.le hE h2
    rw [List.length_cons]; omega
theorem Wk.le6 {c : Int} (hc : 0 ≤ c) (hE : ∀ a b x, E a b x → x ≤ c) : ∀ {p : List Nat} {a b : Nat} {v : Int}, Wk E a p b v → v ≤ c * (p.length + 1)
  | [], a, b, v, h => by have := hE a b v h; simp; omega
  | e :: p, a, b, v, ⟨x, y, h1, h2, h3⟩ => by
    have := hE _ _ _ h1
    have := Wk.le6 hc hE h2
    rw [List.length_cons]
    have e1 : c * ((p.length + 1 : Nat) + 1 : Int) = c * (p.length + 1) + c := by
      rw [Int.natCast_add]
      show c * ((p.length : Int) + 1 + 1) = _
      rw [Int.mul_add, Int.mul_one]
    omega
/-- at a potential a walk is no more than what lies between -/
theorem Wk.pot {φ : Nat → Int} (hφ : ∀ a b x, E a b x → φ a + x ≤ φ b) : ∀ {p : List Nat} {a b : Nat} {v : Int}, Wk E a p b v → φ a + v ≤ φ b
  | [], a, b, v, h => hφ a b v h
  | c :: p, a, b, v, ⟨x, y, h1, h2, h3⟩ => by
    have := hφ _ _ _ h1
    have := Wk.pot hφ h2
    omega
theorem nd_len : ∀ {k : Nat} {l : List Nat}, l.Nodup → (∀ x ∈ l, x < k) → l.length ≤ k
  | 0, l, _, h => by
    cases l with
    | nil => simp
    | cons x l => exact absurd (h x List.mem_cons_self) (by omega)
  | k + 1, l, hn, h => by
    by_cases hk : k ∈ l
    · have := nd_len (k := k) (l := l.erase k) (hn.erase k) (fun x hx => by
        have h1 := h x (List.mem_of_mem_erase hx)
        have h2 : x ≠ k := fun e => by subst e; exact hn.not_mem_erase hx
        omega)
      rw [List.length_erase_of_mem hk] at this
      omega
    · have := nd_len (k := k) hn (fun x hx => by
        have h1 := h x hx
        have h2 : x ≠ k := fun e => by subst e; exact hk hx
        omega)
      omega
/-- W is no less, from a to b, than walks over places below m -/
def Low (E : Nat → Nat → Int → Prop) (m : Nat) (W : Nat → Nat → Int) (a b : Nat) : Prop := ∀ p v, p.Nodup → (∀ c ∈ p, c < m) → Wk E a p b v → -999 + 99 * (p.length : Int) ≤ v → v ≤ W a b
theorem Low.piv {m a b : Nat} {W : Nat → Nat → Int} (hE : ∀ a b x, E a b x → x ≤ 99) (h1 : Low E m W a b) (h2 : Low E m W a m) (h3 : Low E m W m b) {p : List Nat} {v : Int} (hn : p.Nodup) (hp : ∀ c ∈ p, c < m + 1) (hw : Wk E a p b v) (hv : -999 + 99 * (p.length : Int) ≤ v) : v ≤ W a b ∨ (-1000 < W a m ∧ -1000 < W m b ∧ v ≤ W a m + W m b ∧ m ∈ p) := by
  by_cases hm : m ∈ p
  · right
    obtain ⟨p1, p2, rfl⟩ := List.append_of_mem hm
    obtain ⟨x, y, g1, g2, g3⟩ := Wk.split hw
    rw [List.nodup_append, List.nodup_cons] at hn
    obtain ⟨n1, ⟨n2, n3⟩, n4⟩ := hn
    have l1 := Wk.le hE g1
    have l2 := Wk.le hE g2
    rw [List.length_append, List.length_cons] at hv
    have k1 := h2 p1 x n1 (fun c hc => by
      have := hp c (List.mem_append_left _ hc)
      have : c ≠ m := fun e => n4 c hc m List.mem_cons_self e
      omega) g1 (by omega)
    have k2 := h3 p2 y n3 (fun c hc => by
      have := hp c (List.mem_append_right _ (List.mem_cons_of_mem _ hc))
      have : c ≠ m := fun e => by subst e; exact n2 hc
      omega) g2 (by omega)
    exact ⟨by omega, by omega, by omega, hm⟩
  · exact Or.inl (h1 p v hn (fun c hc => by
      have := hp c hc
      have : c ≠ m := fun e => by subst e; exact hm hc
      omega) hw hv)
/-- no ring above 0, ways of a bounded value: there are heights -/
theorem pot {k : Nat} {B : Nat} (hV : ∀ a b x, E a b x → a < k ∧ b < k) (hR : ∀ a p v, a < k → p.Nodup → (∀ c ∈ p, c < k) → Wk E a p a v → v ≤ 0) (hB : ∀ a p b v, b < k → (b :: a :: p).Nodup → (∀ c ∈ a :: p, c < k) → Wk E a p b v → v ≤ B) : ∃ φ : Nat → Int, (∀ b, 0 ≤ φ b ∧ φ b ≤ B) ∧ ∀ a b x, E a b x → φ a + x ≤ φ b := by
  have key : ∀ (N : Nat) (φ : Nat → Int), (∀ b, 0 ≤ φ b ∧ φ b ≤ B) → (∀ b, φ b = 0 ∨ ∃ a p v, b < k ∧ (∀ c ∈ a :: p, c < k) ∧ (b :: a :: p).Nodup ∧ Wk E a p b v ∧ φ b ≤ v) → smN (fun b => (B - φ b).toNat) k < N → ∃ φ : Nat → Int, (∀ b, 0 ≤ φ b ∧ φ b ≤ B) ∧ ∀ a b x, E a b x → φ a + x ≤ φ b := by
    intro N
    induction N with
    | zero => intros; omega
    | succ N ih =>
      intro φ h1 h2 hN
      by_cases hf : ∀ a b x, E a b x → φ a + x ≤ φ b
      · exact ⟨φ, h1, hf⟩
      · simp only [Classical.not_forall] at hf
        obtain ⟨a, b, x, hE, hlt⟩ := hf
        obtain ⟨ha, hb⟩ := hV a b x hE
        have hab : ¬ b = a := fun e => by
          subst e
          have := hR b [] x hb List.nodup_nil (fun c hc => by cases hc) hE
          omega
        -- a way to b of that value
        have hw : ∃ s p v, (∀ c ∈ s :: p, c < k) ∧ (b :: s :: p).Nodup ∧ Wk E s p b v ∧ φ a + x ≤ v := by
          rcases h2 a with h0 | ⟨s, p, v, g1, g2, g3, g4, g5⟩
          · refine ⟨a, [], x, fun c hc => ?_, ?_, hE, by omega⟩
            · rcases List.mem_cons.mp hc with rfl | hc
              · exact ha
              · cases hc
            · simp [hab]
          · have g3' := List.nodup_cons.mp g3
            have g3'' := List.nodup_cons.mp g3'.2
            have wx : Wk E s (p ++ [a]) b (v + x) := Wk.app g4 hE
            have nd : (p ++ [a]).Nodup := by
              rw [List.nodup_append]
              refine ⟨g3''.2, by simp, fun c hc e he => ?_⟩
              have : e = a := by simpa using he
              subst this
              intro q
              subst q
              exact g3'.1 (List.mem_cons_of_mem _ hc)
            have lt : ∀ c ∈ p ++ [a], c < k := fun c hc => by
              rcases List.mem_append.mp hc with hc | hc
              · exact g2 c (List.mem_cons_of_mem _ hc)
              · have : c = a := by simpa using hc
                subst this; exact ha
            by_cases hbs : b = s
            · exfalso
              subst hbs
              have := hR b _ _ hb nd lt wx
              have := h1 b
              omega
            · by_cases hbp : b ∈ p
              · obtain ⟨p1, p2, rfl⟩ := List.append_of_mem hbp
                obtain ⟨u, w, k1, k2, k3⟩ := Wk.split g4
                have wy : Wk E b (p2 ++ [a]) b (w + x) := Wk.app k2 hE
                have nda := List.nodup_append.mp g3''.2
                have ndb := List.nodup_cons.mp nda.2.1
                have nd2 : (p2 ++ [a]).Nodup := by
                  rw [List.append_assoc] at nd
                  exact (List.nodup_cons.mp (List.nodup_append.mp nd).2.1).2
                have := hR b _ _ hb nd2 (fun c hc => lt c (by
                  rw [List.append_assoc]
                  exact List.mem_append_right _ (List.mem_cons_of_mem _ hc))) wy
                refine ⟨s, p1, u, fun c hc => ?_, ?_, k1, by omega⟩
                · rcases List.mem_cons.mp hc with rfl | hc
                  · exact g2 _ List.mem_cons_self
                  · exact g2 c (List.mem_cons_of_mem _ (List.mem_append_left _ hc))
                · rw [List.nodup_cons, List.nodup_cons]
                  refine ⟨fun q => ?_, fun q => g3''.1 (List.mem_append_left _ q), nda.1⟩
                  rcases List.mem_cons.mp q with q | q
                  · exact hbs q
                  · exact nda.2.2 b q b List.mem_cons_self rfl
              · refine ⟨s, p ++ [a], v + x, fun c hc => ?_, ?_, wx, by omega⟩
                · rcases List.mem_cons.mp hc with rfl | hc
                  · exact g2 _ List.mem_cons_self
                  · exact lt c hc
                · rw [List.nodup_cons, List.nodup_cons]
                  refine ⟨fun q => ?_, fun q => ?_, nd⟩
                  · rcases List.mem_cons.mp q with q | q
                    · exact hbs q
                    · rcases List.mem_append.mp q with q | q
                      · exact hbp q
                      · exact hab (by simpa using q)
                  · rcases List.mem_append.mp q with q | q
                    · exact g3''.1 q
                    · have : s = a := by simpa using q
                      exact g3'.1 (by rw [← this]; exact List.mem_cons_self)
        obtain ⟨s, p, v, w1, w2, w3, w4⟩ := hw
        have hvB := hB s p b v hb w2 w1 w3
        refine ih (fun c => if c = b then φ a + x else φ c) (fun c => ?_) (fun c => ?_) ?_
        · split
          · have := h1 b; have := h1 a; omega
          · exact h1 c
        · split
          · rename_i e
            subst e
            exact Or.inr ⟨s, p, v, hb, w1, w2, w3, w4⟩
          · exact h2 c
        · have hd : ∀ j, smN (fun c => (B - (if c = b then φ a + x else φ c)).toNat) j ≤ smN (fun c => (B - φ c).toNat) j ∧ (b < j → smN (fun c => (B - (if c = b then φ a + x else φ c)).toNat) j < smN (fun c => (B - φ c).toNat) j) := by
            intro j
            induction j with
            | zero => exact ⟨Nat.le_refl _, fun q => by omega⟩
            | succ j ihj =>
              simp only [smN]
              by_cases e : j = b
              · subst e
                rw [if_pos rfl]
                have := h1 j
                exact ⟨by omega, fun _ => by omega⟩
              · rw [if_neg e]
                exact ⟨by omega, fun q => by have := ihj.2 (by omega); omega⟩
          have := (hd k).2 hb
          omega
  exact key _ (fun _ => 0) (fun b => ⟨by omega, by omega⟩) (fun b => Or.inl rfl) (Nat.lt_succ_self _)
end WALK
/-! laid by wip/hand/wxg.py: ways: what the paths of methods ask for -/
set_option maxRecDepth 100000 in
theorem mt_254 : MT[254]? = some M_254 := rfl
set_option maxRecDepth 100000 in
theorem mt_255 : MT[255]? = some M_255 := rfl
set_option maxRecDepth 100000 in
theorem mt_256 : MT[256]? = some M_256 := rfl
set_option maxRecDepth 100000 in
theorem mt_259 : MT[259]? = some M_259 := rfl
theorem te_254_0 : (pT M_254).find? (fun e => e.1 == 0) = some (0, .aload_n 0, 0, 0) := rfl
theorem te_254_1 : (pT M_254).find? (fun e => e.1 == 1) = some (1, .invokevirtual 137, 240, 0) := rfl
theorem te_254_4 : (pT M_254).find? (fun e => e.1 == 4) = some (4, .ifCond .ne 5, 0, 0) := rfl
theorem te_254_7 : (pT M_254).find? (fun e => e.1 == 7) = some (7, .iconst 1, 0, 0) := rfl
theorem te_254_8 : (pT M_254).find? (fun e => e.1 == 8) = some (8, .ireturn, 0, 0) := rfl
theorem te_254_9 : (pT M_254).find? (fun e => e.1 == 9) = some (9, .aload_n 0, 0, 0) := rfl
theorem te_254_10 : (pT M_254).find? (fun e => e.1 == 10) = some (10, .invokevirtual 164, 245, 0) := rfl
theorem te_254_13 : (pT M_254).find? (fun e => e.1 == 13) = some (13, .iload_n 1, 0, 0) := rfl
theorem te_254_14 : (pT M_254).find? (fun e => e.1 == 14) = some (14, .aload_n 0, 0, 0) := rfl
theorem te_254_15 : (pT M_254).find? (fun e => e.1 == 15) = some (15, .invokevirtual 195, 255, 0) := rfl
theorem te_254_18 : (pT M_254).find? (fun e => e.1 == 18) = some (18, .if_icmp .ge 7, 0, 0) := rfl
theorem te_254_21 : (pT M_254).find? (fun e => e.1 == 21) = some (21, .iconst 1, 0, 0) := rfl
theorem te_254_22 : (pT M_254).find? (fun e => e.1 == 22) = some (22, .goto 4, 0, 0) := rfl
theorem te_254_25 : (pT M_254).find? (fun e => e.1 == 25) = some (25, .iconst 0, 0, 0) := rfl
theorem te_254_26 : (pT M_254).find? (fun e => e.1 == 26) = some (26, .ireturn, 0, 0) := rfl
theorem te_255_0 : (pT M_255).find? (fun e => e.1 == 0) = some (0, .iconst 0, 0, 0) := rfl
theorem te_255_1 : (pT M_255).find? (fun e => e.1 == 1) = some (1, .istore_n 1, 0, 0) := rfl
theorem te_255_2 : (pT M_255).find? (fun e => e.1 == 2) = some (2, .aload_n 0, 0, 0) := rfl
theorem te_255_3 : (pT M_255).find? (fun e => e.1 == 3) = some (3, .iload_n 1, 0, 0) := rfl
theorem te_255_4 : (pT M_255).find? (fun e => e.1 == 4) = some (4, .invokevirtual 173, 256, 0) := rfl
theorem te_255_7 : (pT M_255).find? (fun e => e.1 == 7) = some (7, .aload_n 0, 0, 0) := rfl
theorem te_255_8 : (pT M_255).find? (fun e => e.1 == 8) = some (8, .invokevirtual 177, 259, 0) := rfl
theorem te_255_11 : (pT M_255).find? (fun e => e.1 == 11) = some (11, .ifCond .ne 14, 0, 0) := rfl
theorem te_255_14 : (pT M_255).find? (fun e => e.1 == 14) = some (14, .iinc 1 1, 0, 0) := rfl
theorem te_255_17 : (pT M_255).find? (fun e => e.1 == 17) = some (17, .aload_n 0, 0, 0) := rfl
theorem te_255_18 : (pT M_255).find? (fun e => e.1 == 18) = some (18, .iload_n 1, 0, 0) := rfl
theorem te_255_19 : (pT M_255).find? (fun e => e.1 == 19) = some (19, .invokevirtual 173, 256, 0) := rfl
theorem te_255_22 : (pT M_255).find? (fun e => e.1 == 22) = some (22, .goto (-15), 0, 0) := rfl
theorem te_255_25 : (pT M_255).find? (fun e => e.1 == 25) = some (25, .iload_n 1, 0, 0) := rfl
theorem te_255_26 : (pT M_255).find? (fun e => e.1 == 26) = some (26, .ireturn, 0, 0) := rfl
theorem te_256_0 : (pT M_256).find? (fun e => e.1 == 0) = some (0, .iconst 0, 0, 0) := rfl
theorem te_256_1 : (pT M_256).find? (fun e => e.1 == 1) = some (1, .istore_n 2, 0, 0) := rfl
theorem te_256_2 : (pT M_256).find? (fun e => e.1 == 2) = some (2, .iload_n 2, 0, 0) := rfl
theorem te_256_3 : (pT M_256).find? (fun e => e.1 == 3) = some (3, .bipush 64, 0, 0) := rfl
theorem te_256_5 : (pT M_256).find? (fun e => e.1 == 5) = some (5, .if_icmp .ge 18, 0, 0) := rfl
theorem te_256_8 : (pT M_256).find? (fun e => e.1 == 8) = some (8, .aload_n 0, 0, 0) := rfl
theorem te_256_9 : (pT M_256).find? (fun e => e.1 == 9) = some (9, .getfield 52, 10, 17) := rfl
theorem te_256_12 : (pT M_256).find? (fun e => e.1 == 12) = some (12, .iload_n 2, 0, 0) := rfl
theorem te_256_13 : (pT M_256).find? (fun e => e.1 == 13) = some (13, .sipush (-1000), 0, 0) := rfl
theorem te_256_16 : (pT M_256).find? (fun e => e.1 == 16) = some (16, .iastore, 0, 0) := rfl
theorem te_256_17 : (pT M_256).find? (fun e => e.1 == 17) = some (17, .iinc 2 1, 0, 0) := rfl
theorem te_256_20 : (pT M_256).find? (fun e => e.1 == 20) = some (20, .goto (-18), 0, 0) := rfl
theorem te_256_23 : (pT M_256).find? (fun e => e.1 == 23) = some (23, .iconst 0, 0, 0) := rfl
theorem te_256_24 : (pT M_256).find? (fun e => e.1 == 24) = some (24, .istore_n 2, 0, 0) := rfl
theorem te_256_25 : (pT M_256).find? (fun e => e.1 == 25) = some (25, .iload_n 2, 0, 0) := rfl
theorem te_256_26 : (pT M_256).find? (fun e => e.1 == 26) = some (26, .aload_n 0, 0, 0) := rfl
theorem te_256_27 : (pT M_256).find? (fun e => e.1 == 27) = some (27, .getfield 141, 10, 12) := rfl
theorem te_256_30 : (pT M_256).find? (fun e => e.1 == 30) = some (30, .if_icmp .ge 77, 0, 0) := rfl
theorem te_256_33 : (pT M_256).find? (fun e => e.1 == 33) = some (33, .iload_n 2, 0, 0) := rfl
theorem te_256_34 : (pT M_256).find? (fun e => e.1 == 34) = some (34, .aload_n 0, 0, 0) := rfl
theorem te_256_35 : (pT M_256).find? (fun e => e.1 == 35) = some (35, .getfield 55, 10, 18) := rfl
theorem te_256_38 : (pT M_256).find? (fun e => e.1 == 38) = some (38, .if_icmp .eq 63, 0, 0) := rfl
theorem te_256_41 : (pT M_256).find? (fun e => e.1 == 41) = some (41, .aload_n 0, 0, 0) := rfl
theorem te_256_42 : (pT M_256).find? (fun e => e.1 == 42) = some (42, .getfield 52, 10, 17) := rfl
theorem te_256_45 : (pT M_256).find? (fun e => e.1 == 45) = some (45, .bipush 8, 0, 0) := rfl
theorem te_256_47 : (pT M_256).find? (fun e => e.1 == 47) = some (47, .aload_n 0, 0, 0) := rfl
theorem te_256_48 : (pT M_256).find? (fun e => e.1 == 48) = some (48, .getfield 40, 10, 13) := rfl
theorem te_256_51 : (pT M_256).find? (fun e => e.1 == 51) = some (51, .iload_n 2, 0, 0) := rfl
theorem te_256_52 : (pT M_256).find? (fun e => e.1 == 52) = some (52, .iaload, 0, 0) := rfl
theorem te_256_53 : (pT M_256).find? (fun e => e.1 == 53) = some (53, .imul, 0, 0) := rfl
theorem te_256_54 : (pT M_256).find? (fun e => e.1 == 54) = some (54, .aload_n 0, 0, 0) := rfl
theorem te_256_55 : (pT M_256).find? (fun e => e.1 == 55) = some (55, .getfield 43, 10, 14) := rfl
theorem te_256_58 : (pT M_256).find? (fun e => e.1 == 58) = some (58, .iload_n 2, 0, 0) := rfl
theorem te_256_59 : (pT M_256).find? (fun e => e.1 == 59) = some (59, .iaload, 0, 0) := rfl
theorem te_256_60 : (pT M_256).find? (fun e => e.1 == 60) = some (60, .iadd, 0, 0) := rfl
theorem te_256_61 : (pT M_256).find? (fun e => e.1 == 61) = some (61, .aload_n 0, 0, 0) := rfl
theorem te_256_62 : (pT M_256).find? (fun e => e.1 == 62) = some (62, .getfield 52, 10, 17) := rfl
theorem te_256_65 : (pT M_256).find? (fun e => e.1 == 65) = some (65, .bipush 8, 0, 0) := rfl
theorem te_256_67 : (pT M_256).find? (fun e => e.1 == 67) = some (67, .aload_n 0, 0, 0) := rfl
theorem te_256_68 : (pT M_256).find? (fun e => e.1 == 68) = some (68, .getfield 40, 10, 13) := rfl
theorem te_256_71 : (pT M_256).find? (fun e => e.1 == 71) = some (71, .iload_n 2, 0, 0) := rfl
theorem te_256_72 : (pT M_256).find? (fun e => e.1 == 72) = some (72, .iaload, 0, 0) := rfl
theorem te_256_73 : (pT M_256).find? (fun e => e.1 == 73) = some (73, .imul, 0, 0) := rfl
theorem te_256_74 : (pT M_256).find? (fun e => e.1 == 74) = some (74, .aload_n 0, 0, 0) := rfl
theorem te_256_75 : (pT M_256).find? (fun e => e.1 == 75) = some (75, .getfield 43, 10, 14) := rfl
theorem te_256_78 : (pT M_256).find? (fun e => e.1 == 78) = some (78, .iload_n 2, 0, 0) := rfl
theorem te_256_79 : (pT M_256).find? (fun e => e.1 == 79) = some (79, .iaload, 0, 0) := rfl
theorem te_256_80 : (pT M_256).find? (fun e => e.1 == 80) = some (80, .iadd, 0, 0) := rfl
theorem te_256_81 : (pT M_256).find? (fun e => e.1 == 81) = some (81, .iaload, 0, 0) := rfl
theorem te_256_82 : (pT M_256).find? (fun e => e.1 == 82) = some (82, .aload_n 0, 0, 0) := rfl
theorem te_256_83 : (pT M_256).find? (fun e => e.1 == 83) = some (83, .getfield 49, 10, 16) := rfl
theorem te_256_86 : (pT M_256).find? (fun e => e.1 == 86) = some (86, .iload_n 2, 0, 0) := rfl
theorem te_256_87 : (pT M_256).find? (fun e => e.1 == 87) = some (87, .iaload, 0, 0) := rfl
theorem te_256_88 : (pT M_256).find? (fun e => e.1 == 88) = some (88, .iload_n 1, 0, 0) := rfl
theorem te_256_89 : (pT M_256).find? (fun e => e.1 == 89) = some (89, .aload_n 0, 0, 0) := rfl
theorem te_256_90 : (pT M_256).find? (fun e => e.1 == 90) = some (90, .getfield 46, 10, 15) := rfl
theorem te_256_93 : (pT M_256).find? (fun e => e.1 == 93) = some (93, .iload_n 2, 0, 0) := rfl
theorem te_256_94 : (pT M_256).find? (fun e => e.1 == 94) = some (94, .iaload, 0, 0) := rfl
theorem te_256_95 : (pT M_256).find? (fun e => e.1 == 95) = some (95, .imul, 0, 0) := rfl
theorem te_256_96 : (pT M_256).find? (fun e => e.1 == 96) = some (96, .isub, 0, 0) := rfl
theorem te_256_97 : (pT M_256).find? (fun e => e.1 == 97) = some (97, .invokestatic 167, 257, 2) := rfl
theorem te_256_100 : (pT M_256).find? (fun e => e.1 == 100) = some (100, .iastore, 0, 0) := rfl
theorem te_256_101 : (pT M_256).find? (fun e => e.1 == 101) = some (101, .iinc 2 1, 0, 0) := rfl
theorem te_256_104 : (pT M_256).find? (fun e => e.1 == 104) = some (104, .goto (-79), 0, 0) := rfl
theorem te_256_107 : (pT M_256).find? (fun e => e.1 == 107) = some (107, .iconst 0, 0, 0) := rfl
theorem te_256_108 : (pT M_256).find? (fun e => e.1 == 108) = some (108, .istore_n 2, 0, 0) := rfl
theorem te_256_109 : (pT M_256).find? (fun e => e.1 == 109) = some (109, .iload_n 2, 0, 0) := rfl
theorem te_256_110 : (pT M_256).find? (fun e => e.1 == 110) = some (110, .aload_n 0, 0, 0) := rfl
theorem te_256_111 : (pT M_256).find? (fun e => e.1 == 111) = some (111, .getfield 108, 10, 1) := rfl
theorem te_256_114 : (pT M_256).find? (fun e => e.1 == 114) = some (114, .if_icmp .ge 123, 0, 0) := rfl
theorem te_256_117 : (pT M_256).find? (fun e => e.1 == 117) = some (117, .iconst 0, 0, 0) := rfl
theorem te_256_118 : (pT M_256).find? (fun e => e.1 == 118) = some (118, .istore_n 3, 0, 0) := rfl
theorem te_256_119 : (pT M_256).find? (fun e => e.1 == 119) = some (119, .iload_n 3, 0, 0) := rfl
theorem te_256_120 : (pT M_256).find? (fun e => e.1 == 120) = some (120, .aload_n 0, 0, 0) := rfl
theorem te_256_121 : (pT M_256).find? (fun e => e.1 == 121) = some (121, .getfield 108, 10, 1) := rfl
theorem te_256_124 : (pT M_256).find? (fun e => e.1 == 124) = some (124, .if_icmp .ge 107, 0, 0) := rfl
theorem te_256_127 : (pT M_256).find? (fun e => e.1 == 127) = some (127, .iconst 0, 0, 0) := rfl
theorem te_256_128 : (pT M_256).find? (fun e => e.1 == 128) = some (128, .istore 4, 0, 0) := rfl
theorem te_256_130 : (pT M_256).find? (fun e => e.1 == 130) = some (130, .iload 4, 0, 0) := rfl
theorem te_256_132 : (pT M_256).find? (fun e => e.1 == 132) = some (132, .aload_n 0, 0, 0) := rfl
theorem te_256_133 : (pT M_256).find? (fun e => e.1 == 133) = some (133, .getfield 108, 10, 1) := rfl
theorem te_256_136 : (pT M_256).find? (fun e => e.1 == 136) = some (136, .if_icmp .ge 89, 0, 0) := rfl
theorem te_256_139 : (pT M_256).find? (fun e => e.1 == 139) = some (139, .aload_n 0, 0, 0) := rfl
theorem te_256_140 : (pT M_256).find? (fun e => e.1 == 140) = some (140, .getfield 52, 10, 17) := rfl
theorem te_256_143 : (pT M_256).find? (fun e => e.1 == 143) = some (143, .bipush 8, 0, 0) := rfl
theorem te_256_145 : (pT M_256).find? (fun e => e.1 == 145) = some (145, .iload_n 3, 0, 0) := rfl
theorem te_256_146 : (pT M_256).find? (fun e => e.1 == 146) = some (146, .imul, 0, 0) := rfl
theorem te_256_147 : (pT M_256).find? (fun e => e.1 == 147) = some (147, .iload_n 2, 0, 0) := rfl
theorem te_256_148 : (pT M_256).find? (fun e => e.1 == 148) = some (148, .iadd, 0, 0) := rfl
theorem te_256_149 : (pT M_256).find? (fun e => e.1 == 149) = some (149, .iaload, 0, 0) := rfl
theorem te_256_150 : (pT M_256).find? (fun e => e.1 == 150) = some (150, .istore 5, 0, 0) := rfl
theorem te_256_152 : (pT M_256).find? (fun e => e.1 == 152) = some (152, .aload_n 0, 0, 0) := rfl
theorem te_256_153 : (pT M_256).find? (fun e => e.1 == 153) = some (153, .getfield 52, 10, 17) := rfl
theorem te_256_156 : (pT M_256).find? (fun e => e.1 == 156) = some (156, .bipush 8, 0, 0) := rfl
theorem te_256_158 : (pT M_256).find? (fun e => e.1 == 158) = some (158, .iload_n 2, 0, 0) := rfl
theorem te_256_159 : (pT M_256).find? (fun e => e.1 == 159) = some (159, .imul, 0, 0) := rfl
theorem te_256_160 : (pT M_256).find? (fun e => e.1 == 160) = some (160, .iload 4, 0, 0) := rfl
theorem te_256_162 : (pT M_256).find? (fun e => e.1 == 162) = some (162, .iadd, 0, 0) := rfl
theorem te_256_163 : (pT M_256).find? (fun e => e.1 == 163) = some (163, .iaload, 0, 0) := rfl
theorem te_256_164 : (pT M_256).find? (fun e => e.1 == 164) = some (164, .istore 6, 0, 0) := rfl
theorem te_256_166 : (pT M_256).find? (fun e => e.1 == 166) = some (166, .iload 5, 0, 0) := rfl
theorem te_256_168 : (pT M_256).find? (fun e => e.1 == 168) = some (168, .sipush (-1000), 0, 0) := rfl
theorem te_256_171 : (pT M_256).find? (fun e => e.1 == 171) = some (171, .if_icmp .le 48, 0, 0) := rfl
theorem te_256_174 : (pT M_256).find? (fun e => e.1 == 174) = some (174, .iload 6, 0, 0) := rfl
theorem te_256_176 : (pT M_256).find? (fun e => e.1 == 176) = some (176, .sipush (-1000), 0, 0) := rfl
theorem te_256_179 : (pT M_256).find? (fun e => e.1 == 179) = some (179, .if_icmp .le 40, 0, 0) := rfl
theorem te_256_182 : (pT M_256).find? (fun e => e.1 == 182) = some (182, .aload_n 0, 0, 0) := rfl
theorem te_256_183 : (pT M_256).find? (fun e => e.1 == 183) = some (183, .getfield 52, 10, 17) := rfl
theorem te_256_186 : (pT M_256).find? (fun e => e.1 == 186) = some (186, .bipush 8, 0, 0) := rfl
theorem te_256_188 : (pT M_256).find? (fun e => e.1 == 188) = some (188, .iload_n 3, 0, 0) := rfl
theorem te_256_189 : (pT M_256).find? (fun e => e.1 == 189) = some (189, .imul, 0, 0) := rfl
theorem te_256_190 : (pT M_256).find? (fun e => e.1 == 190) = some (190, .iload 4, 0, 0) := rfl
theorem te_256_192 : (pT M_256).find? (fun e => e.1 == 192) = some (192, .iadd, 0, 0) := rfl
theorem te_256_193 : (pT M_256).find? (fun e => e.1 == 193) = some (193, .aload_n 0, 0, 0) := rfl
theorem te_256_194 : (pT M_256).find? (fun e => e.1 == 194) = some (194, .getfield 52, 10, 17) := rfl
theorem te_256_197 : (pT M_256).find? (fun e => e.1 == 197) = some (197, .bipush 8, 0, 0) := rfl
theorem te_256_199 : (pT M_256).find? (fun e => e.1 == 199) = some (199, .iload_n 3, 0, 0) := rfl
theorem te_256_200 : (pT M_256).find? (fun e => e.1 == 200) = some (200, .imul, 0, 0) := rfl
theorem te_256_201 : (pT M_256).find? (fun e => e.1 == 201) = some (201, .iload 4, 0, 0) := rfl
theorem te_256_203 : (pT M_256).find? (fun e => e.1 == 203) = some (203, .iadd, 0, 0) := rfl
theorem te_256_204 : (pT M_256).find? (fun e => e.1 == 204) = some (204, .iaload, 0, 0) := rfl
theorem te_256_205 : (pT M_256).find? (fun e => e.1 == 205) = some (205, .bipush 99, 0, 0) := rfl
theorem te_256_207 : (pT M_256).find? (fun e => e.1 == 207) = some (207, .iload 5, 0, 0) := rfl
theorem te_256_209 : (pT M_256).find? (fun e => e.1 == 209) = some (209, .iload 6, 0, 0) := rfl
theorem te_256_211 : (pT M_256).find? (fun e => e.1 == 211) = some (211, .iadd, 0, 0) := rfl
theorem te_256_212 : (pT M_256).find? (fun e => e.1 == 212) = some (212, .invokestatic 170, 258, 2) := rfl
theorem te_256_215 : (pT M_256).find? (fun e => e.1 == 215) = some (215, .invokestatic 167, 257, 2) := rfl
theorem te_256_218 : (pT M_256).find? (fun e => e.1 == 218) = some (218, .iastore, 0, 0) := rfl
theorem te_256_219 : (pT M_256).find? (fun e => e.1 == 219) = some (219, .iinc 4 1, 0, 0) := rfl
theorem te_256_222 : (pT M_256).find? (fun e => e.1 == 222) = some (222, .goto (-92), 0, 0) := rfl
theorem te_256_225 : (pT M_256).find? (fun e => e.1 == 225) = some (225, .iinc 3 1, 0, 0) := rfl
theorem te_256_228 : (pT M_256).find? (fun e => e.1 == 228) = some (228, .goto (-109), 0, 0) := rfl
theorem te_256_231 : (pT M_256).find? (fun e => e.1 == 231) = some (231, .iinc 2 1, 0, 0) := rfl
theorem te_256_234 : (pT M_256).find? (fun e => e.1 == 234) = some (234, .goto (-125), 0, 0) := rfl
theorem te_256_237 : (pT M_256).find? (fun e => e.1 == 237) = some (237, .return_, 0, 0) := rfl
theorem te_259_0 : (pT M_259).find? (fun e => e.1 == 0) = some (0, .iconst 0, 0, 0) := rfl
theorem te_259_1 : (pT M_259).find? (fun e => e.1 == 1) = some (1, .istore_n 1, 0, 0) := rfl
theorem te_259_2 : (pT M_259).find? (fun e => e.1 == 2) = some (2, .iload_n 1, 0, 0) := rfl
theorem te_259_3 : (pT M_259).find? (fun e => e.1 == 3) = some (3, .aload_n 0, 0, 0) := rfl
theorem te_259_4 : (pT M_259).find? (fun e => e.1 == 4) = some (4, .getfield 108, 10, 1) := rfl
theorem te_259_7 : (pT M_259).find? (fun e => e.1 == 7) = some (7, .if_icmp .ge 25, 0, 0) := rfl
theorem te_259_10 : (pT M_259).find? (fun e => e.1 == 10) = some (10, .aload_n 0, 0, 0) := rfl
theorem te_259_11 : (pT M_259).find? (fun e => e.1 == 11) = some (11, .getfield 52, 10, 17) := rfl
theorem te_259_14 : (pT M_259).find? (fun e => e.1 == 14) = some (14, .bipush 8, 0, 0) := rfl
theorem te_259_16 : (pT M_259).find? (fun e => e.1 == 16) = some (16, .iload_n 1, 0, 0) := rfl
theorem te_259_17 : (pT M_259).find? (fun e => e.1 == 17) = some (17, .imul, 0, 0) := rfl
theorem te_259_18 : (pT M_259).find? (fun e => e.1 == 18) = some (18, .iload_n 1, 0, 0) := rfl
theorem te_259_19 : (pT M_259).find? (fun e => e.1 == 19) = some (19, .iadd, 0, 0) := rfl
theorem te_259_20 : (pT M_259).find? (fun e => e.1 == 20) = some (20, .iaload, 0, 0) := rfl
theorem te_259_21 : (pT M_259).find? (fun e => e.1 == 21) = some (21, .ifCond .le 5, 0, 0) := rfl
theorem te_259_24 : (pT M_259).find? (fun e => e.1 == 24) = some (24, .iconst 0, 0, 0) := rfl
theorem te_259_25 : (pT M_259).find? (fun e => e.1 == 25) = some (25, .ireturn, 0, 0) := rfl
theorem te_259_26 : (pT M_259).find? (fun e => e.1 == 26) = some (26, .iinc 1 1, 0, 0) := rfl
theorem te_259_29 : (pT M_259).find? (fun e => e.1 == 29) = some (29, .goto (-27), 0, 0) := rfl
theorem te_259_32 : (pT M_259).find? (fun e => e.1 == 32) = some (32, .iconst 1, 0, 0) := rfl
theorem te_259_33 : (pT M_259).find? (fun e => e.1 == 33) = some (33, .ireturn, 0, 0) := rfl
theorem w_256_0 {C : CXW} (hC : Cmono C) {S : Nat × (Nat → Int32)} {K : WK} {mem : MM} {x1 : Int} (H : (Wx C S M_256 K 2 [some (.inr 143), some (.inl x1), some (.inl 0), none, none, none, none] [] mem)) : Wx C S M_256 K 0 [some (.inr 143), some (.inl x1), none, none, none, none, none] [] mem := by
  refine Wx.iconst hC te_256_0 rfl ?_
  refine Wx.istore_n hC te_256_1 rfl ?_
  exact H
theorem w_256_2 {C : CXW} (hC : Cmono C) {S : Nat × (Nat → Int32)} {K : WK} {mem : MM} {x1 x2 : Int} (H : ((64 ≤ x2 → (Wx C S M_256 K 25 [some (.inr 143), some (.inl x1), some (.inl 0), none, none, none, none] [] mem)) ∧ (¬ (64 ≤ x2) → (0 ≤ x2 ∧ x2 < 64) ∧ (InI (x2 + 1)) ∧ (Wx C S M_256 K 2 [some (.inr 143), some (.inl x1), some (.inl (x2 + 1)), none, none, none, none] [] (upm mem 158 (Int.toNat x2) (-1000)))))) : Wx C S M_256 K 2 [some (.inr 143), some (.inl x1), some (.inl x2), none, none, none, none] [] mem := by
  refine Wx.iload_n hC te_256_2 rfl ?_
  refine Wx.bipush hC te_256_3 rfl rfl ?_
  refine Wx.icmp hC (t := 23) te_256_5 (by decide) (fun q => ?_) (fun q => ?_)
  · replace H := H.1 q
    refine Wx.iconst hC te_256_23 rfl ?_
    refine Wx.istore_n hC te_256_24 rfl ?_
    exact H
  · replace H := H.2 q
    refine Wx.aload_n hC te_256_8 rfl ?_
    refine Wx.getR hC te_256_9 rfl rfl rfl ?_
    refine Wx.iload_n hC te_256_12 rfl ?_
    refine Wx.sipush hC te_256_13 rfl rfl ?_
    refine Wx.iast hC te_256_16 rfl H.1 ?_
    replace H := H.2
    refine Wx.iinc hC te_256_17 rfl rfl H.1 ?_
    replace H := H.2
    refine Wx.goto hC (t := 2) te_256_20 (by decide) ?_
    exact H
theorem w_256_25 {C : CXW} (hC : Cmono C) {S : Nat × (Nat → Int32)} {K : WK} {mem : MM} {x1 x2 : Int} (H : ∀ v1 : Int, v1 = mem 143 12 → InI v1 → ((v1 ≤ x2 → (Wx C S M_256 K 109 [some (.inr 143), some (.inl x1), some (.inl 0), none, none, none, none] [] mem)) ∧ (¬ (v1 ≤ x2) → ∀ v2 : Int, v2 = mem 143 18 → InI v2 → ((x2 = v2 → (InI (x2 + 1)) ∧ (Wx C S M_256 K 25 [some (.inr 143), some (.inl x1), some (.inl (x2 + 1)), none, none, none, none] [] mem)) ∧ (¬ (x2 = v2) → (0 ≤ x2 ∧ x2 < 48) ∧ ∀ v3 : Int, v3 = mem 154 (Int.toNat x2) → InI v3 → (InI (8 * v3)) ∧ (0 ≤ x2 ∧ x2 < 48) ∧ ∀ v4 : Int, v4 = mem 155 (Int.toNat x2) → InI v4 → (InI ((8 * v3) + v4)) ∧ (0 ≤ x2 ∧ x2 < 48) ∧ ∀ v5 : Int, v5 = mem 154 (Int.toNat x2) → InI v5 → (InI (8 * v5)) ∧ (0 ≤ x2 ∧ x2 < 48) ∧ ∀ v6 : Int, v6 = mem 155 (Int.toNat x2) → InI v6 → (InI ((8 * v5) + v6)) ∧ (0 ≤ ((8 * v5) + v6) ∧ ((8 * v5) + v6) < 64) ∧ ∀ v7 : Int, v7 = mem 158 (Int.toNat ((8 * v5) + v6)) → InI v7 → (0 ≤ x2 ∧ x2 < 48) ∧ ∀ v8 : Int, v8 = mem 157 (Int.toNat x2) → InI v8 → (0 ≤ x2 ∧ x2 < 48) ∧ ∀ v9 : Int, v9 = mem 156 (Int.toNat x2) → InI v9 → (InI (x1 * v9)) ∧ (InI (v8 - (x1 * v9))) ∧ (CWI C 257 [.inl v7, .inl (v8 - (x1 * v9))] mem fun r11 m10 => InI r11 → (0 ≤ ((8 * v3) + v4) ∧ ((8 * v3) + v4) < 64) ∧ (InI (x2 + 1)) ∧ (Wx C S M_256 K 25 [some (.inr 143), some (.inl x1), some (.inl (x2 + 1)), none, none, none, none] [] (upm m10 158 (Int.toNat ((8 * v3) + v4)) r11)))))))) : Wx C S M_256 K 25 [some (.inr 143), some (.inl x1), some (.inl x2), none, none, none, none] [] mem := by
  refine Wx.iload_n hC te_256_25 rfl ?_
  refine Wx.aload_n hC te_256_26 rfl ?_
  refine Wx.getI hC te_256_27 rfl rfl rfl (fun v1 e1 e2 => ?_)
  replace H := H v1 e1 e2
  refine Wx.icmp hC (t := 107) te_256_30 (by decide) (fun q => ?_) (fun q => ?_)
  · replace H := H.1 q
    refine Wx.iconst hC te_256_107 rfl ?_
    refine Wx.istore_n hC te_256_108 rfl ?_
    exact H
  · replace H := H.2 q
    refine Wx.iload_n hC te_256_33 rfl ?_
    refine Wx.aload_n hC te_256_34 rfl ?_
    refine Wx.getI hC te_256_35 rfl rfl rfl (fun v2 e1 e2 => ?_)
    replace H := H v2 e1 e2
    refine Wx.icmp hC (t := 101) te_256_38 (by decide) (fun q => ?_) (fun q => ?_)
    · replace H := H.1 q
      refine Wx.iinc hC te_256_101 rfl rfl H.1 ?_
      replace H := H.2
      refine Wx.goto hC (t := 25) te_256_104 (by decide) ?_
      exact H
    · replace H := H.2 q
      refine Wx.aload_n hC te_256_41 rfl ?_
      refine Wx.getR hC te_256_42 rfl rfl rfl ?_
      refine Wx.bipush hC te_256_45 rfl rfl ?_
      refine Wx.aload_n hC te_256_47 rfl ?_
      refine Wx.getR hC te_256_48 rfl rfl rfl ?_
      refine Wx.iload_n hC te_256_51 rfl ?_
      refine Wx.iald hC te_256_52 rfl H.1 (fun v3 e1 e2 => ?_)
      replace H := H.2 v3 e1 e2
      refine Wx.imul hC te_256_53 H.1 ?_
      replace H := H.2
      refine Wx.aload_n hC te_256_54 rfl ?_
      refine Wx.getR hC te_256_55 rfl rfl rfl ?_
      refine Wx.iload_n hC te_256_58 rfl ?_
      refine Wx.iald hC te_256_59 rfl H.1 (fun v4 e1 e2 => ?_)
      replace H := H.2 v4 e1 e2
      refine Wx.iadd hC te_256_60 H.1 ?_
      replace H := H.2
      refine Wx.aload_n hC te_256_61 rfl ?_
      refine Wx.getR hC te_256_62 rfl rfl rfl ?_
      refine Wx.bipush hC te_256_65 rfl rfl ?_
      refine Wx.aload_n hC te_256_67 rfl ?_
      refine Wx.getR hC te_256_68 rfl rfl rfl ?_
      refine Wx.iload_n hC te_256_71 rfl ?_
      refine Wx.iald hC te_256_72 rfl H.1 (fun v5 e1 e2 => ?_)
      replace H := H.2 v5 e1 e2
      refine Wx.imul hC te_256_73 H.1 ?_
      replace H := H.2
      refine Wx.aload_n hC te_256_74 rfl ?_
      refine Wx.getR hC te_256_75 rfl rfl rfl ?_
      refine Wx.iload_n hC te_256_78 rfl ?_
      refine Wx.iald hC te_256_79 rfl H.1 (fun v6 e1 e2 => ?_)
      replace H := H.2 v6 e1 e2
      refine Wx.iadd hC te_256_80 H.1 ?_
      replace H := H.2
      refine Wx.iald hC te_256_81 rfl H.1 (fun v7 e1 e2 => ?_)
      replace H := H.2 v7 e1 e2
      refine Wx.aload_n hC te_256_82 rfl ?_
      refine Wx.getR hC te_256_83 rfl rfl rfl ?_
      refine Wx.iload_n hC te_256_86 rfl ?_
      refine Wx.iald hC te_256_87 rfl H.1 (fun v8 e1 e2 => ?_)
      replace H := H.2 v8 e1 e2
      refine Wx.iload_n hC te_256_88 rfl ?_
      refine Wx.aload_n hC te_256_89 rfl ?_
      refine Wx.getR hC te_256_90 rfl rfl rfl ?_
      refine Wx.iload_n hC te_256_93 rfl ?_
      refine Wx.iald hC te_256_94 rfl H.1 (fun v9 e1 e2 => ?_)
      replace H := H.2 v9 e1 e2
      refine Wx.imul hC te_256_95 H.1 ?_
      replace H := H.2
      refine Wx.isub hC te_256_96 H.1 ?_
      replace H := H.2
      refine Wx.statI hC te_256_97 (by decide) mt_257 (args := [.inl v7, .inl (v8 - (x1 * v9))]) (rest := [.inl ((8 * v3) + v4), .inr 158]) rfl rfl rfl rfl rfl ?_
      refine CWI.mono hC (fun r11 m10 H hy => ?_) H
      replace H := H hy
      refine Wx.iast hC te_256_100 rfl H.1 ?_
      replace H := H.2
      refine Wx.iinc hC te_256_101 rfl rfl H.1 ?_
      replace H := H.2
      refine Wx.goto hC (t := 25) te_256_104 (by decide) ?_
      exact H
theorem w_256_109 {C : CXW} (hC : Cmono C) {S : Nat × (Nat → Int32)} {K : WK} {mem : MM} {x1 x2 : Int} (H : ∀ v1 : Int, v1 = mem 143 1 → InI v1 → ((v1 ≤ x2 → (K none mem)) ∧ (¬ (v1 ≤ x2) → (Wx C S M_256 K 119 [some (.inr 143), some (.inl x1), some (.inl x2), some (.inl 0), none, none, none] [] mem)))) : Wx C S M_256 K 109 [some (.inr 143), some (.inl x1), some (.inl x2), none, none, none, none] [] mem := by
  refine Wx.iload_n hC te_256_109 rfl ?_
  refine Wx.aload_n hC te_256_110 rfl ?_
  refine Wx.getI hC te_256_111 rfl rfl rfl (fun v1 e1 e2 => ?_)
  replace H := H v1 e1 e2
  refine Wx.icmp hC (t := 237) te_256_114 (by decide) (fun q => ?_) (fun q => ?_)
  · replace H := H.1 q
    exact Wx.vret hC te_256_237 rfl H
  · replace H := H.2 q
    refine Wx.iconst hC te_256_117 rfl ?_
    refine Wx.istore_n hC te_256_118 rfl ?_
    exact H
theorem w_256_119 {C : CXW} (hC : Cmono C) {S : Nat × (Nat → Int32)} {K : WK} {mem : MM} {x1 x2 x3 : Int} (H : ∀ v1 : Int, v1 = mem 143 1 → InI v1 → ((v1 ≤ x3 → (InI (x2 + 1)) ∧ (Wx C S M_256 K 109 [some (.inr 143), some (.inl x1), some (.inl (x2 + 1)), none, none, none, none] [] mem)) ∧ (¬ (v1 ≤ x3) → (Wx C S M_256 K 130 [some (.inr 143), some (.inl x1), some (.inl x2), some (.inl x3), some (.inl 0), none, none] [] mem)))) : Wx C S M_256 K 119 [some (.inr 143), some (.inl x1), some (.inl x2), some (.inl x3), none, none, none] [] mem := by
  refine Wx.iload_n hC te_256_119 rfl ?_
  refine Wx.aload_n hC te_256_120 rfl ?_
  refine Wx.getI hC te_256_121 rfl rfl rfl (fun v1 e1 e2 => ?_)
  replace H := H v1 e1 e2
  refine Wx.icmp hC (t := 231) te_256_124 (by decide) (fun q => ?_) (fun q => ?_)
  · replace H := H.1 q
    refine Wx.iinc hC te_256_231 rfl rfl H.1 ?_
    replace H := H.2
    refine Wx.goto hC (t := 109) te_256_234 (by decide) ?_
    exact Wx.weak (by repeat' (first | exact trivial | exact rfl | constructor)) H
  · replace H := H.2 q
    refine Wx.iconst hC te_256_127 rfl ?_
    refine Wx.istore hC te_256_128 rfl ?_
    exact H
theorem w_256_130 {C : CXW} (hC : Cmono C) {S : Nat × (Nat → Int32)} {K : WK} {mem : MM} {x1 x2 x3 x4 : Int} (H : ∀ v1 : Int, v1 = mem 143 1 → InI v1 → ((v1 ≤ x4 → (InI (x3 + 1)) ∧ (Wx C S M_256 K 119 [some (.inr 143), some (.inl x1), some (.inl x2), some (.inl (x3 + 1)), none, none, none] [] mem)) ∧ (¬ (v1 ≤ x4) → (InI (8 * x3)) ∧ (InI ((8 * x3) + x2)) ∧ (0 ≤ ((8 * x3) + x2) ∧ ((8 * x3) + x2) < 64) ∧ ∀ v2 : Int, v2 = mem 158 (Int.toNat ((8 * x3) + x2)) → InI v2 → (InI (8 * x2)) ∧ (InI ((8 * x2) + x4)) ∧ (0 ≤ ((8 * x2) + x4) ∧ ((8 * x2) + x4) < 64) ∧ ∀ v3 : Int, v3 = mem 158 (Int.toNat ((8 * x2) + x4)) → InI v3 → ((v2 ≤ (-1000) → (InI (x4 + 1)) ∧ (Wx C S M_256 K 130 [some (.inr 143), some (.inl x1), some (.inl x2), some (.inl x3), some (.inl (x4 + 1)), none, none] [] mem)) ∧ (¬ (v2 ≤ (-1000)) → ((v3 ≤ (-1000) → (InI (x4 + 1)) ∧ (Wx C S M_256 K 130 [some (.inr 143), some (.inl x1), some (.inl x2), some (.inl x3), some (.inl (x4 + 1)), none, none] [] mem)) ∧ (¬ (v3 ≤ (-1000)) → (InI (8 * x3)) ∧ (InI ((8 * x3) + x4)) ∧ (InI (8 * x3)) ∧ (InI ((8 * x3) + x4)) ∧ (0 ≤ ((8 * x3) + x4) ∧ ((8 * x3) + x4) < 64) ∧ ∀ v4 : Int, v4 = mem 158 (Int.toNat ((8 * x3) + x4)) → InI v4 → (InI (v2 + v3)) ∧ (CWI C 258 [.inl 99, .inl (v2 + v3)] mem fun r6 m5 => InI r6 → (CWI C 257 [.inl v4, .inl r6] m5 fun r8 m7 => InI r8 → (0 ≤ ((8 * x3) + x4) ∧ ((8 * x3) + x4) < 64) ∧ (InI (x4 + 1)) ∧ (Wx C S M_256 K 130 [some (.inr 143), some (.inl x1), some (.inl x2), some (.inl x3), some (.inl (x4 + 1)), none, none] [] (upm m7 158 (Int.toNat ((8 * x3) + x4)) r8))))))))))) : Wx C S M_256 K 130 [some (.inr 143), some (.inl x1), some (.inl x2), some (.inl x3), some (.inl x4), none, none] [] mem := by
  refine Wx.iload hC te_256_130 rfl ?_
  refine Wx.aload_n hC te_256_132 rfl ?_
  refine Wx.getI hC te_256_133 rfl rfl rfl (fun v1 e1 e2 => ?_)
  replace H := H v1 e1 e2
  refine Wx.icmp hC (t := 225) te_256_136 (by decide) (fun q => ?_) (fun q => ?_)
  · replace H := H.1 q
    refine Wx.iinc hC te_256_225 rfl rfl H.1 ?_
    replace H := H.2
    refine Wx.goto hC (t := 119) te_256_228 (by decide) ?_
    exact Wx.weak (by repeat' (first | exact trivial | exact rfl | constructor)) H
  · replace H := H.2 q
    refine Wx.aload_n hC te_256_139 rfl ?_
    refine Wx.getR hC te_256_140 rfl rfl rfl ?_
    refine Wx.bipush hC te_256_143 rfl rfl ?_
    refine Wx.iload_n hC te_256_145 rfl ?_
    refine Wx.imul hC te_256_146 H.1 ?_
    replace H := H.2
    refine Wx.iload_n hC te_256_147 rfl ?_
    refine Wx.iadd hC te_256_148 H.1 ?_
    replace H := H.2
    refine Wx.iald hC te_256_149 rfl H.1 (fun v2 e1 e2 => ?_)
    replace H := H.2 v2 e1 e2
    refine Wx.istore hC te_256_150 rfl ?_
    refine Wx.aload_n hC te_256_152 rfl ?_
    refine Wx.getR hC te_256_153 rfl rfl rfl ?_
    refine Wx.bipush hC te_256_156 rfl rfl ?_
    refine Wx.iload_n hC te_256_158 rfl ?_
    refine Wx.imul hC te_256_159 H.1 ?_
    replace H := H.2
    refine Wx.iload hC te_256_160 rfl ?_
    refine Wx.iadd hC te_256_162 H.1 ?_
    replace H := H.2
    refine Wx.iald hC te_256_163 rfl H.1 (fun v3 e1 e2 => ?_)
    replace H := H.2 v3 e1 e2
    refine Wx.istore hC te_256_164 rfl ?_
    refine Wx.iload hC te_256_166 rfl ?_
    refine Wx.sipush hC te_256_168 rfl rfl ?_
    refine Wx.icmp hC (t := 219) te_256_171 (by decide) (fun q => ?_) (fun q => ?_)
    · replace H := H.1 q
      refine Wx.iinc hC te_256_219 rfl rfl H.1 ?_
      replace H := H.2
      refine Wx.goto hC (t := 130) te_256_222 (by decide) ?_
      exact Wx.weak (by repeat' (first | exact trivial | exact rfl | constructor)) H
    · replace H := H.2 q
      refine Wx.iload hC te_256_174 rfl ?_
      refine Wx.sipush hC te_256_176 rfl rfl ?_
      refine Wx.icmp hC (t := 219) te_256_179 (by decide) (fun q => ?_) (fun q => ?_)
      · replace H := H.1 q
        refine Wx.iinc hC te_256_219 rfl rfl H.1 ?_
        replace H := H.2
        refine Wx.goto hC (t := 130) te_256_222 (by decide) ?_
        exact Wx.weak (by repeat' (first | exact trivial | exact rfl | constructor)) H
      · replace H := H.2 q
        refine Wx.aload_n hC te_256_182 rfl ?_
        refine Wx.getR hC te_256_183 rfl rfl rfl ?_
        refine Wx.bipush hC te_256_186 rfl rfl ?_
        refine Wx.iload_n hC te_256_188 rfl ?_
        refine Wx.imul hC te_256_189 H.1 ?_
        replace H := H.2
        refine Wx.iload hC te_256_190 rfl ?_
        refine Wx.iadd hC te_256_192 H.1 ?_
        replace H := H.2
        refine Wx.aload_n hC te_256_193 rfl ?_
        refine Wx.getR hC te_256_194 rfl rfl rfl ?_
        refine Wx.bipush hC te_256_197 rfl rfl ?_
        refine Wx.iload_n hC te_256_199 rfl ?_
        refine Wx.imul hC te_256_200 H.1 ?_
        replace H := H.2
        refine Wx.iload hC te_256_201 rfl ?_
        refine Wx.iadd hC te_256_203 H.1 ?_
        replace H := H.2
        refine Wx.iald hC te_256_204 rfl H.1 (fun v4 e1 e2 => ?_)
        replace H := H.2 v4 e1 e2
        refine Wx.bipush hC te_256_205 rfl rfl ?_
        refine Wx.iload hC te_256_207 rfl ?_
        refine Wx.iload hC te_256_209 rfl ?_
        refine Wx.iadd hC te_256_211 H.1 ?_
        replace H := H.2
        refine Wx.statI hC te_256_212 (by decide) mt_258 (args := [.inl 99, .inl (v2 + v3)]) (rest := [.inl v4, .inl ((8 * x3) + x4), .inr 158]) rfl rfl rfl rfl rfl ?_
        refine CWI.mono hC (fun r6 m5 H hy => ?_) H
        replace H := H hy
        refine Wx.statI hC te_256_215 (by decide) mt_257 (args := [.inl v4, .inl r6]) (rest := [.inl ((8 * x3) + x4), .inr 158]) rfl rfl rfl rfl rfl ?_
        refine CWI.mono hC (fun r8 m7 H hy => ?_) H
        replace H := H hy
        refine Wx.iast hC te_256_218 rfl H.1 ?_
        replace H := H.2
        refine Wx.iinc hC te_256_219 rfl rfl H.1 ?_
        replace H := H.2
        refine Wx.goto hC (t := 130) te_256_222 (by decide) ?_
        exact Wx.weak (by repeat' (first | exact trivial | exact rfl | constructor)) H
theorem w_259_0 {C : CXW} (hC : Cmono C) {S : Nat × (Nat → Int32)} {K : WK} {mem : MM} (H : (Wx C S M_259 K 2 [some (.inr 143), some (.inl 0)] [] mem)) : Wx C S M_259 K 0 [some (.inr 143), none] [] mem := by
  refine Wx.iconst hC te_259_0 rfl ?_
  refine Wx.istore_n hC te_259_1 rfl ?_
  exact H
theorem w_259_2 {C : CXW} (hC : Cmono C) {S : Nat × (Nat → Int32)} {K : WK} {mem : MM} {x1 : Int} (H : ∀ v1 : Int, v1 = mem 143 1 → InI v1 → ((v1 ≤ x1 → (K (some 1) mem)) ∧ (¬ (v1 ≤ x1) → (InI (8 * x1)) ∧ (InI ((8 * x1) + x1)) ∧ (0 ≤ ((8 * x1) + x1) ∧ ((8 * x1) + x1) < 64) ∧ ∀ v2 : Int, v2 = mem 158 (Int.toNat ((8 * x1) + x1)) → InI v2 → ((v2 ≤ 0 → (InI (x1 + 1)) ∧ (Wx C S M_259 K 2 [some (.inr 143), some (.inl (x1 + 1))] [] mem)) ∧ (¬ (v2 ≤ 0) → (K (some 0) mem)))))) : Wx C S M_259 K 2 [some (.inr 143), some (.inl x1)] [] mem := by
  refine Wx.iload_n hC te_259_2 rfl ?_
  refine Wx.aload_n hC te_259_3 rfl ?_
  refine Wx.getI hC te_259_4 rfl rfl rfl (fun v1 e1 e2 => ?_)
  replace H := H v1 e1 e2
  refine Wx.icmp hC (t := 32) te_259_7 (by decide) (fun q => ?_) (fun q => ?_)
  · replace H := H.1 q
    refine Wx.iconst hC te_259_32 rfl ?_
    exact Wx.bret hC te_259_33 rfl (Or.inr rfl) H
  · replace H := H.2 q
    refine Wx.aload_n hC te_259_10 rfl ?_
    refine Wx.getR hC te_259_11 rfl rfl rfl ?_
    refine Wx.bipush hC te_259_14 rfl rfl ?_
    refine Wx.iload_n hC te_259_16 rfl ?_
    refine Wx.imul hC te_259_17 H.1 ?_
    replace H := H.2
    refine Wx.iload_n hC te_259_18 rfl ?_
    refine Wx.iadd hC te_259_19 H.1 ?_
    replace H := H.2
    refine Wx.iald hC te_259_20 rfl H.1 (fun v2 e1 e2 => ?_)
    replace H := H.2 v2 e1 e2
    refine Wx.ifc hC (t := 26) te_259_21 (by decide) (fun q => ?_) (fun q => ?_)
    · replace H := H.1 q
      refine Wx.iinc hC te_259_26 rfl rfl H.1 ?_
      replace H := H.2
      refine Wx.goto hC (t := 2) te_259_29 (by decide) ?_
      exact H
    · replace H := H.2 q
      refine Wx.iconst hC te_259_24 rfl ?_
      exact Wx.bret hC te_259_25 rfl (Or.inl rfl) H
theorem w_255_0 {C : CXW} (hC : Cmono C) {S : Nat × (Nat → Int32)} {K : WK} {mem : MM} (H : (CWV C 256 [.inr 143, .inl 0] mem fun m1 => (Wx C S M_255 K 7 [some (.inr 143), some (.inl 0)] [] m1))) : Wx C S M_255 K 0 [some (.inr 143), none] [] mem := by
  refine Wx.iconst hC te_255_0 rfl ?_
  refine Wx.istore_n hC te_255_1 rfl ?_
  refine Wx.aload_n hC te_255_2 rfl ?_
  refine Wx.iload_n hC te_255_3 rfl ?_
  refine Wx.virtV hC te_255_4 mt_256 (args := [.inr 143, .inl 0]) (rest := []) rfl rfl rfl rfl rfl rfl rfl rfl ?_
  refine CWV.mono hC (fun m1 H => ?_) H
  exact H
theorem w_255_7 {C : CXW} (hC : Cmono C) {S : Nat × (Nat → Int32)} {K : WK} {mem : MM} {x1 : Int} (H : (CWI C 259 [.inr 143] mem fun r2 m1 => InI r2 → ((¬ r2 = 0 → (InI x1 → K (some x1) m1)) ∧ (¬ (¬ r2 = 0) → (InI (x1 + 1)) ∧ (CWV C 256 [.inr 143, .inl (x1 + 1)] m1 fun m3 => (Wx C S M_255 K 7 [some (.inr 143), some (.inl (x1 + 1))] [] m3)))))) : Wx C S M_255 K 7 [some (.inr 143), some (.inl x1)] [] mem := by
  refine Wx.aload_n hC te_255_7 rfl ?_
  refine Wx.virtI hC te_255_8 mt_259 (args := [.inr 143]) (rest := []) rfl rfl rfl rfl rfl rfl rfl rfl ?_
  refine CWI.mono hC (fun r2 m1 H hy => ?_) H
  replace H := H hy
  refine Wx.ifc hC (t := 25) te_255_11 (by decide) (fun q => ?_) (fun q => ?_)
  · replace H := H.1 q
    refine Wx.iload_n hC te_255_25 rfl ?_
    exact Wx.ireturn hC te_255_26 rfl H
  · replace H := H.2 q
    refine Wx.iinc hC te_255_14 rfl rfl H.1 ?_
    replace H := H.2
    refine Wx.aload_n hC te_255_17 rfl ?_
    refine Wx.iload_n hC te_255_18 rfl ?_
    refine Wx.virtV hC te_255_19 mt_256 (args := [.inr 143, .inl (x1 + 1)]) (rest := []) rfl rfl rfl rfl rfl rfl rfl rfl ?_
    refine CWV.mono hC (fun m3 H => ?_) H
    refine Wx.goto hC (t := 7) te_255_22 (by decide) ?_
    exact H
theorem w_254_0 {C : CXW} (hC : Cmono C) {S : Nat × (Nat → Int32)} {K : WK} {mem : MM} {x1 : Int} (H : (CWI C 240 [.inr 143] mem fun r2 m1 => InI r2 → ((¬ r2 = 0 → (CWV C 245 [.inr 143] m1 fun m3 => (CWI C 255 [.inr 143] m3 fun r5 m4 => InI r5 → ((r5 ≤ x1 → (K (some 0) m4)) ∧ (¬ (r5 ≤ x1) → (K (some 1) m4)))))) ∧ (¬ (¬ r2 = 0) → (K (some 1) m1))))) : Wx C S M_254 K 0 [some (.inr 143), some (.inl x1)] [] mem := by
  refine Wx.aload_n hC te_254_0 rfl ?_
  refine Wx.virtI hC te_254_1 mt_240 (args := [.inr 143]) (rest := []) rfl rfl rfl rfl rfl rfl rfl rfl ?_
  refine CWI.mono hC (fun r2 m1 H hy => ?_) H
  replace H := H hy
  refine Wx.ifc hC (t := 9) te_254_4 (by decide) (fun q => ?_) (fun q => ?_)
  · replace H := H.1 q
    refine Wx.aload_n hC te_254_9 rfl ?_
    refine Wx.virtV hC te_254_10 mt_245 (args := [.inr 143]) (rest := []) rfl rfl rfl rfl rfl rfl rfl rfl ?_
    refine CWV.mono hC (fun m3 H => ?_) H
    refine Wx.iload_n hC te_254_13 rfl ?_
    refine Wx.aload_n hC te_254_14 rfl ?_
    refine Wx.virtI hC te_254_15 mt_255 (args := [.inr 143]) (rest := [.inl x1]) rfl rfl rfl rfl rfl rfl rfl rfl ?_
    refine CWI.mono hC (fun r5 m4 H hy => ?_) H
    replace H := H hy
    refine Wx.icmp hC (t := 25) te_254_18 (by decide) (fun q => ?_) (fun q => ?_)
    · replace H := H.1 q
      refine Wx.iconst hC te_254_25 rfl ?_
      exact Wx.bret hC te_254_26 rfl (Or.inl rfl) H
    · replace H := H.2 q
      refine Wx.iconst hC te_254_21 rfl ?_
      refine Wx.goto hC (t := 26) te_254_22 (by decide) ?_
      exact Wx.bret hC te_254_26 rfl (Or.inr rfl) H
  · replace H := H.2 q
    refine Wx.iconst hC te_254_7 rfl ?_
    exact Wx.bret hC te_254_8 rfl (Or.inr rfl) H
/-! three loops that draw all ways: what holds in them -/
def WM (m : MM) (A : Nat) : Nat → Nat → Int := fun a b => m A (8 * a + b)
def Aup (E : Nat → Nat → Int → Prop) : Prop := ∀ a p b v, p.Nodup → (∀ c ∈ p, c < 8) → Wk E a p b v → v ≤ 99
def PotE (E : Nat → Nat → Int → Prop) (φ : Nat → Int) : Prop := ∀ a b x, E a b x → φ a + x ≤ φ b
def FwI (R : Int) (E : Nat → Nat → Int → Prop) (A k : Nat) (mem : MM) (m a b : Nat) : Prop :=
  (∀ a' b', a' < k → b' < k → -R ≤ WM mem A a' b' ∧ WM mem A a' b' ≤ R) ∧
  (Aup E → ∀ a' b', a' < k → b' < k → Low E m (WM mem A) a' b') ∧
  (Aup E → ∀ a' b', a' < k → b' < k → (a' < a ∨ (a' = a ∧ b' < b)) → Low E (m + 1) (WM mem A) a' b') ∧
  (∀ φ, PotE E φ → ∀ a' b', a' < k → b' < k → -1000 < WM mem A a' b' → φ a' + WM mem A a' b' ≤ φ b') ∧
  (∀ a' b' x, a' < k → b' < k → E a' b' x → x ≤ WM mem A a' b')
def Fr1 (A : Nat) (m m' : MM) : Prop := ∀ B i, ¬ B = A → m' B i = m B i
theorem Fr1.rf {A : Nat} {m : MM} : Fr1 A m m := fun _ _ _ => rfl
theorem Fr1.tr {A : Nat} {a b c : MM} (h1 : Fr1 A a b) (h2 : Fr1 A b c) : Fr1 A a c := fun B i e => (h2 B i e).trans (h1 B i e)
theorem Fr1.up {A i : Nat} {m : MM} {x : Int} : Fr1 A m (upm m A i x) := fun B j e => upm_ne (fun q => e q.1)
section FWI
variable {R : Int} {E : Nat → Nat → Int → Prop} {A k : Nat} {mem : MM} {m a b : Nat}
theorem ix8 {a b : Nat} : (8 * (a : Int) + (b : Int)).toNat = 8 * a + b := by omega
theorem WM_up {i j : Nat} {x : Int} (hb : b < 8) (hj : j < 8) : WM (upm mem A (8 * a + b) x) A i j = if i = a ∧ j = b then x else WM mem A i j := by
  unfold WM upm
  by_cases h : i = a ∧ j = b
  · rw [if_pos ⟨rfl, by omega⟩, if_pos h]
  · rw [if_neg (fun q => h (by omega)), if_neg h]
theorem Low.mono {W W' : Nat → Nat → Int} (h : Low E m W a b) (hw : W a b ≤ W' a b) : Low E m W' a b := fun p v h1 h2 h3 h4 => Int.le_trans (h p v h1 h2 h3 h4) hw
theorem FwI.skip (h : FwI R E A k mem m a b) (hm : m < k) (ha : a < k) (hb : b < k) (hg : WM mem A a m ≤ -1000 ∨ WM mem A m b ≤ -1000) : FwI R E A k mem m a (b + 1) := by
  obtain ⟨h1, h2, h3, h4, h5⟩ := h
  refine ⟨h1, h2, fun hu a' b' ha' hb' hl => ?_, h4, h5⟩
  by_cases q : a' < a ∨ (a' = a ∧ b' < b)
  · exact h3 hu a' b' ha' hb' q
  · have e1 : a' = a := by omega
    have e2 : b' = b := by omega
    subst e1
    subst e2
    intro p v n1 n2 n3 n4
    rcases Low.piv (fun a b x hx => hu a [] b x List.nodup_nil (fun c hc => by cases hc) hx) (h2 hu a' b' ha hb) (h2 hu a' m ha hm) (h2 hu m b' hm hb) n1 n2 n3 n4 with g | ⟨g1, g2, -⟩
    · exact g
    · omega
theorem FwI.upd (h : FwI R E A k mem m a b) (hR : 99 ≤ R) (hk : k ≤ 8) (hm : m < k) (ha : a < k) (hb : b < k) (g1 : -1000 < WM mem A a m) (g2 : -1000 < WM mem A m b) : FwI R E A k (upm mem A (8 * a + b) (max (WM mem A a b) (min 99 (WM mem A a m + WM mem A m b)))) m a (b + 1) := by
  obtain ⟨h1, h2, h3, h4, h5⟩ := h
  have r0 := h1 a b ha hb
  have r1 := h1 a m ha hm
  have r2 := h1 m b hm hb
  have ew : ∀ i j, j < 8 → WM (upm mem A (8 * a + b) (max (WM mem A a b) (min 99 (WM mem A a m + WM mem A m b)))) A i j = if i = a ∧ j = b then max (WM mem A a b) (min 99 (WM mem A a m + WM mem A m b)) else WM mem A i j := fun i j hj => WM_up (by omega) hj
  have ge : ∀ i j, j < 8 → WM mem A i j ≤ WM (upm mem A (8 * a + b) (max (WM mem A a b) (min 99 (WM mem A a m + WM mem A m b)))) A i j := fun i j hj => by
    rw [ew i j hj]
    split
    · rename_i q; obtain ⟨rfl, rfl⟩ := q; omega
    · exact Int.le_refl _
  refine ⟨fun i j hi hj => ?_, fun hu i j hi hj => (h2 hu i j hi hj).mono (ge i j (by omega)), fun hu i j hi hj hl => ?_, fun φ hφ i j hi hj => ?_, fun i j x hi hj hx => Int.le_trans (h5 i j x hi hj hx) (ge i j (by omega))⟩
  · rw [ew i j (by omega)]
    split
    · omega
    · exact h1 i j hi hj
  · by_cases q : i < a ∨ (i = a ∧ j < b)
    · exact (h3 hu i j hi hj q).mono (ge i j (by omega))
    · have e1 : i = a := by omega
      have e2 : j = b := by omega
      subst e1
      subst e2
      intro p v n1 n2 n3 n4
      rw [ew i j (by omega), if_pos ⟨rfl, rfl⟩]
      have hv := hu i p j v n1 (fun c hc => by have := n2 c hc; omega) n3
      rcases Low.piv (fun a b x hx => hu a [] b x List.nodup_nil (fun c hc => by cases hc) hx) (h2 hu i j ha hb) (h2 hu i m ha hm) (h2 hu m j hm hb) n1 n2 n3 n4 with g | ⟨-, -, g, -⟩
      · omega
      · omega
  · rw [ew i j (by omega)]
    have p0 := h4 φ hφ a b ha hb
    have p1 := h4 φ hφ a m ha hm g1
    have p2 := h4 φ hφ m b hm hb g2
    split
    · rename_i q
      obtain ⟨rfl, rfl⟩ := q
      intro hz
      omega
    · exact h4 φ hφ i j hi hj
theorem FwI.nextA (h : FwI R E A k mem m a k) : FwI R E A k mem m (a + 1) 0 := ⟨h.1, h.2.1, fun hu i j hi hj _ => h.2.2.1 hu i j hi hj (by omega), h.2.2.2⟩
theorem FwI.nextM {b : Nat} (h : FwI R E A k mem m k b) : FwI R E A k mem (m + 1) 0 0 := ⟨h.1, fun hu i j hi hj => h.2.2.1 hu i j hi hj (Or.inl hi), fun hu i j hi hj q => by omega, h.2.2.2⟩
end FWI
/-- edges: needs by d -/
def NdE (m : MM) (d : Int) (a b : Nat) (x : Int) : Prop := ∃ j : Nat, (j : Int) < m 143 12 ∧ ¬ (j : Int) = m 143 18 ∧ m 154 j = a ∧ m 155 j = b ∧ x = m 157 j - d * m 156 j
def NdsOK (m : MM) : Prop := (0 ≤ m 143 1 ∧ m 143 1 ≤ 8) ∧ (0 ≤ m 143 12 ∧ m 143 12 ≤ 48) ∧ NdAll (PN (m 143 1)) m (m 143 12)
/-- all ways by d are drawn -/
def WayOK (m : MM) (d : Int) : Prop := FwI 5000 (NdE m d) 158 (m 143 1).toNat m (m 143 1).toNat 0 0
theorem NdE.fr {m m' : MM} (h : Fr1 158 m m') (d : Int) : NdE m' d = NdE m d := by
  funext a b x
  unfold NdE
  simp only [h 143 12 (by omega), h 143 18 (by omega)]
  have e : ∀ B j, (B = 154 ∨ B = 155 ∨ B = 156 ∨ B = 157) → m' B j = m B j := fun B j q => h B j (by omega)
  simp only [e 154 _ (by omega), e 155 _ (by omega), e 156 _ (by omega), e 157 _ (by omega)]
theorem NdsOK.fr {m m' : MM} (h : Fr1 158 m m') (H : NdsOK m) : NdsOK m' := by
  refine ⟨by rw [h 143 1 (by omega)]; exact H.1, by rw [h 143 12 (by omega)]; exact H.2.1, fun j hj => ?_⟩
  rw [h 143 12 (by omega)] at hj
  rw [h 143 1 (by omega), h 154 j (by omega), h 155 j (by omega), h 156 j (by omega), h 157 j (by omega)]
  exact H.2.2 j hj
theorem dmul {d x : Int} (hd : 0 ≤ d ∧ d ≤ 48) (hx : 0 ≤ x ∧ x ≤ 7) : 0 ≤ d * x ∧ d * x ≤ 336 := by
  have h1 := Int.mul_nonneg hd.1 hx.1
  have h2 := Int.mul_le_mul hd.2 hx.2 hx.1 (by omega)
  omega
theorem NdE.rng {m : MM} (H : NdsOK m) {d : Int} (hd : 0 ≤ d ∧ d ≤ 48) {a b : Nat} {x : Int} (h : NdE m d a b x) : (a : Int) < m 143 1 ∧ (b : Int) < m 143 1 ∧ -341 ≤ x ∧ x ≤ 6 := by
  obtain ⟨j, h1, -, h2, h3, h4⟩ := h
  obtain ⟨p1, p2, p3, p4, p5, p6, p7, p8, -⟩ := H.2.2 j h1
  have := dmul hd ⟨p5, p6⟩
  omega
theorem NdE.aup {m : MM} (H : NdsOK m) {d : Int} (hd : 0 ≤ d ∧ d ≤ 48) : Aup (NdE m d) := by
  intro a p b v h1 h2 h3
  have := Wk.le6 (c := 6) (by omega) (fun a b x h => (NdE.rng H hd h).2.2.2) h3
  have := nd_len h1 h2
  omega
section WAYS
variable {S : Nat × (Nat → Int32)} {n : Nat} {m0 : MM} {d : Int}
theorem lw_130 (hN : NdsOK m0) (hd : 0 ≤ d ∧ d ≤ 48) {Kk : WK} (H : ∀ m', Fr1 158 m0 m' → WayOK m' d → Kk none m') : ∀ (N : Nat) (m a b : Nat) (mem : MM), (m : Int) < m0 143 1 → (a : Int) < m0 143 1 → (b : Int) ≤ m0 143 1 → 81 * (m0 143 1 - m) + 9 * (m0 143 1 - a) + (m0 143 1 - b) < N → Fr1 158 m0 mem → FwI 5000 (NdE m0 d) 158 (m0 143 1).toNat mem m a b → Wx (Ex S (n + 1)) S M_256 Kk 130 [some (.inr 143), some (.inl d), some (.inl (m : Int)), some (.inl (a : Int)), some (.inl (b : Int)), none, none] [] mem := by
  intro N
  induction N with
  | zero => intros; omega
  | succ N ih =>
    intro m a b mem hm ha hb hNN hF hI
    have h8 := hN.1
    have eops : mem 143 1 = m0 143 1 := hF _ _ (by omega)
    have go : ∀ mem', Fr1 158 mem mem' → (b : Int) < m0 143 1 → FwI 5000 (NdE m0 d) 158 (m0 143 1).toNat mem' m a (b + 1) → InI ((b : Int) + 1) ∧ Wx (Ex S (n + 1)) S M_256 Kk 130 [some (.inr 143), some (.inl d), some (.inl (m : Int)), some (.inl (a : Int)), some (.inl ((b : Int) + 1)), none, none] [] mem' := fun mem' h1 h2 h3 => ⟨by unfold InI; omega, ih m a (b + 1) mem' hm ha (by omega) (by omega) (hF.tr h1) h3⟩
    refine w_256_130 (Ex.mono S (n + 1)) (fun v e _ => ⟨fun q => ⟨by unfold InI; omega, ?_⟩, fun q => ?_⟩)
    · rw [show b = (m0 143 1).toNat by omega] at hI
      have hI := hI.nextA
      refine w_256_119 (Ex.mono S (n + 1)) (fun v e _ => ⟨fun q2 => ⟨by unfold InI; omega, ?_⟩, fun q2 => ?_⟩)
      · rw [show a + 1 = (m0 143 1).toNat by omega] at hI
        have hI := hI.nextM
        refine w_256_109 (Ex.mono S (n + 1)) (fun v e _ => ⟨fun q3 => H mem hF ?_, fun q3 => ?_⟩)
        · unfold WayOK
          rw [NdE.fr hF, eops]
          rw [show m + 1 = (m0 143 1).toNat by omega] at hI
          exact hI
        · refine w_256_119 (Ex.mono S (n + 1)) (fun v e _ => ⟨fun q4 => by omega, fun q4 => ?_⟩)
          exact ih (m + 1) 0 0 mem (by omega) (by omega) (by omega) (by omega) hF hI
      · exact ih m (a + 1) 0 mem hm (by omega) (by omega) (by omega) hF hI
    · have hb2 : (b : Int) < m0 143 1 := by omega
      have r1 := hI.1 a m (by omega) (by omega)
      have r2 := hI.1 m b (by omega) (by omega)
      have r0 := hI.1 a b (by omega) (by omega)
      have hi : ∀ x y : Nat, (x : Int) < m0 143 1 → (y : Int) < m0 143 1 → InI (8 * (x : Int)) ∧ InI (8 * (x : Int) + y) ∧ (0 ≤ 8 * (x : Int) + y ∧ 8 * (x : Int) + y < 64) := fun x y h1 h2 => by unfold InI; omega
      obtain ⟨i1, i2, i3⟩ := hi a m ha hm
      obtain ⟨j1, j2, j3⟩ := hi m b hm hb2
      obtain ⟨k1, k2, k3⟩ := hi a b ha hb2
      refine ⟨i1, i2, i3, fun v2 e2 _ => ⟨j1, j2, j3, fun v3 e3 _ => ?_⟩⟩
      have e2 : v2 = WM mem 158 a m := by rw [e2, ix8]; rfl
      have e3 : v3 = WM mem 158 m b := by rw [e3, ix8]; rfl
      refine ⟨fun q2 => go mem Fr1.rf hb2 (hI.skip (by omega) (by omega) (by omega) (Or.inl (by omega))), fun q2 => ⟨fun q3 => go mem Fr1.rf hb2 (hI.skip (by omega) (by omega) (by omega) (Or.inr (by omega))), fun q3 => ⟨k1, k2, k1, k2, k3, fun v4 e4 _ => ⟨by unfold InI; omega, ?_⟩⟩⟩⟩
      have e4 : v4 = WM mem 158 a b := by rw [e4, ix8]; rfl
      refine f_258 (fun _ _ => f_257 (fun _ _ => ⟨k3, ?_⟩))
      rw [ix8, e2, e3, e4]
      exact go _ Fr1.up hb2 (hI.upd (by omega) (by omega) (by omega) (by omega) (by omega) (by omega) (by omega))
theorem lw_25 (hN : NdsOK m0) (hd : 0 ≤ d ∧ d ≤ 48) {Kk : WK} (H : ∀ m', Fr1 158 m0 m' → WayOK m' d → Kk none m') : ∀ (N : Nat) (k : Nat) (mem : MM), (k : Int) ≤ m0 143 12 → m0 143 12 - k < N → Fr1 158 m0 mem → (∀ a' b', a' < 8 → b' < 8 → -1000 ≤ WM mem 158 a' b' ∧ WM mem 158 a' b' ≤ 99) → (∀ j : Nat, (j : Int) < k → ¬ (j : Int) = m0 143 18 → ∀ a b : Nat, m0 154 j = a → m0 155 j = b → m0 157 j - d * m0 156 j ≤ WM mem 158 a b) → (∀ φ, PotE (NdE m0 d) φ → ∀ a' b', a' < 8 → b' < 8 → -1000 < WM mem 158 a' b' → φ a' + WM mem 158 a' b' ≤ φ b') → Wx (Ex S (n + 1)) S M_256 Kk 25 [some (.inr 143), some (.inl d), some (.inl (k : Int)), none, none, none, none] [] mem := by
  intro N
  induction N with
  | zero => intros; omega
  | succ N ih =>
    intro k mem hk hNN hF hR hL hU
    have h8 := hN.1
    have h48 := hN.2.1
    have eops : mem 143 1 = m0 143 1 := hF _ _ (by omega)
    have end_ : m0 143 12 ≤ k → FwI 5000 (NdE m0 d) 158 (m0 143 1).toNat mem 0 0 0 := fun hk2 => by
      refine ⟨fun a' b' ha hb => by have := hR a' b' (by omega) (by omega); omega, fun hu a' b' ha hb p v n1 n2 n3 n4 => ?_, fun hu a' b' ha hb q => by omega, fun φ hφ a' b' ha hb => hU φ hφ a' b' (by omega) (by omega), fun a' b' x ha hb hx => by
        obtain ⟨j, g1, g2, g3, g4, g5⟩ := hx
        rw [g5]
        exact hL j (by omega) g2 a' b' g3 g4⟩
      cases p with
      | nil =>
        obtain ⟨j, g1, g2, g3, g4, g5⟩ := n3
        rw [g5]
        exact hL j (by omega) g2 a' b' g3 g4
      | cons c p => exact absurd (n2 c List.mem_cons_self) (by omega)
    refine w_256_25 (Ex.mono S (n + 1)) (fun v e _ => ⟨fun q => ?_, fun q v2 e2 _ => ?_⟩)
    · have e : v = m0 143 12 := by rw [e]; exact hF _ _ (by omega)
      have hI := end_ (by omega)
      refine w_256_109 (Ex.mono S (n + 1)) (fun v e _ => ⟨fun q3 => H mem hF ?_, fun q3 => ?_⟩)
      · unfold WayOK
        rw [NdE.fr hF, eops, show (m0 143 1).toNat = 0 by omega]
        rw [show (m0 143 1).toNat = 0 by omega] at hI
        exact hI
      · refine w_256_119 (Ex.mono S (n + 1)) (fun v e _ => ⟨fun q4 => by omega, fun q4 => ?_⟩)
        exact lw_130 hN hd H (81 * 8 + 9 * 8 + 8 + 1) 0 0 0 mem (by omega) (by omega) (by omega) (by omega) hF hI
    · have e : v = m0 143 12 := by rw [e]; exact hF _ _ (by omega)
      have e2 : v2 = m0 143 18 := by rw [e2]; exact hF _ _ (by omega)
      refine ⟨fun q2 => ⟨by unfold InI; omega, ih (k + 1) mem (by omega) (by omega) hF hR (fun j h1 h2 a b h3 h4 => hL j (by omega) h2 a b h3 h4) hU⟩, fun q2 => ?_⟩
      have hk48 : 0 ≤ (k : Int) ∧ (k : Int) < 48 := by omega
      obtain ⟨p1, p2, p3, p4, p5, p6, p7, p8, p9⟩ := hN.2.2 k (by omega)
      have f4 : mem 154 k = m0 154 k := hF _ _ (by omega)
      have f5 : mem 155 k = m0 155 k := hF _ _ (by omega)
      have f6 : mem 156 k = m0 156 k := hF _ _ (by omega)
      have f7 : mem 157 k = m0 157 k := hF _ _ (by omega)
      have dm := dmul hd ⟨p5, p6⟩
      refine ⟨hk48, fun v3 e3 _ => ?_⟩
      rw [Int.toNat_natCast, f4] at e3
      refine ⟨by unfold InI; omega, hk48, fun v4 e4 _ => ?_⟩
      rw [Int.toNat_natCast, f5] at e4
      refine ⟨by unfold InI; omega, hk48, fun v5 e5 _ => ?_⟩
      rw [Int.toNat_natCast, f4] at e5
      refine ⟨by unfold InI; omega, hk48, fun v6 e6 _ => ?_⟩
      rw [Int.toNat_natCast, f5] at e6
      refine ⟨by unfold InI; omega, by omega, fun v7 e7 _ => ⟨hk48, fun v8 e8 _ => ?_⟩⟩
      rw [Int.toNat_natCast, f7] at e8
      refine ⟨hk48, fun v9 e9 _ => ?_⟩
      rw [Int.toNat_natCast, f6] at e9
      subst e9
      refine ⟨by unfold InI; omega, by unfold InI; omega, f_257 (fun _ _ => ⟨by omega, by unfold InI; omega, ?_⟩)⟩
      obtain ⟨a, ha⟩ : ∃ a : Nat, m0 154 k = a := ⟨(m0 154 k).toNat, by omega⟩
      obtain ⟨b, hb⟩ : ∃ b : Nat, m0 155 k = b := ⟨(m0 155 k).toNat, by omega⟩
      have e7 : v7 = WM mem 158 a b := by rw [e7, e5, e6, ha, hb, ix8]; rfl
      rw [show (8 * v3 + v4).toNat = 8 * a + b by omega, e7, e8]
      have r0 := hR a b (by omega) (by omega)
      have ew : ∀ i j, j < 8 → WM (upm mem 158 (8 * a + b) (max (WM mem 158 a b) (m0 157 k - d * m0 156 k))) 158 i j = if i = a ∧ j = b then max (WM mem 158 a b) (m0 157 k - d * m0 156 k) else WM mem 158 i j := fun i j hj => WM_up (by omega) hj
      refine ih (k + 1) _ (by omega) (by omega) (hF.tr Fr1.up) (fun i j hi hj => ?_) (fun j h1 h2 a' b' h3 h4 => ?_) (fun φ hφ i j hi hj => ?_)
      · rw [ew i j hj]
        split
        · omega
        · exact hR i j hi hj
      · obtain ⟨-, -, -, t4, -⟩ := hN.2.2 j (by omega)
        rw [ew a' b' (by omega)]
        by_cases hjk : j = k
        · subst hjk
          rw [if_pos (by omega)]; omega
        · have := hL j (by omega) h2 a' b' h3 h4
          split
          · rename_i z; obtain ⟨rfl, rfl⟩ := z; omega
          · exact this
      · have hp := hφ a b _ ⟨k, by omega, by omega, ha, hb, rfl⟩
        have h0 := hU φ hφ a b (by omega) (by omega)
        rw [ew i j hj]
        split
        · rename_i z
          obtain ⟨rfl, rfl⟩ := z
          intro _
          omega
        · exact hU φ hφ i j hi hj
theorem f_256 {K : MM → Prop} (hN : NdsOK m0) (hd : 0 ≤ d ∧ d ≤ 48) (H : ∀ m', Fr1 158 m0 m' → WayOK m' d → K m') : CWV (Ex S (n + 2)) 256 [.inr 143, .inl d] m0 K := by
  refine CW.of (k := 5) mt_256 rfl rfl (w_256_0 (Ex.mono S (n + 1)) ?_)
  have key : ∀ (N : Nat) (k : Nat) (mem : MM), k ≤ 64 → 64 - k < N → Fr1 158 m0 mem → (∀ i, i < k → mem 158 i = -1000) → Wx (Ex S (n + 1)) S M_256 (fun r m => r = none ∧ K m) 2 [some (.inr 143), some (.inl d), some (.inl (k : Int)), none, none, none, none] [] mem := by
    intro N
    induction N with
    | zero => intros; omega
    | succ N ih =>
      intro k mem hk hNN hF hA
      refine w_256_2 (Ex.mono S (n + 1)) ⟨fun q => ?_, fun q => ⟨by omega, by unfold InI; omega, ?_⟩⟩
      · have hW : ∀ a b, a < 8 → b < 8 → WM mem 158 a b = -1000 := fun a b ha hb => hA _ (by omega)
        exact lw_25 hN hd (fun m' h1 h2 => ⟨rfl, H m' h1 h2⟩) 49 0 mem (by have := hN.2.1; omega) (by have := hN.2.1; omega) hF (fun a b ha hb => by rw [hW a b ha hb]; omega) (fun j h1 => by omega) (fun φ _ a b ha hb h => by rw [hW a b ha hb] at h; omega)
      · refine ih (k + 1) _ (by omega) (by omega) (hF.tr Fr1.up) (fun i hi => ?_)
        rw [Int.toNat_natCast]
        by_cases e : i = k
        · subst e; exact upm_eq
        · rw [upm_ne (fun q => e q.2)]; exact hA i (by omega)
  exact key 65 0 m0 (by omega) (by omega) Fr1.rf (fun i hi => by omega)
end WAYS
/-! rounds: the least d that rings leave; isLess -/
def FrW (m m' : MM) : Prop := ∀ A i, ¬ A = 154 → ¬ A = 155 → ¬ A = 156 → ¬ A = 157 → ¬ A = 158 → ¬ (A = 143 ∧ i = 12) → m' A i = m A i
theorem FrW.rf {m : MM} : FrW m m := fun _ _ _ _ _ _ _ _ => rfl
theorem FrW.tr {a b c : MM} (h1 : FrW a b) (h2 : FrW b c) : FrW a c := fun A i e1 e2 e3 e4 e5 e6 => (h2 A i e1 e2 e3 e4 e5 e6).trans (h1 A i e1 e2 e3 e4 e5 e6)
theorem FrN.w {a b : MM} (h : FrN a b) : FrW a b := fun A i e1 e2 e3 e4 _ e6 => h A i e1 e2 e3 e4 e6
theorem Fr1.w {a b : MM} (h : Fr1 158 a b) : FrW a b := fun A i _ _ _ _ e5 _ => h A i e5
section ROUND
variable {S : Nat × (Nat → Int32)} {n : Nat} {mem : MM} {K : Int → MM → Prop}
theorem f_259 (h8 : 0 ≤ mem 143 1 ∧ mem 143 1 ≤ 8) (H1 : (∀ o : Nat, (o : Int) < mem 143 1 → WM mem 158 o o ≤ 0) → K 1 mem) (H0 : ¬ (∀ o : Nat, (o : Int) < mem 143 1 → WM mem 158 o o ≤ 0) → K 0 mem) : CWI (Ex S (n + 1)) 259 [.inr 143] mem K := by
  refine CW.of (k := 1) mt_259 rfl rfl (w_259_0 (Ex.mono S n) ?_)
  have key : ∀ (N : Nat) (o : Nat), (o : Int) ≤ mem 143 1 → mem 143 1 - o < N → (∀ o2 : Nat, o2 < o → WM mem 158 o2 o2 ≤ 0) → Wx (Ex S n) S M_259 (fun r m => ∃ y, r = some y ∧ K y m) 2 [some (.inr 143), some (.inl (o : Int))] [] mem := by
    intro N
    induction N with
    | zero => intros; omega
    | succ N ih =>
      intro o ho hN hA
      refine w_259_2 (Ex.mono S n) (fun v e _ => ⟨fun q => ⟨_, rfl, H1 (fun o2 h2 => hA o2 (by omega))⟩, fun q => ⟨by unfold InI; omega, by unfold InI; omega, by omega, fun v2 e2 _ => ?_⟩⟩)
      have e2 : v2 = WM mem 158 o o := by rw [e2, ix8]; rfl
      refine ⟨fun q2 => ⟨by unfold InI; omega, ih (o + 1) (by omega) (by omega) (fun o2 h2 => ?_)⟩, fun q2 => ⟨_, rfl, H0 (fun h => ?_)⟩⟩
      · by_cases e3 : o2 = o
        · subst e3; omega
        · exact hA o2 (by omega)
      · have := h o (by omega); omega
  exact key 9 0 (by omega) (by omega) (fun o2 h => by omega)
theorem diag48 {m : MM} (hN : NdsOK m) (hW : WayOK m 48) (o : Nat) (ho : (o : Int) < m 143 1) : WM m 158 o o ≤ 0 := by
  have hφ : PotE (NdE m 48) (fun b => 6 * (b : Int)) := by
    rintro a b x ⟨j, g1, -, g3, g4, g5⟩
    obtain ⟨p1, p2, p3, p4, p5, p6, p7, p8, p9⟩ := hN.2.2 j g1
    have h8 := hN.1
    show 6 * (a : Int) + x ≤ 6 * (b : Int)
    omega
  by_cases h : -1000 < WM m 158 o o
  · have : 6 * (o : Int) + WM m 158 o o ≤ 6 * (o : Int) := hW.2.2.2.1 _ hφ o o (by omega) (by omega) h
    omega
  · omega
theorem f_255 (hN : NdsOK mem) (H : ∀ r m', 0 ≤ r → r ≤ 48 → Fr1 158 mem m' → K r m') : CWI (Ex S (n + 3)) 255 [.inr 143] mem K := by
  have key : ∀ (N : Nat) (d : Int) (m : MM), 0 ≤ d → d ≤ 48 → 48 - d < N → Fr1 158 mem m → WayOK m d → Wx (Ex S (n + 2)) S M_255 (fun r m => ∃ y, r = some y ∧ K y m) 7 [some (.inr 143), some (.inl d)] [] m := by
    intro N
    induction N with
    | zero => intros; omega
    | succ N ih =>
      intro d m hd1 hd2 hNN hF hW
      have hN2 := hN.fr hF
      refine w_255_7 (Ex.mono S (n + 2)) (f_259 hN2.1 (fun _ _ => ⟨fun _ _ => ⟨_, rfl, H d m hd1 hd2 hF⟩, fun q => absurd (by decide) q⟩) (fun hno _ => ⟨fun q => absurd rfl q, fun _ => ?_⟩))
      have hd3 : d < 48 := by
        by_cases e : d = 48
        · subst e
          exact absurd (fun o ho => diag48 hN2 hW o ho) hno
        · omega
      refine ⟨by unfold InI; omega, f_256 hN2 ⟨by omega, by omega⟩ (fun m' h1 h2 => ?_)⟩
      exact ih (d + 1) m' (by omega) (by omega) (by omega) (hF.tr h1) h2
  exact CW.of (k := 1) mt_255 rfl rfl (w_255_0 (Ex.mono S (n + 2)) (f_256 hN ⟨by omega, by omega⟩ (fun m' h1 h2 => key 49 0 m' (by omega) (by omega) (by omega) h1 h2)))
theorem NdsOK.of {m m' : MM} (hO : OpsOK m) (h : FrN m m') (h1 : 0 ≤ m' 143 12) (h2 : m' 143 12 ≤ 44) (h3 : NdAll (PN (m 143 1)) m' (m' 143 12)) : NdsOK m' := by
  have e : m' 143 1 = m 143 1 := h _ _ (by omega) (by omega) (by omega) (by omega) (by omega)
  exact ⟨by rw [e]; exact hO.1, ⟨h1, by omega⟩, by rw [e]; exact h3⟩
/-- the rows of needs and their number stay within their ranges -/
def RN (m m' : MM) : Prop := R4 m m' ∧ (0 ≤ m 143 12 ∧ m 143 12 ≤ 44 → 0 ≤ m' 143 12 ∧ m' 143 12 ≤ 44)
theorem RN.rf {m : MM} : RN m m := ⟨R4.rf, fun h => h⟩
theorem RN.tr {a b c : MM} (h1 : RN a b) (h2 : RN b c) : RN a c := ⟨h1.1.tr h2.1, fun h => h2.2 (h1.2 h)⟩
theorem RN.same {m m' : MM} (h : ∀ A i, A = 154 ∨ A = 155 ∨ A = 156 ∨ A = 157 → m' A i = m A i) (h2 : m' 143 12 = m 143 12) : RN m m' := ⟨R4.same h, fun q => by rw [h2]; exact q⟩
theorem Fr1.rn {A : Nat} {m m' : MM} (h : Fr1 A m m') (hA : 157 < A) : RN m m' := RN.same (fun B i e => h B i (by omega)) (h _ _ (by omega))
/-- isLess: not sound, or d below rounds -/
theorem f_254 {d : Int} (hO : OpsOK mem) (H1 : ∀ m', FrW mem m' → RN mem m' → K 1 m') (H0 : ∀ m', FrW mem m' → RN mem m' → SoundM mem → NdsOK m' → m' 143 12 ≤ 44 → K 0 m') : CWI (Ex S (n + 4)) 254 [.inr 143, .inl d] mem K := by
  refine CW.of (k := 0) mt_254 rfl rfl (w_254_0 (Ex.mono S (n + 3)) (f_240 hO (fun hS _ => ⟨fun _ => ?_, fun q => absurd (by decide) q⟩) (fun _ _ => ⟨fun q => absurd rfl q, fun _ => ⟨_, rfl, H1 mem FrW.rf RN.rf⟩⟩)))
  refine f_245 hO hS (fun m1 g1 g5 g2 g3 g4 => ?_)
  have hRN : RN mem m1 := ⟨g5, fun _ => ⟨g2, g3⟩⟩
  have hN := NdsOK.of hO g1 g2 g3 g4
  refine f_255 hN (fun r m2 r1 r2 k1 _ => ⟨fun q => ⟨_, rfl, H0 m2 (g1.w.tr k1.w) (hRN.tr (k1.rn (by omega))) hS (hN.fr k1) ?_⟩, fun q => ⟨_, rfl, H1 m2 (g1.w.tr k1.w) (hRN.tr (k1.rn (by omega)))⟩⟩)
  rw [k1 143 12 (by omega)]; exact g3
end ROUND
/-! laid by wip/hand/wxg.py: plans: what the paths of methods ask for -/
set_option maxRecDepth 100000 in
theorem mt_268 : MT[268]? = some M_268 := rfl
set_option maxRecDepth 100000 in
theorem mt_269 : MT[269]? = some M_269 := rfl
set_option maxRecDepth 100000 in
theorem mt_270 : MT[270]? = some M_270 := rfl
set_option maxRecDepth 100000 in
theorem mt_271 : MT[271]? = some M_271 := rfl
set_option maxRecDepth 100000 in
theorem mt_273 : MT[273]? = some M_273 := rfl
set_option maxRecDepth 100000 in
theorem mt_274 : MT[274]? = some M_274 := rfl
set_option maxRecDepth 100000 in
theorem mt_276 : MT[276]? = some M_276 := rfl
theorem te_268_0 : (pT M_268).find? (fun e => e.1 == 0) = some (0, .aload_n 0, 0, 0) := rfl
theorem te_268_1 : (pT M_268).find? (fun e => e.1 == 1) = some (1, .iload_n 1, 0, 0) := rfl
theorem te_268_2 : (pT M_268).find? (fun e => e.1 == 2) = some (2, .invokevirtual 205, 254, 0) := rfl
theorem te_268_5 : (pT M_268).find? (fun e => e.1 == 5) = some (5, .ifCond .eq 5, 0, 0) := rfl
theorem te_268_8 : (pT M_268).find? (fun e => e.1 == 8) = some (8, .iconst 0, 0, 0) := rfl
theorem te_268_9 : (pT M_268).find? (fun e => e.1 == 9) = some (9, .ireturn, 0, 0) := rfl
theorem te_268_10 : (pT M_268).find? (fun e => e.1 == 10) = some (10, .aload_n 0, 0, 0) := rfl
theorem te_268_11 : (pT M_268).find? (fun e => e.1 == 11) = some (11, .iload_n 1, 0, 0) := rfl
theorem te_268_12 : (pT M_268).find? (fun e => e.1 == 12) = some (12, .invokevirtual 173, 256, 0) := rfl
theorem te_268_15 : (pT M_268).find? (fun e => e.1 == 15) = some (15, .aload_n 0, 0, 0) := rfl
theorem te_268_16 : (pT M_268).find? (fun e => e.1 == 16) = some (16, .iload_n 1, 0, 0) := rfl
theorem te_268_17 : (pT M_268).find? (fun e => e.1 == 17) = some (17, .invokevirtual 226, 269, 0) := rfl
theorem te_268_20 : (pT M_268).find? (fun e => e.1 == 20) = some (20, .ifCond .ne 5, 0, 0) := rfl
theorem te_268_23 : (pT M_268).find? (fun e => e.1 == 23) = some (23, .iconst 0, 0, 0) := rfl
theorem te_268_24 : (pT M_268).find? (fun e => e.1 == 24) = some (24, .ireturn, 0, 0) := rfl
theorem te_268_25 : (pT M_268).find? (fun e => e.1 == 25) = some (25, .aload_n 0, 0, 0) := rfl
theorem te_268_26 : (pT M_268).find? (fun e => e.1 == 26) = some (26, .iload_n 1, 0, 0) := rfl
theorem te_268_27 : (pT M_268).find? (fun e => e.1 == 27) = some (27, .invokevirtual 229, 276, 0) := rfl
theorem te_268_30 : (pT M_268).find? (fun e => e.1 == 30) = some (30, .iconst 1, 0, 0) := rfl
theorem te_268_31 : (pT M_268).find? (fun e => e.1 == 31) = some (31, .ireturn, 0, 0) := rfl
theorem te_269_0 : (pT M_269).find? (fun e => e.1 == 0) = some (0, .aload_n 0, 0, 0) := rfl
theorem te_269_1 : (pT M_269).find? (fun e => e.1 == 1) = some (1, .invokevirtual 214, 270, 0) := rfl
theorem te_269_4 : (pT M_269).find? (fun e => e.1 == 4) = some (4, .iconst 0, 0, 0) := rfl
theorem te_269_5 : (pT M_269).find? (fun e => e.1 == 5) = some (5, .istore_n 2, 0, 0) := rfl
theorem te_269_6 : (pT M_269).find? (fun e => e.1 == 6) = some (6, .aload_n 0, 0, 0) := rfl
theorem te_269_7 : (pT M_269).find? (fun e => e.1 == 7) = some (7, .getfield 108, 10, 1) := rfl
theorem te_269_10 : (pT M_269).find? (fun e => e.1 == 10) = some (10, .ifCond .le 10, 0, 0) := rfl
theorem te_269_13 : (pT M_269).find? (fun e => e.1 == 13) = some (13, .aload_n 0, 0, 0) := rfl
theorem te_269_14 : (pT M_269).find? (fun e => e.1 == 14) = some (14, .getfield 62, 10, 20) := rfl
theorem te_269_17 : (pT M_269).find? (fun e => e.1 == 17) = some (17, .iconst 0, 0, 0) := rfl
theorem te_269_18 : (pT M_269).find? (fun e => e.1 == 18) = some (18, .iconst (-1), 0, 0) := rfl
theorem te_269_19 : (pT M_269).find? (fun e => e.1 == 19) = some (19, .iastore, 0, 0) := rfl
theorem te_269_20 : (pT M_269).find? (fun e => e.1 == 20) = some (20, .iload_n 2, 0, 0) := rfl
theorem te_269_21 : (pT M_269).find? (fun e => e.1 == 21) = some (21, .aload_n 0, 0, 0) := rfl
theorem te_269_22 : (pT M_269).find? (fun e => e.1 == 22) = some (22, .getfield 108, 10, 1) := rfl
theorem te_269_25 : (pT M_269).find? (fun e => e.1 == 25) = some (25, .if_icmp .ge 119, 0, 0) := rfl
theorem te_269_28 : (pT M_269).find? (fun e => e.1 == 28) = some (28, .aload_n 0, 0, 0) := rfl
theorem te_269_29 : (pT M_269).find? (fun e => e.1 == 29) = some (29, .getfield 62, 10, 20) := rfl
theorem te_269_32 : (pT M_269).find? (fun e => e.1 == 32) = some (32, .iload_n 2, 0, 0) := rfl
theorem te_269_33 : (pT M_269).find? (fun e => e.1 == 33) = some (33, .iaload, 0, 0) := rfl
theorem te_269_34 : (pT M_269).find? (fun e => e.1 == 34) = some (34, .iconst (-1), 0, 0) := rfl
theorem te_269_35 : (pT M_269).find? (fun e => e.1 == 35) = some (35, .if_icmp .eq 16, 0, 0) := rfl
theorem te_269_38 : (pT M_269).find? (fun e => e.1 == 38) = some (38, .aload_n 0, 0, 0) := rfl
theorem te_269_39 : (pT M_269).find? (fun e => e.1 == 39) = some (39, .iload_n 2, 0, 0) := rfl
theorem te_269_40 : (pT M_269).find? (fun e => e.1 == 40) = some (40, .aload_n 0, 0, 0) := rfl
theorem te_269_41 : (pT M_269).find? (fun e => e.1 == 41) = some (41, .getfield 62, 10, 20) := rfl
theorem te_269_44 : (pT M_269).find? (fun e => e.1 == 44) = some (44, .iload_n 2, 0, 0) := rfl
theorem te_269_45 : (pT M_269).find? (fun e => e.1 == 45) = some (45, .iaload, 0, 0) := rfl
theorem te_269_46 : (pT M_269).find? (fun e => e.1 == 46) = some (46, .iload_n 1, 0, 0) := rfl
theorem te_269_47 : (pT M_269).find? (fun e => e.1 == 47) = some (47, .iconst (-1), 0, 0) := rfl
theorem te_269_48 : (pT M_269).find? (fun e => e.1 == 48) = some (48, .invokevirtual 217, 271, 0) := rfl
theorem te_269_51 : (pT M_269).find? (fun e => e.1 == 51) = some (51, .aload_n 0, 0, 0) := rfl
theorem te_269_52 : (pT M_269).find? (fun e => e.1 == 52) = some (52, .getfield 62, 10, 20) := rfl
theorem te_269_55 : (pT M_269).find? (fun e => e.1 == 55) = some (55, .iload_n 2, 0, 0) := rfl
theorem te_269_56 : (pT M_269).find? (fun e => e.1 == 56) = some (56, .dup2, 0, 0) := rfl
theorem te_269_57 : (pT M_269).find? (fun e => e.1 == 57) = some (57, .iaload, 0, 0) := rfl
theorem te_269_58 : (pT M_269).find? (fun e => e.1 == 58) = some (58, .iconst 1, 0, 0) := rfl
theorem te_269_59 : (pT M_269).find? (fun e => e.1 == 59) = some (59, .iadd, 0, 0) := rfl
theorem te_269_60 : (pT M_269).find? (fun e => e.1 == 60) = some (60, .iastore, 0, 0) := rfl
theorem te_269_61 : (pT M_269).find? (fun e => e.1 == 61) = some (61, .aload_n 0, 0, 0) := rfl
theorem te_269_62 : (pT M_269).find? (fun e => e.1 == 62) = some (62, .getfield 62, 10, 20) := rfl
theorem te_269_65 : (pT M_269).find? (fun e => e.1 == 65) = some (65, .iload_n 2, 0, 0) := rfl
theorem te_269_66 : (pT M_269).find? (fun e => e.1 == 66) = some (66, .iaload, 0, 0) := rfl
theorem te_269_67 : (pT M_269).find? (fun e => e.1 == 67) = some (67, .iload_n 1, 0, 0) := rfl
theorem te_269_68 : (pT M_269).find? (fun e => e.1 == 68) = some (68, .if_icmp .ne 15, 0, 0) := rfl
theorem te_269_71 : (pT M_269).find? (fun e => e.1 == 71) = some (71, .iload_n 2, 0, 0) := rfl
theorem te_269_72 : (pT M_269).find? (fun e => e.1 == 72) = some (72, .ifCond .ne 5, 0, 0) := rfl
theorem te_269_75 : (pT M_269).find? (fun e => e.1 == 75) = some (75, .iconst 0, 0, 0) := rfl
theorem te_269_76 : (pT M_269).find? (fun e => e.1 == 76) = some (76, .ireturn, 0, 0) := rfl
theorem te_269_77 : (pT M_269).find? (fun e => e.1 == 77) = some (77, .iinc 2 (-1), 0, 0) := rfl
theorem te_269_80 : (pT M_269).find? (fun e => e.1 == 80) = some (80, .goto (-60), 0, 0) := rfl
theorem te_269_83 : (pT M_269).find? (fun e => e.1 == 83) = some (83, .aload_n 0, 0, 0) := rfl
theorem te_269_84 : (pT M_269).find? (fun e => e.1 == 84) = some (84, .iload_n 2, 0, 0) := rfl
theorem te_269_85 : (pT M_269).find? (fun e => e.1 == 85) = some (85, .aload_n 0, 0, 0) := rfl
theorem te_269_86 : (pT M_269).find? (fun e => e.1 == 86) = some (86, .getfield 62, 10, 20) := rfl
theorem te_269_89 : (pT M_269).find? (fun e => e.1 == 89) = some (89, .iload_n 2, 0, 0) := rfl
theorem te_269_90 : (pT M_269).find? (fun e => e.1 == 90) = some (90, .iaload, 0, 0) := rfl
theorem te_269_91 : (pT M_269).find? (fun e => e.1 == 91) = some (91, .iload_n 1, 0, 0) := rfl
theorem te_269_92 : (pT M_269).find? (fun e => e.1 == 92) = some (92, .iconst 1, 0, 0) := rfl
theorem te_269_93 : (pT M_269).find? (fun e => e.1 == 93) = some (93, .invokevirtual 217, 271, 0) := rfl
theorem te_269_96 : (pT M_269).find? (fun e => e.1 == 96) = some (96, .aload_n 0, 0, 0) := rfl
theorem te_269_97 : (pT M_269).find? (fun e => e.1 == 97) = some (97, .aload_n 0, 0, 0) := rfl
theorem te_269_98 : (pT M_269).find? (fun e => e.1 == 98) = some (98, .iload_n 2, 0, 0) := rfl
theorem te_269_99 : (pT M_269).find? (fun e => e.1 == 99) = some (99, .invokevirtual 180, 264, 0) := rfl
theorem te_269_102 : (pT M_269).find? (fun e => e.1 == 102) = some (102, .iload_n 1, 0, 0) := rfl
theorem te_269_103 : (pT M_269).find? (fun e => e.1 == 103) = some (103, .invokevirtual 220, 273, 0) := rfl
theorem te_269_106 : (pT M_269).find? (fun e => e.1 == 106) = some (106, .ifCond .ne (-86), 0, 0) := rfl
theorem te_269_109 : (pT M_269).find? (fun e => e.1 == 109) = some (109, .aload_n 0, 0, 0) := rfl
theorem te_269_110 : (pT M_269).find? (fun e => e.1 == 110) = some (110, .iload_n 2, 0, 0) := rfl
theorem te_269_111 : (pT M_269).find? (fun e => e.1 == 111) = some (111, .iconst 1, 0, 0) := rfl
theorem te_269_112 : (pT M_269).find? (fun e => e.1 == 112) = some (112, .iadd, 0, 0) := rfl
theorem te_269_113 : (pT M_269).find? (fun e => e.1 == 113) = some (113, .iload_n 1, 0, 0) := rfl
theorem te_269_114 : (pT M_269).find? (fun e => e.1 == 114) = some (114, .invokevirtual 223, 274, 0) := rfl
theorem te_269_117 : (pT M_269).find? (fun e => e.1 == 117) = some (117, .ifCond .ne 6, 0, 0) := rfl
theorem te_269_120 : (pT M_269).find? (fun e => e.1 == 120) = some (120, .goto (-100), 0, 0) := rfl
theorem te_269_123 : (pT M_269).find? (fun e => e.1 == 123) = some (123, .iinc 2 1, 0, 0) := rfl
theorem te_269_126 : (pT M_269).find? (fun e => e.1 == 126) = some (126, .iload_n 2, 0, 0) := rfl
theorem te_269_127 : (pT M_269).find? (fun e => e.1 == 127) = some (127, .aload_n 0, 0, 0) := rfl
theorem te_269_128 : (pT M_269).find? (fun e => e.1 == 128) = some (128, .getfield 108, 10, 1) := rfl
theorem te_269_131 : (pT M_269).find? (fun e => e.1 == 131) = some (131, .if_icmp .ge (-111), 0, 0) := rfl
theorem te_269_134 : (pT M_269).find? (fun e => e.1 == 134) = some (134, .aload_n 0, 0, 0) := rfl
theorem te_269_135 : (pT M_269).find? (fun e => e.1 == 135) = some (135, .getfield 62, 10, 20) := rfl
theorem te_269_138 : (pT M_269).find? (fun e => e.1 == 138) = some (138, .iload_n 2, 0, 0) := rfl
theorem te_269_139 : (pT M_269).find? (fun e => e.1 == 139) = some (139, .iconst (-1), 0, 0) := rfl
theorem te_269_140 : (pT M_269).find? (fun e => e.1 == 140) = some (140, .iastore, 0, 0) := rfl
theorem te_269_141 : (pT M_269).find? (fun e => e.1 == 141) = some (141, .goto (-121), 0, 0) := rfl
theorem te_269_144 : (pT M_269).find? (fun e => e.1 == 144) = some (144, .iconst 1, 0, 0) := rfl
theorem te_269_145 : (pT M_269).find? (fun e => e.1 == 145) = some (145, .ireturn, 0, 0) := rfl
theorem te_270_0 : (pT M_270).find? (fun e => e.1 == 0) = some (0, .iconst 0, 0, 0) := rfl
theorem te_270_1 : (pT M_270).find? (fun e => e.1 == 1) = some (1, .istore_n 1, 0, 0) := rfl
theorem te_270_2 : (pT M_270).find? (fun e => e.1 == 2) = some (2, .iload_n 1, 0, 0) := rfl
theorem te_270_3 : (pT M_270).find? (fun e => e.1 == 3) = some (3, .bipush 36, 0, 0) := rfl
theorem te_270_5 : (pT M_270).find? (fun e => e.1 == 5) = some (5, .if_icmp .ge 16, 0, 0) := rfl
theorem te_270_8 : (pT M_270).find? (fun e => e.1 == 8) = some (8, .aload_n 0, 0, 0) := rfl
theorem te_270_9 : (pT M_270).find? (fun e => e.1 == 9) = some (9, .getfield 59, 10, 19) := rfl
theorem te_270_12 : (pT M_270).find? (fun e => e.1 == 12) = some (12, .iload_n 1, 0, 0) := rfl
theorem te_270_13 : (pT M_270).find? (fun e => e.1 == 13) = some (13, .iconst 0, 0, 0) := rfl
theorem te_270_14 : (pT M_270).find? (fun e => e.1 == 14) = some (14, .iastore, 0, 0) := rfl
theorem te_270_15 : (pT M_270).find? (fun e => e.1 == 15) = some (15, .iinc 1 1, 0, 0) := rfl
theorem te_270_18 : (pT M_270).find? (fun e => e.1 == 18) = some (18, .goto (-16), 0, 0) := rfl
theorem te_270_21 : (pT M_270).find? (fun e => e.1 == 21) = some (21, .return_, 0, 0) := rfl
theorem te_271_0 : (pT M_271).find? (fun e => e.1 == 0) = some (0, .iconst 0, 0, 0) := rfl
theorem te_271_1 : (pT M_271).find? (fun e => e.1 == 1) = some (1, .istore 5, 0, 0) := rfl
theorem te_271_3 : (pT M_271).find? (fun e => e.1 == 3) = some (3, .iload 5, 0, 0) := rfl
theorem te_271_5 : (pT M_271).find? (fun e => e.1 == 5) = some (5, .iconst 4, 0, 0) := rfl
theorem te_271_6 : (pT M_271).find? (fun e => e.1 == 6) = some (6, .if_icmp .ge 50, 0, 0) := rfl
theorem te_271_9 : (pT M_271).find? (fun e => e.1 == 9) = some (9, .aload_n 0, 0, 0) := rfl
theorem te_271_10 : (pT M_271).find? (fun e => e.1 == 10) = some (10, .iload_n 1, 0, 0) := rfl
theorem te_271_11 : (pT M_271).find? (fun e => e.1 == 11) = some (11, .invokevirtual 183, 265, 0) := rfl
theorem te_271_14 : (pT M_271).find? (fun e => e.1 == 14) = some (14, .iload 5, 0, 0) := rfl
theorem te_271_16 : (pT M_271).find? (fun e => e.1 == 16) = some (16, .ishr, 0, 0) := rfl
theorem te_271_17 : (pT M_271).find? (fun e => e.1 == 17) = some (17, .iconst 1, 0, 0) := rfl
theorem te_271_18 : (pT M_271).find? (fun e => e.1 == 18) = some (18, .iand, 0, 0) := rfl
theorem te_271_19 : (pT M_271).find? (fun e => e.1 == 19) = some (19, .iconst 1, 0, 0) := rfl
theorem te_271_20 : (pT M_271).find? (fun e => e.1 == 20) = some (20, .if_icmp .ne 30, 0, 0) := rfl
theorem te_271_23 : (pT M_271).find? (fun e => e.1 == 23) = some (23, .aload_n 0, 0, 0) := rfl
theorem te_271_24 : (pT M_271).find? (fun e => e.1 == 24) = some (24, .getfield 59, 10, 19) := rfl
theorem te_271_27 : (pT M_271).find? (fun e => e.1 == 27) = some (27, .bipush 12, 0, 0) := rfl
theorem te_271_29 : (pT M_271).find? (fun e => e.1 == 29) = some (29, .aload_n 0, 0, 0) := rfl
theorem te_271_30 : (pT M_271).find? (fun e => e.1 == 30) = some (30, .iload_n 1, 0, 0) := rfl
theorem te_271_31 : (pT M_271).find? (fun e => e.1 == 31) = some (31, .invokevirtual 180, 264, 0) := rfl
theorem te_271_34 : (pT M_271).find? (fun e => e.1 == 34) = some (34, .imul, 0, 0) := rfl
theorem te_271_35 : (pT M_271).find? (fun e => e.1 == 35) = some (35, .iload_n 2, 0, 0) := rfl
theorem te_271_36 : (pT M_271).find? (fun e => e.1 == 36) = some (36, .iload 5, 0, 0) := rfl
theorem te_271_38 : (pT M_271).find? (fun e => e.1 == 38) = some (38, .iadd, 0, 0) := rfl
theorem te_271_39 : (pT M_271).find? (fun e => e.1 == 39) = some (39, .iload_n 3, 0, 0) := rfl
theorem te_271_40 : (pT M_271).find? (fun e => e.1 == 40) = some (40, .invokestatic 211, 272, 2) := rfl
theorem te_271_43 : (pT M_271).find? (fun e => e.1 == 43) = some (43, .iadd, 0, 0) := rfl
theorem te_271_44 : (pT M_271).find? (fun e => e.1 == 44) = some (44, .dup2, 0, 0) := rfl
theorem te_271_45 : (pT M_271).find? (fun e => e.1 == 45) = some (45, .iaload, 0, 0) := rfl
theorem te_271_46 : (pT M_271).find? (fun e => e.1 == 46) = some (46, .iload 4, 0, 0) := rfl
theorem te_271_48 : (pT M_271).find? (fun e => e.1 == 48) = some (48, .iadd, 0, 0) := rfl
theorem te_271_49 : (pT M_271).find? (fun e => e.1 == 49) = some (49, .iastore, 0, 0) := rfl
theorem te_271_50 : (pT M_271).find? (fun e => e.1 == 50) = some (50, .iinc 5 1, 0, 0) := rfl
theorem te_271_53 : (pT M_271).find? (fun e => e.1 == 53) = some (53, .goto (-50), 0, 0) := rfl
theorem te_271_56 : (pT M_271).find? (fun e => e.1 == 56) = some (56, .return_, 0, 0) := rfl
theorem te_273_0 : (pT M_273).find? (fun e => e.1 == 0) = some (0, .iconst 0, 0, 0) := rfl
theorem te_273_1 : (pT M_273).find? (fun e => e.1 == 1) = some (1, .istore_n 3, 0, 0) := rfl
theorem te_273_2 : (pT M_273).find? (fun e => e.1 == 2) = some (2, .iload_n 3, 0, 0) := rfl
theorem te_273_3 : (pT M_273).find? (fun e => e.1 == 3) = some (3, .iload_n 2, 0, 0) := rfl
theorem te_273_4 : (pT M_273).find? (fun e => e.1 == 4) = some (4, .if_icmp .ge 31, 0, 0) := rfl
theorem te_273_7 : (pT M_273).find? (fun e => e.1 == 7) = some (7, .aload_n 0, 0, 0) := rfl
theorem te_273_8 : (pT M_273).find? (fun e => e.1 == 8) = some (8, .getfield 59, 10, 19) := rfl
theorem te_273_11 : (pT M_273).find? (fun e => e.1 == 11) = some (11, .bipush 12, 0, 0) := rfl
theorem te_273_13 : (pT M_273).find? (fun e => e.1 == 13) = some (13, .iload_n 1, 0, 0) := rfl
theorem te_273_14 : (pT M_273).find? (fun e => e.1 == 14) = some (14, .imul, 0, 0) := rfl
theorem te_273_15 : (pT M_273).find? (fun e => e.1 == 15) = some (15, .iload_n 3, 0, 0) := rfl
theorem te_273_16 : (pT M_273).find? (fun e => e.1 == 16) = some (16, .iadd, 0, 0) := rfl
theorem te_273_17 : (pT M_273).find? (fun e => e.1 == 17) = some (17, .iaload, 0, 0) := rfl
theorem te_273_18 : (pT M_273).find? (fun e => e.1 == 18) = some (18, .aload_n 0, 0, 0) := rfl
theorem te_273_19 : (pT M_273).find? (fun e => e.1 == 19) = some (19, .getfield 37, 10, 11) := rfl
theorem te_273_22 : (pT M_273).find? (fun e => e.1 == 22) = some (22, .iload_n 1, 0, 0) := rfl
theorem te_273_23 : (pT M_273).find? (fun e => e.1 == 23) = some (23, .iaload, 0, 0) := rfl
theorem te_273_24 : (pT M_273).find? (fun e => e.1 == 24) = some (24, .if_icmp .le 5, 0, 0) := rfl
theorem te_273_27 : (pT M_273).find? (fun e => e.1 == 27) = some (27, .iconst 1, 0, 0) := rfl
theorem te_273_28 : (pT M_273).find? (fun e => e.1 == 28) = some (28, .ireturn, 0, 0) := rfl
theorem te_273_29 : (pT M_273).find? (fun e => e.1 == 29) = some (29, .iinc 3 1, 0, 0) := rfl
theorem te_273_32 : (pT M_273).find? (fun e => e.1 == 32) = some (32, .goto (-30), 0, 0) := rfl
theorem te_273_35 : (pT M_273).find? (fun e => e.1 == 35) = some (35, .iconst 0, 0, 0) := rfl
theorem te_273_36 : (pT M_273).find? (fun e => e.1 == 36) = some (36, .ireturn, 0, 0) := rfl
theorem te_274_0 : (pT M_274).find? (fun e => e.1 == 0) = some (0, .iconst 0, 0, 0) := rfl
theorem te_274_1 : (pT M_274).find? (fun e => e.1 == 1) = some (1, .istore_n 3, 0, 0) := rfl
theorem te_274_2 : (pT M_274).find? (fun e => e.1 == 2) = some (2, .iload_n 3, 0, 0) := rfl
theorem te_274_3 : (pT M_274).find? (fun e => e.1 == 3) = some (3, .iload_n 1, 0, 0) := rfl
theorem te_274_4 : (pT M_274).find? (fun e => e.1 == 4) = some (4, .if_icmp .ge 85, 0, 0) := rfl
theorem te_274_7 : (pT M_274).find? (fun e => e.1 == 7) = some (7, .iconst 0, 0, 0) := rfl
theorem te_274_8 : (pT M_274).find? (fun e => e.1 == 8) = some (8, .istore 4, 0, 0) := rfl
theorem te_274_10 : (pT M_274).find? (fun e => e.1 == 10) = some (10, .iload 4, 0, 0) := rfl
theorem te_274_12 : (pT M_274).find? (fun e => e.1 == 12) = some (12, .iload_n 1, 0, 0) := rfl
theorem te_274_13 : (pT M_274).find? (fun e => e.1 == 13) = some (13, .if_icmp .ge 70, 0, 0) := rfl
theorem te_274_16 : (pT M_274).find? (fun e => e.1 == 16) = some (16, .aload_n 0, 0, 0) := rfl
theorem te_274_17 : (pT M_274).find? (fun e => e.1 == 17) = some (17, .getfield 52, 10, 17) := rfl
theorem te_274_20 : (pT M_274).find? (fun e => e.1 == 20) = some (20, .bipush 8, 0, 0) := rfl
theorem te_274_22 : (pT M_274).find? (fun e => e.1 == 22) = some (22, .iload_n 3, 0, 0) := rfl
theorem te_274_23 : (pT M_274).find? (fun e => e.1 == 23) = some (23, .imul, 0, 0) := rfl
theorem te_274_24 : (pT M_274).find? (fun e => e.1 == 24) = some (24, .iload 4, 0, 0) := rfl
theorem te_274_26 : (pT M_274).find? (fun e => e.1 == 26) = some (26, .iadd, 0, 0) := rfl
theorem te_274_27 : (pT M_274).find? (fun e => e.1 == 27) = some (27, .iaload, 0, 0) := rfl
theorem te_274_28 : (pT M_274).find? (fun e => e.1 == 28) = some (28, .istore 5, 0, 0) := rfl
theorem te_274_30 : (pT M_274).find? (fun e => e.1 == 30) = some (30, .aload_n 0, 0, 0) := rfl
theorem te_274_31 : (pT M_274).find? (fun e => e.1 == 31) = some (31, .getfield 68, 10, 22) := rfl
theorem te_274_34 : (pT M_274).find? (fun e => e.1 == 34) = some (34, .bipush 8, 0, 0) := rfl
theorem te_274_36 : (pT M_274).find? (fun e => e.1 == 36) = some (36, .iload_n 3, 0, 0) := rfl
theorem te_274_37 : (pT M_274).find? (fun e => e.1 == 37) = some (37, .imul, 0, 0) := rfl
theorem te_274_38 : (pT M_274).find? (fun e => e.1 == 38) = some (38, .iload 4, 0, 0) := rfl
theorem te_274_40 : (pT M_274).find? (fun e => e.1 == 40) = some (40, .iadd, 0, 0) := rfl
theorem te_274_41 : (pT M_274).find? (fun e => e.1 == 41) = some (41, .iload 5, 0, 0) := rfl
theorem te_274_43 : (pT M_274).find? (fun e => e.1 == 43) = some (43, .sipush (-1000), 0, 0) := rfl
theorem te_274_46 : (pT M_274).find? (fun e => e.1 == 46) = some (46, .if_icmp .ne 9, 0, 0) := rfl
theorem te_274_49 : (pT M_274).find? (fun e => e.1 == 49) = some (49, .sipush (-1000), 0, 0) := rfl
theorem te_274_52 : (pT M_274).find? (fun e => e.1 == 52) = some (52, .goto 24, 0, 0) := rfl
theorem te_274_55 : (pT M_274).find? (fun e => e.1 == 55) = some (55, .iload 5, 0, 0) := rfl
theorem te_274_57 : (pT M_274).find? (fun e => e.1 == 57) = some (57, .aload_n 0, 0, 0) := rfl
theorem te_274_58 : (pT M_274).find? (fun e => e.1 == 58) = some (58, .getfield 62, 10, 20) := rfl
theorem te_274_61 : (pT M_274).find? (fun e => e.1 == 61) = some (61, .iload_n 3, 0, 0) := rfl
theorem te_274_62 : (pT M_274).find? (fun e => e.1 == 62) = some (62, .iaload, 0, 0) := rfl
theorem te_274_63 : (pT M_274).find? (fun e => e.1 == 63) = some (63, .iadd, 0, 0) := rfl
theorem te_274_64 : (pT M_274).find? (fun e => e.1 == 64) = some (64, .aload_n 0, 0, 0) := rfl
theorem te_274_65 : (pT M_274).find? (fun e => e.1 == 65) = some (65, .getfield 62, 10, 20) := rfl
theorem te_274_68 : (pT M_274).find? (fun e => e.1 == 68) = some (68, .iload 4, 0, 0) := rfl
theorem te_274_70 : (pT M_274).find? (fun e => e.1 == 70) = some (70, .iaload, 0, 0) := rfl
theorem te_274_71 : (pT M_274).find? (fun e => e.1 == 71) = some (71, .isub, 0, 0) := rfl
theorem te_274_72 : (pT M_274).find? (fun e => e.1 == 72) = some (72, .iload_n 2, 0, 0) := rfl
theorem te_274_73 : (pT M_274).find? (fun e => e.1 == 73) = some (73, .invokestatic 192, 275, 2) := rfl
theorem te_274_76 : (pT M_274).find? (fun e => e.1 == 76) = some (76, .iastore, 0, 0) := rfl
theorem te_274_77 : (pT M_274).find? (fun e => e.1 == 77) = some (77, .iinc 4 1, 0, 0) := rfl
theorem te_274_80 : (pT M_274).find? (fun e => e.1 == 80) = some (80, .goto (-70), 0, 0) := rfl
theorem te_274_83 : (pT M_274).find? (fun e => e.1 == 83) = some (83, .iinc 3 1, 0, 0) := rfl
theorem te_274_86 : (pT M_274).find? (fun e => e.1 == 86) = some (86, .goto (-84), 0, 0) := rfl
theorem te_274_89 : (pT M_274).find? (fun e => e.1 == 89) = some (89, .iconst 0, 0, 0) := rfl
theorem te_274_90 : (pT M_274).find? (fun e => e.1 == 90) = some (90, .istore_n 3, 0, 0) := rfl
theorem te_274_91 : (pT M_274).find? (fun e => e.1 == 91) = some (91, .iload_n 3, 0, 0) := rfl
theorem te_274_92 : (pT M_274).find? (fun e => e.1 == 92) = some (92, .iload_n 1, 0, 0) := rfl
theorem te_274_93 : (pT M_274).find? (fun e => e.1 == 93) = some (93, .if_icmp .ge 122, 0, 0) := rfl
theorem te_274_96 : (pT M_274).find? (fun e => e.1 == 96) = some (96, .iconst 0, 0, 0) := rfl
theorem te_274_97 : (pT M_274).find? (fun e => e.1 == 97) = some (97, .istore 4, 0, 0) := rfl
theorem te_274_99 : (pT M_274).find? (fun e => e.1 == 99) = some (99, .iload 4, 0, 0) := rfl
theorem te_274_101 : (pT M_274).find? (fun e => e.1 == 101) = some (101, .iload_n 1, 0, 0) := rfl
theorem te_274_102 : (pT M_274).find? (fun e => e.1 == 102) = some (102, .if_icmp .ge 107, 0, 0) := rfl
theorem te_274_105 : (pT M_274).find? (fun e => e.1 == 105) = some (105, .iconst 0, 0, 0) := rfl
theorem te_274_106 : (pT M_274).find? (fun e => e.1 == 106) = some (106, .istore 5, 0, 0) := rfl
theorem te_274_108 : (pT M_274).find? (fun e => e.1 == 108) = some (108, .iload 5, 0, 0) := rfl
theorem te_274_110 : (pT M_274).find? (fun e => e.1 == 110) = some (110, .iload_n 1, 0, 0) := rfl
theorem te_274_111 : (pT M_274).find? (fun e => e.1 == 111) = some (111, .if_icmp .ge 92, 0, 0) := rfl
theorem te_274_114 : (pT M_274).find? (fun e => e.1 == 114) = some (114, .aload_n 0, 0, 0) := rfl
theorem te_274_115 : (pT M_274).find? (fun e => e.1 == 115) = some (115, .getfield 68, 10, 22) := rfl
theorem te_274_118 : (pT M_274).find? (fun e => e.1 == 118) = some (118, .bipush 8, 0, 0) := rfl
theorem te_274_120 : (pT M_274).find? (fun e => e.1 == 120) = some (120, .iload 4, 0, 0) := rfl
theorem te_274_122 : (pT M_274).find? (fun e => e.1 == 122) = some (122, .imul, 0, 0) := rfl
theorem te_274_123 : (pT M_274).find? (fun e => e.1 == 123) = some (123, .iload_n 3, 0, 0) := rfl
theorem te_274_124 : (pT M_274).find? (fun e => e.1 == 124) = some (124, .iadd, 0, 0) := rfl
theorem te_274_125 : (pT M_274).find? (fun e => e.1 == 125) = some (125, .iaload, 0, 0) := rfl
theorem te_274_126 : (pT M_274).find? (fun e => e.1 == 126) = some (126, .istore 6, 0, 0) := rfl
theorem te_274_128 : (pT M_274).find? (fun e => e.1 == 128) = some (128, .aload_n 0, 0, 0) := rfl
theorem te_274_129 : (pT M_274).find? (fun e => e.1 == 129) = some (129, .getfield 68, 10, 22) := rfl
theorem te_274_132 : (pT M_274).find? (fun e => e.1 == 132) = some (132, .bipush 8, 0, 0) := rfl
theorem te_274_134 : (pT M_274).find? (fun e => e.1 == 134) = some (134, .iload_n 3, 0, 0) := rfl
theorem te_274_135 : (pT M_274).find? (fun e => e.1 == 135) = some (135, .imul, 0, 0) := rfl
theorem te_274_136 : (pT M_274).find? (fun e => e.1 == 136) = some (136, .iload 5, 0, 0) := rfl
theorem te_274_138 : (pT M_274).find? (fun e => e.1 == 138) = some (138, .iadd, 0, 0) := rfl
theorem te_274_139 : (pT M_274).find? (fun e => e.1 == 139) = some (139, .iaload, 0, 0) := rfl
theorem te_274_140 : (pT M_274).find? (fun e => e.1 == 140) = some (140, .istore 7, 0, 0) := rfl
theorem te_274_142 : (pT M_274).find? (fun e => e.1 == 142) = some (142, .iload 6, 0, 0) := rfl
theorem te_274_144 : (pT M_274).find? (fun e => e.1 == 144) = some (144, .sipush (-1000), 0, 0) := rfl
theorem te_274_147 : (pT M_274).find? (fun e => e.1 == 147) = some (147, .if_icmp .le 50, 0, 0) := rfl
theorem te_274_150 : (pT M_274).find? (fun e => e.1 == 150) = some (150, .iload 7, 0, 0) := rfl
theorem te_274_152 : (pT M_274).find? (fun e => e.1 == 152) = some (152, .sipush (-1000), 0, 0) := rfl
theorem te_274_155 : (pT M_274).find? (fun e => e.1 == 155) = some (155, .if_icmp .le 42, 0, 0) := rfl
theorem te_274_158 : (pT M_274).find? (fun e => e.1 == 158) = some (158, .aload_n 0, 0, 0) := rfl
theorem te_274_159 : (pT M_274).find? (fun e => e.1 == 159) = some (159, .getfield 68, 10, 22) := rfl
theorem te_274_162 : (pT M_274).find? (fun e => e.1 == 162) = some (162, .bipush 8, 0, 0) := rfl
theorem te_274_164 : (pT M_274).find? (fun e => e.1 == 164) = some (164, .iload 4, 0, 0) := rfl
theorem te_274_166 : (pT M_274).find? (fun e => e.1 == 166) = some (166, .imul, 0, 0) := rfl
theorem te_274_167 : (pT M_274).find? (fun e => e.1 == 167) = some (167, .iload 5, 0, 0) := rfl
theorem te_274_169 : (pT M_274).find? (fun e => e.1 == 169) = some (169, .iadd, 0, 0) := rfl
theorem te_274_170 : (pT M_274).find? (fun e => e.1 == 170) = some (170, .aload_n 0, 0, 0) := rfl
theorem te_274_171 : (pT M_274).find? (fun e => e.1 == 171) = some (171, .getfield 68, 10, 22) := rfl
theorem te_274_174 : (pT M_274).find? (fun e => e.1 == 174) = some (174, .bipush 8, 0, 0) := rfl
theorem te_274_176 : (pT M_274).find? (fun e => e.1 == 176) = some (176, .iload 4, 0, 0) := rfl
theorem te_274_178 : (pT M_274).find? (fun e => e.1 == 178) = some (178, .imul, 0, 0) := rfl
theorem te_274_179 : (pT M_274).find? (fun e => e.1 == 179) = some (179, .iload 5, 0, 0) := rfl
theorem te_274_181 : (pT M_274).find? (fun e => e.1 == 181) = some (181, .iadd, 0, 0) := rfl
theorem te_274_182 : (pT M_274).find? (fun e => e.1 == 182) = some (182, .iaload, 0, 0) := rfl
theorem te_274_183 : (pT M_274).find? (fun e => e.1 == 183) = some (183, .bipush 99, 0, 0) := rfl
theorem te_274_185 : (pT M_274).find? (fun e => e.1 == 185) = some (185, .iload 6, 0, 0) := rfl
theorem te_274_187 : (pT M_274).find? (fun e => e.1 == 187) = some (187, .iload 7, 0, 0) := rfl
theorem te_274_189 : (pT M_274).find? (fun e => e.1 == 189) = some (189, .iadd, 0, 0) := rfl
theorem te_274_190 : (pT M_274).find? (fun e => e.1 == 190) = some (190, .invokestatic 170, 258, 2) := rfl
theorem te_274_193 : (pT M_274).find? (fun e => e.1 == 193) = some (193, .invokestatic 167, 257, 2) := rfl
theorem te_274_196 : (pT M_274).find? (fun e => e.1 == 196) = some (196, .iastore, 0, 0) := rfl
theorem te_274_197 : (pT M_274).find? (fun e => e.1 == 197) = some (197, .iinc 5 1, 0, 0) := rfl
theorem te_274_200 : (pT M_274).find? (fun e => e.1 == 200) = some (200, .goto (-92), 0, 0) := rfl
theorem te_274_203 : (pT M_274).find? (fun e => e.1 == 203) = some (203, .iinc 4 1, 0, 0) := rfl
theorem te_274_206 : (pT M_274).find? (fun e => e.1 == 206) = some (206, .goto (-107), 0, 0) := rfl
theorem te_274_209 : (pT M_274).find? (fun e => e.1 == 209) = some (209, .iinc 3 1, 0, 0) := rfl
theorem te_274_212 : (pT M_274).find? (fun e => e.1 == 212) = some (212, .goto (-121), 0, 0) := rfl
theorem te_274_215 : (pT M_274).find? (fun e => e.1 == 215) = some (215, .iconst 0, 0, 0) := rfl
theorem te_274_216 : (pT M_274).find? (fun e => e.1 == 216) = some (216, .istore_n 3, 0, 0) := rfl
theorem te_274_217 : (pT M_274).find? (fun e => e.1 == 217) = some (217, .iload_n 3, 0, 0) := rfl
theorem te_274_218 : (pT M_274).find? (fun e => e.1 == 218) = some (218, .iload_n 1, 0, 0) := rfl
theorem te_274_219 : (pT M_274).find? (fun e => e.1 == 219) = some (219, .if_icmp .ge 25, 0, 0) := rfl
theorem te_274_222 : (pT M_274).find? (fun e => e.1 == 222) = some (222, .aload_n 0, 0, 0) := rfl
theorem te_274_223 : (pT M_274).find? (fun e => e.1 == 223) = some (223, .getfield 68, 10, 22) := rfl
theorem te_274_226 : (pT M_274).find? (fun e => e.1 == 226) = some (226, .bipush 8, 0, 0) := rfl
theorem te_274_228 : (pT M_274).find? (fun e => e.1 == 228) = some (228, .iload_n 3, 0, 0) := rfl
theorem te_274_229 : (pT M_274).find? (fun e => e.1 == 229) = some (229, .imul, 0, 0) := rfl
theorem te_274_230 : (pT M_274).find? (fun e => e.1 == 230) = some (230, .iload_n 3, 0, 0) := rfl
theorem te_274_231 : (pT M_274).find? (fun e => e.1 == 231) = some (231, .iadd, 0, 0) := rfl
theorem te_274_232 : (pT M_274).find? (fun e => e.1 == 232) = some (232, .iaload, 0, 0) := rfl
theorem te_274_233 : (pT M_274).find? (fun e => e.1 == 233) = some (233, .ifCond .le 5, 0, 0) := rfl
theorem te_274_236 : (pT M_274).find? (fun e => e.1 == 236) = some (236, .iconst 0, 0, 0) := rfl
theorem te_274_237 : (pT M_274).find? (fun e => e.1 == 237) = some (237, .ireturn, 0, 0) := rfl
theorem te_274_238 : (pT M_274).find? (fun e => e.1 == 238) = some (238, .iinc 3 1, 0, 0) := rfl
theorem te_274_241 : (pT M_274).find? (fun e => e.1 == 241) = some (241, .goto (-24), 0, 0) := rfl
theorem te_274_244 : (pT M_274).find? (fun e => e.1 == 244) = some (244, .iconst 1, 0, 0) := rfl
theorem te_274_245 : (pT M_274).find? (fun e => e.1 == 245) = some (245, .ireturn, 0, 0) := rfl
theorem te_276_0 : (pT M_276).find? (fun e => e.1 == 0) = some (0, .iconst 0, 0, 0) := rfl
theorem te_276_1 : (pT M_276).find? (fun e => e.1 == 1) = some (1, .istore_n 2, 0, 0) := rfl
theorem te_276_2 : (pT M_276).find? (fun e => e.1 == 2) = some (2, .iload_n 2, 0, 0) := rfl
theorem te_276_3 : (pT M_276).find? (fun e => e.1 == 3) = some (3, .aload_n 0, 0, 0) := rfl
theorem te_276_4 : (pT M_276).find? (fun e => e.1 == 4) = some (4, .getfield 108, 10, 1) := rfl
theorem te_276_7 : (pT M_276).find? (fun e => e.1 == 7) = some (7, .if_icmp .ge 21, 0, 0) := rfl
theorem te_276_10 : (pT M_276).find? (fun e => e.1 == 10) = some (10, .aload_n 0, 0, 0) := rfl
theorem te_276_11 : (pT M_276).find? (fun e => e.1 == 11) = some (11, .getfield 65, 10, 21) := rfl
theorem te_276_14 : (pT M_276).find? (fun e => e.1 == 14) = some (14, .iload_n 2, 0, 0) := rfl
theorem te_276_15 : (pT M_276).find? (fun e => e.1 == 15) = some (15, .aload_n 0, 0, 0) := rfl
theorem te_276_16 : (pT M_276).find? (fun e => e.1 == 16) = some (16, .getfield 62, 10, 20) := rfl
theorem te_276_19 : (pT M_276).find? (fun e => e.1 == 19) = some (19, .iload_n 2, 0, 0) := rfl
theorem te_276_20 : (pT M_276).find? (fun e => e.1 == 20) = some (20, .iaload, 0, 0) := rfl
theorem te_276_21 : (pT M_276).find? (fun e => e.1 == 21) = some (21, .iastore, 0, 0) := rfl
theorem te_276_22 : (pT M_276).find? (fun e => e.1 == 22) = some (22, .iinc 2 1, 0, 0) := rfl
theorem te_276_25 : (pT M_276).find? (fun e => e.1 == 25) = some (25, .goto (-23), 0, 0) := rfl
theorem te_276_28 : (pT M_276).find? (fun e => e.1 == 28) = some (28, .iconst 1, 0, 0) := rfl
theorem te_276_29 : (pT M_276).find? (fun e => e.1 == 29) = some (29, .istore_n 2, 0, 0) := rfl
theorem te_276_30 : (pT M_276).find? (fun e => e.1 == 30) = some (30, .iload_n 2, 0, 0) := rfl
theorem te_276_31 : (pT M_276).find? (fun e => e.1 == 31) = some (31, .ifCond .eq 97, 0, 0) := rfl
theorem te_276_34 : (pT M_276).find? (fun e => e.1 == 34) = some (34, .iconst 0, 0, 0) := rfl
theorem te_276_35 : (pT M_276).find? (fun e => e.1 == 35) = some (35, .istore_n 2, 0, 0) := rfl
theorem te_276_36 : (pT M_276).find? (fun e => e.1 == 36) = some (36, .iconst 0, 0, 0) := rfl
theorem te_276_37 : (pT M_276).find? (fun e => e.1 == 37) = some (37, .istore_n 3, 0, 0) := rfl
theorem te_276_38 : (pT M_276).find? (fun e => e.1 == 38) = some (38, .iload_n 3, 0, 0) := rfl
theorem te_276_39 : (pT M_276).find? (fun e => e.1 == 39) = some (39, .aload_n 0, 0, 0) := rfl
theorem te_276_40 : (pT M_276).find? (fun e => e.1 == 40) = some (40, .getfield 141, 10, 12) := rfl
theorem te_276_43 : (pT M_276).find? (fun e => e.1 == 43) = some (43, .if_icmp .ge 82, 0, 0) := rfl
theorem te_276_46 : (pT M_276).find? (fun e => e.1 == 46) = some (46, .aload_n 0, 0, 0) := rfl
theorem te_276_47 : (pT M_276).find? (fun e => e.1 == 47) = some (47, .getfield 65, 10, 21) := rfl
theorem te_276_50 : (pT M_276).find? (fun e => e.1 == 50) = some (50, .aload_n 0, 0, 0) := rfl
theorem te_276_51 : (pT M_276).find? (fun e => e.1 == 51) = some (51, .getfield 40, 10, 13) := rfl
theorem te_276_54 : (pT M_276).find? (fun e => e.1 == 54) = some (54, .iload_n 3, 0, 0) := rfl
theorem te_276_55 : (pT M_276).find? (fun e => e.1 == 55) = some (55, .iaload, 0, 0) := rfl
theorem te_276_56 : (pT M_276).find? (fun e => e.1 == 56) = some (56, .iaload, 0, 0) := rfl
theorem te_276_57 : (pT M_276).find? (fun e => e.1 == 57) = some (57, .aload_n 0, 0, 0) := rfl
theorem te_276_58 : (pT M_276).find? (fun e => e.1 == 58) = some (58, .getfield 49, 10, 16) := rfl
theorem te_276_61 : (pT M_276).find? (fun e => e.1 == 61) = some (61, .iload_n 3, 0, 0) := rfl
theorem te_276_62 : (pT M_276).find? (fun e => e.1 == 62) = some (62, .iaload, 0, 0) := rfl
theorem te_276_63 : (pT M_276).find? (fun e => e.1 == 63) = some (63, .iadd, 0, 0) := rfl
theorem te_276_64 : (pT M_276).find? (fun e => e.1 == 64) = some (64, .iload_n 1, 0, 0) := rfl
theorem te_276_65 : (pT M_276).find? (fun e => e.1 == 65) = some (65, .aload_n 0, 0, 0) := rfl
theorem te_276_66 : (pT M_276).find? (fun e => e.1 == 66) = some (66, .getfield 46, 10, 15) := rfl
theorem te_276_69 : (pT M_276).find? (fun e => e.1 == 69) = some (69, .iload_n 3, 0, 0) := rfl
theorem te_276_70 : (pT M_276).find? (fun e => e.1 == 70) = some (70, .iaload, 0, 0) := rfl
theorem te_276_71 : (pT M_276).find? (fun e => e.1 == 71) = some (71, .imul, 0, 0) := rfl
theorem te_276_72 : (pT M_276).find? (fun e => e.1 == 72) = some (72, .isub, 0, 0) := rfl
theorem te_276_73 : (pT M_276).find? (fun e => e.1 == 73) = some (73, .aload_n 0, 0, 0) := rfl
theorem te_276_74 : (pT M_276).find? (fun e => e.1 == 74) = some (74, .getfield 65, 10, 21) := rfl
theorem te_276_77 : (pT M_276).find? (fun e => e.1 == 77) = some (77, .aload_n 0, 0, 0) := rfl
theorem te_276_78 : (pT M_276).find? (fun e => e.1 == 78) = some (78, .getfield 43, 10, 14) := rfl
theorem te_276_81 : (pT M_276).find? (fun e => e.1 == 81) = some (81, .iload_n 3, 0, 0) := rfl
theorem te_276_82 : (pT M_276).find? (fun e => e.1 == 82) = some (82, .iaload, 0, 0) := rfl
theorem te_276_83 : (pT M_276).find? (fun e => e.1 == 83) = some (83, .iaload, 0, 0) := rfl
theorem te_276_84 : (pT M_276).find? (fun e => e.1 == 84) = some (84, .isub, 0, 0) := rfl
theorem te_276_85 : (pT M_276).find? (fun e => e.1 == 85) = some (85, .istore 4, 0, 0) := rfl
theorem te_276_87 : (pT M_276).find? (fun e => e.1 == 87) = some (87, .iload 4, 0, 0) := rfl
theorem te_276_89 : (pT M_276).find? (fun e => e.1 == 89) = some (89, .ifCond .gt 6, 0, 0) := rfl
theorem te_276_92 : (pT M_276).find? (fun e => e.1 == 92) = some (92, .goto 27, 0, 0) := rfl
theorem te_276_95 : (pT M_276).find? (fun e => e.1 == 95) = some (95, .aload_n 0, 0, 0) := rfl
theorem te_276_96 : (pT M_276).find? (fun e => e.1 == 96) = some (96, .getfield 65, 10, 21) := rfl
theorem te_276_99 : (pT M_276).find? (fun e => e.1 == 99) = some (99, .aload_n 0, 0, 0) := rfl
theorem te_276_100 : (pT M_276).find? (fun e => e.1 == 100) = some (100, .getfield 43, 10, 14) := rfl
theorem te_276_103 : (pT M_276).find? (fun e => e.1 == 103) = some (103, .iload_n 3, 0, 0) := rfl
theorem te_276_104 : (pT M_276).find? (fun e => e.1 == 104) = some (104, .iaload, 0, 0) := rfl
theorem te_276_105 : (pT M_276).find? (fun e => e.1 == 105) = some (105, .dup2, 0, 0) := rfl
theorem te_276_106 : (pT M_276).find? (fun e => e.1 == 106) = some (106, .iaload, 0, 0) := rfl
theorem te_276_107 : (pT M_276).find? (fun e => e.1 == 107) = some (107, .iload_n 1, 0, 0) := rfl
theorem te_276_108 : (pT M_276).find? (fun e => e.1 == 108) = some (108, .iload 4, 0, 0) := rfl
theorem te_276_110 : (pT M_276).find? (fun e => e.1 == 110) = some (110, .iload_n 1, 0, 0) := rfl
theorem te_276_111 : (pT M_276).find? (fun e => e.1 == 111) = some (111, .invokestatic 192, 275, 2) := rfl
theorem te_276_114 : (pT M_276).find? (fun e => e.1 == 114) = some (114, .imul, 0, 0) := rfl
theorem te_276_115 : (pT M_276).find? (fun e => e.1 == 115) = some (115, .iadd, 0, 0) := rfl
theorem te_276_116 : (pT M_276).find? (fun e => e.1 == 116) = some (116, .iastore, 0, 0) := rfl
theorem te_276_117 : (pT M_276).find? (fun e => e.1 == 117) = some (117, .iconst 1, 0, 0) := rfl
theorem te_276_118 : (pT M_276).find? (fun e => e.1 == 118) = some (118, .istore_n 2, 0, 0) := rfl
theorem te_276_119 : (pT M_276).find? (fun e => e.1 == 119) = some (119, .iinc 3 1, 0, 0) := rfl
theorem te_276_122 : (pT M_276).find? (fun e => e.1 == 122) = some (122, .goto (-84), 0, 0) := rfl
theorem te_276_125 : (pT M_276).find? (fun e => e.1 == 125) = some (125, .goto (-95), 0, 0) := rfl
theorem te_276_128 : (pT M_276).find? (fun e => e.1 == 128) = some (128, .return_, 0, 0) := rfl
theorem w_270_0 {C : CXW} (hC : Cmono C) {S : Nat × (Nat → Int32)} {K : WK} {mem : MM} (H : (Wx C S M_270 K 2 [some (.inr 143), some (.inl 0)] [] mem)) : Wx C S M_270 K 0 [some (.inr 143), none] [] mem := by
  refine Wx.iconst hC te_270_0 rfl ?_
  refine Wx.istore_n hC te_270_1 rfl ?_
  exact H
theorem w_270_2 {C : CXW} (hC : Cmono C) {S : Nat × (Nat → Int32)} {K : WK} {mem : MM} {x1 : Int} (H : ((36 ≤ x1 → (K none mem)) ∧ (¬ (36 ≤ x1) → ((0 : Int) ≤ x1 ∧ (x1 : Int) < 36) ∧ (InI (x1 + 1)) ∧ (Wx C S M_270 K 2 [some (.inr 143), some (.inl (x1 + 1))] [] (upm mem 159 (Int.toNat x1) 0))))) : Wx C S M_270 K 2 [some (.inr 143), some (.inl x1)] [] mem := by
  refine Wx.iload_n hC te_270_2 rfl ?_
  refine Wx.bipush hC te_270_3 rfl rfl ?_
  refine Wx.icmp hC (t := 21) te_270_5 (by decide) (fun q => ?_) (fun q => ?_)
  · replace H := H.1 q
    exact Wx.vret hC te_270_21 rfl H
  · replace H := H.2 q
    refine Wx.aload_n hC te_270_8 rfl ?_
    refine Wx.getR hC te_270_9 rfl rfl rfl ?_
    refine Wx.iload_n hC te_270_12 rfl ?_
    refine Wx.iconst hC te_270_13 rfl ?_
    refine Wx.iast hC te_270_14 rfl H.1 ?_
    replace H := H.2
    refine Wx.iinc hC te_270_15 rfl rfl H.1 ?_
    replace H := H.2
    refine Wx.goto hC (t := 2) te_270_18 (by decide) ?_
    exact H
theorem w_271_0 {C : CXW} (hC : Cmono C) {S : Nat × (Nat → Int32)} {K : WK} {mem : MM} {x1 x2 x3 x4 : Int} (H : (Wx C S M_271 K 3 [some (.inr 143), some (.inl x1), some (.inl x2), some (.inl x3), some (.inl x4), some (.inl 0)] [] mem)) : Wx C S M_271 K 0 [some (.inr 143), some (.inl x1), some (.inl x2), some (.inl x3), some (.inl x4), none] [] mem := by
  refine Wx.iconst hC te_271_0 rfl ?_
  refine Wx.istore hC te_271_1 rfl ?_
  exact H
theorem w_271_3 {C : CXW} (hC : Cmono C) {S : Nat × (Nat → Int32)} {K : WK} {mem : MM} {x1 x2 x3 x4 x5 : Int} (H : ((4 ≤ x5 → (K none mem)) ∧ (¬ (4 ≤ x5) → (CWI C 265 [.inr 143, .inl x1] mem fun r2 m1 => InI r2 → ∀ b3 : Int, b3 = ((fun (x y : Int32) => x >>> (y &&& 31)) (Int32.ofInt r2) (Int32.ofInt x5)).toInt → InI b3 → ∀ b4 : Int, b4 = ((fun (x y : Int32) => x &&& y) (Int32.ofInt b3) (Int32.ofInt 1)).toInt → InI b4 → ((¬ b4 = 1 → (InI (x5 + 1)) ∧ (Wx C S M_271 K 3 [some (.inr 143), some (.inl x1), some (.inl x2), some (.inl x3), some (.inl x4), some (.inl (x5 + 1))] [] m1)) ∧ (¬ (¬ b4 = 1) → (CWI C 264 [.inr 143, .inl x1] m1 fun r6 m5 => InI r6 → (InI (12 * r6)) ∧ (InI (x2 + x5)) ∧ (CWI C 272 [.inl (x2 + x5), .inl x3] m5 fun r8 m7 => InI r8 → (InI ((12 * r6) + r8)) ∧ ((0 : Int) ≤ ((12 * r6) + r8) ∧ (((12 * r6) + r8) : Int) < 36) ∧ ∀ v9 : Int, v9 = m7 159 (Int.toNat ((12 * r6) + r8)) → InI v9 → ∀ z10 : Int, InI z10 → (InI (v9 + x4) → z10 = v9 + x4) → ((0 : Int) ≤ ((12 * r6) + r8) ∧ (((12 * r6) + r8) : Int) < 36) ∧ (InI (x5 + 1)) ∧ (Wx C S M_271 K 3 [some (.inr 143), some (.inl x1), some (.inl x2), some (.inl x3), some (.inl x4), some (.inl (x5 + 1))] [] (upm m7 159 (Int.toNat ((12 * r6) + r8)) z10)))))))))) : Wx C S M_271 K 3 [some (.inr 143), some (.inl x1), some (.inl x2), some (.inl x3), some (.inl x4), some (.inl x5)] [] mem := by
  refine Wx.iload hC te_271_3 rfl ?_
  refine Wx.iconst hC te_271_5 rfl ?_
  refine Wx.icmp hC (t := 56) te_271_6 (by decide) (fun q => ?_) (fun q => ?_)
  · replace H := H.1 q
    exact Wx.vret hC te_271_56 rfl H
  · replace H := H.2 q
    refine Wx.aload_n hC te_271_9 rfl ?_
    refine Wx.iload_n hC te_271_10 rfl ?_
    refine Wx.virtI hC te_271_11 mt_265 (args := [.inr 143, .inl x1]) (rest := []) rfl rfl rfl rfl rfl rfl rfl rfl ?_
    refine CWI.mono hC (fun r2 m1 H hy => ?_) H
    replace H := H hy
    refine Wx.iload hC te_271_14 rfl ?_
    refine Wx.bits hC (f := (fun (x y : Int32) => x >>> (y &&& 31))) te_271_16 (fun _ _ _ _ => Iff.rfl) (fun b3 e1 e2 => ?_)
    replace H := H b3 e1 e2
    refine Wx.iconst hC te_271_17 rfl ?_
    refine Wx.bits hC (f := (fun (x y : Int32) => x &&& y)) te_271_18 (fun _ _ _ _ => Iff.rfl) (fun b4 e1 e2 => ?_)
    replace H := H b4 e1 e2
    refine Wx.iconst hC te_271_19 rfl ?_
    refine Wx.icmp hC (t := 50) te_271_20 (by decide) (fun q => ?_) (fun q => ?_)
    · replace H := H.1 q
      refine Wx.iinc hC te_271_50 rfl rfl H.1 ?_
      replace H := H.2
      refine Wx.goto hC (t := 3) te_271_53 (by decide) ?_
      exact H
    · replace H := H.2 q
      refine Wx.aload_n hC te_271_23 rfl ?_
      refine Wx.getR hC te_271_24 rfl rfl rfl ?_
      refine Wx.bipush hC te_271_27 rfl rfl ?_
      refine Wx.aload_n hC te_271_29 rfl ?_
      refine Wx.iload_n hC te_271_30 rfl ?_
      refine Wx.virtI hC te_271_31 mt_264 (args := [.inr 143, .inl x1]) (rest := [.inl 12, .inr 159]) rfl rfl rfl rfl rfl rfl rfl rfl ?_
      refine CWI.mono hC (fun r6 m5 H hy => ?_) H
      replace H := H hy
      refine Wx.imul hC te_271_34 H.1 ?_
      replace H := H.2
      refine Wx.iload_n hC te_271_35 rfl ?_
      refine Wx.iload hC te_271_36 rfl ?_
      refine Wx.iadd hC te_271_38 H.1 ?_
      replace H := H.2
      refine Wx.iload_n hC te_271_39 rfl ?_
      refine Wx.statI hC te_271_40 (by decide) mt_272 (args := [.inl (x2 + x5), .inl x3]) (rest := [.inl (12 * r6), .inr 159]) rfl rfl rfl rfl rfl ?_
      refine CWI.mono hC (fun r8 m7 H hy => ?_) H
      replace H := H hy
      refine Wx.iadd hC te_271_43 H.1 ?_
      replace H := H.2
      refine Wx.dup2 hC te_271_44 ?_
      refine Wx.iald hC te_271_45 rfl H.1 (fun v9 e1 e2 => ?_)
      replace H := H.2 v9 e1 e2
      refine Wx.iload hC te_271_46 rfl ?_
      refine Wx.iaddW hC te_271_48 (fun z10 e1 e2 => ?_)
      replace H := H z10 e1 e2
      refine Wx.iast hC te_271_49 rfl H.1 ?_
      replace H := H.2
      refine Wx.iinc hC te_271_50 rfl rfl H.1 ?_
      replace H := H.2
      refine Wx.goto hC (t := 3) te_271_53 (by decide) ?_
      exact H
theorem w_273_0 {C : CXW} (hC : Cmono C) {S : Nat × (Nat → Int32)} {K : WK} {mem : MM} {x1 x2 : Int} (H : (Wx C S M_273 K 2 [some (.inr 143), some (.inl x1), some (.inl x2), some (.inl 0)] [] mem)) : Wx C S M_273 K 0 [some (.inr 143), some (.inl x1), some (.inl x2), none] [] mem := by
  refine Wx.iconst hC te_273_0 rfl ?_
  refine Wx.istore_n hC te_273_1 rfl ?_
  exact H
theorem w_273_2 {C : CXW} (hC : Cmono C) {S : Nat × (Nat → Int32)} {K : WK} {mem : MM} {x1 x2 x3 : Int} (H : ((x2 ≤ x3 → (K (some 0) mem)) ∧ (¬ (x2 ≤ x3) → (InI (12 * x1)) ∧ (InI ((12 * x1) + x3)) ∧ ((0 : Int) ≤ ((12 * x1) + x3) ∧ (((12 * x1) + x3) : Int) < 36) ∧ ∀ v1 : Int, v1 = mem 159 (Int.toNat ((12 * x1) + x3)) → InI v1 → ((0 : Int) ≤ x1 ∧ (x1 : Int) < 3) ∧ ∀ v2 : Int, v2 = mem 153 (Int.toNat x1) → InI v2 → ((v1 ≤ v2 → (InI (x3 + 1)) ∧ (Wx C S M_273 K 2 [some (.inr 143), some (.inl x1), some (.inl x2), some (.inl (x3 + 1))] [] mem)) ∧ (¬ (v1 ≤ v2) → (K (some 1) mem)))))) : Wx C S M_273 K 2 [some (.inr 143), some (.inl x1), some (.inl x2), some (.inl x3)] [] mem := by
  refine Wx.iload_n hC te_273_2 rfl ?_
  refine Wx.iload_n hC te_273_3 rfl ?_
  refine Wx.icmp hC (t := 35) te_273_4 (by decide) (fun q => ?_) (fun q => ?_)
  · replace H := H.1 q
    refine Wx.iconst hC te_273_35 rfl ?_
    exact Wx.bret hC te_273_36 rfl (Or.inl rfl) H
  · replace H := H.2 q
    refine Wx.aload_n hC te_273_7 rfl ?_
    refine Wx.getR hC te_273_8 rfl rfl rfl ?_
    refine Wx.bipush hC te_273_11 rfl rfl ?_
    refine Wx.iload_n hC te_273_13 rfl ?_
    refine Wx.imul hC te_273_14 H.1 ?_
    replace H := H.2
    refine Wx.iload_n hC te_273_15 rfl ?_
    refine Wx.iadd hC te_273_16 H.1 ?_
    replace H := H.2
    refine Wx.iald hC te_273_17 rfl H.1 (fun v1 e1 e2 => ?_)
    replace H := H.2 v1 e1 e2
    refine Wx.aload_n hC te_273_18 rfl ?_
    refine Wx.getR hC te_273_19 rfl rfl rfl ?_
    refine Wx.iload_n hC te_273_22 rfl ?_
    refine Wx.iald hC te_273_23 rfl H.1 (fun v2 e1 e2 => ?_)
    replace H := H.2 v2 e1 e2
    refine Wx.icmp hC (t := 29) te_273_24 (by decide) (fun q => ?_) (fun q => ?_)
    · replace H := H.1 q
      refine Wx.iinc hC te_273_29 rfl rfl H.1 ?_
      replace H := H.2
      refine Wx.goto hC (t := 2) te_273_32 (by decide) ?_
      exact H
    · replace H := H.2 q
      refine Wx.iconst hC te_273_27 rfl ?_
      exact Wx.bret hC te_273_28 rfl (Or.inr rfl) H
theorem w_274_0 {C : CXW} (hC : Cmono C) {S : Nat × (Nat → Int32)} {K : WK} {mem : MM} {x1 x2 : Int} (H : (Wx C S M_274 K 2 [some (.inr 143), some (.inl x1), some (.inl x2), some (.inl 0), none, none, none, none] [] mem)) : Wx C S M_274 K 0 [some (.inr 143), some (.inl x1), some (.inl x2), none, none, none, none, none] [] mem := by
  refine Wx.iconst hC te_274_0 rfl ?_
  refine Wx.istore_n hC te_274_1 rfl ?_
  exact H
theorem w_274_2 {C : CXW} (hC : Cmono C) {S : Nat × (Nat → Int32)} {K : WK} {mem : MM} {x1 x2 x3 : Int} (H : ((x1 ≤ x3 → (Wx C S M_274 K 91 [some (.inr 143), some (.inl x1), some (.inl x2), some (.inl 0), none, none, none, none] [] mem)) ∧ (¬ (x1 ≤ x3) → (Wx C S M_274 K 10 [some (.inr 143), some (.inl x1), some (.inl x2), some (.inl x3), some (.inl 0), none, none, none] [] mem)))) : Wx C S M_274 K 2 [some (.inr 143), some (.inl x1), some (.inl x2), some (.inl x3), none, none, none, none] [] mem := by
  refine Wx.iload_n hC te_274_2 rfl ?_
  refine Wx.iload_n hC te_274_3 rfl ?_
  refine Wx.icmp hC (t := 89) te_274_4 (by decide) (fun q => ?_) (fun q => ?_)
  · replace H := H.1 q
    refine Wx.iconst hC te_274_89 rfl ?_
    refine Wx.istore_n hC te_274_90 rfl ?_
    exact H
  · replace H := H.2 q
    refine Wx.iconst hC te_274_7 rfl ?_
    refine Wx.istore hC te_274_8 rfl ?_
    exact H
theorem w_274_10 {C : CXW} (hC : Cmono C) {S : Nat × (Nat → Int32)} {K : WK} {mem : MM} {x1 x2 x3 x4 : Int} (H : ((x1 ≤ x4 → (InI (x3 + 1)) ∧ (Wx C S M_274 K 2 [some (.inr 143), some (.inl x1), some (.inl x2), some (.inl (x3 + 1)), none, none, none, none] [] mem)) ∧ (¬ (x1 ≤ x4) → (InI (8 * x3)) ∧ (InI ((8 * x3) + x4)) ∧ ((0 : Int) ≤ ((8 * x3) + x4) ∧ (((8 * x3) + x4) : Int) < 64) ∧ ∀ v1 : Int, v1 = mem 158 (Int.toNat ((8 * x3) + x4)) → InI v1 → (InI (8 * x3)) ∧ (InI ((8 * x3) + x4)) ∧ ((¬ v1 = (-1000) → ((0 : Int) ≤ x3 ∧ (x3 : Int) < 8) ∧ ∀ v2 : Int, v2 = mem 160 (Int.toNat x3) → InI v2 → (InI (v1 + v2)) ∧ ((0 : Int) ≤ x4 ∧ (x4 : Int) < 8) ∧ ∀ v3 : Int, v3 = mem 160 (Int.toNat x4) → InI v3 → (InI ((v1 + v2) - v3)) ∧ (CWI C 275 [.inl ((v1 + v2) - v3), .inl x2] mem fun r5 m4 => InI r5 → ((0 : Int) ≤ ((8 * x3) + x4) ∧ (((8 * x3) + x4) : Int) < 64) ∧ (InI (x4 + 1)) ∧ (Wx C S M_274 K 10 [some (.inr 143), some (.inl x1), some (.inl x2), some (.inl x3), some (.inl (x4 + 1)), none, none, none] [] (upm m4 162 (Int.toNat ((8 * x3) + x4)) r5)))) ∧ (¬ (¬ v1 = (-1000)) → ((0 : Int) ≤ ((8 * x3) + x4) ∧ (((8 * x3) + x4) : Int) < 64) ∧ (InI (x4 + 1)) ∧ (Wx C S M_274 K 10 [some (.inr 143), some (.inl x1), some (.inl x2), some (.inl x3), some (.inl (x4 + 1)), none, none, none] [] (upm mem 162 (Int.toNat ((8 * x3) + x4)) (-1000)))))))) : Wx C S M_274 K 10 [some (.inr 143), some (.inl x1), some (.inl x2), some (.inl x3), some (.inl x4), none, none, none] [] mem := by
  refine Wx.iload hC te_274_10 rfl ?_
  refine Wx.iload_n hC te_274_12 rfl ?_
  refine Wx.icmp hC (t := 83) te_274_13 (by decide) (fun q => ?_) (fun q => ?_)
  · replace H := H.1 q
    refine Wx.iinc hC te_274_83 rfl rfl H.1 ?_
    replace H := H.2
    refine Wx.goto hC (t := 2) te_274_86 (by decide) ?_
    exact Wx.weak (by repeat' (first | exact trivial | exact rfl | constructor)) H
  · replace H := H.2 q
    refine Wx.aload_n hC te_274_16 rfl ?_
    refine Wx.getR hC te_274_17 rfl rfl rfl ?_
    refine Wx.bipush hC te_274_20 rfl rfl ?_
    refine Wx.iload_n hC te_274_22 rfl ?_
    refine Wx.imul hC te_274_23 H.1 ?_
    replace H := H.2
    refine Wx.iload hC te_274_24 rfl ?_
    refine Wx.iadd hC te_274_26 H.1 ?_
    replace H := H.2
    refine Wx.iald hC te_274_27 rfl H.1 (fun v1 e1 e2 => ?_)
    replace H := H.2 v1 e1 e2
    refine Wx.istore hC te_274_28 rfl ?_
    refine Wx.aload_n hC te_274_30 rfl ?_
    refine Wx.getR hC te_274_31 rfl rfl rfl ?_
    refine Wx.bipush hC te_274_34 rfl rfl ?_
    refine Wx.iload_n hC te_274_36 rfl ?_
    refine Wx.imul hC te_274_37 H.1 ?_
    replace H := H.2
    refine Wx.iload hC te_274_38 rfl ?_
    refine Wx.iadd hC te_274_40 H.1 ?_
    replace H := H.2
    refine Wx.iload hC te_274_41 rfl ?_
    refine Wx.sipush hC te_274_43 rfl rfl ?_
    refine Wx.icmp hC (t := 55) te_274_46 (by decide) (fun q => ?_) (fun q => ?_)
    · replace H := H.1 q
      refine Wx.iload hC te_274_55 rfl ?_
      refine Wx.aload_n hC te_274_57 rfl ?_
      refine Wx.getR hC te_274_58 rfl rfl rfl ?_
      refine Wx.iload_n hC te_274_61 rfl ?_
      refine Wx.iald hC te_274_62 rfl H.1 (fun v2 e1 e2 => ?_)
      replace H := H.2 v2 e1 e2
      refine Wx.iadd hC te_274_63 H.1 ?_
      replace H := H.2
      refine Wx.aload_n hC te_274_64 rfl ?_
      refine Wx.getR hC te_274_65 rfl rfl rfl ?_
      refine Wx.iload hC te_274_68 rfl ?_
      refine Wx.iald hC te_274_70 rfl H.1 (fun v3 e1 e2 => ?_)
      replace H := H.2 v3 e1 e2
      refine Wx.isub hC te_274_71 H.1 ?_
      replace H := H.2
      refine Wx.iload_n hC te_274_72 rfl ?_
      refine Wx.statI hC te_274_73 (by decide) mt_275 (args := [.inl ((v1 + v2) - v3), .inl x2]) (rest := [.inl ((8 * x3) + x4), .inr 162]) rfl rfl rfl rfl rfl ?_
      refine CWI.mono hC (fun r5 m4 H hy => ?_) H
      replace H := H hy
      refine Wx.iast hC te_274_76 rfl H.1 ?_
      replace H := H.2
      refine Wx.iinc hC te_274_77 rfl rfl H.1 ?_
      replace H := H.2
      refine Wx.goto hC (t := 10) te_274_80 (by decide) ?_
      exact Wx.weak (by repeat' (first | exact trivial | exact rfl | constructor)) H
    · replace H := H.2 q
      refine Wx.sipush hC te_274_49 rfl rfl ?_
      refine Wx.goto hC (t := 76) te_274_52 (by decide) ?_
      refine Wx.iast hC te_274_76 rfl H.1 ?_
      replace H := H.2
      refine Wx.iinc hC te_274_77 rfl rfl H.1 ?_
      replace H := H.2
      refine Wx.goto hC (t := 10) te_274_80 (by decide) ?_
      exact Wx.weak (by repeat' (first | exact trivial | exact rfl | constructor)) H
theorem w_274_91 {C : CXW} (hC : Cmono C) {S : Nat × (Nat → Int32)} {K : WK} {mem : MM} {x1 x2 x3 : Int} (H : ((x1 ≤ x3 → (Wx C S M_274 K 217 [some (.inr 143), some (.inl x1), some (.inl x2), some (.inl 0), none, none, none, none] [] mem)) ∧ (¬ (x1 ≤ x3) → (Wx C S M_274 K 99 [some (.inr 143), some (.inl x1), some (.inl x2), some (.inl x3), some (.inl 0), none, none, none] [] mem)))) : Wx C S M_274 K 91 [some (.inr 143), some (.inl x1), some (.inl x2), some (.inl x3), none, none, none, none] [] mem := by
  refine Wx.iload_n hC te_274_91 rfl ?_
  refine Wx.iload_n hC te_274_92 rfl ?_
  refine Wx.icmp hC (t := 215) te_274_93 (by decide) (fun q => ?_) (fun q => ?_)
  · replace H := H.1 q
    refine Wx.iconst hC te_274_215 rfl ?_
    refine Wx.istore_n hC te_274_216 rfl ?_
    exact H
  · replace H := H.2 q
    refine Wx.iconst hC te_274_96 rfl ?_
    refine Wx.istore hC te_274_97 rfl ?_
    exact H
theorem w_274_99 {C : CXW} (hC : Cmono C) {S : Nat × (Nat → Int32)} {K : WK} {mem : MM} {x1 x2 x3 x4 : Int} (H : ((x1 ≤ x4 → (InI (x3 + 1)) ∧ (Wx C S M_274 K 91 [some (.inr 143), some (.inl x1), some (.inl x2), some (.inl (x3 + 1)), none, none, none, none] [] mem)) ∧ (¬ (x1 ≤ x4) → (Wx C S M_274 K 108 [some (.inr 143), some (.inl x1), some (.inl x2), some (.inl x3), some (.inl x4), some (.inl 0), none, none] [] mem)))) : Wx C S M_274 K 99 [some (.inr 143), some (.inl x1), some (.inl x2), some (.inl x3), some (.inl x4), none, none, none] [] mem := by
  refine Wx.iload hC te_274_99 rfl ?_
  refine Wx.iload_n hC te_274_101 rfl ?_
  refine Wx.icmp hC (t := 209) te_274_102 (by decide) (fun q => ?_) (fun q => ?_)
  · replace H := H.1 q
    refine Wx.iinc hC te_274_209 rfl rfl H.1 ?_
    replace H := H.2
    refine Wx.goto hC (t := 91) te_274_212 (by decide) ?_
    exact Wx.weak (by repeat' (first | exact trivial | exact rfl | constructor)) H
  · replace H := H.2 q
    refine Wx.iconst hC te_274_105 rfl ?_
    refine Wx.istore hC te_274_106 rfl ?_
    exact H
theorem w_274_108 {C : CXW} (hC : Cmono C) {S : Nat × (Nat → Int32)} {K : WK} {mem : MM} {x1 x2 x3 x4 x5 : Int} (H : ((x1 ≤ x5 → (InI (x4 + 1)) ∧ (Wx C S M_274 K 99 [some (.inr 143), some (.inl x1), some (.inl x2), some (.inl x3), some (.inl (x4 + 1)), none, none, none] [] mem)) ∧ (¬ (x1 ≤ x5) → (InI (8 * x4)) ∧ (InI ((8 * x4) + x3)) ∧ ((0 : Int) ≤ ((8 * x4) + x3) ∧ (((8 * x4) + x3) : Int) < 64) ∧ ∀ v1 : Int, v1 = mem 162 (Int.toNat ((8 * x4) + x3)) → InI v1 → (InI (8 * x3)) ∧ (InI ((8 * x3) + x5)) ∧ ((0 : Int) ≤ ((8 * x3) + x5) ∧ (((8 * x3) + x5) : Int) < 64) ∧ ∀ v2 : Int, v2 = mem 162 (Int.toNat ((8 * x3) + x5)) → InI v2 → ((v1 ≤ (-1000) → (InI (x5 + 1)) ∧ (Wx C S M_274 K 108 [some (.inr 143), some (.inl x1), some (.inl x2), some (.inl x3), some (.inl x4), some (.inl (x5 + 1)), none, none] [] mem)) ∧ (¬ (v1 ≤ (-1000)) → ((v2 ≤ (-1000) → (InI (x5 + 1)) ∧ (Wx C S M_274 K 108 [some (.inr 143), some (.inl x1), some (.inl x2), some (.inl x3), some (.inl x4), some (.inl (x5 + 1)), none, none] [] mem)) ∧ (¬ (v2 ≤ (-1000)) → (InI (8 * x4)) ∧ (InI ((8 * x4) + x5)) ∧ (InI (8 * x4)) ∧ (InI ((8 * x4) + x5)) ∧ ((0 : Int) ≤ ((8 * x4) + x5) ∧ (((8 * x4) + x5) : Int) < 64) ∧ ∀ v3 : Int, v3 = mem 162 (Int.toNat ((8 * x4) + x5)) → InI v3 → (InI (v1 + v2)) ∧ (CWI C 258 [.inl 99, .inl (v1 + v2)] mem fun r5 m4 => InI r5 → (CWI C 257 [.inl v3, .inl r5] m4 fun r7 m6 => InI r7 → ((0 : Int) ≤ ((8 * x4) + x5) ∧ (((8 * x4) + x5) : Int) < 64) ∧ (InI (x5 + 1)) ∧ (Wx C S M_274 K 108 [some (.inr 143), some (.inl x1), some (.inl x2), some (.inl x3), some (.inl x4), some (.inl (x5 + 1)), none, none] [] (upm m6 162 (Int.toNat ((8 * x4) + x5)) r7))))))))))) : Wx C S M_274 K 108 [some (.inr 143), some (.inl x1), some (.inl x2), some (.inl x3), some (.inl x4), some (.inl x5), none, none] [] mem := by
  refine Wx.iload hC te_274_108 rfl ?_
  refine Wx.iload_n hC te_274_110 rfl ?_
  refine Wx.icmp hC (t := 203) te_274_111 (by decide) (fun q => ?_) (fun q => ?_)
  · replace H := H.1 q
    refine Wx.iinc hC te_274_203 rfl rfl H.1 ?_
    replace H := H.2
    refine Wx.goto hC (t := 99) te_274_206 (by decide) ?_
    exact Wx.weak (by repeat' (first | exact trivial | exact rfl | constructor)) H
  · replace H := H.2 q
    refine Wx.aload_n hC te_274_114 rfl ?_
    refine Wx.getR hC te_274_115 rfl rfl rfl ?_
    refine Wx.bipush hC te_274_118 rfl rfl ?_
    refine Wx.iload hC te_274_120 rfl ?_
    refine Wx.imul hC te_274_122 H.1 ?_
    replace H := H.2
    refine Wx.iload_n hC te_274_123 rfl ?_
    refine Wx.iadd hC te_274_124 H.1 ?_
    replace H := H.2
    refine Wx.iald hC te_274_125 rfl H.1 (fun v1 e1 e2 => ?_)
    replace H := H.2 v1 e1 e2
    refine Wx.istore hC te_274_126 rfl ?_
    refine Wx.aload_n hC te_274_128 rfl ?_
    refine Wx.getR hC te_274_129 rfl rfl rfl ?_
    refine Wx.bipush hC te_274_132 rfl rfl ?_
    refine Wx.iload_n hC te_274_134 rfl ?_
    refine Wx.imul hC te_274_135 H.1 ?_
    replace H := H.2
    refine Wx.iload hC te_274_136 rfl ?_
    refine Wx.iadd hC te_274_138 H.1 ?_
    replace H := H.2
    refine Wx.iald hC te_274_139 rfl H.1 (fun v2 e1 e2 => ?_)
    replace H := H.2 v2 e1 e2
    refine Wx.istore hC te_274_140 rfl ?_
    refine Wx.iload hC te_274_142 rfl ?_
    refine Wx.sipush hC te_274_144 rfl rfl ?_
    refine Wx.icmp hC (t := 197) te_274_147 (by decide) (fun q => ?_) (fun q => ?_)
    · replace H := H.1 q
      refine Wx.iinc hC te_274_197 rfl rfl H.1 ?_
      replace H := H.2
      refine Wx.goto hC (t := 108) te_274_200 (by decide) ?_
      exact Wx.weak (by repeat' (first | exact trivial | exact rfl | constructor)) H
    · replace H := H.2 q
      refine Wx.iload hC te_274_150 rfl ?_
      refine Wx.sipush hC te_274_152 rfl rfl ?_
      refine Wx.icmp hC (t := 197) te_274_155 (by decide) (fun q => ?_) (fun q => ?_)
      · replace H := H.1 q
        refine Wx.iinc hC te_274_197 rfl rfl H.1 ?_
        replace H := H.2
        refine Wx.goto hC (t := 108) te_274_200 (by decide) ?_
        exact Wx.weak (by repeat' (first | exact trivial | exact rfl | constructor)) H
      · replace H := H.2 q
        refine Wx.aload_n hC te_274_158 rfl ?_
        refine Wx.getR hC te_274_159 rfl rfl rfl ?_
        refine Wx.bipush hC te_274_162 rfl rfl ?_
        refine Wx.iload hC te_274_164 rfl ?_
        refine Wx.imul hC te_274_166 H.1 ?_
        replace H := H.2
        refine Wx.iload hC te_274_167 rfl ?_
        refine Wx.iadd hC te_274_169 H.1 ?_
        replace H := H.2
        refine Wx.aload_n hC te_274_170 rfl ?_
        refine Wx.getR hC te_274_171 rfl rfl rfl ?_
        refine Wx.bipush hC te_274_174 rfl rfl ?_
        refine Wx.iload hC te_274_176 rfl ?_
        refine Wx.imul hC te_274_178 H.1 ?_
        replace H := H.2
        refine Wx.iload hC te_274_179 rfl ?_
        refine Wx.iadd hC te_274_181 H.1 ?_
        replace H := H.2
        refine Wx.iald hC te_274_182 rfl H.1 (fun v3 e1 e2 => ?_)
        replace H := H.2 v3 e1 e2
        refine Wx.bipush hC te_274_183 rfl rfl ?_
        refine Wx.iload hC te_274_185 rfl ?_
        refine Wx.iload hC te_274_187 rfl ?_
        refine Wx.iadd hC te_274_189 H.1 ?_
        replace H := H.2
        refine Wx.statI hC te_274_190 (by decide) mt_258 (args := [.inl 99, .inl (v1 + v2)]) (rest := [.inl v3, .inl ((8 * x4) + x5), .inr 162]) rfl rfl rfl rfl rfl ?_
        refine CWI.mono hC (fun r5 m4 H hy => ?_) H
        replace H := H hy
        refine Wx.statI hC te_274_193 (by decide) mt_257 (args := [.inl v3, .inl r5]) (rest := [.inl ((8 * x4) + x5), .inr 162]) rfl rfl rfl rfl rfl ?_
        refine CWI.mono hC (fun r7 m6 H hy => ?_) H
        replace H := H hy
        refine Wx.iast hC te_274_196 rfl H.1 ?_
        replace H := H.2
        refine Wx.iinc hC te_274_197 rfl rfl H.1 ?_
        replace H := H.2
        refine Wx.goto hC (t := 108) te_274_200 (by decide) ?_
        exact Wx.weak (by repeat' (first | exact trivial | exact rfl | constructor)) H
theorem w_274_217 {C : CXW} (hC : Cmono C) {S : Nat × (Nat → Int32)} {K : WK} {mem : MM} {x1 x2 x3 : Int} (H : ((x1 ≤ x3 → (K (some 1) mem)) ∧ (¬ (x1 ≤ x3) → (InI (8 * x3)) ∧ (InI ((8 * x3) + x3)) ∧ ((0 : Int) ≤ ((8 * x3) + x3) ∧ (((8 * x3) + x3) : Int) < 64) ∧ ∀ v1 : Int, v1 = mem 162 (Int.toNat ((8 * x3) + x3)) → InI v1 → ((v1 ≤ 0 → (InI (x3 + 1)) ∧ (Wx C S M_274 K 217 [some (.inr 143), some (.inl x1), some (.inl x2), some (.inl (x3 + 1)), none, none, none, none] [] mem)) ∧ (¬ (v1 ≤ 0) → (K (some 0) mem)))))) : Wx C S M_274 K 217 [some (.inr 143), some (.inl x1), some (.inl x2), some (.inl x3), none, none, none, none] [] mem := by
  refine Wx.iload_n hC te_274_217 rfl ?_
  refine Wx.iload_n hC te_274_218 rfl ?_
  refine Wx.icmp hC (t := 244) te_274_219 (by decide) (fun q => ?_) (fun q => ?_)
  · replace H := H.1 q
    refine Wx.iconst hC te_274_244 rfl ?_
    exact Wx.bret hC te_274_245 rfl (Or.inr rfl) H
  · replace H := H.2 q
    refine Wx.aload_n hC te_274_222 rfl ?_
    refine Wx.getR hC te_274_223 rfl rfl rfl ?_
    refine Wx.bipush hC te_274_226 rfl rfl ?_
    refine Wx.iload_n hC te_274_228 rfl ?_
    refine Wx.imul hC te_274_229 H.1 ?_
    replace H := H.2
    refine Wx.iload_n hC te_274_230 rfl ?_
    refine Wx.iadd hC te_274_231 H.1 ?_
    replace H := H.2
    refine Wx.iald hC te_274_232 rfl H.1 (fun v1 e1 e2 => ?_)
    replace H := H.2 v1 e1 e2
    refine Wx.ifc hC (t := 238) te_274_233 (by decide) (fun q => ?_) (fun q => ?_)
    · replace H := H.1 q
      refine Wx.iinc hC te_274_238 rfl rfl H.1 ?_
      replace H := H.2
      refine Wx.goto hC (t := 217) te_274_241 (by decide) ?_
      exact H
    · replace H := H.2 q
      refine Wx.iconst hC te_274_236 rfl ?_
      exact Wx.bret hC te_274_237 rfl (Or.inl rfl) H
theorem w_269_0 {C : CXW} (hC : Cmono C) {S : Nat × (Nat → Int32)} {K : WK} {mem : MM} {x1 : Int} (H : (CWV C 270 [.inr 143] mem fun m1 => ∀ v2 : Int, v2 = m1 143 1 → InI v2 → ((v2 ≤ 0 → (Wx C S M_269 K 20 [some (.inr 143), some (.inl x1), some (.inl 0)] [] m1)) ∧ (¬ (v2 ≤ 0) → ((0 : Int) ≤ 0 ∧ (0 : Int) < 8) ∧ (Wx C S M_269 K 20 [some (.inr 143), some (.inl x1), some (.inl 0)] [] (upm m1 160 (Int.toNat 0) (-1))))))) : Wx C S M_269 K 0 [some (.inr 143), some (.inl x1), none] [] mem := by
  refine Wx.aload_n hC te_269_0 rfl ?_
  refine Wx.virtV hC te_269_1 mt_270 (args := [.inr 143]) (rest := []) rfl rfl rfl rfl rfl rfl rfl rfl ?_
  refine CWV.mono hC (fun m1 H => ?_) H
  refine Wx.iconst hC te_269_4 rfl ?_
  refine Wx.istore_n hC te_269_5 rfl ?_
  refine Wx.aload_n hC te_269_6 rfl ?_
  refine Wx.getI hC te_269_7 rfl rfl rfl (fun v2 e1 e2 => ?_)
  replace H := H v2 e1 e2
  refine Wx.ifc hC (t := 20) te_269_10 (by decide) (fun q => ?_) (fun q => ?_)
  · replace H := H.1 q
    exact H
  · replace H := H.2 q
    refine Wx.aload_n hC te_269_13 rfl ?_
    refine Wx.getR hC te_269_14 rfl rfl rfl ?_
    refine Wx.iconst hC te_269_17 rfl ?_
    refine Wx.iconst hC te_269_18 rfl ?_
    refine Wx.iast hC te_269_19 rfl H.1 ?_
    replace H := H.2
    exact H
theorem w_269_20 {C : CXW} (hC : Cmono C) {S : Nat × (Nat → Int32)} {K : WK} {mem : MM} {x1 x2 : Int} (H : ∀ v1 : Int, v1 = mem 143 1 → InI v1 → ((v1 ≤ x2 → (K (some 1) mem)) ∧ (¬ (v1 ≤ x2) → ((0 : Int) ≤ x2 ∧ (x2 : Int) < 8) ∧ ∀ v2 : Int, v2 = mem 160 (Int.toNat x2) → InI v2 → ((v2 = (-1) → (Wx C S M_269 K 51 [some (.inr 143), some (.inl x1), some (.inl x2)] [] mem)) ∧ (¬ (v2 = (-1)) → ((0 : Int) ≤ x2 ∧ (x2 : Int) < 8) ∧ ∀ v3 : Int, v3 = mem 160 (Int.toNat x2) → InI v3 → (CWV C 271 [.inr 143, .inl x2, .inl v3, .inl x1, .inl (-1)] mem fun m4 => (Wx C S M_269 K 51 [some (.inr 143), some (.inl x1), some (.inl x2)] [] m4))))))) : Wx C S M_269 K 20 [some (.inr 143), some (.inl x1), some (.inl x2)] [] mem := by
  refine Wx.iload_n hC te_269_20 rfl ?_
  refine Wx.aload_n hC te_269_21 rfl ?_
  refine Wx.getI hC te_269_22 rfl rfl rfl (fun v1 e1 e2 => ?_)
  replace H := H v1 e1 e2
  refine Wx.icmp hC (t := 144) te_269_25 (by decide) (fun q => ?_) (fun q => ?_)
  · replace H := H.1 q
    refine Wx.iconst hC te_269_144 rfl ?_
    exact Wx.bret hC te_269_145 rfl (Or.inr rfl) H
  · replace H := H.2 q
    refine Wx.aload_n hC te_269_28 rfl ?_
    refine Wx.getR hC te_269_29 rfl rfl rfl ?_
    refine Wx.iload_n hC te_269_32 rfl ?_
    refine Wx.iald hC te_269_33 rfl H.1 (fun v2 e1 e2 => ?_)
    replace H := H.2 v2 e1 e2
    refine Wx.iconst hC te_269_34 rfl ?_
    refine Wx.icmp hC (t := 51) te_269_35 (by decide) (fun q => ?_) (fun q => ?_)
    · replace H := H.1 q
      exact H
    · replace H := H.2 q
      refine Wx.aload_n hC te_269_38 rfl ?_
      refine Wx.iload_n hC te_269_39 rfl ?_
      refine Wx.aload_n hC te_269_40 rfl ?_
      refine Wx.getR hC te_269_41 rfl rfl rfl ?_
      refine Wx.iload_n hC te_269_44 rfl ?_
      refine Wx.iald hC te_269_45 rfl H.1 (fun v3 e1 e2 => ?_)
      replace H := H.2 v3 e1 e2
      refine Wx.iload_n hC te_269_46 rfl ?_
      refine Wx.iconst hC te_269_47 rfl ?_
      refine Wx.virtV hC te_269_48 mt_271 (args := [.inr 143, .inl x2, .inl v3, .inl x1, .inl (-1)]) (rest := []) rfl rfl rfl rfl rfl rfl rfl rfl ?_
      refine CWV.mono hC (fun m4 H => ?_) H
      exact H
theorem w_269_51 {C : CXW} (hC : Cmono C) {S : Nat × (Nat → Int32)} {K : WK} {mem : MM} {x1 x2 : Int} (H : ((0 : Int) ≤ x2 ∧ (x2 : Int) < 8) ∧ ∀ v1 : Int, v1 = mem 160 (Int.toNat x2) → InI v1 → (InI (v1 + 1)) ∧ ((0 : Int) ≤ x2 ∧ (x2 : Int) < 8) ∧ ((0 : Int) ≤ x2 ∧ (x2 : Int) < 8) ∧ ∀ v2 : Int, v2 = (upm mem 160 (Int.toNat x2) (v1 + 1)) 160 (Int.toNat x2) → InI v2 → ((¬ v2 = x1 → ((0 : Int) ≤ x2 ∧ (x2 : Int) < 8) ∧ ∀ v3 : Int, v3 = (upm mem 160 (Int.toNat x2) (v1 + 1)) 160 (Int.toNat x2) → InI v3 → (CWV C 271 [.inr 143, .inl x2, .inl v3, .inl x1, .inl 1] (upm mem 160 (Int.toNat x2) (v1 + 1)) fun m4 => (CWI C 264 [.inr 143, .inl x2] m4 fun r6 m5 => InI r6 → (CWI C 273 [.inr 143, .inl r6, .inl x1] m5 fun r8 m7 => InI r8 → ((¬ r8 = 0 → (Wx C S M_269 K 20 [some (.inr 143), some (.inl x1), some (.inl x2)] [] m7)) ∧ (¬ (¬ r8 = 0) → (InI (x2 + 1)) ∧ (CWI C 274 [.inr 143, .inl (x2 + 1), .inl x1] m7 fun r10 m9 => InI r10 → ((¬ r10 = 0 → (InI (x2 + 1)) ∧ ∀ v11 : Int, v11 = m9 143 1 → InI v11 → ((v11 ≤ (x2 + 1) → (Wx C S M_269 K 20 [some (.inr 143), some (.inl x1), some (.inl (x2 + 1))] [] m9)) ∧ (¬ (v11 ≤ (x2 + 1)) → ((0 : Int) ≤ (x2 + 1) ∧ ((x2 + 1) : Int) < 8) ∧ (Wx C S M_269 K 20 [some (.inr 143), some (.inl x1), some (.inl (x2 + 1))] [] (upm m9 160 (Int.toNat (x2 + 1)) (-1)))))) ∧ (¬ (¬ r10 = 0) → (Wx C S M_269 K 20 [some (.inr 143), some (.inl x1), some (.inl x2)] [] m9)))))))))) ∧ (¬ (¬ v2 = x1) → ((¬ x2 = 0 → (InI (x2 + (-1))) ∧ (Wx C S M_269 K 20 [some (.inr 143), some (.inl x1), some (.inl (x2 + (-1)))] [] (upm mem 160 (Int.toNat x2) (v1 + 1)))) ∧ (¬ (¬ x2 = 0) → (K (some 0) (upm mem 160 (Int.toNat x2) (v1 + 1)))))))) : Wx C S M_269 K 51 [some (.inr 143), some (.inl x1), some (.inl x2)] [] mem := by
  refine Wx.aload_n hC te_269_51 rfl ?_
  refine Wx.getR hC te_269_52 rfl rfl rfl ?_
  refine Wx.iload_n hC te_269_55 rfl ?_
  refine Wx.dup2 hC te_269_56 ?_
  refine Wx.iald hC te_269_57 rfl H.1 (fun v1 e1 e2 => ?_)
  replace H := H.2 v1 e1 e2
  refine Wx.iconst hC te_269_58 rfl ?_
  refine Wx.iadd hC te_269_59 H.1 ?_
  replace H := H.2
  refine Wx.iast hC te_269_60 rfl H.1 ?_
  replace H := H.2
  refine Wx.aload_n hC te_269_61 rfl ?_
  refine Wx.getR hC te_269_62 rfl rfl rfl ?_
  refine Wx.iload_n hC te_269_65 rfl ?_
  refine Wx.iald hC te_269_66 rfl H.1 (fun v2 e1 e2 => ?_)
  replace H := H.2 v2 e1 e2
  refine Wx.iload_n hC te_269_67 rfl ?_
  refine Wx.icmp hC (t := 83) te_269_68 (by decide) (fun q => ?_) (fun q => ?_)
  · replace H := H.1 q
    refine Wx.aload_n hC te_269_83 rfl ?_
    refine Wx.iload_n hC te_269_84 rfl ?_
    refine Wx.aload_n hC te_269_85 rfl ?_
    refine Wx.getR hC te_269_86 rfl rfl rfl ?_
    refine Wx.iload_n hC te_269_89 rfl ?_
    refine Wx.iald hC te_269_90 rfl H.1 (fun v3 e1 e2 => ?_)
    replace H := H.2 v3 e1 e2
    refine Wx.iload_n hC te_269_91 rfl ?_
    refine Wx.iconst hC te_269_92 rfl ?_
    refine Wx.virtV hC te_269_93 mt_271 (args := [.inr 143, .inl x2, .inl v3, .inl x1, .inl 1]) (rest := []) rfl rfl rfl rfl rfl rfl rfl rfl ?_
    refine CWV.mono hC (fun m4 H => ?_) H
    refine Wx.aload_n hC te_269_96 rfl ?_
    refine Wx.aload_n hC te_269_97 rfl ?_
    refine Wx.iload_n hC te_269_98 rfl ?_
    refine Wx.virtI hC te_269_99 mt_264 (args := [.inr 143, .inl x2]) (rest := [.inr 143]) rfl rfl rfl rfl rfl rfl rfl rfl ?_
    refine CWI.mono hC (fun r6 m5 H hy => ?_) H
    replace H := H hy
    refine Wx.iload_n hC te_269_102 rfl ?_
    refine Wx.virtI hC te_269_103 mt_273 (args := [.inr 143, .inl r6, .inl x1]) (rest := []) rfl rfl rfl rfl rfl rfl rfl rfl ?_
    refine CWI.mono hC (fun r8 m7 H hy => ?_) H
    replace H := H hy
    refine Wx.ifc hC (t := 20) te_269_106 (by decide) (fun q => ?_) (fun q => ?_)
    · replace H := H.1 q
      exact H
    · replace H := H.2 q
      refine Wx.aload_n hC te_269_109 rfl ?_
      refine Wx.iload_n hC te_269_110 rfl ?_
      refine Wx.iconst hC te_269_111 rfl ?_
      refine Wx.iadd hC te_269_112 H.1 ?_
      replace H := H.2
      refine Wx.iload_n hC te_269_113 rfl ?_
      refine Wx.virtI hC te_269_114 mt_274 (args := [.inr 143, .inl (x2 + 1), .inl x1]) (rest := []) rfl rfl rfl rfl rfl rfl rfl rfl ?_
      refine CWI.mono hC (fun r10 m9 H hy => ?_) H
      replace H := H hy
      refine Wx.ifc hC (t := 123) te_269_117 (by decide) (fun q => ?_) (fun q => ?_)
      · replace H := H.1 q
        refine Wx.iinc hC te_269_123 rfl rfl H.1 ?_
        replace H := H.2
        refine Wx.iload_n hC te_269_126 rfl ?_
        refine Wx.aload_n hC te_269_127 rfl ?_
        refine Wx.getI hC te_269_128 rfl rfl rfl (fun v11 e1 e2 => ?_)
        replace H := H v11 e1 e2
        refine Wx.icmp hC (t := 20) te_269_131 (by decide) (fun q => ?_) (fun q => ?_)
        · replace H := H.1 q
          exact H
        · replace H := H.2 q
          refine Wx.aload_n hC te_269_134 rfl ?_
          refine Wx.getR hC te_269_135 rfl rfl rfl ?_
          refine Wx.iload_n hC te_269_138 rfl ?_
          refine Wx.iconst hC te_269_139 rfl ?_
          refine Wx.iast hC te_269_140 rfl H.1 ?_
          replace H := H.2
          refine Wx.goto hC (t := 20) te_269_141 (by decide) ?_
          exact H
      · replace H := H.2 q
        refine Wx.goto hC (t := 20) te_269_120 (by decide) ?_
        exact H
  · replace H := H.2 q
    refine Wx.iload_n hC te_269_71 rfl ?_
    refine Wx.ifc hC (t := 77) te_269_72 (by decide) (fun q => ?_) (fun q => ?_)
    · replace H := H.1 q
      refine Wx.iinc hC te_269_77 rfl rfl H.1 ?_
      replace H := H.2
      refine Wx.goto hC (t := 20) te_269_80 (by decide) ?_
      exact H
    · replace H := H.2 q
      refine Wx.iconst hC te_269_75 rfl ?_
      exact Wx.bret hC te_269_76 rfl (Or.inl rfl) H
theorem w_276_0 {C : CXW} (hC : Cmono C) {S : Nat × (Nat → Int32)} {K : WK} {mem : MM} {x1 : Int} (H : (Wx C S M_276 K 2 [some (.inr 143), some (.inl x1), some (.inl 0), none, none] [] mem)) : Wx C S M_276 K 0 [some (.inr 143), some (.inl x1), none, none, none] [] mem := by
  refine Wx.iconst hC te_276_0 rfl ?_
  refine Wx.istore_n hC te_276_1 rfl ?_
  exact H
theorem w_276_2 {C : CXW} (hC : Cmono C) {S : Nat × (Nat → Int32)} {K : WK} {mem : MM} {x1 x2 : Int} (H : ∀ v1 : Int, v1 = mem 143 1 → InI v1 → ((v1 ≤ x2 → (Wx C S M_276 K 30 [some (.inr 143), some (.inl x1), some (.inl 1), none, none] [] mem)) ∧ (¬ (v1 ≤ x2) → ((0 : Int) ≤ x2 ∧ (x2 : Int) < 8) ∧ ∀ v2 : Int, v2 = mem 160 (Int.toNat x2) → InI v2 → ((0 : Int) ≤ x2 ∧ (x2 : Int) < 8) ∧ (InI (x2 + 1)) ∧ (Wx C S M_276 K 2 [some (.inr 143), some (.inl x1), some (.inl (x2 + 1)), none, none] [] (upm mem 161 (Int.toNat x2) v2))))) : Wx C S M_276 K 2 [some (.inr 143), some (.inl x1), some (.inl x2), none, none] [] mem := by
  refine Wx.iload_n hC te_276_2 rfl ?_
  refine Wx.aload_n hC te_276_3 rfl ?_
  refine Wx.getI hC te_276_4 rfl rfl rfl (fun v1 e1 e2 => ?_)
  replace H := H v1 e1 e2
  refine Wx.icmp hC (t := 28) te_276_7 (by decide) (fun q => ?_) (fun q => ?_)
  · replace H := H.1 q
    refine Wx.iconst hC te_276_28 rfl ?_
    refine Wx.istore_n hC te_276_29 rfl ?_
    exact H
  · replace H := H.2 q
    refine Wx.aload_n hC te_276_10 rfl ?_
    refine Wx.getR hC te_276_11 rfl rfl rfl ?_
    refine Wx.iload_n hC te_276_14 rfl ?_
    refine Wx.aload_n hC te_276_15 rfl ?_
    refine Wx.getR hC te_276_16 rfl rfl rfl ?_
    refine Wx.iload_n hC te_276_19 rfl ?_
    refine Wx.iald hC te_276_20 rfl H.1 (fun v2 e1 e2 => ?_)
    replace H := H.2 v2 e1 e2
    refine Wx.iast hC te_276_21 rfl H.1 ?_
    replace H := H.2
    refine Wx.iinc hC te_276_22 rfl rfl H.1 ?_
    replace H := H.2
    refine Wx.goto hC (t := 2) te_276_25 (by decide) ?_
    exact H
theorem w_276_30 {C : CXW} (hC : Cmono C) {S : Nat × (Nat → Int32)} {K : WK} {mem : MM} {x1 x2 : Int} (H : ((x2 = 0 → (K none mem)) ∧ (¬ (x2 = 0) → (Wx C S M_276 K 38 [some (.inr 143), some (.inl x1), some (.inl 0), some (.inl 0), none] [] mem)))) : Wx C S M_276 K 30 [some (.inr 143), some (.inl x1), some (.inl x2), none, none] [] mem := by
  refine Wx.iload_n hC te_276_30 rfl ?_
  refine Wx.ifc hC (t := 128) te_276_31 (by decide) (fun q => ?_) (fun q => ?_)
  · replace H := H.1 q
    exact Wx.vret hC te_276_128 rfl H
  · replace H := H.2 q
    refine Wx.iconst hC te_276_34 rfl ?_
    refine Wx.istore_n hC te_276_35 rfl ?_
    refine Wx.iconst hC te_276_36 rfl ?_
    refine Wx.istore_n hC te_276_37 rfl ?_
    exact H
theorem w_276_38 {C : CXW} (hC : Cmono C) {S : Nat × (Nat → Int32)} {K : WK} {mem : MM} {x1 x2 x3 : Int} (H : ∀ v1 : Int, v1 = mem 143 12 → InI v1 → ((v1 ≤ x3 → (Wx C S M_276 K 30 [some (.inr 143), some (.inl x1), some (.inl x2), none, none] [] mem)) ∧ (¬ (v1 ≤ x3) → ((0 : Int) ≤ x3 ∧ (x3 : Int) < 48) ∧ ∀ v2 : Int, v2 = mem 154 (Int.toNat x3) → InI v2 → ((0 : Int) ≤ v2 ∧ (v2 : Int) < 8) ∧ ∀ v3 : Int, v3 = mem 161 (Int.toNat v2) → InI v3 → ((0 : Int) ≤ x3 ∧ (x3 : Int) < 48) ∧ ∀ v4 : Int, v4 = mem 157 (Int.toNat x3) → InI v4 → (InI (v3 + v4)) ∧ ((0 : Int) ≤ x3 ∧ (x3 : Int) < 48) ∧ ∀ v5 : Int, v5 = mem 156 (Int.toNat x3) → InI v5 → (InI (x1 * v5)) ∧ (InI ((v3 + v4) - (x1 * v5))) ∧ ((0 : Int) ≤ x3 ∧ (x3 : Int) < 48) ∧ ∀ v6 : Int, v6 = mem 155 (Int.toNat x3) → InI v6 → ((0 : Int) ≤ v6 ∧ (v6 : Int) < 8) ∧ ∀ v7 : Int, v7 = mem 161 (Int.toNat v6) → InI v7 → (InI (((v3 + v4) - (x1 * v5)) - v7)) ∧ ((0 < (((v3 + v4) - (x1 * v5)) - v7) → ((0 : Int) ≤ x3 ∧ (x3 : Int) < 48) ∧ ∀ v8 : Int, v8 = mem 155 (Int.toNat x3) → InI v8 → ((0 : Int) ≤ v8 ∧ (v8 : Int) < 8) ∧ ∀ v9 : Int, v9 = mem 161 (Int.toNat v8) → InI v9 → (CWI C 275 [.inl (((v3 + v4) - (x1 * v5)) - v7), .inl x1] mem fun r11 m10 => InI r11 → (InI (x1 * r11)) ∧ (InI (v9 + (x1 * r11))) ∧ ((0 : Int) ≤ v8 ∧ (v8 : Int) < 8) ∧ (InI (x3 + 1)) ∧ (Wx C S M_276 K 38 [some (.inr 143), some (.inl x1), some (.inl 1), some (.inl (x3 + 1)), none] [] (upm m10 161 (Int.toNat v8) (v9 + (x1 * r11)))))) ∧ (¬ (0 < (((v3 + v4) - (x1 * v5)) - v7)) → (InI (x3 + 1)) ∧ (Wx C S M_276 K 38 [some (.inr 143), some (.inl x1), some (.inl x2), some (.inl (x3 + 1)), none] [] mem)))))) : Wx C S M_276 K 38 [some (.inr 143), some (.inl x1), some (.inl x2), some (.inl x3), none] [] mem := by
  refine Wx.iload_n hC te_276_38 rfl ?_
  refine Wx.aload_n hC te_276_39 rfl ?_
  refine Wx.getI hC te_276_40 rfl rfl rfl (fun v1 e1 e2 => ?_)
  replace H := H v1 e1 e2
  refine Wx.icmp hC (t := 125) te_276_43 (by decide) (fun q => ?_) (fun q => ?_)
  · replace H := H.1 q
    refine Wx.goto hC (t := 30) te_276_125 (by decide) ?_
    exact Wx.weak (by repeat' (first | exact trivial | exact rfl | constructor)) H
  · replace H := H.2 q
    refine Wx.aload_n hC te_276_46 rfl ?_
    refine Wx.getR hC te_276_47 rfl rfl rfl ?_
    refine Wx.aload_n hC te_276_50 rfl ?_
    refine Wx.getR hC te_276_51 rfl rfl rfl ?_
    refine Wx.iload_n hC te_276_54 rfl ?_
    refine Wx.iald hC te_276_55 rfl H.1 (fun v2 e1 e2 => ?_)
    replace H := H.2 v2 e1 e2
    refine Wx.iald hC te_276_56 rfl H.1 (fun v3 e1 e2 => ?_)
    replace H := H.2 v3 e1 e2
    refine Wx.aload_n hC te_276_57 rfl ?_
    refine Wx.getR hC te_276_58 rfl rfl rfl ?_
    refine Wx.iload_n hC te_276_61 rfl ?_
    refine Wx.iald hC te_276_62 rfl H.1 (fun v4 e1 e2 => ?_)
    replace H := H.2 v4 e1 e2
    refine Wx.iadd hC te_276_63 H.1 ?_
    replace H := H.2
    refine Wx.iload_n hC te_276_64 rfl ?_
    refine Wx.aload_n hC te_276_65 rfl ?_
    refine Wx.getR hC te_276_66 rfl rfl rfl ?_
    refine Wx.iload_n hC te_276_69 rfl ?_
    refine Wx.iald hC te_276_70 rfl H.1 (fun v5 e1 e2 => ?_)
    replace H := H.2 v5 e1 e2
    refine Wx.imul hC te_276_71 H.1 ?_
    replace H := H.2
    refine Wx.isub hC te_276_72 H.1 ?_
    replace H := H.2
    refine Wx.aload_n hC te_276_73 rfl ?_
    refine Wx.getR hC te_276_74 rfl rfl rfl ?_
    refine Wx.aload_n hC te_276_77 rfl ?_
    refine Wx.getR hC te_276_78 rfl rfl rfl ?_
    refine Wx.iload_n hC te_276_81 rfl ?_
    refine Wx.iald hC te_276_82 rfl H.1 (fun v6 e1 e2 => ?_)
    replace H := H.2 v6 e1 e2
    refine Wx.iald hC te_276_83 rfl H.1 (fun v7 e1 e2 => ?_)
    replace H := H.2 v7 e1 e2
    refine Wx.isub hC te_276_84 H.1 ?_
    replace H := H.2
    refine Wx.istore hC te_276_85 rfl ?_
    refine Wx.iload hC te_276_87 rfl ?_
    refine Wx.ifc hC (t := 95) te_276_89 (by decide) (fun q => ?_) (fun q => ?_)
    · replace H := H.1 q
      refine Wx.aload_n hC te_276_95 rfl ?_
      refine Wx.getR hC te_276_96 rfl rfl rfl ?_
      refine Wx.aload_n hC te_276_99 rfl ?_
      refine Wx.getR hC te_276_100 rfl rfl rfl ?_
      refine Wx.iload_n hC te_276_103 rfl ?_
      refine Wx.iald hC te_276_104 rfl H.1 (fun v8 e1 e2 => ?_)
      replace H := H.2 v8 e1 e2
      refine Wx.dup2 hC te_276_105 ?_
      refine Wx.iald hC te_276_106 rfl H.1 (fun v9 e1 e2 => ?_)
      replace H := H.2 v9 e1 e2
      refine Wx.iload_n hC te_276_107 rfl ?_
      refine Wx.iload hC te_276_108 rfl ?_
      refine Wx.iload_n hC te_276_110 rfl ?_
      refine Wx.statI hC te_276_111 (by decide) mt_275 (args := [.inl (((v3 + v4) - (x1 * v5)) - v7), .inl x1]) (rest := [.inl x1, .inl v9, .inl v8, .inr 161]) rfl rfl rfl rfl rfl ?_
      refine CWI.mono hC (fun r11 m10 H hy => ?_) H
      replace H := H hy
      refine Wx.imul hC te_276_114 H.1 ?_
      replace H := H.2
      refine Wx.iadd hC te_276_115 H.1 ?_
      replace H := H.2
      refine Wx.iast hC te_276_116 rfl H.1 ?_
      replace H := H.2
      refine Wx.iconst hC te_276_117 rfl ?_
      refine Wx.istore_n hC te_276_118 rfl ?_
      refine Wx.iinc hC te_276_119 rfl rfl H.1 ?_
      replace H := H.2
      refine Wx.goto hC (t := 38) te_276_122 (by decide) ?_
      exact Wx.weak (by repeat' (first | exact trivial | exact rfl | constructor)) H
    · replace H := H.2 q
      refine Wx.goto hC (t := 119) te_276_92 (by decide) ?_
      refine Wx.iinc hC te_276_119 rfl rfl H.1 ?_
      replace H := H.2
      refine Wx.goto hC (t := 38) te_276_122 (by decide) ?_
      exact Wx.weak (by repeat' (first | exact trivial | exact rfl | constructor)) H
theorem w_268_0 {C : CXW} (hC : Cmono C) {S : Nat × (Nat → Int32)} {K : WK} {mem : MM} {x1 : Int} (H : (CWI C 254 [.inr 143, .inl x1] mem fun r2 m1 => InI r2 → ((r2 = 0 → (CWV C 256 [.inr 143, .inl x1] m1 fun m3 => (CWI C 269 [.inr 143, .inl x1] m3 fun r5 m4 => InI r5 → ((¬ r5 = 0 → (CWV C 276 [.inr 143, .inl x1] m4 fun m6 => (K (some 1) m6))) ∧ (¬ (¬ r5 = 0) → (K (some 0) m4)))))) ∧ (¬ (r2 = 0) → (K (some 0) m1))))) : Wx C S M_268 K 0 [some (.inr 143), some (.inl x1)] [] mem := by
  refine Wx.aload_n hC te_268_0 rfl ?_
  refine Wx.iload_n hC te_268_1 rfl ?_
  refine Wx.virtI hC te_268_2 mt_254 (args := [.inr 143, .inl x1]) (rest := []) rfl rfl rfl rfl rfl rfl rfl rfl ?_
  refine CWI.mono hC (fun r2 m1 H hy => ?_) H
  replace H := H hy
  refine Wx.ifc hC (t := 10) te_268_5 (by decide) (fun q => ?_) (fun q => ?_)
  · replace H := H.1 q
    refine Wx.aload_n hC te_268_10 rfl ?_
    refine Wx.iload_n hC te_268_11 rfl ?_
    refine Wx.virtV hC te_268_12 mt_256 (args := [.inr 143, .inl x1]) (rest := []) rfl rfl rfl rfl rfl rfl rfl rfl ?_
    refine CWV.mono hC (fun m3 H => ?_) H
    refine Wx.aload_n hC te_268_15 rfl ?_
    refine Wx.iload_n hC te_268_16 rfl ?_
    refine Wx.virtI hC te_268_17 mt_269 (args := [.inr 143, .inl x1]) (rest := []) rfl rfl rfl rfl rfl rfl rfl rfl ?_
    refine CWI.mono hC (fun r5 m4 H hy => ?_) H
    replace H := H hy
    refine Wx.ifc hC (t := 25) te_268_20 (by decide) (fun q => ?_) (fun q => ?_)
    · replace H := H.1 q
      refine Wx.aload_n hC te_268_25 rfl ?_
      refine Wx.iload_n hC te_268_26 rfl ?_
      refine Wx.virtV hC te_268_27 mt_276 (args := [.inr 143, .inl x1]) (rest := []) rfl rfl rfl rfl rfl rfl rfl rfl ?_
      refine CWV.mono hC (fun m6 H => ?_) H
      refine Wx.iconst hC te_268_30 rfl ?_
      exact Wx.bret hC te_268_31 rfl (Or.inr rfl) H
    · replace H := H.2 q
      refine Wx.iconst hC te_268_23 rfl ?_
      exact Wx.bret hC te_268_24 rfl (Or.inl rfl) H
  · replace H := H.2 q
    refine Wx.iconst hC te_268_8 rfl ?_
    exact Wx.bret hC te_268_9 rfl (Or.inl rfl) H
/-! canBe: no ring of whole turns above 0 -/
/-- edges: turns that a way asks for, by slots -/
def UE (m : MM) (k : Nat) (d : Int) (a b : Nat) (x : Int) : Prop := a < k ∧ b < k ∧ ¬ WM m 158 a b = -1000 ∧ d * (x - 1) < WM m 158 a b + m 160 a - m 160 b ∧ WM m 158 a b + m 160 a - m 160 b ≤ d * x
def CanOK (m : MM) (d : Int) (k : Nat) : Prop := FwI 20000 (UE m k d) 162 k m k 0 0 ∧ ∀ o, o < k → WM m 162 o o ≤ 0
theorem UE.fr {m m' : MM} (h : Fr1 162 m m') (k : Nat) (d : Int) : UE m' k d = UE m k d := by
  funext a b x
  unfold UE WM
  simp only [h 158 _ (by omega), h 160 _ (by omega)]
theorem ceil1 {d t x y : Int} (hd : 0 < d) (h1 : d * (x - 1) < t) (h2 : t ≤ d * y) : x ≤ y := by
  have : d * (x - 1) < d * y := by omega
  have := Int.lt_of_mul_lt_mul_left this (by omega)
  omega
section CAN
variable {S : Nat × (Nat → Int32)} {n : Nat} {m0 : MM} {d : Int} {k : Nat}
theorem cb_217 {mem : MM} (hk : k ≤ 8) {Kk : WK} (H1 : (∀ o, o < k → WM mem 162 o o ≤ 0) → Kk (some 1) mem) (H0 : Kk (some 0) mem) : ∀ (N : Nat) (o : Nat), o ≤ k → k - o < N → (∀ o2, o2 < o → WM mem 162 o2 o2 ≤ 0) → Wx (Ex S (n + 1)) S M_274 Kk 217 [some (.inr 143), some (.inl (k : Int)), some (.inl d), some (.inl (o : Int)), none, none, none, none] [] mem := by
  intro N
  induction N with
  | zero => intros; omega
  | succ N ih =>
    intro o ho hN hA
    refine w_274_217 (Ex.mono S (n + 1)) ⟨fun q => H1 (fun o2 h2 => hA o2 (by omega)), fun q => ⟨by unfold InI; omega, by unfold InI; omega, by omega, fun v e _ => ?_⟩⟩
    have e : v = WM mem 162 o o := by rw [e, ix8]; rfl
    refine ⟨fun q2 => ⟨by unfold InI; omega, ih (o + 1) (by omega) (by omega) (fun o2 h2 => ?_)⟩, fun _ => H0⟩
    by_cases e3 : o2 = o
    · subst e3; omega
    · exact hA o2 (by omega)
theorem cb_108 (hk : k ≤ 8) {Kk : WK} (H1 : ∀ m', Fr1 162 m0 m' → CanOK m' d k → Kk (some 1) m') (H0 : ∀ m', Fr1 162 m0 m' → Kk (some 0) m') : ∀ (N : Nat) (m a b : Nat) (mem : MM), m < k → a < k → b ≤ k → 81 * (k - m) + 9 * (k - a) + (k - b) < N → Fr1 162 m0 mem → FwI 20000 (UE m0 k d) 162 k mem m a b → Wx (Ex S (n + 1)) S M_274 Kk 108 [some (.inr 143), some (.inl (k : Int)), some (.inl d), some (.inl (m : Int)), some (.inl (a : Int)), some (.inl (b : Int)), none, none] [] mem := by
  intro N
  induction N with
  | zero => intros; omega
  | succ N ih =>
    intro m a b mem hm ha hb hNN hF hI
    have go : ∀ mem', Fr1 162 mem mem' → b < k → FwI 20000 (UE m0 k d) 162 k mem' m a (b + 1) → InI ((b : Int) + 1) ∧ Wx (Ex S (n + 1)) S M_274 Kk 108 [some (.inr 143), some (.inl (k : Int)), some (.inl d), some (.inl (m : Int)), some (.inl (a : Int)), some (.inl ((b : Int) + 1)), none, none] [] mem' := fun mem' h1 h2 h3 => ⟨by unfold InI; omega, ih m a (b + 1) mem' hm ha (by omega) (by omega) (hF.tr h1) h3⟩
    refine w_274_108 (Ex.mono S (n + 1)) ⟨fun q => ⟨by unfold InI; omega, ?_⟩, fun q => ?_⟩
    · rw [show b = k by omega] at hI
      have hI := hI.nextA
      refine w_274_99 (Ex.mono S (n + 1)) ⟨fun q2 => ⟨by unfold InI; omega, ?_⟩, fun q2 => ?_⟩
      · rw [show a + 1 = k by omega] at hI
        have hI := hI.nextM
        refine w_274_91 (Ex.mono S (n + 1)) ⟨fun q3 => ?_, fun q3 => ?_⟩
        · rw [show m + 1 = k by omega] at hI
          refine cb_217 hk (fun hD => H1 mem hF ⟨?_, hD⟩) (H0 mem hF) 9 0 (by omega) (by omega) (fun o2 h => by omega)
          rw [UE.fr hF]; exact hI
        · refine w_274_99 (Ex.mono S (n + 1)) ⟨fun q4 => by omega, fun q4 => ?_⟩
          exact ih (m + 1) 0 0 mem (by omega) (by omega) (by omega) (by omega) hF hI
      · exact ih m (a + 1) 0 mem hm (by omega) (by omega) (by omega) hF hI
    · have hb2 : b < k := by omega
      have r1 := hI.1 a m ha hm
      have r2 := hI.1 m b hm hb2
      have r0 := hI.1 a b ha hb2
      have hi : ∀ x y : Nat, x < k → y < k → InI (8 * (x : Int)) ∧ InI (8 * (x : Int) + y) ∧ (0 ≤ 8 * (x : Int) + y ∧ 8 * (x : Int) + y < 64) := fun x y h1 h2 => by unfold InI; omega
      obtain ⟨i1, i2, i3⟩ := hi a m ha hm
      obtain ⟨j1, j2, j3⟩ := hi m b hm hb2
      obtain ⟨k1, k2, k3⟩ := hi a b ha hb2
      refine ⟨i1, i2, i3, fun v2 e2 _ => ⟨j1, j2, j3, fun v3 e3 _ => ?_⟩⟩
      have e2 : v2 = WM mem 162 a m := by rw [e2, ix8]; rfl
      have e3 : v3 = WM mem 162 m b := by rw [e3, ix8]; rfl
      refine ⟨fun q2 => go mem Fr1.rf hb2 (hI.skip hm ha hb2 (Or.inl (by omega))), fun q2 => ⟨fun q3 => go mem Fr1.rf hb2 (hI.skip hm ha hb2 (Or.inr (by omega))), fun q3 => ⟨k1, k2, k1, k2, k3, fun v4 e4 _ => ⟨by unfold InI; omega, ?_⟩⟩⟩⟩
      have e4 : v4 = WM mem 162 a b := by rw [e4, ix8]; rfl
      refine f_258 (fun _ _ => f_257 (fun _ _ => ⟨k3, ?_⟩))
      rw [ix8, e2, e3, e4]
      exact go _ Fr1.up hb2 (hI.upd (by omega) hk hm ha hb2 (by omega) (by omega))
/-- an entry as it is first: no way, or turns rounded up -/
def UE0 (m0 : MM) (k : Nat) (d : Int) (mem : MM) (a b : Nat) : Prop := (WM m0 158 a b = -1000 ∧ WM mem 162 a b = -1000) ∨ UE m0 k d a b (WM mem 162 a b)
theorem cb_10 (hk : k ≤ 8) (hd : 1 ≤ d ∧ d ≤ 12) (hW : ∀ a b, a < k → b < k → -5000 ≤ WM m0 158 a b ∧ WM m0 158 a b ≤ 5000) (hs : ∀ o, o < 8 → -1 ≤ m0 160 o ∧ m0 160 o ≤ 12) {Kk : WK} (H1 : ∀ m', Fr1 162 m0 m' → CanOK m' d k → Kk (some 1) m') (H0 : ∀ m', Fr1 162 m0 m' → Kk (some 0) m') : ∀ (N : Nat) (a b : Nat) (mem : MM), a < k → b ≤ k → 9 * (k - a) + (k - b) < N → Fr1 162 m0 mem → (∀ a' b', a' < k → b' < k → (a' < a ∨ (a' = a ∧ b' < b)) → UE0 m0 k d mem a' b') → Wx (Ex S (n + 1)) S M_274 Kk 10 [some (.inr 143), some (.inl (k : Int)), some (.inl d), some (.inl (a : Int)), some (.inl (b : Int)), none, none, none] [] mem := by
  intro N
  induction N with
  | zero => intros; omega
  | succ N ih =>
    intro a b mem ha hb hNN hF hU
    refine w_274_10 (Ex.mono S (n + 1)) ⟨fun q => ⟨by unfold InI; omega, ?_⟩, fun q => ?_⟩
    · refine w_274_2 (Ex.mono S (n + 1)) ⟨fun q2 => ?_, fun q2 => ?_⟩
      · have hall : ∀ a' b', a' < k → b' < k → UE0 m0 k d mem a' b' := fun a' b' h1 h2 => hU a' b' h1 h2 (by omega)
        have hI : FwI 20000 (UE m0 k d) 162 k mem 0 0 0 := by
          have uniq : ∀ a' b' x, UE m0 k d a' b' x → WM mem 162 a' b' = x := fun a' b' x hx => by
            rcases hall a' b' hx.1 hx.2.1 with ⟨g, -⟩ | g
            · exact absurd g hx.2.2.1
            · have l1 := ceil1 (by omega) g.2.2.2.1 hx.2.2.2.2
              have l2 := ceil1 (by omega) hx.2.2.2.1 g.2.2.2.2
              omega
          refine ⟨fun a' b' h1 h2 => ?_, fun hu a' b' h1 h2 p v n1 n2 n3 n4 => ?_, fun hu a' b' h1 h2 q => by omega, fun φ hφ a' b' h1 h2 hg => ?_, fun a' b' x h1 h2 hx => ?_⟩
          · rcases hall a' b' h1 h2 with ⟨-, g⟩ | g
            · omega
            · obtain ⟨-, -, -, g4, g5⟩ := g
              have w1 := hW a' b' h1 h2
              have s1 := hs a' (by omega)
              have s2 := hs b' (by omega)
              constructor
              · by_cases c : -20000 ≤ WM mem 162 a' b'
                · exact c
                · have := Int.mul_le_mul_of_nonpos_right hd.1 (show WM mem 162 a' b' ≤ 0 by omega)
                  omega
              · by_cases c : WM mem 162 a' b' ≤ 20000
                · exact c
                · have := Int.mul_le_mul_of_nonneg_right hd.1 (show 0 ≤ WM mem 162 a' b' - 1 by omega)
                  omega
          · cases p with
            | nil => rw [uniq a' b' v n3]; exact Int.le_refl _
            | cons c p => exact absurd (n2 c List.mem_cons_self) (by omega)
          · rcases hall a' b' h1 h2 with ⟨-, g⟩ | g
            · omega
            · exact hφ _ _ _ g
          · rw [uniq a' b' x hx]; exact Int.le_refl _
        refine w_274_91 (Ex.mono S (n + 1)) ⟨fun q3 => ?_, fun q3 => ?_⟩
        · omega
        · refine w_274_99 (Ex.mono S (n + 1)) ⟨fun q4 => by omega, fun q4 => ?_⟩
          exact cb_108 hk H1 H0 (81 * 8 + 9 * 8 + 8 + 1) 0 0 0 mem (by omega) (by omega) (by omega) (by omega) hF hI
      · exact ih (a + 1) 0 mem (by omega) (by omega) (by omega) hF (fun a' b' h1 h2 h3 => hU a' b' h1 h2 (by omega))
    · have hb2 : b < k := by omega
      have k1 : InI (8 * (a : Int)) := by unfold InI; omega
      have k2 : InI (8 * (a : Int) + b) := by unfold InI; omega
      have k3 : 0 ≤ 8 * (a : Int) + b ∧ 8 * (a : Int) + b < 64 := by omega
      have w1 := hW a b ha hb2
      have s1 := hs a (by omega)
      have s2 := hs b (by omega)
      have ew : ∀ x i j, j < 8 → WM (upm mem 162 (8 * a + b) x) 162 i j = if i = a ∧ j = b then x else WM mem 162 i j := fun x i j hj => WM_up (by omega) hj
      have go : ∀ x, UE0 m0 k d (upm mem 162 (8 * a + b) x) a b → InI ((b : Int) + 1) ∧ Wx (Ex S (n + 1)) S M_274 Kk 10 [some (.inr 143), some (.inl (k : Int)), some (.inl d), some (.inl (a : Int)), some (.inl ((b : Int) + 1)), none, none, none] [] (upm mem 162 (8 * a + b) x) := fun x hx => by
        refine ⟨by unfold InI; omega, ih a (b + 1) _ ha (by omega) (by omega) (hF.tr Fr1.up) (fun a' b' h1 h2 h3 => ?_)⟩
        by_cases e : a' = a ∧ b' = b
        · obtain ⟨rfl, rfl⟩ := e; exact hx
        · have := hU a' b' h1 h2 (by omega)
          unfold UE0 at this ⊢
          rw [ew x a' b' (by omega), if_neg e]; exact this
      refine ⟨k1, k2, k3, fun v1 e1 _ => ⟨k1, k2, fun q2 => ?_, fun q2 => ?_⟩⟩
      · have e1 : v1 = WM m0 158 a b := by rw [e1, ix8, hF 158 _ (by omega)]; rfl
        refine ⟨by omega, fun v2 e2 _ => ?_⟩
        rw [Int.toNat_natCast, hF 160 _ (by omega)] at e2
        refine ⟨by unfold InI; omega, by omega, fun v3 e3 _ => ?_⟩
        rw [Int.toNat_natCast, hF 160 _ (by omega)] at e3
        refine ⟨by unfold InI; omega, f_275 ⟨by omega, by omega⟩ ⟨by omega, by omega⟩ (fun u h1 h2 _ => ⟨k3, ?_⟩)⟩
        rw [ix8]
        refine go u (Or.inr ?_)
        rw [ew u a b (by omega), if_pos ⟨rfl, rfl⟩]
        exact ⟨ha, hb2, by omega, by rw [← e1, ← e2, ← e3]; exact h1, by rw [← e1, ← e2, ← e3]; exact h2⟩
      · have e1 : v1 = WM m0 158 a b := by rw [e1, ix8, hF 158 _ (by omega)]; rfl
        refine ⟨k3, ?_⟩
        rw [ix8]
        refine go _ (Or.inl ⟨by omega, ?_⟩)
        rw [ew _ a b (by omega), if_pos ⟨rfl, rfl⟩]
theorem f_274 {K : Int → MM → Prop} (hk : 1 ≤ k ∧ k ≤ 8) (hd : 1 ≤ d ∧ d ≤ 12) (hW : ∀ a b, a < k → b < k → -5000 ≤ WM m0 158 a b ∧ WM m0 158 a b ≤ 5000) (hs : ∀ o, o < 8 → -1 ≤ m0 160 o ∧ m0 160 o ≤ 12) (H1 : ∀ m', Fr1 162 m0 m' → CanOK m' d k → K 1 m') (H0 : ∀ m', Fr1 162 m0 m' → K 0 m') : CWI (Ex S (n + 2)) 274 [.inr 143, .inl (k : Int), .inl d] m0 K := by
  refine CW.of (k := 5) mt_274 rfl rfl (w_274_0 (Ex.mono S (n + 1)) (w_274_2 (Ex.mono S (n + 1)) ⟨fun q => by omega, fun q => ?_⟩))
  exact cb_10 hk.2 hd hW hs (fun m' h1 h2 => ⟨_, rfl, H1 m' h1 h2⟩) (fun m' h1 => ⟨_, rfl, H0 m' h1⟩) (9 * 8 + 8 + 1) 0 0 m0 (by omega) (by omega) (by omega) Fr1.rf (fun a' b' h1 h2 h3 => by omega)
end CAN
/-! heights of a plan; laysTimes comes to an end below them -/
theorem ceil_ex (t : Int) {d : Int} (hd : 0 < d) : ∃ x, d * (x - 1) < t ∧ t ≤ d * x := by
  refine ⟨-((-t) / d), ?_, ?_⟩
  · have e := Int.mul_ediv_add_emod (-t) d
    have h1 := Int.emod_lt_of_pos (-t) hd
    have e2 : d * (-((-t) / d) - 1) = -(d * ((-t) / d)) - d := by rw [Int.mul_sub, Int.mul_neg, Int.mul_one]
    omega
  · have e := Int.mul_ediv_add_emod (-t) d
    have h1 := Int.emod_nonneg (-t) (show d ≠ 0 by omega)
    have e2 : d * (-((-t) / d)) = -(d * ((-t) / d)) := Int.mul_neg _ _
    omega
theorem Wk.scal {E : Nat → Nat → Int → Prop} {d c : Int} {ψ : Nat → Int} (h : ∀ a b x, E a b x → d * x ≤ ψ b - ψ a + c) : ∀ {p : List Nat} {a b : Nat} {v : Int}, Wk E a p b v → d * v ≤ ψ b - ψ a + c * (p.length + 1)
  | [], a, b, v, hw => by have := h a b v hw; simp; omega
  | e :: p, a, b, v, ⟨x, y, h1, h2, h3⟩ => by
    have g1 := h _ _ _ h1
    have g2 := Wk.scal h h2
    rw [List.length_cons, h3, Int.mul_add]
    have e1 : c * ((p.length + 1 : Nat) + 1 : Int) = c * (p.length + 1) + c := by
      rw [Int.natCast_add]
      show c * ((p.length : Int) + 1 + 1) = _
      rw [Int.mul_add, Int.mul_one]
    omega
theorem plan_pot {m : MM} {d : Int} (hN : NdsOK m) (hd : 1 ≤ d ∧ d ≤ 12) (hW : WayOK m d) (hC : CanOK m d (m 143 1).toNat) (hs : ∀ o : Nat, (o : Int) < m 143 1 → 0 ≤ m 160 o ∧ m 160 o ≤ d - 1) : ∃ P : Nat → Int, (∀ b, 0 ≤ P b ∧ d * P b ≤ 42 + 8 * (d - 1)) ∧ PotE (UE m (m 143 1).toNat d) P := by
  have h8 := hN.1
  have hd48 : 0 ≤ d ∧ d ≤ 48 := by omega
  have hd0 : 0 < d := by omega
  -- no way round is above 0
  have hD : ∀ o : Nat, o < (m 143 1).toNat → WM m 158 o o ≤ 0 := by
    intro o ho
    by_cases e : WM m 158 o o = -1000
    · omega
    · obtain ⟨x, h1, h2⟩ := ceil_ex (WM m 158 o o + m 160 o - m 160 o) hd0
      have h3 := hC.1.2.2.2.2 o o x ho ho ⟨ho, ho, e, h1, h2⟩
      have h4 := hC.2 o ho
      have := Int.mul_le_mul_of_nonneg_left (show x ≤ 0 by omega) (show 0 ≤ d by omega)
      rw [Int.mul_zero] at this
      omega
  have ring : ∀ (E : Nat → Nat → Int → Prop) (A : Nat) (R : Int), FwI R E A (m 143 1).toNat m (m 143 1).toNat 0 0 → Aup E → (∀ o : Nat, o < (m 143 1).toNat → WM m A o o ≤ 0) → ∀ a p v, a < (m 143 1).toNat → p.Nodup → (∀ c ∈ p, c < (m 143 1).toNat) → Wk E a p a v → v ≤ 0 := by
    intro E A R hI hu hD a p v ha n1 n2 n3
    have hl := nd_len n1 n2
    by_cases hv : v ≤ 0
    · exact hv
    · have := hI.2.1 hu a a ha ha p v n1 n2 n3 (by omega)
      have := hD a ha
      omega
  obtain ⟨φ, f1, f2⟩ := pot (E := NdE m d) (k := (m 143 1).toNat) (B := 42) (fun a b x h => by have := NdE.rng hN hd48 h; omega) (ring _ _ _ hW (NdE.aup hN hd48) hD) (fun a p b v hb n1 n2 n3 => by
    have l1 := nd_len (k := (m 143 1).toNat) n1 (fun c hc => by
      rcases List.mem_cons.mp hc with rfl | hc
      · exact hb
      · exact n2 c hc)
    have l2 := Wk.le6 (c := 6) (by omega) (fun a b x h => (NdE.rng hN hd48 h).2.2.2) n3
    rw [List.length_cons, List.length_cons] at l1
    omega)
  have hE : ∀ a b x, UE m (m 143 1).toNat d a b x → d * x ≤ (φ b - m 160 b) - (φ a - m 160 a) + (d - 1) := by
    intro a b x ⟨h1, h2, h3, h4, h5⟩
    have fa := f1 a
    have fb := f1 b
    have up : φ a + WM m 158 a b ≤ φ b := by
      by_cases e : -1000 < WM m 158 a b
      · exact hW.2.2.2.1 φ f2 a b h1 h2 e
      · omega
    rw [Int.mul_sub, Int.mul_one] at h4
    omega
  have hV : ∀ a b x, UE m (m 143 1).toNat d a b x → a < (m 143 1).toNat ∧ b < (m 143 1).toNat := fun a b x h => ⟨h.1, h.2.1⟩
  have hwk : ∀ a p b v, Wk (UE m (m 143 1).toNat d) a p b v → a < (m 143 1).toNat ∧ b < (m 143 1).toNat ∧ d * v ≤ 42 + (d - 1) + (d - 1) * (p.length + 1) := by
    intro a p b v hw
    have h1 := Wk.scal hE hw
    have ha : a < (m 143 1).toNat := by
      cases p with
      | nil => exact (hV _ _ _ hw).1
      | cons c p => obtain ⟨x, y, g1, -, -⟩ := hw; exact (hV _ _ _ g1).1
    have hb : ∀ {p : List Nat} {a b : Nat} {v : Int}, Wk (UE m (m 143 1).toNat d) a p b v → b < (m 143 1).toNat := by
      intro p
      induction p with
      | nil => intro a b v hw; exact (hV _ _ _ hw).2
      | cons c p ih => intro a b v hw; obtain ⟨x, y, -, g2, -⟩ := hw; exact ih g2
    have hb := hb hw
    have fa := f1 a
    have fb := f1 b
    have sa := hs a (by omega)
    have sb := hs b (by omega)
    exact ⟨ha, hb, by omega⟩
  have hAup : Aup (UE m (m 143 1).toNat d) := by
    intro a p b v n1 n2 n3
    obtain ⟨-, -, h1⟩ := hwk a p b v n3
    have hl := nd_len n1 n2
    have h2 := Int.mul_le_mul_of_nonneg_left (show (p.length + 1 : Int) ≤ 9 by omega) (show 0 ≤ d - 1 by omega)
    by_cases hv : v ≤ 99
    · exact hv
    · have := Int.mul_le_mul_of_nonneg_left (show (100 : Int) ≤ v by omega) (show 0 ≤ d by omega)
      omega
  have hq : 0 ≤ (42 + 8 * (d - 1)) / d := Int.ediv_nonneg (by omega) (by omega)
  have hq2 := Int.mul_ediv_self_le (x := 42 + 8 * (d - 1)) (k := d) (by omega)
  obtain ⟨P, p1, p2⟩ := pot (E := UE m (m 143 1).toNat d) (k := (m 143 1).toNat) (B := ((42 + 8 * (d - 1)) / d).toNat) hV (ring _ _ _ hC.1 hAup hC.2) (fun a p b v hb n1 n2 n3 => by
    obtain ⟨-, -, h1⟩ := hwk a p b v n3
    have l1 := nd_len (k := (m 143 1).toNat) n1 (fun c hc => by
      rcases List.mem_cons.mp hc with rfl | hc
      · exact hb
      · exact n2 c hc)
    rw [List.length_cons, List.length_cons] at l1
    have h2 := Int.mul_le_mul_of_nonneg_left (show (p.length + 1 : Int) ≤ 7 by omega) (show 0 ≤ d - 1 by omega)
    have h3 : v ≤ (42 + 8 * (d - 1)) / d := by
      rw [Int.le_ediv_iff_mul_le hd0, Int.mul_comm]
      omega
    omega)
  refine ⟨P, fun b => ⟨(p1 b).1, ?_⟩, p2⟩
  have h1 := (p1 b).2
  have := Int.mul_le_mul_of_nonneg_left (show P b ≤ (42 + 8 * (d - 1)) / d by omega) (show 0 ≤ d by omega)
  omega
section TIMES
variable {S : Nat × (Nat → Int32)} {n : Nat} {m0 : MM} {d : Int}
theorem lt_38 (hN : NdsOK m0) (hd : 1 ≤ d ∧ d ≤ 12) (hL : m0 143 18 = -1) (hW : WayOK m0 d) (hs : ∀ o : Nat, (o : Int) < m0 143 1 → 0 ≤ m0 160 o ∧ m0 160 o ≤ d - 1) {P : Nat → Int} (hP1 : ∀ b, 0 ≤ P b ∧ d * P b ≤ 42 + 8 * (d - 1)) (hP2 : PotE (UE m0 (m0 143 1).toNat d) P) {Kk : WK} (H : ∀ m', Fr1 161 m0 m' → (∀ o : Nat, (o : Int) < m0 143 1 → 0 ≤ m' 161 o ∧ m' 161 o ≤ 42 + 9 * (d - 1)) → Kk none m') : ∀ (N : Nat) (more : Int) (k : Nat) (mem : MM) (T : Nat → Int), (more = 0 ∨ more = 1) → (k : Int) ≤ m0 143 12 → 200 * smN (fun o => (P o - T o).toNat) (m0 143 1).toNat + 100 * more.toNat + (49 - k) < N → Fr1 161 m0 mem → (∀ o : Nat, (o : Int) < m0 143 1 → mem 161 o = m0 160 o + d * T o ∧ 0 ≤ T o ∧ T o ≤ P o) → Wx (Ex S (n + 1)) S M_276 Kk 38 [some (.inr 143), some (.inl d), some (.inl more), some (.inl (k : Int)), none] [] mem := by
  intro N
  induction N with
  | zero => intros; omega
  | succ N ih =>
    intro more k mem T hm hk hNN hF hT
    have h8 := hN.1
    have h48 := hN.2.1
    have hd0 : 0 < d := by omega
    have en : mem 143 12 = m0 143 12 := hF _ _ (by omega)
    have bnd : ∀ o : Nat, (o : Int) < m0 143 1 → 0 ≤ mem 161 o ∧ mem 161 o ≤ 42 + 9 * (d - 1) := by
      intro o ho
      obtain ⟨t1, t2, t3⟩ := hT o ho
      have := hs o ho
      have := (hP1 o).2
      have := Int.mul_nonneg (show 0 ≤ d by omega) t2
      have := Int.mul_le_mul_of_nonneg_left t3 (show 0 ≤ d by omega)
      omega
    refine w_276_38 (Ex.mono S (n + 1)) (fun v e _ => ⟨fun q => ?_, fun q => ?_⟩)
    · refine w_276_30 (Ex.mono S (n + 1)) ⟨fun q2 => H mem hF bnd, fun q2 => ?_⟩
      have : more = 1 := by omega
      subst this
      exact ih 0 0 mem T (Or.inl rfl) (by omega) (by omega) hF hT
    · have hk48 : 0 ≤ (k : Int) ∧ (k : Int) < 48 := by omega
      obtain ⟨p1, p2, p3, p4, p5, p6, p7, p8, p9⟩ := hN.2.2 k (by omega)
      have f4 : mem 154 k = m0 154 k := hF _ _ (by omega)
      have f5 : mem 155 k = m0 155 k := hF _ _ (by omega)
      have f6 : mem 156 k = m0 156 k := hF _ _ (by omega)
      have f7 : mem 157 k = m0 157 k := hF _ _ (by omega)
      have dm := dmul (d := d) ⟨by omega, by omega⟩ ⟨p5, p6⟩
      obtain ⟨a, ha⟩ : ∃ a : Nat, m0 154 k = a := ⟨(m0 154 k).toNat, by omega⟩
      obtain ⟨b, hb⟩ : ∃ b : Nat, m0 155 k = b := ⟨(m0 155 k).toNat, by omega⟩
      have ba := bnd a (by omega)
      have bb := bnd b (by omega)
      refine ⟨hk48, fun v2 e2 _ => ?_⟩
      rw [Int.toNat_natCast, f4, ha] at e2
      refine ⟨by omega, fun v3 e3 _ => ?_⟩
      rw [e2, Int.toNat_natCast] at e3
      refine ⟨hk48, fun v4 e4 _ => ?_⟩
      rw [Int.toNat_natCast, f7] at e4
      refine ⟨by unfold InI; omega, hk48, fun v5 e5 _ => ?_⟩
      rw [Int.toNat_natCast, f6] at e5
      subst e5
      refine ⟨by unfold InI; omega, by unfold InI; omega, hk48, fun v6 e6 _ => ?_⟩
      rw [Int.toNat_natCast, f5, hb] at e6
      refine ⟨by omega, fun v7 e7 _ => ?_⟩
      rw [e6, Int.toNat_natCast] at e7
      refine ⟨by unfold InI; omega, fun q2 => ?_, fun q2 => ⟨by unfold InI; omega, ih more (k + 1) mem T hm (by omega) (by omega) hF hT⟩⟩
      refine ⟨hk48, fun v8 e8 _ => ?_⟩
      rw [Int.toNat_natCast, f5, hb] at e8
      subst e8
      refine ⟨by omega, fun v9 e9 _ => ?_⟩
      rw [Int.toNat_natCast] at e9
      refine f_275 ⟨by omega, by omega⟩ ⟨by omega, by omega⟩ (fun c c1 c2 _ => ?_)
      obtain ⟨ta1, ta2, ta3⟩ := hT a (by omega)
      obtain ⟨tb1, tb2, tb3⟩ := hT b (by omega)
      -- the edge by slots
      have hedge : NdE m0 d a b (m0 157 k - d * m0 156 k) := ⟨k, by omega, by omega, ha, hb, rfl⟩
      have hway := hW.2.2.2.2 a b _ (by omega) (by omega) hedge
      obtain ⟨u, u1, u2⟩ := ceil_ex (WM m0 158 a b + m0 160 a - m0 160 b) hd0
      have hpu := hP2 a b u ⟨by omega, by omega, by omega, u1, u2⟩
      have hc1 : 1 ≤ c := by
        by_cases h : 1 ≤ c
        · exact h
        · have := Int.mul_le_mul_of_nonneg_left (show c ≤ 0 by omega) (show 0 ≤ d by omega)
          rw [Int.mul_zero] at this
          omega
      have hTb : T b + c ≤ T a + u := by
        have g : d * ((T b + c - T a) - 1) < WM m0 158 a b + m0 160 a - m0 160 b := by
          have e1 : d * ((T b + c - T a) - 1) = d * (c - 1) + d * T b - d * T a := by
            rw [show (T b + c - T a) - 1 = (c - 1) + T b - T a by omega, Int.mul_sub, Int.mul_add]
          omega
        have := ceil1 hd0 g u2
        omega
      have hTP : T b + c ≤ P b := by omega
      have dP := Int.mul_le_mul_of_nonneg_left hTP (show 0 ≤ d by omega)
      have dP2 := (hP1 b).2
      have dTb := Int.mul_nonneg (show 0 ≤ d by omega) tb2
      have dc := Int.mul_nonneg (show 0 ≤ d by omega) (show 0 ≤ c by omega)
      rw [Int.mul_add] at dP
      refine ⟨by unfold InI; omega, by unfold InI; omega, by omega, by unfold InI; omega, ?_⟩
      rw [Int.toNat_natCast]
      refine ih 1 (k + 1) _ (fun o => if o = b then T b + c else T o) (Or.inr rfl) (by omega) ?_ (hF.tr Fr1.up) (fun o ho => ?_)
      · have hdec : ∀ j, smN (fun o => (P o - (if o = b then T b + c else T o)).toNat) j ≤ smN (fun o => (P o - T o).toNat) j ∧ (b < j → smN (fun o => (P o - (if o = b then T b + c else T o)).toNat) j < smN (fun o => (P o - T o).toNat) j) := by
          intro j
          induction j with
          | zero => exact ⟨Nat.le_refl _, fun q => by omega⟩
          | succ j ihj =>
            simp only [smN]
            by_cases e : j = b
            · subst e
              rw [if_pos rfl]
              exact ⟨by omega, fun _ => by omega⟩
            · rw [if_neg e]
              exact ⟨by omega, fun q => by have := ihj.2 (by omega); omega⟩
        have := (hdec (m0 143 1).toNat).2 (by omega)
        have m1 : more.toNat ≤ 1 := by omega
        show 200 * smN (fun o => (P o - (if o = b then T b + c else T o)).toNat) (m0 143 1).toNat + 100 * 1 + (49 - (k + 1)) < N
        omega
      · by_cases e : o = b
        · subst e
          rw [if_pos rfl]
          refine ⟨?_, by omega, hTP⟩
          rw [upm_eq, Int.mul_add]
          omega
        · rw [if_neg e, upm_ne (fun z => e z.2)]
          exact hT o ho
theorem f_276 {K : MM → Prop} (hN : NdsOK m0) (hd : 1 ≤ d ∧ d ≤ 12) (hL : m0 143 18 = -1) (hW : WayOK m0 d) (hC : CanOK m0 d (m0 143 1).toNat) (hs : ∀ o : Nat, (o : Int) < m0 143 1 → 0 ≤ m0 160 o ∧ m0 160 o ≤ d - 1) (H : ∀ m', Fr1 161 m0 m' → (∀ o : Nat, (o : Int) < m0 143 1 → 0 ≤ m' 161 o ∧ m' 161 o ≤ 42 + 9 * (d - 1)) → K m') : CWV (Ex S (n + 2)) 276 [.inr 143, .inl d] m0 K := by
  obtain ⟨P, hP1, hP2⟩ := plan_pot hN hd hW hC hs
  refine CW.of (k := 3) mt_276 rfl rfl (w_276_0 (Ex.mono S (n + 1)) ?_)
  have h8 := hN.1
  have key : ∀ (N : Nat) (k : Nat) (mem : MM), (k : Int) ≤ m0 143 1 → m0 143 1 - k < N → Fr1 161 m0 mem → (∀ o : Nat, o < k → mem 161 o = m0 160 o) → Wx (Ex S (n + 1)) S M_276 (fun r m => r = none ∧ K m) 2 [some (.inr 143), some (.inl d), some (.inl (k : Int)), none, none] [] mem := by
    intro N
    induction N with
    | zero => intros; omega
    | succ N ih =>
      intro k mem hk hNN hF hA
      have eo : mem 143 1 = m0 143 1 := hF _ _ (by omega)
      refine w_276_2 (Ex.mono S (n + 1)) (fun v e _ => ⟨fun q => ?_, fun q => ⟨by omega, fun v2 e2 _ => ⟨by omega, by unfold InI; omega, ?_⟩⟩⟩)
      · refine w_276_30 (Ex.mono S (n + 1)) ⟨fun q2 => by omega, fun q2 => ?_⟩
        refine lt_38 hN hd hL hW hs hP1 hP2 (fun m' h1 h2 => ⟨rfl, H m' h1 h2⟩) _ 0 0 mem (fun _ => 0) (Or.inl rfl) (by have := hN.2.1; omega) (Nat.lt_succ_self _) hF (fun o ho => ⟨?_, by omega, (hP1 o).1⟩)
        rw [hA o (by omega), Int.mul_zero, Int.add_zero]
      · rw [Int.toNat_natCast] at e2 ⊢
        refine ih (k + 1) _ (by omega) (by omega) (hF.tr Fr1.up) (fun o ho => ?_)
        by_cases e3 : o = k
        · subst e3
          rw [upm_eq, e2]; exact hF _ _ (by omega)
        · rw [upm_ne (fun z => e3 z.2)]; exact hA o (by omega)
  exact key 9 0 m0 (by omega) (by omega) Fr1.rf (fun o ho => by omega)
end TIMES
/-! findsSlots comes to an end; fitsBy -/
def UnOK (m : MM) : Prop := ∀ k, k < 6 → 0 ≤ m 150 k ∧ m 150 k ≤ 2
def SlOK (m : MM) : Prop := ∀ o, o < 8 → -1 ≤ m 160 o ∧ m 160 o ≤ 12
theorem smN_congr {f g : Nat → Nat} : ∀ k, (∀ i, i < k → f i = g i) → smN f k = smN g k
  | 0, _ => rfl
  | k + 1, h => by simp only [smN]; rw [smN_congr k (fun i hi => h i (by omega)), h k (by omega)]
theorem FwI.congr {R : Int} {E : Nat → Nat → Int → Prop} {A k m a b : Nat} {mem mem' : MM} (e : ∀ i, mem' A i = mem A i) (h : FwI R E A k mem m a b) : FwI R E A k mem' m a b := by
  have e2 : WM mem' A = WM mem A := by funext x y; exact e _
  unfold FwI
  rw [e2]
  exact h
def Fr3 (m m' : MM) : Prop := ∀ A i, ¬ A = 159 → ¬ A = 160 → ¬ A = 162 → m' A i = m A i
theorem Fr3.rf {m : MM} : Fr3 m m := fun _ _ _ _ _ => rfl
theorem Fr3.tr {a b c : MM} (h1 : Fr3 a b) (h2 : Fr3 b c) : Fr3 a c := fun A i e1 e2 e3 => (h2 A i e1 e2 e3).trans (h1 A i e1 e2 e3)
theorem Fr1.f59 {a b : MM} (h : Fr1 159 a b) : Fr3 a b := fun A i e1 _ _ => h A i e1
theorem Fr1.f60 {a b : MM} (h : Fr1 160 a b) : Fr3 a b := fun A i _ e2 _ => h A i e2
theorem Fr1.f62 {a b : MM} (h : Fr1 162 a b) : Fr3 a b := fun A i _ _ e3 => h A i e3
theorem Fr3.ops {m m' : MM} (h : Fr3 m m') (H : OpsOK m) : OpsOK m' := by
  refine ⟨by rw [h 143 1 (by omega) (by omega) (by omega)]; exact H.1, fun o ho => ?_, fun k hk => by rw [h 151 k (by omega) (by omega) (by omega)]; exact H.2.2 k hk⟩
  have := H.2.1 o ho
  unfold OpOK at this ⊢
  rw [h 144 o (by omega) (by omega) (by omega), h 145 o (by omega) (by omega) (by omega), h 146 o (by omega) (by omega) (by omega), h 147 o (by omega) (by omega) (by omega), h 148 o (by omega) (by omega) (by omega)]
  exact this
theorem Fr3.un {m m' : MM} (h : Fr3 m m') (H : UnOK m) : UnOK m' := fun k hk => by rw [h 150 k (by omega) (by omega) (by omega)]; exact H k hk
theorem Fr3.nds {m m' : MM} (h : Fr3 m m') (H : NdsOK m) : NdsOK m' := by
  have e : ∀ A i, (A = 143 ∨ A = 154 ∨ A = 155 ∨ A = 156 ∨ A = 157) → m' A i = m A i := fun A i q => h A i (by omega) (by omega) (by omega)
  refine ⟨by rw [e 143 1 (by omega)]; exact H.1, by rw [e 143 12 (by omega)]; exact H.2.1, fun j hj => ?_⟩
  rw [e 143 12 (by omega)] at hj
  rw [e 143 1 (by omega), e 154 j (by omega), e 155 j (by omega), e 156 j (by omega), e 157 j (by omega)]
  exact H.2.2 j hj
theorem Fr3.way {m m' : MM} (h : Fr3 m m') {d : Int} (H : WayOK m d) : WayOK m' d := by
  have e : ∀ A i, (A = 143 ∨ A = 154 ∨ A = 155 ∨ A = 156 ∨ A = 157) → m' A i = m A i := fun A i q => h A i (by omega) (by omega) (by omega)
  have eE : NdE m' d = NdE m d := by
    funext a b x
    unfold NdE
    simp only [e 143 _ (by omega), e 154 _ (by omega), e 155 _ (by omega), e 156 _ (by omega), e 157 _ (by omega)]
  unfold WayOK at H ⊢
  rw [eE, e 143 1 (by omega)]
  exact H.congr (fun i => h 158 i (by omega) (by omega) (by omega))
theorem can0 (m : MM) (d : Int) : CanOK m d 0 := ⟨⟨fun a b h => by omega, fun _ a b h => by omega, fun _ a b h => by omega, fun φ _ a b h => by omega, fun a b x h => by omega⟩, fun o h => by omega⟩
section SLOTS
variable {S : Nat × (Nat → Int32)} {n : Nat} {mem : MM}
theorem f_264 {K : Int → MM → Prop} (hO : OpsOK mem) (hU : UnOK mem) {o : Int} (h : 0 ≤ o ∧ o < 8) (H : ∀ u, 0 ≤ u → u ≤ 2 → K u mem) : CWI (Ex S (n + 1)) 264 [.inr 143, .inl o] mem K := by
  obtain ⟨h1, h2, -⟩ := hO.2.1 o.toNat (by omega)
  refine CW.of (k := 0) mt_264 rfl rfl (w_264_0 (Ex.mono S n) ⟨h, fun v e _ => ⟨by omega, fun v2 e2 _ _ => ⟨_, rfl, ?_⟩⟩⟩)
  have := hU v.toNat (by omega)
  exact H _ (by omega) (by omega)
theorem f_265 {K : Int → MM → Prop} (hO : OpsOK mem) {o : Int} (h : 0 ≤ o ∧ o < 8) (H : ∀ u, K u mem) : CWI (Ex S (n + 1)) 265 [.inr 143, .inl o] mem K := by
  obtain ⟨h1, h2, -⟩ := hO.2.1 o.toNat (by omega)
  exact CW.of (k := 0) mt_265 rfl rfl (w_265_0 (Ex.mono S n) ⟨h, fun v e _ => ⟨by omega, fun v2 e2 _ _ => ⟨_, rfl, H _⟩⟩⟩)
theorem f_270 {K : MM → Prop} (H : ∀ m', Fr1 159 mem m' → K m') : CWV (Ex S (n + 1)) 270 [.inr 143] mem K := by
  refine CW.of (k := 1) mt_270 rfl rfl (w_270_0 (Ex.mono S n) ?_)
  have key : ∀ (N : Nat) (k : Nat) (m : MM), k ≤ 36 → 36 - k < N → Fr1 159 mem m → Wx (Ex S n) S M_270 (fun r m => r = none ∧ K m) 2 [some (.inr 143), some (.inl (k : Int))] [] m := by
    intro N
    induction N with
    | zero => intros; omega
    | succ N ih =>
      intro k m hk hN hF
      exact w_270_2 (Ex.mono S n) ⟨fun q => ⟨rfl, H m hF⟩, fun q => ⟨by omega, by unfold InI; omega, ih (k + 1) _ (by omega) (by omega) (hF.tr Fr1.up)⟩⟩
  exact key 37 0 mem (by omega) (by omega) Fr1.rf
theorem f_271 {K : MM → Prop} (hO : OpsOK mem) (hU : UnOK mem) {o t d by_ : Int} (ho : 0 ≤ o ∧ o < 8) (ht : -1000000 ≤ t ∧ t ≤ 1000000) (hd : 1 ≤ d ∧ d ≤ 12) (H : ∀ m', Fr1 159 mem m' → K m') : CWV (Ex S (n + 2)) 271 [.inr 143, .inl o, .inl t, .inl d, .inl by_] mem K := by
  refine CW.of (k := 1) mt_271 rfl rfl (w_271_0 (Ex.mono S (n + 1)) ?_)
  have key : ∀ (N : Nat) (k : Nat) (m : MM), k ≤ 4 → 4 - k < N → Fr1 159 mem m → Wx (Ex S (n + 1)) S M_271 (fun r m => r = none ∧ K m) 3 [some (.inr 143), some (.inl o), some (.inl t), some (.inl d), some (.inl by_), some (.inl (k : Int))] [] m := by
    intro N
    induction N with
    | zero => intros; omega
    | succ N ih =>
      intro k m hk hN hF
      have hO2 := hF.f59.ops hO
      have hU2 := hF.f59.un hU
      refine w_271_3 (Ex.mono S (n + 1)) ⟨fun q => ⟨rfl, H m hF⟩, fun q => f_265 hO2 ho (fun r _ b3 _ _ b4 _ _ => ⟨fun _ => ⟨by unfold InI; omega, ih (k + 1) m (by omega) (by omega) hF⟩, fun _ => ?_⟩)⟩
      refine f_264 hO2 hU2 ho (fun u u1 u2 _ => ⟨by unfold InI; omega, by unfold InI; omega, f_272 ⟨by omega, by omega⟩ (fun r r1 r2 _ => ?_)⟩)
      exact ⟨by unfold InI; omega, by omega, fun v9 _ _ z _ _ => ⟨by omega, by unfold InI; omega, ih (k + 1) _ (by omega) (by omega) (hF.tr Fr1.up)⟩⟩
  exact key 5 0 mem (by omega) (by omega) Fr1.rf
theorem f_273 {K : Int → MM → Prop} {u d : Int} (hu : 0 ≤ u ∧ u ≤ 2) (hd : 1 ≤ d ∧ d ≤ 12) (H : ∀ r, r = 0 ∨ r = 1 → K r mem) : CWI (Ex S (n + 1)) 273 [.inr 143, .inl u, .inl d] mem K := by
  refine CW.of (k := 1) mt_273 rfl rfl (w_273_0 (Ex.mono S n) ?_)
  have key : ∀ (N : Nat) (k : Nat), (k : Int) ≤ d → d - k < N → Wx (Ex S n) S M_273 (fun r m => ∃ y, r = some y ∧ K y m) 2 [some (.inr 143), some (.inl u), some (.inl d), some (.inl (k : Int))] [] mem := by
    intro N
    induction N with
    | zero => intros; omega
    | succ N ih =>
      intro k hk hN
      exact w_273_2 (Ex.mono S n) ⟨fun q => ⟨_, rfl, H _ (Or.inl rfl)⟩, fun q => ⟨by unfold InI; omega, by unfold InI; omega, by omega, fun v1 _ _ => ⟨by omega, fun v2 _ _ => ⟨fun _ => ⟨by unfold InI; omega, ih (k + 1) (by omega) (by omega)⟩, fun _ => ⟨_, rfl, H _ (Or.inr rfl)⟩⟩⟩⟩⟩
  exact key 13 0 (by omega) (by omega)
def odo (m : MM) (d : Int) : Nat → Nat := smN (fun i => (d - m 160 i).toNat * 14 ^ (8 - i))
theorem odo_eq {m m' : MM} {d : Int} {k : Nat} (h : ∀ i, i < k → m' 160 i = m 160 i) : odo m' d k = odo m d k := smN_congr k (fun i hi => by rw [h i hi])
theorem fs_20 {m0 : MM} {d : Int} (hO : OpsOK m0) (hU : UnOK m0) (hN : NdsOK m0) (hd : 1 ≤ d ∧ d ≤ 12) (hW : WayOK m0 d) {Kk : WK} (H1 : ∀ m', Fr3 m0 m' → SlOK m' → CanOK m' d (m0 143 1).toNat → (∀ o : Nat, (o : Int) < m0 143 1 → 0 ≤ m' 160 o ∧ m' 160 o ≤ d - 1) → Kk (some 1) m') (H0 : ∀ m', Fr3 m0 m' → SlOK m' → Kk (some 0) m') : ∀ (N : Nat) (j : Nat) (mem : MM), (j : Int) < m0 143 1 → odo mem d (j + 1) < N → Fr3 m0 mem → SlOK mem → (∀ i, i < j → 0 ≤ mem 160 i ∧ mem 160 i ≤ d - 1) → -1 ≤ mem 160 j → mem 160 j ≤ d - 1 → Wx (Ex S (n + 2)) S M_269 Kk 20 [some (.inr 143), some (.inl d), some (.inl (j : Int))] [] mem := by
  intro N
  induction N with
  | zero => intros; omega
  | succ N ih =>
    intro j mem hj hNN hF hS hA hs1 hs2
    have h8 := hO.1
    have hj8 : 0 ≤ (j : Int) ∧ (j : Int) < 8 := by omega
    have pw : 1 ≤ 14 ^ (8 - j) := Nat.one_le_pow _ _ (by omega)
    -- behind what was taken away
    have at51 : ∀ m, Fr1 159 mem m → Wx (Ex S (n + 2)) S M_269 Kk 51 [some (.inr 143), some (.inl d), some (.inl (j : Int))] [] m := by
      intro m h59
      have hF2 := hF.tr h59.f59
      have e60 : ∀ i, m 160 i = mem 160 i := fun i => h59 _ _ (by omega)
      refine w_269_51 (Ex.mono S (n + 2)) ⟨hj8, fun v1 e1 _ => ?_⟩
      rw [Int.toNat_natCast, e60] at e1
      refine ⟨by unfold InI; omega, hj8, hj8, fun v2 e2 _ => ?_⟩
      rw [Int.toNat_natCast] at e2 ⊢
      rw [upm_eq] at e2
      have hF3 : Fr3 m0 (upm m 160 j (v1 + 1)) := hF2.tr Fr1.up.f60
      have q60 : ∀ i, upm m 160 j (v1 + 1) 160 i = if i = j then v1 + 1 else mem 160 i := fun i => by
        by_cases e : i = j
        · subst e; rw [upm_eq, if_pos rfl]
        · rw [upm_ne (fun z => e z.2), if_neg e, e60]
      have hS3 : SlOK (upm m 160 j (v1 + 1)) := fun o ho => by
        rw [q60]
        split
        · omega
        · exact hS o ho
      have hod : odo mem d (j + 1) = odo mem d j + (d - mem 160 j).toNat * 14 ^ (8 - j) := rfl
      have low : ∀ m', (∀ i, i < j → m' 160 i = mem 160 i) → odo m' d j = odo mem d j := fun m' h => odo_eq h
      refine ⟨fun q => ?_, fun q => ⟨fun q2 => ⟨by unfold InI; omega, ?_⟩, fun q2 => H0 _ hF3 hS3⟩⟩
      · refine ⟨hj8, fun v3 e3 _ => ?_⟩
        rw [upm_eq] at e3
        refine f_271 (hF3.ops hO) (hF3.un hU) hj8 ⟨by omega, by omega⟩ hd (fun m4 k59 => ?_)
        have hF4 := hF3.tr k59.f59
        have q604 : ∀ i, m4 160 i = if i = j then v1 + 1 else mem 160 i := fun i => by rw [k59 160 i (by omega), q60]
        have hS4 : SlOK m4 := fun o ho => by rw [k59 160 o (by omega)]; exact hS3 o ho
        -- again at the same op
        have stay : ∀ m5, Fr1 162 m4 m5 → Wx (Ex S (n + 2)) S M_269 Kk 20 [some (.inr 143), some (.inl d), some (.inl (j : Int))] [] m5 := by
          intro m5 k62
          have q605 : ∀ i, m5 160 i = if i = j then v1 + 1 else mem 160 i := fun i => by rw [k62 160 i (by omega), q604]
          refine ih j m5 hj ?_ (hF4.tr k62.f62) (fun o ho => by rw [k62 160 o (by omega)]; exact hS4 o ho) (fun i hi => by rw [q605, if_neg (by omega)]; exact hA i hi) (by rw [q605, if_pos rfl]; omega) (by rw [q605, if_pos rfl]; omega)
          have e5 : odo m5 d (j + 1) = odo m5 d j + (d - m5 160 j).toNat * 14 ^ (8 - j) := rfl
          have e6 := low m5 (fun i hi => by rw [q605, if_neg (by omega)])
          have e7 : (d - m5 160 j).toNat + 1 = (d - mem 160 j).toNat := by rw [q605, if_pos rfl]; omega
          rw [← e7, Nat.add_mul, Nat.one_mul] at hod
          omega
        refine f_264 (hF4.ops hO) (hF4.un hU) hj8 (fun u u1 u2 _ => f_273 ⟨u1, u2⟩ hd (fun r _ _ => ⟨fun _ => stay m4 Fr1.rf, fun _ => ⟨by unfold InI; omega, ?_⟩⟩))
        have hW4 := hF4.way hW
        have eo4 : m4 143 1 = m0 143 1 := hF4 _ _ (by omega) (by omega) (by omega)
        rw [show ((j : Int) + 1) = ((j + 1 : Nat) : Int) by omega]
        refine f_274 (k := j + 1) ⟨by omega, by omega⟩ hd (fun a b ha hb => hW4.1 a b (by omega) (by omega)) hS4 (fun m9 k62 hC _ => ⟨fun _ => ?_, fun z => absurd (by decide) z⟩) (fun m9 k62 _ => ⟨fun z => absurd rfl z, fun _ => stay m9 k62⟩)
        have hF9 := hF4.tr k62.f62
        have q609 : ∀ i, m9 160 i = if i = j then v1 + 1 else mem 160 i := fun i => by rw [k62 160 i (by omega), q604]
        have hS9 : SlOK m9 := fun o ho => by rw [k62 160 o (by omega)]; exact hS4 o ho
        have hA9 : ∀ i, i < j + 1 → 0 ≤ m9 160 i ∧ m9 160 i ≤ d - 1 := fun i hi => by
          rw [q609]
          split
          · omega
          · exact hA i (by omega)
        have eo9 : m9 143 1 = m0 143 1 := hF9 _ _ (by omega) (by omega) (by omega)
        refine ⟨by unfold InI; omega, fun v11 e11 _ => ⟨fun z => ?_, fun z => ⟨by omega, ?_⟩⟩⟩
        · have e11 : v11 = m0 143 1 := by rw [e11]; exact hF9 _ _ (by omega) (by omega) (by omega)
          refine w_269_20 (Ex.mono S (n + 2)) (fun v e _ => ⟨fun _ => H1 m9 hF9 hS9 ?_ (fun o ho => hA9 o (by omega)), fun z2 => ?_⟩)
          · rw [show (m0 143 1).toNat = j + 1 by omega]; exact hC
          · have e : v = m0 143 1 := by rw [e]; exact hF9 _ _ (by omega) (by omega) (by omega)
            omega
        · have e11 : v11 = m0 143 1 := by rw [e11]; exact hF9 _ _ (by omega) (by omega) (by omega)
          rw [Int.toNat_natCast]
          have q6 : ∀ i, upm m9 160 (j + 1) (-1) 160 i = if i = j + 1 then -1 else if i = j then v1 + 1 else mem 160 i := fun i => by
            by_cases e : i = j + 1
            · subst e; rw [upm_eq, if_pos rfl]
            · rw [upm_ne (fun z => e z.2), if_neg e, q609]
          refine ih (j + 1) _ (by omega) ?_ (hF9.tr Fr1.up.f60) (fun o ho => ?_) (fun i hi => ?_) (by rw [q6, if_pos rfl]; omega) (by rw [q6, if_pos rfl]; omega)
          · have e5 : odo (upm m9 160 (j + 1) (-1)) d (j + 1 + 1) = odo (upm m9 160 (j + 1) (-1)) d j + (d - upm m9 160 (j + 1) (-1) 160 j).toNat * 14 ^ (8 - j) + (d - upm m9 160 (j + 1) (-1) 160 (j + 1)).toNat * 14 ^ (8 - (j + 1)) := rfl
            have e6 := low (upm m9 160 (j + 1) (-1)) (fun i hi => by rw [q6, if_neg (by omega), if_neg (by omega)])
            have e7 : (d - upm m9 160 (j + 1) (-1) 160 j).toNat + 1 = (d - mem 160 j).toNat := by rw [q6, if_neg (by omega), if_pos rfl]; omega
            have e8 : (d - upm m9 160 (j + 1) (-1) 160 (j + 1)).toNat ≤ 13 := by rw [q6, if_pos rfl]; omega
            have e9 : 14 ^ (8 - j) = 14 ^ (8 - (j + 1)) * 14 := by rw [show 8 - j = (8 - (j + 1)) + 1 by omega, Nat.pow_succ]
            have e10 := Nat.mul_le_mul_right (14 ^ (8 - (j + 1))) e8
            have p2 : 1 ≤ 14 ^ (8 - (j + 1)) := Nat.one_le_pow _ _ (by omega)
            rw [← e7, Nat.add_mul, Nat.one_mul] at hod
            omega
          · rw [q6]
            split
            · omega
            · split
              · omega
              · exact hS o ho
          · rw [q6, if_neg (by omega)]
            split
            · omega
            · exact hA i (by omega)
      · rw [show (j : Int) + -1 = ((j - 1 : Nat) : Int) by omega]
        have hA1 := hA (j - 1) (by omega)
        refine ih (j - 1) _ (by omega) ?_ hF3 hS3 (fun i hi => by rw [q60, if_neg (by omega)]; exact hA i (by omega)) (by rw [q60, if_neg (by omega)]; omega) (by rw [q60, if_neg (by omega)]; omega)
        have e6 := low (upm m 160 j (v1 + 1)) (fun i hi => by rw [q60, if_neg (by omega)])
        rw [show j - 1 + 1 = j by omega, e6]
        have e7 : (d - mem 160 j).toNat = 1 := by omega
        rw [e7, Nat.one_mul] at hod
        omega
    refine w_269_20 (Ex.mono S (n + 2)) (fun v e _ => ⟨fun q => ?_, fun q => ⟨hj8, fun v2 e2 _ => ⟨fun q2 => at51 mem Fr1.rf, fun q2 => ⟨hj8, fun v3 e3 _ => ?_⟩⟩⟩⟩)
    · have e : v = m0 143 1 := by rw [e]; exact hF _ _ (by omega) (by omega) (by omega)
      omega
    · rw [Int.toNat_natCast] at e3
      exact f_271 (hF.ops hO) (hF.un hU) hj8 ⟨by omega, by omega⟩ hd (fun m4 k59 => at51 m4 k59)
theorem f_269 {K : Int → MM → Prop} {d : Int} (hO : OpsOK mem) (hU : UnOK mem) (hN : NdsOK mem) (hSl : SlOK mem) (hd : 1 ≤ d ∧ d ≤ 12) (hW : WayOK mem d) (H1 : ∀ m', Fr3 mem m' → SlOK m' → CanOK m' d (mem 143 1).toNat → (∀ o : Nat, (o : Int) < mem 143 1 → 0 ≤ m' 160 o ∧ m' 160 o ≤ d - 1) → K 1 m') (H0 : ∀ m', Fr3 mem m' → SlOK m' → K 0 m') : CWI (Ex S (n + 3)) 269 [.inr 143, .inl d] mem K := by
  refine CW.of (k := 1) mt_269 rfl rfl (w_269_0 (Ex.mono S (n + 2)) (f_270 (fun m1 k59 v2 e2 _ => ?_)))
  have h8 := hO.1
  have hF := k59.f59
  have e2 : v2 = mem 143 1 := by rw [e2]; exact k59 _ _ (by omega)
  have hS1 : SlOK m1 := fun o ho => by rw [k59 160 o (by omega)]; exact hSl o ho
  refine ⟨fun q => ?_, fun q => ⟨by omega, ?_⟩⟩
  · refine w_269_20 (Ex.mono S (n + 2)) (fun v e _ => ⟨fun _ => ⟨_, rfl, H1 m1 hF hS1 ?_ (fun o ho => by omega)⟩, fun z2 => ?_⟩)
    · rw [show (mem 143 1).toNat = 0 by omega]; exact can0 _ _
    · have e : v = mem 143 1 := by rw [e]; exact k59 _ _ (by omega)
      omega
  · refine fs_20 hO hU hN hd hW (fun m' a b c e => ⟨_, rfl, H1 m' a b c e⟩) (fun m' a b => ⟨_, rfl, H0 m' a b⟩) _ 0 _ (by omega) (Nat.lt_succ_self _) (hF.tr Fr1.up.f60) (fun o ho => ?_) (fun i hi => by omega) ?_ ?_
    · by_cases e : o = (0 : Int).toNat
      · rw [e, upm_eq]; omega
      · rw [upm_ne (fun z => e z.2)]; exact hS1 o ho
    · rw [show (0 : Int).toNat = 0 from rfl, upm_eq]; omega
    · rw [show (0 : Int).toNat = 0 from rfl, upm_eq]; omega
/-- all that fitsBy may write -/
def FrF (m m' : MM) : Prop := ∀ A i, ¬ A = 154 → ¬ A = 155 → ¬ A = 156 → ¬ A = 157 → ¬ A = 158 → ¬ A = 159 → ¬ A = 160 → ¬ A = 161 → ¬ A = 162 → ¬ (A = 143 ∧ i = 12) → m' A i = m A i
theorem FrW.f {a b : MM} (h : FrW a b) : FrF a b := fun A i e1 e2 e3 e4 e5 _ _ _ _ e6 => h A i e1 e2 e3 e4 e5 e6
theorem Fr3.f {a b : MM} (h : Fr3 a b) : FrF a b := fun A i _ _ _ _ _ e1 e2 _ e3 _ => h A i e1 e2 e3
theorem Fr1.t {a b : MM} (h : Fr1 161 a b) : FrF a b := fun A i _ _ _ _ _ _ _ e _ _ => h A i e
theorem FrF.tr {a b c : MM} (h1 : FrF a b) (h2 : FrF b c) : FrF a c := fun A i a1 a2 a3 a4 a5 a6 a7 a8 a9 a10 => (h2 A i a1 a2 a3 a4 a5 a6 a7 a8 a9 a10).trans (h1 A i a1 a2 a3 a4 a5 a6 a7 a8 a9 a10)
theorem FrW.ops {m m' : MM} (h : FrW m m') (H : OpsOK m) : OpsOK m' := by
  have e : ∀ A i, (A = 144 ∨ A = 145 ∨ A = 146 ∨ A = 147 ∨ A = 148 ∨ A = 151) → m' A i = m A i := fun A i q => h A i (by omega) (by omega) (by omega) (by omega) (by omega) (by omega)
  refine ⟨by rw [h 143 1 (by omega) (by omega) (by omega) (by omega) (by omega) (by omega)]; exact H.1, fun o ho => ?_, fun k hk => by rw [e 151 k (by omega)]; exact H.2.2 k hk⟩
  have := H.2.1 o ho
  unfold OpOK at this ⊢
  rw [e 144 o (by omega), e 145 o (by omega), e 146 o (by omega), e 147 o (by omega), e 148 o (by omega)]
  exact this
def TmOK (m : MM) (d : Int) : Prop := ∀ o : Nat, (o : Int) < m 143 1 → 0 ≤ m 161 o ∧ m 161 o ≤ 42 + 9 * (d - 1)
theorem f_268 {K : Int → MM → Prop} {d : Int} (hO : OpsOK mem) (hU : UnOK mem) (hSl : SlOK mem) (hL : mem 143 18 = -1) (hd : 1 ≤ d ∧ d ≤ 12) (H1 : ∀ m', FrF mem m' → RN mem m' → SlOK m' → SoundM mem → NdsOK m' → m' 143 12 ≤ 44 → TmOK m' d → K 1 m') (H0 : ∀ m', FrF mem m' → RN mem m' → SlOK m' → (∀ o, m' 161 o = mem 161 o) → K 0 m') : CWI (Ex S (n + 5)) 268 [.inr 143, .inl d] mem K := by
  refine CW.of (k := 0) mt_268 rfl rfl (w_268_0 (Ex.mono S (n + 4)) (f_254 hO (fun m1 k1 r1 _ => ⟨fun z => absurd z (by decide), fun _ => ⟨_, rfl, H0 m1 k1.f r1 (fun o ho => ?_) (fun o => k1 _ _ (by omega) (by omega) (by omega) (by omega) (by omega) (by omega))⟩⟩) (fun m1 k1 r1 hS hN h44 _ => ⟨fun _ => ?_, fun z => absurd rfl z⟩)))
  · rw [k1 160 o (by omega) (by omega) (by omega) (by omega) (by omega) (by omega)]; exact hSl o ho
  · refine f_256 hN ⟨by omega, by omega⟩ (fun m2 k2 hW => ?_)
    have kW := k1.tr k2.w
    have hO2 := kW.ops hO
    have hU2 : UnOK m2 := fun k hk => by rw [kW 150 k (by omega) (by omega) (by omega) (by omega) (by omega) (by omega)]; exact hU k hk
    have hS2 : SlOK m2 := fun o ho => by rw [kW 160 o (by omega) (by omega) (by omega) (by omega) (by omega) (by omega)]; exact hSl o ho
    have hN2 := hN.fr k2
    refine f_269 hO2 hU2 hN2 hS2 hd hW (fun m3 k3 s3 c3 t3 _ => ⟨fun _ => ?_, fun z => absurd (by decide) z⟩) (fun m3 k3 s3 _ => ⟨fun z => absurd rfl z, fun _ => ⟨_, rfl, H0 m3 (kW.f.tr k3.f) ((r1.tr (k2.rn (by omega))).tr (RN.same (fun B i e => k3 B i (by omega) (by omega) (by omega)) (k3 _ _ (by omega) (by omega) (by omega)))) s3 (fun o => ?_)⟩⟩)
    · have eo : m3 143 1 = m2 143 1 := k3 _ _ (by omega) (by omega) (by omega)
      refine f_276 (k3.nds hN2) hd ?_ (k3.way hW) (by rw [eo]; exact c3) (fun o ho => t3 o (by omega)) (fun m4 k4 b4 => ⟨_, rfl, H1 m4 ((kW.f.tr k3.f).tr k4.t) (((r1.tr (k2.rn (by omega))).tr (RN.same (fun B i e => k3 B i (by omega) (by omega) (by omega)) (k3 _ _ (by omega) (by omega) (by omega)))).tr (k4.rn (by omega))) (fun o ho => by rw [k4 160 o (by omega)]; exact s3 o ho) hS ?_ ?_ ?_⟩)
      · rw [k3 143 18 (by omega) (by omega) (by omega), kW 143 18 (by omega) (by omega) (by omega) (by omega) (by omega) (by omega)]; exact hL
      · have hN3 := k3.nds hN2
        have e : ∀ A i, ¬ A = 161 → m4 A i = m3 A i := fun A i q => k4 A i q
        refine ⟨by rw [e 143 1 (by omega)]; exact hN3.1, by rw [e 143 12 (by omega)]; exact hN3.2.1, fun j hj => ?_⟩
        rw [e 143 12 (by omega)] at hj
        rw [e 143 1 (by omega), e 154 j (by omega), e 155 j (by omega), e 156 j (by omega), e 157 j (by omega)]
        exact hN3.2.2 j hj
      · rw [k4 143 12 (by omega), k3 143 12 (by omega) (by omega) (by omega), k2 143 12 (by omega)]; exact h44
      · intro o ho
        rw [k4 143 1 (by omega)] at ho
        exact b4 o ho
    · rw [k3 161 o (by omega) (by omega) (by omega)]
      exact kW _ _ (by omega) (by omega) (by omega) (by omega) (by omega) (by omega)
end SLOTS
/-! laid by wip/hand/wxg.py: lives: what the paths of methods ask for -/
set_option maxRecDepth 100000 in
theorem mt_295 : MT[295]? = some M_295 := rfl
set_option maxRecDepth 100000 in
theorem mt_296 : MT[296]? = some M_296 := rfl
set_option maxRecDepth 100000 in
theorem mt_297 : MT[297]? = some M_297 := rfl
set_option maxRecDepth 100000 in
theorem mt_298 : MT[298]? = some M_298 := rfl
theorem te_295_0 : (pT M_295).find? (fun e => e.1 == 0) = some (0, .aload_n 0, 0, 0) := rfl
theorem te_295_1 : (pT M_295).find? (fun e => e.1 == 1) = some (1, .getfield 7, 10, 2) := rfl
theorem te_295_4 : (pT M_295).find? (fun e => e.1 == 4) = some (4, .iload_n 1, 0, 0) := rfl
theorem te_295_5 : (pT M_295).find? (fun e => e.1 == 5) = some (5, .iaload, 0, 0) := rfl
theorem te_295_6 : (pT M_295).find? (fun e => e.1 == 6) = some (6, .iconst 5, 0, 0) := rfl
theorem te_295_7 : (pT M_295).find? (fun e => e.1 == 7) = some (7, .if_icmp .ne 5, 0, 0) := rfl
theorem te_295_10 : (pT M_295).find? (fun e => e.1 == 10) = some (10, .iconst 0, 0, 0) := rfl
theorem te_295_11 : (pT M_295).find? (fun e => e.1 == 11) = some (11, .ireturn, 0, 0) := rfl
theorem te_295_12 : (pT M_295).find? (fun e => e.1 == 12) = some (12, .aload_n 0, 0, 0) := rfl
theorem te_295_13 : (pT M_295).find? (fun e => e.1 == 13) = some (13, .iload_n 2, 0, 0) := rfl
theorem te_295_14 : (pT M_295).find? (fun e => e.1 == 14) = some (14, .invokevirtual 281, 296, 0) := rfl
theorem te_295_17 : (pT M_295).find? (fun e => e.1 == 17) = some (17, .istore_n 3, 0, 0) := rfl
theorem te_295_18 : (pT M_295).find? (fun e => e.1 == 18) = some (18, .aload_n 0, 0, 0) := rfl
theorem te_295_19 : (pT M_295).find? (fun e => e.1 == 19) = some (19, .iload_n 1, 0, 0) := rfl
theorem te_295_20 : (pT M_295).find? (fun e => e.1 == 20) = some (20, .iload_n 2, 0, 0) := rfl
theorem te_295_21 : (pT M_295).find? (fun e => e.1 == 21) = some (21, .invokevirtual 278, 297, 0) := rfl
theorem te_295_24 : (pT M_295).find? (fun e => e.1 == 24) = some (24, .istore 4, 0, 0) := rfl
theorem te_295_26 : (pT M_295).find? (fun e => e.1 == 26) = some (26, .iload_n 3, 0, 0) := rfl
theorem te_295_27 : (pT M_295).find? (fun e => e.1 == 27) = some (27, .iload 4, 0, 0) := rfl
theorem te_295_29 : (pT M_295).find? (fun e => e.1 == 29) = some (29, .irem, 0, 0) := rfl
theorem te_295_30 : (pT M_295).find? (fun e => e.1 == 30) = some (30, .ifCond .eq 9, 0, 0) := rfl
theorem te_295_33 : (pT M_295).find? (fun e => e.1 == 33) = some (33, .iinc 4 1, 0, 0) := rfl
theorem te_295_36 : (pT M_295).find? (fun e => e.1 == 36) = some (36, .goto (-10), 0, 0) := rfl
theorem te_295_39 : (pT M_295).find? (fun e => e.1 == 39) = some (39, .iload 4, 0, 0) := rfl
theorem te_295_41 : (pT M_295).find? (fun e => e.1 == 41) = some (41, .ireturn, 0, 0) := rfl
theorem te_296_0 : (pT M_296).find? (fun e => e.1 == 0) = some (0, .iconst 1, 0, 0) := rfl
theorem te_296_1 : (pT M_296).find? (fun e => e.1 == 1) = some (1, .istore_n 2, 0, 0) := rfl
theorem te_296_2 : (pT M_296).find? (fun e => e.1 == 2) = some (2, .iconst 0, 0, 0) := rfl
theorem te_296_3 : (pT M_296).find? (fun e => e.1 == 3) = some (3, .istore_n 3, 0, 0) := rfl
theorem te_296_4 : (pT M_296).find? (fun e => e.1 == 4) = some (4, .iload_n 3, 0, 0) := rfl
theorem te_296_5 : (pT M_296).find? (fun e => e.1 == 5) = some (5, .aload_n 0, 0, 0) := rfl
theorem te_296_6 : (pT M_296).find? (fun e => e.1 == 6) = some (6, .getfield 108, 10, 1) := rfl
theorem te_296_9 : (pT M_296).find? (fun e => e.1 == 9) = some (9, .if_icmp .ge 20, 0, 0) := rfl
theorem te_296_12 : (pT M_296).find? (fun e => e.1 == 12) = some (12, .iload_n 2, 0, 0) := rfl
theorem te_296_13 : (pT M_296).find? (fun e => e.1 == 13) = some (13, .aload_n 0, 0, 0) := rfl
theorem te_296_14 : (pT M_296).find? (fun e => e.1 == 14) = some (14, .iload_n 3, 0, 0) := rfl
theorem te_296_15 : (pT M_296).find? (fun e => e.1 == 15) = some (15, .iload_n 1, 0, 0) := rfl
theorem te_296_16 : (pT M_296).find? (fun e => e.1 == 16) = some (16, .invokevirtual 278, 297, 0) := rfl
theorem te_296_19 : (pT M_296).find? (fun e => e.1 == 19) = some (19, .invokestatic 167, 257, 2) := rfl
theorem te_296_22 : (pT M_296).find? (fun e => e.1 == 22) = some (22, .istore_n 2, 0, 0) := rfl
theorem te_296_23 : (pT M_296).find? (fun e => e.1 == 23) = some (23, .iinc 3 1, 0, 0) := rfl
theorem te_296_26 : (pT M_296).find? (fun e => e.1 == 26) = some (26, .goto (-22), 0, 0) := rfl
theorem te_296_29 : (pT M_296).find? (fun e => e.1 == 29) = some (29, .iload_n 2, 0, 0) := rfl
theorem te_296_30 : (pT M_296).find? (fun e => e.1 == 30) = some (30, .ireturn, 0, 0) := rfl
theorem te_297_0 : (pT M_297).find? (fun e => e.1 == 0) = some (0, .aload_n 0, 0, 0) := rfl
theorem te_297_1 : (pT M_297).find? (fun e => e.1 == 1) = some (1, .getfield 7, 10, 2) := rfl
theorem te_297_4 : (pT M_297).find? (fun e => e.1 == 4) = some (4, .iload_n 1, 0, 0) := rfl
theorem te_297_5 : (pT M_297).find? (fun e => e.1 == 5) = some (5, .iaload, 0, 0) := rfl
theorem te_297_6 : (pT M_297).find? (fun e => e.1 == 6) = some (6, .iconst 5, 0, 0) := rfl
theorem te_297_7 : (pT M_297).find? (fun e => e.1 == 7) = some (7, .if_icmp .ne 7, 0, 0) := rfl
theorem te_297_10 : (pT M_297).find? (fun e => e.1 == 10) = some (10, .iconst 0, 0, 0) := rfl
theorem te_297_11 : (pT M_297).find? (fun e => e.1 == 11) = some (11, .goto 17, 0, 0) := rfl
theorem te_297_14 : (pT M_297).find? (fun e => e.1 == 14) = some (14, .iconst 1, 0, 0) := rfl
theorem te_297_15 : (pT M_297).find? (fun e => e.1 == 15) = some (15, .aload_n 0, 0, 0) := rfl
theorem te_297_16 : (pT M_297).find? (fun e => e.1 == 16) = some (16, .iload_n 1, 0, 0) := rfl
theorem te_297_17 : (pT M_297).find? (fun e => e.1 == 17) = some (17, .iload_n 2, 0, 0) := rfl
theorem te_297_18 : (pT M_297).find? (fun e => e.1 == 18) = some (18, .invokevirtual 275, 298, 0) := rfl
theorem te_297_21 : (pT M_297).find? (fun e => e.1 == 21) = some (21, .iload_n 2, 0, 0) := rfl
theorem te_297_22 : (pT M_297).find? (fun e => e.1 == 22) = some (22, .invokestatic 192, 275, 2) := rfl
theorem te_297_25 : (pT M_297).find? (fun e => e.1 == 25) = some (25, .invokestatic 167, 257, 2) := rfl
theorem te_297_28 : (pT M_297).find? (fun e => e.1 == 28) = some (28, .ireturn, 0, 0) := rfl
theorem te_298_0 : (pT M_298).find? (fun e => e.1 == 0) = some (0, .aload_n 0, 0, 0) := rfl
theorem te_298_1 : (pT M_298).find? (fun e => e.1 == 1) = some (1, .getfield 7, 10, 2) := rfl
theorem te_298_4 : (pT M_298).find? (fun e => e.1 == 4) = some (4, .iload_n 1, 0, 0) := rfl
theorem te_298_5 : (pT M_298).find? (fun e => e.1 == 5) = some (5, .iaload, 0, 0) := rfl
theorem te_298_6 : (pT M_298).find? (fun e => e.1 == 6) = some (6, .iconst 5, 0, 0) := rfl
theorem te_298_7 : (pT M_298).find? (fun e => e.1 == 7) = some (7, .if_icmp .ne 5, 0, 0) := rfl
theorem te_298_10 : (pT M_298).find? (fun e => e.1 == 10) = some (10, .iconst 0, 0, 0) := rfl
theorem te_298_11 : (pT M_298).find? (fun e => e.1 == 11) = some (11, .ireturn, 0, 0) := rfl
theorem te_298_12 : (pT M_298).find? (fun e => e.1 == 12) = some (12, .iconst (-1), 0, 0) := rfl
theorem te_298_13 : (pT M_298).find? (fun e => e.1 == 13) = some (13, .istore_n 3, 0, 0) := rfl
theorem te_298_14 : (pT M_298).find? (fun e => e.1 == 14) = some (14, .iconst 0, 0, 0) := rfl
theorem te_298_15 : (pT M_298).find? (fun e => e.1 == 15) = some (15, .istore 4, 0, 0) := rfl
theorem te_298_17 : (pT M_298).find? (fun e => e.1 == 17) = some (17, .iload 4, 0, 0) := rfl
theorem te_298_19 : (pT M_298).find? (fun e => e.1 == 19) = some (19, .aload_n 0, 0, 0) := rfl
theorem te_298_20 : (pT M_298).find? (fun e => e.1 == 20) = some (20, .getfield 108, 10, 1) := rfl
theorem te_298_23 : (pT M_298).find? (fun e => e.1 == 23) = some (23, .if_icmp .ge 64, 0, 0) := rfl
theorem te_298_26 : (pT M_298).find? (fun e => e.1 == 26) = some (26, .iconst 0, 0, 0) := rfl
theorem te_298_27 : (pT M_298).find? (fun e => e.1 == 27) = some (27, .istore 5, 0, 0) := rfl
theorem te_298_29 : (pT M_298).find? (fun e => e.1 == 29) = some (29, .iload 5, 0, 0) := rfl
theorem te_298_31 : (pT M_298).find? (fun e => e.1 == 31) = some (31, .aload_n 0, 0, 0) := rfl
theorem te_298_32 : (pT M_298).find? (fun e => e.1 == 32) = some (32, .iload 4, 0, 0) := rfl
theorem te_298_34 : (pT M_298).find? (fun e => e.1 == 34) = some (34, .invokevirtual 126, 241, 0) := rfl
theorem te_298_37 : (pT M_298).find? (fun e => e.1 == 37) = some (37, .if_icmp .ge 44, 0, 0) := rfl
theorem te_298_40 : (pT M_298).find? (fun e => e.1 == 40) = some (40, .aload_n 0, 0, 0) := rfl
theorem te_298_41 : (pT M_298).find? (fun e => e.1 == 41) = some (41, .iload 4, 0, 0) := rfl
theorem te_298_43 : (pT M_298).find? (fun e => e.1 == 43) = some (43, .iload 5, 0, 0) := rfl
theorem te_298_45 : (pT M_298).find? (fun e => e.1 == 45) = some (45, .invokevirtual 130, 242, 0) := rfl
theorem te_298_48 : (pT M_298).find? (fun e => e.1 == 48) = some (48, .iload_n 1, 0, 0) := rfl
theorem te_298_49 : (pT M_298).find? (fun e => e.1 == 49) = some (49, .if_icmp .ne 26, 0, 0) := rfl
theorem te_298_52 : (pT M_298).find? (fun e => e.1 == 52) = some (52, .iload_n 3, 0, 0) := rfl
theorem te_298_53 : (pT M_298).find? (fun e => e.1 == 53) = some (53, .aload_n 0, 0, 0) := rfl
theorem te_298_54 : (pT M_298).find? (fun e => e.1 == 54) = some (54, .getfield 65, 10, 21) := rfl
theorem te_298_57 : (pT M_298).find? (fun e => e.1 == 57) = some (57, .iload 4, 0, 0) := rfl
theorem te_298_59 : (pT M_298).find? (fun e => e.1 == 59) = some (59, .iaload, 0, 0) := rfl
theorem te_298_60 : (pT M_298).find? (fun e => e.1 == 60) = some (60, .iload_n 2, 0, 0) := rfl
theorem te_298_61 : (pT M_298).find? (fun e => e.1 == 61) = some (61, .aload_n 0, 0, 0) := rfl
theorem te_298_62 : (pT M_298).find? (fun e => e.1 == 62) = some (62, .iload 4, 0, 0) := rfl
theorem te_298_64 : (pT M_298).find? (fun e => e.1 == 64) = some (64, .iload 5, 0, 0) := rfl
theorem te_298_66 : (pT M_298).find? (fun e => e.1 == 66) = some (66, .invokevirtual 134, 243, 0) := rfl
theorem te_298_69 : (pT M_298).find? (fun e => e.1 == 69) = some (69, .imul, 0, 0) := rfl
theorem te_298_70 : (pT M_298).find? (fun e => e.1 == 70) = some (70, .iadd, 0, 0) := rfl
theorem te_298_71 : (pT M_298).find? (fun e => e.1 == 71) = some (71, .invokestatic 167, 257, 2) := rfl
theorem te_298_74 : (pT M_298).find? (fun e => e.1 == 74) = some (74, .istore_n 3, 0, 0) := rfl
theorem te_298_75 : (pT M_298).find? (fun e => e.1 == 75) = some (75, .iinc 5 1, 0, 0) := rfl
theorem te_298_78 : (pT M_298).find? (fun e => e.1 == 78) = some (78, .goto (-49), 0, 0) := rfl
theorem te_298_81 : (pT M_298).find? (fun e => e.1 == 81) = some (81, .iinc 4 1, 0, 0) := rfl
theorem te_298_84 : (pT M_298).find? (fun e => e.1 == 84) = some (84, .goto (-67), 0, 0) := rfl
theorem te_298_87 : (pT M_298).find? (fun e => e.1 == 87) = some (87, .iload_n 3, 0, 0) := rfl
theorem te_298_88 : (pT M_298).find? (fun e => e.1 == 88) = some (88, .iconst (-1), 0, 0) := rfl
theorem te_298_89 : (pT M_298).find? (fun e => e.1 == 89) = some (89, .if_icmp .ne 7, 0, 0) := rfl
theorem te_298_92 : (pT M_298).find? (fun e => e.1 == 92) = some (92, .iconst 0, 0, 0) := rfl
theorem te_298_93 : (pT M_298).find? (fun e => e.1 == 93) = some (93, .goto 12, 0, 0) := rfl
theorem te_298_96 : (pT M_298).find? (fun e => e.1 == 96) = some (96, .iload_n 3, 0, 0) := rfl
theorem te_298_97 : (pT M_298).find? (fun e => e.1 == 97) = some (97, .aload_n 0, 0, 0) := rfl
theorem te_298_98 : (pT M_298).find? (fun e => e.1 == 98) = some (98, .iload_n 1, 0, 0) := rfl
theorem te_298_99 : (pT M_298).find? (fun e => e.1 == 99) = some (99, .invokevirtual 272, 299, 0) := rfl
theorem te_298_102 : (pT M_298).find? (fun e => e.1 == 102) = some (102, .isub, 0, 0) := rfl
theorem te_298_103 : (pT M_298).find? (fun e => e.1 == 103) = some (103, .iconst 1, 0, 0) := rfl
theorem te_298_104 : (pT M_298).find? (fun e => e.1 == 104) = some (104, .iadd, 0, 0) := rfl
theorem te_298_105 : (pT M_298).find? (fun e => e.1 == 105) = some (105, .ireturn, 0, 0) := rfl
theorem w_298_0 {C : CXW} (hC : Cmono C) {S : Nat × (Nat → Int32)} {K : WK} {mem : MM} {x1 x2 : Int} (H : ((0 : Int) ≤ x1 ∧ (x1 : Int) < 8) ∧ ∀ v1 : Int, v1 = mem 144 (Int.toNat x1) → InI v1 → ((¬ v1 = 5 → (Wx C S M_298 K 17 [some (.inr 143), some (.inl x1), some (.inl x2), some (.inl (-1)), some (.inl 0), none] [] mem)) ∧ (¬ (¬ v1 = 5) → (InI 0 → K (some 0) mem)))) : Wx C S M_298 K 0 [some (.inr 143), some (.inl x1), some (.inl x2), none, none, none] [] mem := by
  refine Wx.aload_n hC te_298_0 rfl ?_
  refine Wx.getR hC te_298_1 rfl rfl rfl ?_
  refine Wx.iload_n hC te_298_4 rfl ?_
  refine Wx.iald hC te_298_5 rfl H.1 (fun v1 e1 e2 => ?_)
  replace H := H.2 v1 e1 e2
  refine Wx.iconst hC te_298_6 rfl ?_
  refine Wx.icmp hC (t := 12) te_298_7 (by decide) (fun q => ?_) (fun q => ?_)
  · replace H := H.1 q
    refine Wx.iconst hC te_298_12 rfl ?_
    refine Wx.istore_n hC te_298_13 rfl ?_
    refine Wx.iconst hC te_298_14 rfl ?_
    refine Wx.istore hC te_298_15 rfl ?_
    exact H
  · replace H := H.2 q
    refine Wx.iconst hC te_298_10 rfl ?_
    exact Wx.ireturn hC te_298_11 rfl H
theorem w_298_17 {C : CXW} (hC : Cmono C) {S : Nat × (Nat → Int32)} {K : WK} {mem : MM} {x1 x2 x3 x4 : Int} (H : ∀ v1 : Int, v1 = mem 143 1 → InI v1 → ((v1 ≤ x4 → ((¬ x3 = (-1) → (CWI C 299 [.inr 143, .inl x1] mem fun r3 m2 => InI r3 → (InI (x3 - r3)) ∧ (InI ((x3 - r3) + 1)) ∧ (InI ((x3 - r3) + 1) → K (some ((x3 - r3) + 1)) m2))) ∧ (¬ (¬ x3 = (-1)) → (InI 0 → K (some 0) mem)))) ∧ (¬ (v1 ≤ x4) → (Wx C S M_298 K 29 [some (.inr 143), some (.inl x1), some (.inl x2), some (.inl x3), some (.inl x4), some (.inl 0)] [] mem)))) : Wx C S M_298 K 17 [some (.inr 143), some (.inl x1), some (.inl x2), some (.inl x3), some (.inl x4), none] [] mem := by
  refine Wx.iload hC te_298_17 rfl ?_
  refine Wx.aload_n hC te_298_19 rfl ?_
  refine Wx.getI hC te_298_20 rfl rfl rfl (fun v1 e1 e2 => ?_)
  replace H := H v1 e1 e2
  refine Wx.icmp hC (t := 87) te_298_23 (by decide) (fun q => ?_) (fun q => ?_)
  · replace H := H.1 q
    refine Wx.iload_n hC te_298_87 rfl ?_
    refine Wx.iconst hC te_298_88 rfl ?_
    refine Wx.icmp hC (t := 96) te_298_89 (by decide) (fun q => ?_) (fun q => ?_)
    · replace H := H.1 q
      refine Wx.iload_n hC te_298_96 rfl ?_
      refine Wx.aload_n hC te_298_97 rfl ?_
      refine Wx.iload_n hC te_298_98 rfl ?_
      refine Wx.virtI hC te_298_99 mt_299 (args := [.inr 143, .inl x1]) (rest := [.inl x3]) rfl rfl rfl rfl rfl rfl rfl rfl ?_
      refine CWI.mono hC (fun r3 m2 H hy => ?_) H
      replace H := H hy
      refine Wx.isub hC te_298_102 H.1 ?_
      replace H := H.2
      refine Wx.iconst hC te_298_103 rfl ?_
      refine Wx.iadd hC te_298_104 H.1 ?_
      replace H := H.2
      exact Wx.ireturn hC te_298_105 rfl H
    · replace H := H.2 q
      refine Wx.iconst hC te_298_92 rfl ?_
      refine Wx.goto hC (t := 105) te_298_93 (by decide) ?_
      exact Wx.ireturn hC te_298_105 rfl H
  · replace H := H.2 q
    refine Wx.iconst hC te_298_26 rfl ?_
    refine Wx.istore hC te_298_27 rfl ?_
    exact H
theorem w_298_29 {C : CXW} (hC : Cmono C) {S : Nat × (Nat → Int32)} {K : WK} {mem : MM} {x1 x2 x3 x4 x5 : Int} (H : (CWI C 241 [.inr 143, .inl x4] mem fun r2 m1 => InI r2 → ((r2 ≤ x5 → (InI (x4 + 1)) ∧ (Wx C S M_298 K 17 [some (.inr 143), some (.inl x1), some (.inl x2), some (.inl x3), some (.inl (x4 + 1)), none] [] m1)) ∧ (¬ (r2 ≤ x5) → (CWI C 242 [.inr 143, .inl x4, .inl x5] m1 fun r4 m3 => InI r4 → ((¬ r4 = x1 → (InI (x5 + 1)) ∧ (Wx C S M_298 K 29 [some (.inr 143), some (.inl x1), some (.inl x2), some (.inl x3), some (.inl x4), some (.inl (x5 + 1))] [] m3)) ∧ (¬ (¬ r4 = x1) → ((0 : Int) ≤ x4 ∧ (x4 : Int) < 8) ∧ ∀ v5 : Int, v5 = m3 161 (Int.toNat x4) → InI v5 → (CWI C 243 [.inr 143, .inl x4, .inl x5] m3 fun r7 m6 => InI r7 → (InI (x2 * r7)) ∧ (InI (v5 + (x2 * r7))) ∧ (CWI C 257 [.inl x3, .inl (v5 + (x2 * r7))] m6 fun r9 m8 => InI r9 → (InI (x5 + 1)) ∧ (Wx C S M_298 K 29 [some (.inr 143), some (.inl x1), some (.inl x2), some (.inl r9), some (.inl x4), some (.inl (x5 + 1))] [] m8)))))))))) : Wx C S M_298 K 29 [some (.inr 143), some (.inl x1), some (.inl x2), some (.inl x3), some (.inl x4), some (.inl x5)] [] mem := by
  refine Wx.iload hC te_298_29 rfl ?_
  refine Wx.aload_n hC te_298_31 rfl ?_
  refine Wx.iload hC te_298_32 rfl ?_
  refine Wx.virtI hC te_298_34 mt_241 (args := [.inr 143, .inl x4]) (rest := [.inl x5]) rfl rfl rfl rfl rfl rfl rfl rfl ?_
  refine CWI.mono hC (fun r2 m1 H hy => ?_) H
  replace H := H hy
  refine Wx.icmp hC (t := 81) te_298_37 (by decide) (fun q => ?_) (fun q => ?_)
  · replace H := H.1 q
    refine Wx.iinc hC te_298_81 rfl rfl H.1 ?_
    replace H := H.2
    refine Wx.goto hC (t := 17) te_298_84 (by decide) ?_
    exact Wx.weak (by repeat' (first | exact trivial | exact rfl | constructor)) H
  · replace H := H.2 q
    refine Wx.aload_n hC te_298_40 rfl ?_
    refine Wx.iload hC te_298_41 rfl ?_
    refine Wx.iload hC te_298_43 rfl ?_
    refine Wx.virtI hC te_298_45 mt_242 (args := [.inr 143, .inl x4, .inl x5]) (rest := []) rfl rfl rfl rfl rfl rfl rfl rfl ?_
    refine CWI.mono hC (fun r4 m3 H hy => ?_) H
    replace H := H hy
    refine Wx.iload_n hC te_298_48 rfl ?_
    refine Wx.icmp hC (t := 75) te_298_49 (by decide) (fun q => ?_) (fun q => ?_)
    · replace H := H.1 q
      refine Wx.iinc hC te_298_75 rfl rfl H.1 ?_
      replace H := H.2
      refine Wx.goto hC (t := 29) te_298_78 (by decide) ?_
      exact H
    · replace H := H.2 q
      refine Wx.iload_n hC te_298_52 rfl ?_
      refine Wx.aload_n hC te_298_53 rfl ?_
      refine Wx.getR hC te_298_54 rfl rfl rfl ?_
      refine Wx.iload hC te_298_57 rfl ?_
      refine Wx.iald hC te_298_59 rfl H.1 (fun v5 e1 e2 => ?_)
      replace H := H.2 v5 e1 e2
      refine Wx.iload_n hC te_298_60 rfl ?_
      refine Wx.aload_n hC te_298_61 rfl ?_
      refine Wx.iload hC te_298_62 rfl ?_
      refine Wx.iload hC te_298_64 rfl ?_
      refine Wx.virtI hC te_298_66 mt_243 (args := [.inr 143, .inl x4, .inl x5]) (rest := [.inl x2, .inl v5, .inl x3]) rfl rfl rfl rfl rfl rfl rfl rfl ?_
      refine CWI.mono hC (fun r7 m6 H hy => ?_) H
      replace H := H hy
      refine Wx.imul hC te_298_69 H.1 ?_
      replace H := H.2
      refine Wx.iadd hC te_298_70 H.1 ?_
      replace H := H.2
      refine Wx.statI hC te_298_71 (by decide) mt_257 (args := [.inl x3, .inl (v5 + (x2 * r7))]) (rest := []) rfl rfl rfl rfl rfl ?_
      refine CWI.mono hC (fun r9 m8 H hy => ?_) H
      replace H := H hy
      refine Wx.istore_n hC te_298_74 rfl ?_
      refine Wx.iinc hC te_298_75 rfl rfl H.1 ?_
      replace H := H.2
      refine Wx.goto hC (t := 29) te_298_78 (by decide) ?_
      exact H
theorem w_297_0 {C : CXW} (hC : Cmono C) {S : Nat × (Nat → Int32)} {K : WK} {mem : MM} {x1 x2 : Int} (H : ((0 : Int) ≤ x1 ∧ (x1 : Int) < 8) ∧ ∀ v1 : Int, v1 = mem 144 (Int.toNat x1) → InI v1 → ((¬ v1 = 5 → (CWI C 298 [.inr 143, .inl x1, .inl x2] mem fun r3 m2 => InI r3 → (CWI C 275 [.inl r3, .inl x2] m2 fun r5 m4 => InI r5 → (CWI C 257 [.inl 1, .inl r5] m4 fun r7 m6 => InI r7 → (InI r7 → K (some r7) m6))))) ∧ (¬ (¬ v1 = 5) → (InI 0 → K (some 0) mem)))) : Wx C S M_297 K 0 [some (.inr 143), some (.inl x1), some (.inl x2)] [] mem := by
  refine Wx.aload_n hC te_297_0 rfl ?_
  refine Wx.getR hC te_297_1 rfl rfl rfl ?_
  refine Wx.iload_n hC te_297_4 rfl ?_
  refine Wx.iald hC te_297_5 rfl H.1 (fun v1 e1 e2 => ?_)
  replace H := H.2 v1 e1 e2
  refine Wx.iconst hC te_297_6 rfl ?_
  refine Wx.icmp hC (t := 14) te_297_7 (by decide) (fun q => ?_) (fun q => ?_)
  · replace H := H.1 q
    refine Wx.iconst hC te_297_14 rfl ?_
    refine Wx.aload_n hC te_297_15 rfl ?_
    refine Wx.iload_n hC te_297_16 rfl ?_
    refine Wx.iload_n hC te_297_17 rfl ?_
    refine Wx.virtI hC te_297_18 mt_298 (args := [.inr 143, .inl x1, .inl x2]) (rest := [.inl 1]) rfl rfl rfl rfl rfl rfl rfl rfl ?_
    refine CWI.mono hC (fun r3 m2 H hy => ?_) H
    replace H := H hy
    refine Wx.iload_n hC te_297_21 rfl ?_
    refine Wx.statI hC te_297_22 (by decide) mt_275 (args := [.inl r3, .inl x2]) (rest := [.inl 1]) rfl rfl rfl rfl rfl ?_
    refine CWI.mono hC (fun r5 m4 H hy => ?_) H
    replace H := H hy
    refine Wx.statI hC te_297_25 (by decide) mt_257 (args := [.inl 1, .inl r5]) (rest := []) rfl rfl rfl rfl rfl ?_
    refine CWI.mono hC (fun r7 m6 H hy => ?_) H
    replace H := H hy
    exact Wx.ireturn hC te_297_28 rfl H
  · replace H := H.2 q
    refine Wx.iconst hC te_297_10 rfl ?_
    refine Wx.goto hC (t := 28) te_297_11 (by decide) ?_
    exact Wx.ireturn hC te_297_28 rfl H
theorem w_296_0 {C : CXW} (hC : Cmono C) {S : Nat × (Nat → Int32)} {K : WK} {mem : MM} {x1 : Int} (H : (Wx C S M_296 K 4 [some (.inr 143), some (.inl x1), some (.inl 1), some (.inl 0)] [] mem)) : Wx C S M_296 K 0 [some (.inr 143), some (.inl x1), none, none] [] mem := by
  refine Wx.iconst hC te_296_0 rfl ?_
  refine Wx.istore_n hC te_296_1 rfl ?_
  refine Wx.iconst hC te_296_2 rfl ?_
  refine Wx.istore_n hC te_296_3 rfl ?_
  exact H
theorem w_296_4 {C : CXW} (hC : Cmono C) {S : Nat × (Nat → Int32)} {K : WK} {mem : MM} {x1 x2 x3 : Int} (H : ∀ v1 : Int, v1 = mem 143 1 → InI v1 → ((v1 ≤ x3 → (InI x2 → K (some x2) mem)) ∧ (¬ (v1 ≤ x3) → (CWI C 297 [.inr 143, .inl x3, .inl x1] mem fun r3 m2 => InI r3 → (CWI C 257 [.inl x2, .inl r3] m2 fun r5 m4 => InI r5 → (InI (x3 + 1)) ∧ (Wx C S M_296 K 4 [some (.inr 143), some (.inl x1), some (.inl r5), some (.inl (x3 + 1))] [] m4)))))) : Wx C S M_296 K 4 [some (.inr 143), some (.inl x1), some (.inl x2), some (.inl x3)] [] mem := by
  refine Wx.iload_n hC te_296_4 rfl ?_
  refine Wx.aload_n hC te_296_5 rfl ?_
  refine Wx.getI hC te_296_6 rfl rfl rfl (fun v1 e1 e2 => ?_)
  replace H := H v1 e1 e2
  refine Wx.icmp hC (t := 29) te_296_9 (by decide) (fun q => ?_) (fun q => ?_)
  · replace H := H.1 q
    refine Wx.iload_n hC te_296_29 rfl ?_
    exact Wx.ireturn hC te_296_30 rfl H
  · replace H := H.2 q
    refine Wx.iload_n hC te_296_12 rfl ?_
    refine Wx.aload_n hC te_296_13 rfl ?_
    refine Wx.iload_n hC te_296_14 rfl ?_
    refine Wx.iload_n hC te_296_15 rfl ?_
    refine Wx.virtI hC te_296_16 mt_297 (args := [.inr 143, .inl x3, .inl x1]) (rest := [.inl x2]) rfl rfl rfl rfl rfl rfl rfl rfl ?_
    refine CWI.mono hC (fun r3 m2 H hy => ?_) H
    replace H := H hy
    refine Wx.statI hC te_296_19 (by decide) mt_257 (args := [.inl x2, .inl r3]) (rest := []) rfl rfl rfl rfl rfl ?_
    refine CWI.mono hC (fun r5 m4 H hy => ?_) H
    replace H := H hy
    refine Wx.istore_n hC te_296_22 rfl ?_
    refine Wx.iinc hC te_296_23 rfl rfl H.1 ?_
    replace H := H.2
    refine Wx.goto hC (t := 4) te_296_26 (by decide) ?_
    exact H
theorem w_295_0 {C : CXW} (hC : Cmono C) {S : Nat × (Nat → Int32)} {K : WK} {mem : MM} {x1 x2 : Int} (H : ((0 : Int) ≤ x1 ∧ (x1 : Int) < 8) ∧ ∀ v1 : Int, v1 = mem 144 (Int.toNat x1) → InI v1 → ((¬ v1 = 5 → (CWI C 296 [.inr 143, .inl x2] mem fun r3 m2 => InI r3 → (CWI C 297 [.inr 143, .inl x1, .inl x2] m2 fun r5 m4 => InI r5 → (Wx C S M_295 K 26 [some (.inr 143), some (.inl x1), some (.inl x2), some (.inl r3), some (.inl r5)] [] m4)))) ∧ (¬ (¬ v1 = 5) → (InI 0 → K (some 0) mem)))) : Wx C S M_295 K 0 [some (.inr 143), some (.inl x1), some (.inl x2), none, none] [] mem := by
  refine Wx.aload_n hC te_295_0 rfl ?_
  refine Wx.getR hC te_295_1 rfl rfl rfl ?_
  refine Wx.iload_n hC te_295_4 rfl ?_
  refine Wx.iald hC te_295_5 rfl H.1 (fun v1 e1 e2 => ?_)
  replace H := H.2 v1 e1 e2
  refine Wx.iconst hC te_295_6 rfl ?_
  refine Wx.icmp hC (t := 12) te_295_7 (by decide) (fun q => ?_) (fun q => ?_)
  · replace H := H.1 q
    refine Wx.aload_n hC te_295_12 rfl ?_
    refine Wx.iload_n hC te_295_13 rfl ?_
    refine Wx.virtI hC te_295_14 mt_296 (args := [.inr 143, .inl x2]) (rest := []) rfl rfl rfl rfl rfl rfl rfl rfl ?_
    refine CWI.mono hC (fun r3 m2 H hy => ?_) H
    replace H := H hy
    refine Wx.istore_n hC te_295_17 rfl ?_
    refine Wx.aload_n hC te_295_18 rfl ?_
    refine Wx.iload_n hC te_295_19 rfl ?_
    refine Wx.iload_n hC te_295_20 rfl ?_
    refine Wx.virtI hC te_295_21 mt_297 (args := [.inr 143, .inl x1, .inl x2]) (rest := []) rfl rfl rfl rfl rfl rfl rfl rfl ?_
    refine CWI.mono hC (fun r5 m4 H hy => ?_) H
    replace H := H hy
    refine Wx.istore hC te_295_24 rfl ?_
    exact H
  · replace H := H.2 q
    refine Wx.iconst hC te_295_10 rfl ?_
    exact Wx.ireturn hC te_295_11 rfl H
theorem w_295_26 {C : CXW} (hC : Cmono C) {S : Nat × (Nat → Int32)} {K : WK} {mem : MM} {x1 x2 x3 x4 : Int} (H : (0 < x4) ∧ ((((x3 : Int).tmod x4) = 0 → (InI x4 → K (some x4) mem)) ∧ (¬ (((x3 : Int).tmod x4) = 0) → (InI (x4 + 1)) ∧ (Wx C S M_295 K 26 [some (.inr 143), some (.inl x1), some (.inl x2), some (.inl x3), some (.inl (x4 + 1))] [] mem)))) : Wx C S M_295 K 26 [some (.inr 143), some (.inl x1), some (.inl x2), some (.inl x3), some (.inl x4)] [] mem := by
  refine Wx.iload_n hC te_295_26 rfl ?_
  refine Wx.iload hC te_295_27 rfl ?_
  refine Wx.irem hC te_295_29 H.1 ?_
  replace H := H.2
  refine Wx.ifc hC (t := 39) te_295_30 (by decide) (fun q => ?_) (fun q => ?_)
  · replace H := H.1 q
    refine Wx.iload hC te_295_39 rfl ?_
    exact Wx.ireturn hC te_295_41 rfl H
  · replace H := H.2 q
    refine Wx.iinc hC te_295_33 rfl rfl H.1 ?_
    replace H := H.2
    refine Wx.goto hC (t := 26) te_295_36 (by decide) ?_
    exact H
/-! lives, copies, names paired: what they come to, and their bounds -/
def ceilF (t d : Int) : Int := -((-t) / d)
theorem ceilF_sp (t : Int) {d : Int} (hd : 0 < d) : d * (ceilF t d - 1) < t ∧ t ≤ d * ceilF t d := by
  unfold ceilF
  have e := Int.mul_ediv_add_emod (-t) d
  have h1 := Int.emod_lt_of_pos (-t) hd
  have h2 := Int.emod_nonneg (-t) (show d ≠ 0 by omega)
  have e2 : d * (-((-t) / d) - 1) = -(d * ((-t) / d)) - d := by rw [Int.mul_sub, Int.mul_neg, Int.mul_one]
  have e3 : d * (-((-t) / d)) = -(d * ((-t) / d)) := Int.mul_neg _ _
  omega
theorem ceilF_eq {t d u : Int} (hd : 0 < d) (h1 : d * (u - 1) < t) (h2 : t ≤ d * u) : u = ceilF t d := by
  obtain ⟨g1, g2⟩ := ceilF_sp t hd
  have := ceil1 hd h1 g2
  have := ceil1 hd g1 h2
  omega
def lst1 (m : MM) (o : Nat) (d : Int) (u : Nat) (k : Int) (l : Int) : Int := if srcA m u k = o then max l (m 161 u + d * srcB m u k) else l
/-- over the first k sources of u -/
def lstK (m : MM) (o : Nat) (d : Int) (u : Nat) (l : Int) : Nat → Int
  | 0 => l
  | k + 1 => lst1 m o d u k (lstK m o d u l k)
def lstN (m : MM) (o : Nat) (d : Int) : Nat → Int
  | 0 => -1
  | u + 1 => lstK m o d u (lstN m o d u) (srcN m u).toNat
def lifeF (m : MM) (o : Nat) (d : Int) : Int := if m 144 o = 5 then 0 else if lstN m o d (m 143 1).toNat = -1 then 0 else lstN m o d (m 143 1).toNat - (m 161 o + latF m o) + 1
def copF (m : MM) (o : Nat) (d : Int) : Int := if m 144 o = 5 then 0 else max 1 (ceilF (lifeF m o d) d)
theorem d3 {d x : Int} (hd : 1 ≤ d ∧ d ≤ 12) (hx : 0 ≤ x ∧ x ≤ 3) : 0 ≤ d * x ∧ d * x ≤ 3 * d := by
  have h1 := Int.mul_nonneg (show 0 ≤ d by omega) hx.1
  have h2 := Int.mul_le_mul_of_nonneg_left hx.2 (show 0 ≤ d by omega)
  omega
theorem srcN_le (m : MM) (u : Nat) : 0 ≤ srcN m u ∧ srcN m u ≤ 2 := by unfold srcN; split <;> (try split) <;> omega
section LIFE
variable {S : Nat × (Nat → Int32)} {n : Nat} {mem : MM} {d : Int}
theorem lst1_rng (hO : OpsOK mem) (hT : TmOK mem d) (hd : 1 ≤ d ∧ d ≤ 12) {o u : Nat} {k l : Int} (hu : (u : Int) < mem 143 1) (hk : 0 ≤ k ∧ k < srcN mem u) (hl : -1 ≤ l ∧ l ≤ 33 + 12 * d) : -1 ≤ lst1 mem o d u k l ∧ lst1 mem o d u k l ≤ 33 + 12 * d := by
  unfold lst1
  split
  · have hs := hO.src (o := u) (by have := hO.1; omega) hk.1 hk.2
    have ht := hT u hu
    have hb : 0 ≤ srcB mem u k ∧ srcB mem u k ≤ 3 := by unfold srcOK at hs; omega
    have := d3 hd hb
    omega
  · exact hl
theorem lstK_rng (hO : OpsOK mem) (hT : TmOK mem d) (hd : 1 ≤ d ∧ d ≤ 12) {o u : Nat} {l : Int} (hu : (u : Int) < mem 143 1) (hl : -1 ≤ l ∧ l ≤ 33 + 12 * d) : ∀ k : Nat, (k : Int) ≤ srcN mem u → -1 ≤ lstK mem o d u l k ∧ lstK mem o d u l k ≤ 33 + 12 * d
  | 0, _ => hl
  | k + 1, h => lst1_rng hO hT hd hu (by omega) (lstK_rng hO hT hd hu hl k (by omega))
theorem lstN_rng (hO : OpsOK mem) (hT : TmOK mem d) (hd : 1 ≤ d ∧ d ≤ 12) {o : Nat} : ∀ u : Nat, (u : Int) ≤ mem 143 1 → -1 ≤ lstN mem o d u ∧ lstN mem o d u ≤ 33 + 12 * d
  | 0, _ => by simp only [lstN]; omega
  | u + 1, h => lstK_rng hO hT hd (by omega) (lstN_rng hO hT hd u (by omega)) _ (by have := srcN_le mem u; omega)
theorem lifeF_rng (hO : OpsOK mem) (hT : TmOK mem d) (hd : 1 ≤ d ∧ d ≤ 12) {o : Nat} (ho : (o : Int) < mem 143 1) : -1000 ≤ lifeF mem o d ∧ lifeF mem o d ≤ 33 + 12 * d := by
  unfold lifeF
  have h8 := hO.1
  have h1 := lstN_rng hO hT hd (o := o) (mem 143 1).toNat (by omega)
  have h2 := hT o ho
  have h3 := hO.lat (o := o) (by omega)
  split
  · omega
  · split <;> omega
theorem copF_rng (hO : OpsOK mem) (hT : TmOK mem d) (hd : 1 ≤ d ∧ d ≤ 12) {o : Nat} (ho : (o : Int) < mem 143 1) : 0 ≤ copF mem o d ∧ copF mem o d ≤ 45 ∧ (¬ mem 144 o = 5 → 1 ≤ copF mem o d) := by
  unfold copF
  split
  · omega
  · obtain ⟨h1, h2⟩ := lifeF_rng hO hT hd ho
    obtain ⟨g1, g2⟩ := ceilF_sp (lifeF mem o d) (show 0 < d by omega)
    have : ceilF (lifeF mem o d) d ≤ 45 := by
      by_cases h : ceilF (lifeF mem o d) d ≤ 45
      · exact h
      · have := Int.mul_le_mul_of_nonneg_left (show (45 : Int) ≤ ceilF (lifeF mem o d) d - 1 by omega) (show 0 ≤ d by omega)
        omega
    omega
theorem f_299 {K : Int → MM → Prop} (hO : OpsOK mem) {o : Int} (ho : 0 ≤ o ∧ o < mem 143 1) (hT : -1000000 ≤ mem 161 o.toNat ∧ mem 161 o.toNat ≤ 1000000) (H : K (mem 161 o.toNat + latF mem o.toNat) mem) : CWI (Ex S (n + 2)) 299 [.inr 143, .inl o] mem K := by
  have h8 := hO.1
  have hl := hO.lat (o := o.toNat) (by omega)
  refine CW.of (k := 0) mt_299 rfl rfl (w_299_0 (Ex.mono S (n + 1)) ⟨by omega, fun v e _ => f_246 hO (by omega) (fun _ => ⟨by unfold InI; omega, fun _ => ⟨_, rfl, ?_⟩⟩)⟩)
  rw [e]; exact H
theorem lf_29 (hO : OpsOK mem) (hT : TmOK mem d) (hd : 1 ≤ d ∧ d ≤ 12) {o : Nat} (ho : (o : Int) < mem 143 1) (hk5 : ¬ mem 144 o = 5) {Kk : WK} (H : Kk (some (lifeF mem o d)) mem) : ∀ (N : Nat) (u k : Nat), (u : Int) < mem 143 1 → (k : Int) ≤ srcN mem u → 3 * (mem 143 1 - u) + (2 - k) < N → Wx (Ex S (n + 2)) S M_298 Kk 29 [some (.inr 143), some (.inl (o : Int)), some (.inl d), some (.inl (lstK mem o d u (lstN mem o d u) k)), some (.inl (u : Int)), some (.inl (k : Int))] [] mem := by
  intro N
  induction N with
  | zero => intro u k hu hk hN; have := srcN_le mem u; omega
  | succ N ih =>
    intro u k hu hk hN
    have h8 := hO.1
    have hu8 : 0 ≤ (u : Int) ∧ (u : Int) < 8 := by omega
    have hsn := srcN_le mem u
    refine w_298_29 (Ex.mono S (n + 2)) (f_241 hu8 (fun _ => ⟨fun q => ⟨by unfold InI; omega, ?_⟩, fun q => ?_⟩))
    · rw [Int.toNat_natCast] at q
      have ek : k = (srcN mem u).toNat := by omega
      subst ek
      have eN : lstK mem o d u (lstN mem o d u) (srcN mem u).toNat = lstN mem o d (u + 1) := rfl
      rw [eN]
      refine w_298_17 (Ex.mono S (n + 2)) (fun v e _ => ⟨fun q2 => ?_, fun q2 => ?_⟩)
      · have eu : u + 1 = (mem 143 1).toNat := by omega
        have hl := lstN_rng hO hT hd (o := o) (mem 143 1).toNat (by omega)
        have ht := hT o ho
        have hla := hO.lat (o := o) (by omega)
        unfold lifeF at H
        rw [if_neg hk5] at H
        rw [eu]
        refine ⟨fun q3 => f_299 hO (by omega) (by rw [Int.toNat_natCast]; omega) (fun _ => ?_), fun q3 _ => ?_⟩
        · rw [Int.toNat_natCast]
          rw [if_neg q3] at H
          exact ⟨by unfold InI; omega, by unfold InI; omega, fun _ => H⟩
        · rw [if_pos (by omega)] at H; exact H
      · exact ih (u + 1) 0 (by omega) (by have := srcN_le mem (u + 1); omega) (by omega)
    · rw [Int.toNat_natCast] at q
      have ek : lstK mem o d u (lstN mem o d u) (k + 1) = lst1 mem o d u k (lstK mem o d u (lstN mem o d u) k) := rfl
      have nx := ih u (k + 1) hu (by omega) (by omega)
      rw [ek] at nx
      have hs := hO.src (o := u) (by omega) (k := k) (by omega) (by omega)
      refine f_242 hu8 (fun _ => ⟨fun q2 => ⟨by unfold InI; omega, ?_⟩, fun q2 => ⟨hu8, fun v5 e5 _ => f_243 hu8 (fun _ => ?_)⟩⟩)
      · rw [Int.toNat_natCast] at q2
        unfold lst1 at nx
        rw [if_neg q2] at nx
        exact nx
      · rw [Int.toNat_natCast] at q2 e5
        rw [Int.toNat_natCast]
        have hb : 0 ≤ srcB mem u k ∧ srcB mem u k ≤ 3 := by unfold srcOK at hs; omega
        have hd3 := d3 hd hb
        have ht := hT u hu
        refine ⟨by unfold InI; omega, by unfold InI; omega, f_257 (fun _ _ => ⟨by unfold InI; omega, ?_⟩)⟩
        unfold lst1 at nx
        rw [if_pos (by omega)] at nx
        rw [e5]; exact nx
theorem f_298 {K : Int → MM → Prop} (hO : OpsOK mem) (hT : TmOK mem d) (hd : 1 ≤ d ∧ d ≤ 12) {o : Nat} (ho : (o : Int) < mem 143 1) (H : K (lifeF mem o d) mem) : CWI (Ex S (n + 3)) 298 [.inr 143, .inl (o : Int), .inl d] mem K := by
  have h8 := hO.1
  refine CW.of (k := 3) mt_298 rfl rfl (w_298_0 (Ex.mono S (n + 2)) ⟨by omega, fun v e _ => ⟨fun q => ?_, fun q _ => ⟨_, rfl, ?_⟩⟩⟩)
  · rw [Int.toNat_natCast] at e
    refine w_298_17 (Ex.mono S (n + 2)) (fun v e _ => ⟨fun q2 => by omega, fun q2 => ?_⟩)
    exact lf_29 hO hT hd ho (by omega) ⟨_, rfl, H⟩ 27 0 0 (by omega) (by have := srcN_le mem 0; omega) (by omega)
  · rw [Int.toNat_natCast] at e
    unfold lifeF at H
    rw [if_pos (by omega)] at H; exact H
theorem f_297 {K : Int → MM → Prop} (hO : OpsOK mem) (hT : TmOK mem d) (hd : 1 ≤ d ∧ d ≤ 12) {o : Nat} (ho : (o : Int) < mem 143 1) (H : K (copF mem o d) mem) : CWI (Ex S (n + 4)) 297 [.inr 143, .inl (o : Int), .inl d] mem K := by
  have h8 := hO.1
  have hl := lifeF_rng hO hT hd ho
  refine CW.of (k := 0) mt_297 rfl rfl (w_297_0 (Ex.mono S (n + 3)) ⟨by omega, fun v e _ => ⟨fun q => f_298 hO hT hd ho (fun _ => f_275 ⟨by omega, by omega⟩ ⟨by omega, by omega⟩ (fun u h1 h2 _ => f_257 (fun _ _ _ => ⟨_, rfl, ?_⟩))), fun q _ => ⟨_, rfl, ?_⟩⟩⟩)
  · rw [Int.toNat_natCast] at e
    unfold copF at H
    rw [if_neg (by omega)] at H
    rw [ceilF_eq (by omega) h1 h2]; exact H
  · rw [Int.toNat_natCast] at e
    unfold copF at H
    rw [if_pos (by omega)] at H; exact H
theorem f_296 {K : Int → MM → Prop} (hO : OpsOK mem) (hT : TmOK mem d) (hd : 1 ≤ d ∧ d ≤ 12) (H : ∀ r, 1 ≤ r → r ≤ 45 → (∀ o : Nat, (o : Int) < mem 143 1 → copF mem o d ≤ r) → K r mem) : CWI (Ex S (n + 5)) 296 [.inr 143, .inl d] mem K := by
  have h8 := hO.1
  refine CW.of (k := 2) mt_296 rfl rfl (w_296_0 (Ex.mono S (n + 4)) ?_)
  have key : ∀ (N : Nat) (o : Nat) (r : Int), (o : Int) ≤ mem 143 1 → mem 143 1 - o < N → 1 ≤ r → r ≤ 45 → (∀ o2 : Nat, o2 < o → copF mem o2 d ≤ r) → Wx (Ex S (n + 4)) S M_296 (fun r m => ∃ y, r = some y ∧ K y m) 4 [some (.inr 143), some (.inl d), some (.inl r), some (.inl (o : Int))] [] mem := by
    intro N
    induction N with
    | zero => intros; omega
    | succ N ih =>
      intro o r ho hN r1 r2 hA
      refine w_296_4 (Ex.mono S (n + 4)) (fun v e _ => ⟨fun q _ => ⟨_, rfl, H r r1 r2 (fun o2 h2 => hA o2 (by omega))⟩, fun q => ?_⟩)
      have ho2 : (o : Int) < mem 143 1 := by omega
      have hc := copF_rng hO hT hd ho2
      refine f_297 hO hT hd ho2 (fun _ => f_257 (fun _ _ => ⟨by unfold InI; omega, ih (o + 1) _ (by omega) (by omega) (by omega) (by omega) (fun o2 h2 => ?_)⟩))
      by_cases e3 : o2 = o
      · subst e3; omega
      · have := hA o2 (by omega); omega
  exact key 9 0 1 (by omega) (by omega) (by omega) (by omega) (fun o2 h => by omega)
theorem f_295 {K : Int → MM → Prop} (hO : OpsOK mem) (hT : TmOK mem d) (hd : 1 ≤ d ∧ d ≤ 12) {o : Nat} (ho : (o : Int) < mem 143 1) (H : ∀ r, 0 ≤ r → r ≤ 45 → (¬ mem 144 o = 5 → 1 ≤ r) → K r mem) : CWI (Ex S (n + 6)) 295 [.inr 143, .inl (o : Int), .inl d] mem K := by
  have h8 := hO.1
  have hc := copF_rng hO hT hd ho
  refine CW.of (k := 2) mt_295 rfl rfl (w_295_0 (Ex.mono S (n + 5)) ⟨by omega, fun v e _ => ⟨fun q => f_296 hO hT hd (fun r r1 r2 r3 _ => f_297 hO hT hd ho (fun _ => ?_)), fun q _ => ⟨_, rfl, H 0 (by omega) (by omega) (fun z => ?_)⟩⟩⟩)
  · rw [Int.toNat_natCast] at e
    have key : ∀ (N : Nat) (k : Int), 1 ≤ k → k ≤ r → r - k < N → Wx (Ex S (n + 5)) S M_295 (fun r m => ∃ y, r = some y ∧ K y m) 26 [some (.inr 143), some (.inl (o : Int)), some (.inl d), some (.inl r), some (.inl k)] [] mem := by
      intro N
      induction N with
      | zero => intros; omega
      | succ N ih =>
        intro k k1 k2 hN
        refine w_295_26 (Ex.mono S (n + 5)) ⟨by omega, fun q2 _ => ⟨_, rfl, H k (by omega) (by omega) (fun _ => k1)⟩, fun q2 => ⟨by unfold InI; omega, ih (k + 1) (by omega) ?_ (by omega)⟩⟩
        by_cases e2 : k = r
        · subst e2
          rw [Int.tmod_self] at q2
          exact absurd rfl q2
        · omega
    have h1 := hc.2.2 (by omega)
    exact key 46 _ h1 (r3 o ho) (by omega)
  · rw [Int.toNat_natCast] at e
    omega
end LIFE
