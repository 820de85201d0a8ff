/-! the machine by hand: numbers are Int, a heap is a memory of numbers (address, place) of a known shape; Wx: a body from a place on, with locals that are known or not -/
abbrev WV : Type := Int ⊕ Nat
abbrev MM : Type := Nat → Nat → Int
def InI (x : Int) : Prop := -2147483648 ≤ x ∧ x ≤ 2147483647
def wv : WV → Value
  | .inl x => .int (Int32.ofInt x)
  | .inr a => .ref a
def vOK : WV → Prop
  | .inl x => InI x
  | .inr _ => True
theorem wv_cat (v : WV) : (wv v).category = 1 := by cases v <;> rfl
theorem wi {x : Int} (h : InI x) : (Int32.ofInt x).toInt = x := by
  rw [Int32.toInt_ofInt]; exact bm h.1 h.2
theorem wiI (x : Int32) : InI x.toInt := i32_rng x
/-- a row of so many numbers; an object: number of its class, fields (a number, or an address) -/
abbrev SH : Type := Nat ⊕ (Nat × List (Option Nat))
def shR (s : SH) (m : Nat → Int) (y : PE) : Prop := match s with
  | .inl n => ∃ g : Nat → Int32, y = .inl (0, n, .inl g) ∧ ∀ i, m i = (g i).toInt
  | .inr (ci, fs) => ∃ gs, y = .inr (ci, gs) ∧ gs.length = fs.length ∧ ∀ i, match fs[i]? with
    | some none => ∃ z : Int32, gs[i]? = some (.int z) ∧ m i = z.toInt
    | some (some A) => gs[i]? = some (.ref A)
    | none => True
/-- shapes of cells: class (Body, Web, spare, Reach, Seeker, Hasty) and reference -/
def shA (A : Nat) : Option SH := match A with
  | 0 => some (.inr (9, [some 1, some 9, some 14, some 19, some 21, some 37, some 129, some 134, some 139, some 141, none, none]))
  | 1 => some (.inr (0, [none, some 2, some 3, some 4, some 5, some 6, some 7, some 8]))
  | 2 => some (.inl 8)
  | 3 => some (.inl 32)
  | 4 => some (.inl 8)
  | 5 => some (.inl 6)
  | 6 => some (.inl 6)
  | 7 => some (.inl 6)
  | 8 => some (.inl 3)
  | 9 => some (.inr (7, [none, some 10, some 11, some 12, some 13, none, none, none]))
  | 10 => some (.inl 64)
  | 11 => some (.inl 64)
  | 12 => some (.inl 64)
  | 13 => some (.inl 64)
  | 14 => some (.inr (7, [none, some 15, some 16, some 17, some 18, none, none, none]))
  | 15 => some (.inl 64)
  | 16 => some (.inl 64)
  | 17 => some (.inl 64)
  | 18 => some (.inl 64)
  | 19 => some (.inr (5, [none, none, some 20]))
  | 20 => some (.inl 64)
  | 21 => some (.inr (6, [none, none, none, none, none, some 22, some 23, some 24, some 25, some 26, some 27, some 28, some 29, some 30, some 31, some 32, some 33, some 34, some 35, some 36]))
  | 22 => some (.inl 8)
  | 23 => some (.inl 8)
  | 24 => some (.inl 8)
  | 25 => some (.inl 3)
  | 26 => some (.inl 3)
  | 27 => some (.inl 32)
  | 28 => some (.inl 12)
  | 29 => some (.inl 32)
  | 30 => some (.inl 64)
  | 31 => some (.inl 512)
  | 32 => some (.inl 8)
  | 33 => some (.inl 8)
  | 34 => some (.inl 8)
  | 35 => some (.inl 8)
  | 36 => some (.inl 8)
  | 38 => some (.inr (1, [none, none, none, none, none, none, none, none, some 39, some 40, some 41, some 42, some 43, some 44]))
  | 39 => some (.inl 8)
  | 40 => some (.inl 8)
  | 41 => some (.inl 8)
  | 42 => some (.inl 8)
  | 43 => some (.inl 8)
  | 44 => some (.inl 8)
  | 45 => some (.inr (1, [none, none, none, none, none, none, none, none, some 46, some 47, some 48, some 49, some 50, some 51]))
  | 46 => some (.inl 8)
  | 47 => some (.inl 8)
  | 48 => some (.inl 8)
  | 49 => some (.inl 8)
  | 50 => some (.inl 8)
  | 51 => some (.inl 8)
  | 52 => some (.inr (1, [none, none, none, none, none, none, none, none, some 53, some 54, some 55, some 56, some 57, some 58]))
  | 53 => some (.inl 8)
  | 54 => some (.inl 8)
  | 55 => some (.inl 8)
  | 56 => some (.inl 8)
  | 57 => some (.inl 8)
  | 58 => some (.inl 8)
  | 59 => some (.inr (1, [none, none, none, none, none, none, none, none, some 60, some 61, some 62, some 63, some 64, some 65]))
  | 60 => some (.inl 8)
  | 61 => some (.inl 8)
  | 62 => some (.inl 8)
  | 63 => some (.inl 8)
  | 64 => some (.inl 8)
  | 65 => some (.inl 8)
  | 66 => some (.inr (1, [none, none, none, none, none, none, none, none, some 67, some 68, some 69, some 70, some 71, some 72]))
  | 67 => some (.inl 8)
  | 68 => some (.inl 8)
  | 69 => some (.inl 8)
  | 70 => some (.inl 8)
  | 71 => some (.inl 8)
  | 72 => some (.inl 8)
  | 73 => some (.inr (1, [none, none, none, none, none, none, none, none, some 74, some 75, some 76, some 77, some 78, some 79]))
  | 74 => some (.inl 8)
  | 75 => some (.inl 8)
  | 76 => some (.inl 8)
  | 77 => some (.inl 8)
  | 78 => some (.inl 8)
  | 79 => some (.inl 8)
  | 80 => some (.inr (1, [none, none, none, none, none, none, none, none, some 81, some 82, some 83, some 84, some 85, some 86]))
  | 81 => some (.inl 8)
  | 82 => some (.inl 8)
  | 83 => some (.inl 8)
  | 84 => some (.inl 8)
  | 85 => some (.inl 8)
  | 86 => some (.inl 8)
  | 87 => some (.inr (1, [none, none, none, none, none, none, none, none, some 88, some 89, some 90, some 91, some 92, some 93]))
  | 88 => some (.inl 8)
  | 89 => some (.inl 8)
  | 90 => some (.inl 8)
  | 91 => some (.inl 8)
  | 92 => some (.inl 8)
  | 93 => some (.inl 8)
  | 94 => some (.inr (1, [none, none, none, none, none, none, none, none, some 95, some 96, some 97, some 98, some 99, some 100]))
  | 95 => some (.inl 8)
  | 96 => some (.inl 8)
  | 97 => some (.inl 8)
  | 98 => some (.inl 8)
  | 99 => some (.inl 8)
  | 100 => some (.inl 8)
  | 101 => some (.inr (1, [none, none, none, none, none, none, none, none, some 102, some 103, some 104, some 105, some 106, some 107]))
  | 102 => some (.inl 8)
  | 103 => some (.inl 8)
  | 104 => some (.inl 8)
  | 105 => some (.inl 8)
  | 106 => some (.inl 8)
  | 107 => some (.inl 8)
  | 108 => some (.inr (1, [none, none, none, none, none, none, none, none, some 109, some 110, some 111, some 112, some 113, some 114]))
  | 109 => some (.inl 8)
  | 110 => some (.inl 8)
  | 111 => some (.inl 8)
  | 112 => some (.inl 8)
  | 113 => some (.inl 8)
  | 114 => some (.inl 8)
  | 115 => some (.inr (1, [none, none, none, none, none, none, none, none, some 116, some 117, some 118, some 119, some 120, some 121]))
  | 116 => some (.inl 8)
  | 117 => some (.inl 8)
  | 118 => some (.inl 8)
  | 119 => some (.inl 8)
  | 120 => some (.inl 8)
  | 121 => some (.inl 8)
  | 122 => some (.inr (1, [none, none, none, none, none, none, none, none, some 123, some 124, some 125, some 126, some 127, some 128]))
  | 123 => some (.inl 8)
  | 124 => some (.inl 8)
  | 125 => some (.inl 8)
  | 126 => some (.inl 8)
  | 127 => some (.inl 8)
  | 128 => some (.inl 8)
  | 129 => some (.inr (2, [none, none, none, none, some 130, some 131, some 132, some 133]))
  | 130 => some (.inl 8)
  | 131 => some (.inl 8)
  | 132 => some (.inl 12)
  | 133 => some (.inl 8)
  | 134 => some (.inr (4, [some 135, some 138]))
  | 136 => some (.inl 64)
  | 137 => some (.inl 64)
  | 138 => some (.inl 320)
  | 139 => some (.inr (8, [some 140]))
  | 140 => some (.inl 8)
  | 141 => some (.inr (3, [some 142, none, none]))
  | 142 => some (.inl 1024)
  | 143 => some (.inr (10, [none, none, some 144, some 145, some 146, some 147, some 148, some 149, some 150, some 151, some 152, some 153, none, some 154, some 155, some 156, some 157, some 158, none, some 159, some 160, some 161, some 162, some 163, some 164, none, some 165, some 166, some 167, some 168, some 169, none, none, none, some 170, some 171, some 172]))
  | 144 => some (.inl 8)
  | 145 => some (.inl 8)
  | 146 => some (.inl 8)
  | 147 => some (.inl 8)
  | 148 => some (.inl 8)
  | 149 => some (.inl 8)
  | 150 => some (.inl 6)
  | 151 => some (.inl 6)
  | 152 => some (.inl 6)
  | 153 => some (.inl 3)
  | 154 => some (.inl 48)
  | 155 => some (.inl 48)
  | 156 => some (.inl 48)
  | 157 => some (.inl 48)
  | 158 => some (.inl 64)
  | 159 => some (.inl 36)
  | 160 => some (.inl 8)
  | 161 => some (.inl 8)
  | 162 => some (.inl 64)
  | 163 => some (.inl 8)
  | 164 => some (.inl 8)
  | 165 => some (.inl 128)
  | 166 => some (.inl 640)
  | 167 => some (.inl 328)
  | 168 => some (.inl 8)
  | 169 => some (.inl 8)
  | 170 => some (.inl 9)
  | 171 => some (.inl 8)
  | 172 => some (.inl 8)
  | _ => none
/-- cells of a known shape hold the memory; the others are as they were -/
def RH (h0 h : PH) (mem : MM) : Prop := (∀ A, shA A = none → h[A]? = h0[A]?) ∧ ∀ A s, shA A = some s → ∃ y, h[A]? = some y ∧ shR s (mem A) y
def upm (mem : MM) (A i : Nat) (x : Int) : MM := fun B j => if B = A ∧ j = i then x else mem B j
theorem upm_eq {mem : MM} {A i : Nat} {x : Int} : upm mem A i x A i = x := if_pos ⟨rfl, rfl⟩
theorem upm_ne {mem : MM} {A i B j : Nat} {x : Int} (h : ¬ (B = A ∧ j = i)) : upm mem A i x B j = mem B j := if_neg h
theorem RH.row {h0 h : PH} {mem : MM} (H : RH h0 h mem) {A n : Nat} (hA : shA A = some (.inl n)) : ∃ g : Nat → Int32, h[A]? = some (.inl (0, n, .inl g)) ∧ ∀ i, mem A i = (g i).toInt := by
  obtain ⟨y, h1, g, rfl, h2⟩ := H.2 A _ hA
  exact ⟨g, h1, h2⟩
theorem RH.rowI {h0 h : PH} {mem : MM} (H : RH h0 h mem) {A n : Nat} (hA : shA A = some (.inl n)) (i : Nat) : InI (mem A i) := by
  obtain ⟨g, -, h2⟩ := H.row hA
  rw [h2]; exact wiI _
theorem RH.obj {h0 h : PH} {mem : MM} (H : RH h0 h mem) {A ci : Nat} {fs : List (Option Nat)} (hA : shA A = some (.inr (ci, fs))) : ∃ gs, h[A]? = some (.inr (ci, gs)) ∧ gs.length = fs.length ∧ ∀ i, match fs[i]? with
    | some none => ∃ z : Int32, gs[i]? = some (.int z) ∧ mem A i = z.toInt
    | some (some A) => gs[i]? = some (.ref A)
    | none => True := by
  obtain ⟨y, h1, gs, rfl, h2⟩ := H.2 A _ hA
  exact ⟨gs, h1, h2⟩
theorem RH.fldI {h0 h : PH} {mem : MM} (H : RH h0 h mem) {A ci f : Nat} {fs : List (Option Nat)} (hA : shA A = some (.inr (ci, fs))) (hf : fs[f]? = some none) : InI (mem A f) := by
  obtain ⟨gs, -, -, h2⟩ := H.obj hA
  have := h2 f
  rw [hf] at this
  obtain ⟨z, -, e⟩ := this
  rw [e]; exact wiI _
theorem RH.setRow {h0 h : PH} {mem : MM} (H : RH h0 h mem) {A n i : Nat} {g : Nat → Int32} {x : Int32} (hA : shA A = some (.inl n)) (hg : h[A]? = some (.inl (0, n, .inl g))) : RH h0 (h.set A (.inl (0, n, .inl (upd g i x)))) (upm mem A i x.toInt) := by
  obtain ⟨g2, e1, e2⟩ := H.row hA
  rw [hg] at e1
  cases e1
  have hl := (List.getElem?_eq_some_iff.mp hg).1
  refine ⟨fun B hB => by
    rw [List.getElem?_set_ne (fun q => by rw [q, hB] at hA; cases hA)]
    exact H.1 B hB, ?_⟩
  intro B s hB
  by_cases hAB : A = B
  · subst hAB
    rw [hA] at hB
    cases hB
    refine ⟨_, List.getElem?_set_self hl, upd g i x, rfl, fun j => ?_⟩
    show upm mem A i x.toInt A j = _
    unfold upm upd
    by_cases hj : j = i
    · rw [if_pos ⟨rfl, hj⟩, if_pos hj]
    · rw [if_neg (fun q => hj q.2), if_neg hj]; exact e2 j
  · obtain ⟨y, h1, h2⟩ := H.2 B s hB
    refine ⟨y, by rw [List.getElem?_set_ne hAB]; exact h1, ?_⟩
    have : upm mem A i x.toInt B = mem B := by
      funext j
      exact upm_ne (fun q => hAB q.1.symm)
    rw [this]; exact h2
theorem RH.setObj {h0 h : PH} {mem : MM} (H : RH h0 h mem) {A ci f : Nat} {fs : List (Option Nat)} {gs : List Value} {x : Int32} (hA : shA A = some (.inr (ci, fs))) (hf : fs[f]? = some none) (hg : h[A]? = some (.inr (ci, gs))) : RH h0 (h.set A (.inr (ci, gs.set f (.int x)))) (upm mem A f x.toInt) := by
  obtain ⟨g2, e1, e2, e3⟩ := H.obj hA
  rw [hg] at e1
  cases e1
  have hl := (List.getElem?_eq_some_iff.mp hg).1
  have hfl : f < gs.length := by rw [e2]; exact (List.getElem?_eq_some_iff.mp hf).1
  refine ⟨fun B hB => by
    rw [List.getElem?_set_ne (fun q => by rw [q, hB] at hA; cases hA)]
    exact H.1 B hB, ?_⟩
  intro B s hB
  by_cases hAB : A = B
  · subst hAB
    rw [hA] at hB
    cases hB
    refine ⟨_, List.getElem?_set_self hl, gs.set f (.int x), rfl, by rw [List.length_set]; exact e2, fun j => ?_⟩
    by_cases hj : f = j
    · subst hj
      rw [hf]
      exact ⟨x, List.getElem?_set_self hfl, upm_eq⟩
    · have := e3 j
      rw [List.getElem?_set_ne hj, show upm mem A f x.toInt A j = mem A j from upm_ne (fun q => hj q.2.symm)]
      exact this
  · obtain ⟨y, h1, h2⟩ := H.2 B s hB
    refine ⟨y, by rw [List.getElem?_set_ne hAB]; exact h1, ?_⟩
    have : upm mem A f x.toInt B = mem B := by
      funext j
      exact upm_ne (fun q => hAB q.1.symm)
    rw [this]; exact h2
def LkW (lv : LV) (L : List (Option WV)) : Prop := ∀ i v, L[i]? = some (some v) → px_g lv i = some (wv v) ∧ vOK v
/-- what a method comes back with: a number or nothing, and the memory -/
abbrev WK : Type := Option Int → MM → Prop
def QK (h0 : PH) (K : WK) : Rs → PH → Prop := fun r h => ∃ (x : Option Int) (mem : MM), r = .inl (x.map fun y => .int (Int32.ofInt y)) ∧ (∀ y, x = some y → InI y) ∧ RH h0 h mem ∧ K x mem
abbrev CXW : Type := Nat → List Value → PH → (Rs → PH → Prop) → Prop
def Wx (C : CXW) (S : Nat × (Nat → Int32)) (M : PM) (K : WK) (pc : Nat) (L : List (Option WV)) (st : List WV) (mem : MM) : Prop := ∀ (h0 : PH) (lv : LV) (h : PH), LkW lv L → (∀ v ∈ st, vOK v) → RH h0 h mem → Vx C S M [] (QK h0 K) pc lv (st.map wv) h 0 0
/-- a call -/
def CW (C : CXW) (μ : Nat) (args : List WV) (mem : MM) (K : WK) : Prop := (∀ v ∈ args, vOK v) → ∀ h0 h, RH h0 h mem → C μ (args.map wv) h (QK h0 K)
/-- a call that gives a number; one that gives nothing -/
def CWI (C : CXW) (μ : Nat) (args : List WV) (mem : MM) (K : Int → MM → Prop) : Prop := CW C μ args mem fun r m => ∃ y, r = some y ∧ K y m
def CWV (C : CXW) (μ : Nat) (args : List WV) (mem : MM) (K : MM → Prop) : Prop := CW C μ args mem fun r m => r = none ∧ K m
theorem CW.mono {C : CXW} (hC : Cmono C) {μ : Nat} {args : List WV} {mem : MM} {K K' : WK} (h : ∀ r m, K r m → K' r m) (H : CW C μ args mem K) : CW C μ args mem K' := fun h1 h0 h2 h3 => hC _ _ _ _ _ (fun r _ ⟨x, m, e1, e2, e3, e4⟩ => ⟨x, m, e1, e2, e3, h _ _ e4⟩) (H h1 h0 h2 h3)
theorem CWI.mono {C : CXW} (hC : Cmono C) {μ : Nat} {args : List WV} {mem : MM} {K K' : Int → MM → Prop} (h : ∀ r m, K r m → K' r m) (H : CWI C μ args mem K) : CWI C μ args mem K' := CW.mono hC (fun _ _ ⟨y, e, q⟩ => ⟨y, e, h _ _ q⟩) H
theorem CWV.mono {C : CXW} (hC : Cmono C) {μ : Nat} {args : List WV} {mem : MM} {K K' : MM → Prop} (h : ∀ m, K m → K' m) (H : CWV C μ args mem K) : CWV C μ args mem K' := CW.mono hC (fun _ _ ⟨e, q⟩ => ⟨e, h _ q⟩) H
section WX
variable {C : CXW} {S : Nat × (Nat → Int32)} {M : PM} {K : WK} {pc : Nat} {L : List (Option WV)} {st : List WV} {mem : MM}
theorem Wx.go (hC : Cmono C) {te : TE} (ht : (pT M).find? (fun e => e.1 == pc) = some te) (H : ∀ (h0 : PH) (lv : LV) (h : PH), LkW lv L → (∀ v ∈ st, vOK v) → RH h0 h mem → pmI C S M [] (QK h0 K) (Vx C S M [] (QK h0 K)) te lv (st.map wv) h 0 0) : Wx C S M K pc L st mem := fun h0 lv h h1 h2 h3 => Vx.go hC ht (H h0 lv h h1 h2 h3)
theorem stc {v : WV} (hv : vOK v) (hs : ∀ u ∈ st, vOK u) : ∀ u ∈ v :: st, vOK u := by
  intro u hu
  rcases List.mem_cons.mp hu with rfl | hu
  · exact hv
  · exact hs u hu
theorem LkW.set {lv : LV} (h : LkW lv L) {i : Nat} {v : WV} (hv : vOK v) : LkW (px_s1 lv i (wv v)) (L.set i (some v)) := by
  intro j u hu
  by_cases hij : i = j
  · subst hij
    rw [List.getElem?_set] at hu
    simp only [if_true] at hu
    split at hu
    · cases hu; exact ⟨pg_self _ _ _, hv⟩
    · cases hu
  · rw [List.getElem?_set_ne hij] at hu
    obtain ⟨h1, h2⟩ := h j u hu
    exact ⟨pg_ne (fun q => hij q.symm) h1 (wv_cat u), h2⟩
/-! pushes -/
theorem Wx.iconst (hC : Cmono C) {z : Int} {a b : Nat} (ht : (pT M).find? (fun e => e.1 == pc) = some (pc, .iconst z, a, b)) (hz : inI z z = true) (H : Wx C S M K (pc + 1) L (.inl z :: st) mem) : Wx C S M K pc L st mem :=
  Wx.go hC ht fun h0 lv h h1 h2 h3 => H h0 lv h h1 (stc (inI_iff.mp hz) h2) h3
theorem Wx.bipush (hC : Cmono C) {z : Int} {a b : Nat} (ht : (pT M).find? (fun e => e.1 == pc) = some (pc, .bipush z, a, b)) (hz : inI z z = true) (e : (Int8.ofInt z).toInt32 = Int32.ofInt z) (H : Wx C S M K (pc + 2) L (.inl z :: st) mem) : Wx C S M K pc L st mem :=
  Wx.go hC ht fun h0 lv h h1 h2 h3 => by
    have := H h0 lv h h1 (stc (inI_iff.mp hz) h2) h3
    show Vx C S M [] (QK h0 K) (pc + 2) lv (.int (Int8.ofInt z).toInt32 :: st.map wv) h 0 0
    rw [e]; exact this
theorem Wx.sipush (hC : Cmono C) {z : Int} {a b : Nat} (ht : (pT M).find? (fun e => e.1 == pc) = some (pc, .sipush z, a, b)) (hz : inI z z = true) (e : (Int16.ofInt z).toInt32 = Int32.ofInt z) (H : Wx C S M K (pc + 3) L (.inl z :: st) mem) : Wx C S M K pc L st mem :=
  Wx.go hC ht fun h0 lv h h1 h2 h3 => by
    have := H h0 lv h h1 (stc (inI_iff.mp hz) h2) h3
    show Vx C S M [] (QK h0 K) (pc + 3) lv (.int (Int16.ofInt z).toInt32 :: st.map wv) h 0 0
    rw [e]; exact this
theorem Wx.iload (hC : Cmono C) {i a b : Nat} {x : Int} (ht : (pT M).find? (fun e => e.1 == pc) = some (pc, .iload i, a, b)) (hl : L[i]? = some (some (.inl x))) (H : Wx C S M K (pc + 2) L (.inl x :: st) mem) : Wx C S M K pc L st mem :=
  Wx.go hC ht fun h0 lv h h1 h2 h3 => ⟨_, (h1 i _ hl).1, H h0 lv h h1 (stc (h1 i _ hl).2 h2) h3⟩
theorem Wx.iload_n (hC : Cmono C) {i : Fin 4} {a b : Nat} {x : Int} (ht : (pT M).find? (fun e => e.1 == pc) = some (pc, .iload_n i, a, b)) (hl : L[i.val]? = some (some (.inl x))) (H : Wx C S M K (pc + 1) L (.inl x :: st) mem) : Wx C S M K pc L st mem :=
  Wx.go hC ht fun h0 lv h h1 h2 h3 => ⟨_, (h1 i _ hl).1, H h0 lv h h1 (stc (h1 i _ hl).2 h2) h3⟩
theorem Wx.aload (hC : Cmono C) {i a b A : Nat} (ht : (pT M).find? (fun e => e.1 == pc) = some (pc, .aload i, a, b)) (hl : L[i]? = some (some (.inr A))) (H : Wx C S M K (pc + 2) L (.inr A :: st) mem) : Wx C S M K pc L st mem :=
  Wx.go hC ht fun h0 lv h h1 h2 h3 => ⟨_, (h1 i _ hl).1, ⟨A, Or.inl rfl⟩, H h0 lv h h1 (stc trivial h2) h3⟩
theorem Wx.aload_n (hC : Cmono C) {i : Fin 4} {a b A : Nat} (ht : (pT M).find? (fun e => e.1 == pc) = some (pc, .aload_n i, a, b)) (hl : L[i.val]? = some (some (.inr A))) (H : Wx C S M K (pc + 1) L (.inr A :: st) mem) : Wx C S M K pc L st mem :=
  Wx.go hC ht fun h0 lv h h1 h2 h3 => ⟨_, (h1 i _ hl).1, ⟨A, Or.inl rfl⟩, H h0 lv h h1 (stc trivial h2) h3⟩
theorem Wx.istore (hC : Cmono C) {i a b : Nat} {x : Int} (ht : (pT M).find? (fun e => e.1 == pc) = some (pc, .istore i, a, b)) (hi : Nat.blt i (pL M) = true) (H : Wx C S M K (pc + 2) (L.set i (some (.inl x))) st mem) : Wx C S M K pc L (.inl x :: st) mem :=
  Wx.go hC ht fun h0 lv h h1 h2 h3 => ⟨blt_iff.mp hi, H h0 _ h (h1.set (h2 _ List.mem_cons_self)) (fun u hu => h2 u (List.mem_cons_of_mem _ hu)) h3⟩
theorem Wx.istore_n (hC : Cmono C) {i : Fin 4} {a b : Nat} {x : Int} (ht : (pT M).find? (fun e => e.1 == pc) = some (pc, .istore_n i, a, b)) (hi : Nat.blt i.val (pL M) = true) (H : Wx C S M K (pc + 1) (L.set i.val (some (.inl x))) st mem) : Wx C S M K pc L (.inl x :: st) mem :=
  Wx.go hC ht fun h0 lv h h1 h2 h3 => ⟨blt_iff.mp hi, H h0 _ h (h1.set (h2 _ List.mem_cons_self)) (fun u hu => h2 u (List.mem_cons_of_mem _ hu)) h3⟩
theorem Wx.iinc (hC : Cmono C) {i a b : Nat} {z x : Int} (ht : (pT M).find? (fun e => e.1 == pc) = some (pc, .iinc i z, a, b)) (hi : Nat.blt i (pL M) = true) (hl : L[i]? = some (some (.inl x))) (hr : InI (x + z)) (H : Wx C S M K (pc + 3) (L.set i (some (.inl (x + z)))) st mem) : Wx C S M K pc L st mem :=
  Wx.go hC ht fun h0 lv h h1 h2 h3 => ⟨blt_iff.mp hi, _, (h1 i _ hl).1, by
    have := H h0 _ h (h1.set (i := i) (v := .inl (x + z)) hr) h2 h3
    rw [show wv (.inl (x + z)) = .int (Int32.ofInt x + Int32.ofInt z) from by rw [← Int32.ofInt_add]; rfl] at this
    exact this⟩
theorem Wx.iadd (hC : Cmono C) {a b : Nat} {x y : Int} (ht : (pT M).find? (fun e => e.1 == pc) = some (pc, .iadd, a, b)) (hr : InI (x + y)) (H : Wx C S M K (pc + 1) L (.inl (x + y) :: st) mem) : Wx C S M K pc L (.inl y :: .inl x :: st) mem :=
  Wx.go hC ht fun h0 lv h h1 h2 h3 => by
    have := H h0 lv h h1 (stc hr (fun u hu => h2 u (List.mem_cons_of_mem _ (List.mem_cons_of_mem _ hu)))) h3
    rw [List.map_cons, show wv (.inl (x + y)) = .int (Int32.ofInt x + Int32.ofInt y) from by rw [← Int32.ofInt_add]; rfl] at this
    exact this
/-- a sum that may go round -/
theorem Wx.iaddW (hC : Cmono C) {a b : Nat} {x y : Int} (ht : (pT M).find? (fun e => e.1 == pc) = some (pc, .iadd, a, b)) (H : ∀ z, InI z → (InI (x + y) → z = x + y) → Wx C S M K (pc + 1) L (.inl z :: st) mem) : Wx C S M K pc L (.inl y :: .inl x :: st) mem :=
  Wx.go hC ht fun h0 lv h h1 h2 h3 => by
    have hx := wi (h2 _ (List.mem_cons_of_mem _ List.mem_cons_self))
    have hy := wi (h2 _ List.mem_cons_self)
    have := H (Int32.ofInt x + Int32.ofInt y).toInt (wiI _) (fun q => by rw [← Int32.ofInt_add, wi q]) h0 lv h h1 (stc (wiI _) (fun u hu => h2 u (List.mem_cons_of_mem _ (List.mem_cons_of_mem _ hu)))) h3
    rw [List.map_cons, show wv (.inl (Int32.ofInt x + Int32.ofInt y).toInt) = .int (Int32.ofInt x + Int32.ofInt y) from by show Value.int (Int32.ofInt _) = _; rw [Int32.ofInt_toInt]] at this
    exact this
theorem Wx.isub (hC : Cmono C) {a b : Nat} {x y : Int} (ht : (pT M).find? (fun e => e.1 == pc) = some (pc, .isub, a, b)) (hr : InI (x - y)) (H : Wx C S M K (pc + 1) L (.inl (x - y) :: st) mem) : Wx C S M K pc L (.inl y :: .inl x :: st) mem :=
  Wx.go hC ht fun h0 lv h h1 h2 h3 => by
    have := H h0 lv h h1 (stc hr (fun u hu => h2 u (List.mem_cons_of_mem _ (List.mem_cons_of_mem _ hu)))) h3
    rw [List.map_cons, show wv (.inl (x - y)) = .int (Int32.ofInt x - Int32.ofInt y) from by rw [← Int32.ofInt_sub]; rfl] at this
    exact this
theorem Wx.imul (hC : Cmono C) {a b : Nat} {x y : Int} (ht : (pT M).find? (fun e => e.1 == pc) = some (pc, .imul, a, b)) (hr : InI (x * y)) (H : Wx C S M K (pc + 1) L (.inl (x * y) :: st) mem) : Wx C S M K pc L (.inl y :: .inl x :: st) mem :=
  Wx.go hC ht fun h0 lv h h1 h2 h3 => by
    have := H h0 lv h h1 (stc hr (fun u hu => h2 u (List.mem_cons_of_mem _ (List.mem_cons_of_mem _ hu)))) h3
    rw [List.map_cons, show wv (.inl (x * y)) = .int (Int32.ofInt x * Int32.ofInt y) from by rw [← Int32.ofInt_mul]; rfl] at this
    exact this
theorem Wx.ineg (hC : Cmono C) {a b : Nat} {x : Int} (ht : (pT M).find? (fun e => e.1 == pc) = some (pc, .ineg, a, b)) (hr : InI (-x)) (H : Wx C S M K (pc + 1) L (.inl (-x) :: st) mem) : Wx C S M K pc L (.inl x :: st) mem :=
  Wx.go hC ht fun h0 lv h h1 h2 h3 => by
    have := H h0 lv h h1 (stc hr (fun u hu => h2 u (List.mem_cons_of_mem _ hu))) h3
    rw [List.map_cons, show wv (.inl (-x)) = .int (-Int32.ofInt x) from by rw [← Int32.ofInt_neg]; rfl] at this
    exact this
theorem ofI_eq {x : Int32} {y : Int} (h : x.toInt = y) : x = Int32.ofInt y := by rw [← h, Int32.ofInt_toInt]
theorem Wx.idiv (hC : Cmono C) {a b : Nat} {x y : Int} (ht : (pT M).find? (fun e => e.1 == pc) = some (pc, .idiv, a, b)) (hy : 0 < y) (H : Wx C S M K (pc + 1) L (.inl (x.tdiv y) :: st) mem) : Wx C S M K pc L (.inl y :: .inl x :: st) mem :=
  Wx.go hC ht fun h0 lv h h1 h2 h3 => by
    have hy1 := wi (h2 _ List.mem_cons_self)
    have hx1 := wi (h2 _ (List.mem_cons_of_mem _ List.mem_cons_self))
    have e := dv_toInt (x := Int32.ofInt x) (y := Int32.ofInt y) (by rw [hy1]; exact hy)
    rw [hx1, hy1] at e
    have hr : InI (x.tdiv y) := by rw [← e]; exact wiI _
    have := H h0 lv h h1 (stc hr (fun u hu => h2 u (List.mem_cons_of_mem _ (List.mem_cons_of_mem _ hu)))) h3
    rw [List.map_cons, show wv (.inl (x.tdiv y)) = .int (Int32.ofInt x / Int32.ofInt y) from by rw [ofI_eq e]; rfl] at this
    exact ⟨nz_of (by rw [hy1]; omega), this⟩
theorem Wx.irem (hC : Cmono C) {a b : Nat} {x y : Int} (ht : (pT M).find? (fun e => e.1 == pc) = some (pc, .irem, a, b)) (hy : 0 < y) (H : Wx C S M K (pc + 1) L (.inl (x.tmod y) :: st) mem) : Wx C S M K pc L (.inl y :: .inl x :: st) mem :=
  Wx.go hC ht fun h0 lv h h1 h2 h3 => by
    have hy1 := wi (h2 _ List.mem_cons_self)
    have hx1 := wi (h2 _ (List.mem_cons_of_mem _ List.mem_cons_self))
    have e := dv_toInt (x := Int32.ofInt x) (y := Int32.ofInt y) (by rw [hy1]; exact hy)
    rw [hx1, hy1] at e
    have e2 : Int32.ofInt x - Int32.ofInt x / Int32.ofInt y * Int32.ofInt y = Int32.ofInt (x.tmod y) := by
      rw [ofI_eq e, ← Int32.ofInt_mul, ← Int32.ofInt_sub, Int.tmod_def, Int.mul_comm]
    have hr : InI (x.tmod y) := by
      have a1 : InI y := h2 _ List.mem_cons_self
      have a2 : InI x := h2 _ (List.mem_cons_of_mem _ List.mem_cons_self)
      have l1 := Int.tmod_lt_of_pos x hy
      have l2 : -y < x.tmod y := by
        rcases Int.le_total 0 x with h | h
        · have := Int.tmod_nonneg y h; omega
        · have := Int.tmod_lt_of_pos (-x) hy
          rw [Int.neg_tmod] at this; omega
      unfold InI at a1 ⊢
      omega
    have := H h0 lv h h1 (stc hr (fun u hu => h2 u (List.mem_cons_of_mem _ (List.mem_cons_of_mem _ hu)))) h3
    rw [List.map_cons, show wv (.inl (x.tmod y)) = .int (Int32.ofInt x - Int32.ofInt x / Int32.ofInt y * Int32.ofInt y) from by rw [e2]; rfl] at this
    exact ⟨nz_of (by rw [hy1]; omega), this⟩
/-- bits: any number may come of it -/
theorem Wx.bits (hC : Cmono C) {ins : Instr} {a b : Nat} {x y : Int} {f : Int32 → Int32 → Int32} (ht : (pT M).find? (fun e => e.1 == pc) = some (pc, ins, a, b)) (hi : ∀ h0 lv r h, pmI C S M [] (QK h0 K) (Vx C S M [] (QK h0 K)) (pc, ins, a, b) lv (.int (Int32.ofInt y) :: .int (Int32.ofInt x) :: r) h 0 0 ↔ Vx C S M [] (QK h0 K) (pc + 1) lv (.int (f (Int32.ofInt x) (Int32.ofInt y)) :: r) h 0 0) (H : ∀ z, z = (f (Int32.ofInt x) (Int32.ofInt y)).toInt → InI z → Wx C S M K (pc + 1) L (.inl z :: st) mem) : Wx C S M K pc L (.inl y :: .inl x :: st) mem :=
  Wx.go hC ht fun h0 lv h h1 h2 h3 => by
    have := H _ rfl (wiI _) h0 lv h h1 (stc (wiI _) (fun u hu => h2 u (List.mem_cons_of_mem _ (List.mem_cons_of_mem _ hu)))) h3
    rw [List.map_cons, show wv (.inl (f (Int32.ofInt x) (Int32.ofInt y)).toInt) = .int (f (Int32.ofInt x) (Int32.ofInt y)) from by show Value.int (Int32.ofInt _) = _; rw [Int32.ofInt_toInt]] at this
    exact (hi h0 lv _ h).mpr this
theorem Wx.dup (hC : Cmono C) {a b : Nat} {v : WV} (ht : (pT M).find? (fun e => e.1 == pc) = some (pc, .dup, a, b)) (H : Wx C S M K (pc + 1) L (v :: v :: st) mem) : Wx C S M K pc L (v :: st) mem :=
  Wx.go hC ht fun h0 lv h h1 h2 h3 => ⟨wv v, st.map wv, rfl, wv_cat v, H h0 lv h h1 (stc (h2 _ List.mem_cons_self) h2) h3⟩
theorem Wx.dup2 (hC : Cmono C) {a b : Nat} {v w : WV} (ht : (pT M).find? (fun e => e.1 == pc) = some (pc, .dup2, a, b)) (H : Wx C S M K (pc + 1) L (v :: w :: v :: w :: st) mem) : Wx C S M K pc L (v :: w :: st) mem :=
  Wx.go hC ht fun h0 lv h h1 h2 h3 => ⟨wv v, wv w, st.map wv, rfl, wv_cat v, wv_cat w, H h0 lv h h1 (stc (h2 _ List.mem_cons_self) (stc (h2 _ (List.mem_cons_of_mem _ List.mem_cons_self)) h2)) h3⟩
theorem Wx.goto (hC : Cmono C) {a b t : Nat} {z : Int} (ht : (pT M).find? (fun e => e.1 == pc) = some (pc, .goto z, a, b)) (hz : (pc : Int) + z = t) (H : Wx C S M K t L st mem) : Wx C S M K pc L st mem :=
  Wx.go hC ht fun h0 lv h h1 h2 h3 => ⟨by show 0 ≤ (pc : Int) + z; omega, by
    show Vx C S M [] (QK h0 K) ((pc : Int) + z).toNat _ _ _ _ _
    rw [show ((pc : Int) + z).toNat = t by omega]; exact H h0 lv h h1 h2 h3⟩
theorem Wx.ifc (hC : Cmono C) {cc : ClassFile.Cond} {a b t : Nat} {z x : Int} (ht : (pT M).find? (fun e => e.1 == pc) = some (pc, .ifCond cc z, a, b)) (hz : (pc : Int) + z = t) (H1 : ccZ cc x 0 → Wx C S M K t L st mem) (H2 : ¬ ccZ cc x 0 → Wx C S M K (pc + 3) L st mem) : Wx C S M K pc L (.inl x :: st) mem :=
  Wx.go hC ht fun h0 lv h h1 h2 h3 => by
    have hx := wi (h2 _ List.mem_cons_self)
    have hst : ∀ u ∈ st, vOK u := fun u hu => h2 u (List.mem_cons_of_mem _ hu)
    have e : ccI cc (Int32.ofInt x) 0 ↔ ccZ cc x 0 := by rw [ccI_iff, hx]; exact Iff.rfl
    refine ⟨by show 0 ≤ (pc : Int) + z; omega, fun q => ?_, fun q => ?_⟩
    · show Vx C S M [] (QK h0 K) ((pc : Int) + z).toNat _ _ _ _ _
      rw [show ((pc : Int) + z).toNat = t by omega]; exact H1 (e.mp q) h0 lv h h1 hst h3
    · exact H2 (fun w => q (e.mpr w)) h0 lv h h1 hst h3
theorem Wx.icmp (hC : Cmono C) {cc : ClassFile.Cond} {a b t : Nat} {z x y : Int} (ht : (pT M).find? (fun e => e.1 == pc) = some (pc, .if_icmp cc z, a, b)) (hz : (pc : Int) + z = t) (H1 : ccZ cc x y → Wx C S M K t L st mem) (H2 : ¬ ccZ cc x y → Wx C S M K (pc + 3) L st mem) : Wx C S M K pc L (.inl y :: .inl x :: st) mem :=
  Wx.go hC ht fun h0 lv h h1 h2 h3 => by
    have hy := wi (h2 _ List.mem_cons_self)
    have hx := wi (h2 _ (List.mem_cons_of_mem _ List.mem_cons_self))
    have hst : ∀ u ∈ st, vOK u := fun u hu => h2 u (List.mem_cons_of_mem _ (List.mem_cons_of_mem _ hu))
    have e : ccI cc (Int32.ofInt x) (Int32.ofInt y) ↔ ccZ cc x y := by rw [ccI_iff, hx, hy]
    refine ⟨by show 0 ≤ (pc : Int) + z; omega, fun q => ?_, fun q => ?_⟩
    · show Vx C S M [] (QK h0 K) ((pc : Int) + z).toNat _ _ _ _ _
      rw [show ((pc : Int) + z).toNat = t by omega]; exact H1 (e.mp q) h0 lv h h1 hst h3
    · exact H2 (fun w => q (e.mpr w)) h0 lv h h1 hst h3
theorem clampN {i : Int} (h : InI i) (h0 : 0 ≤ i) : (Int32.ofInt i).toNatClampNeg = i.toNat := by
  rw [show (Int32.ofInt i).toNatClampNeg = (Int32.ofInt i).toInt.toNat from rfl, wi h]
theorem Wx.iald (hC : Cmono C) {a b A n : Nat} {i : Int} (ht : (pT M).find? (fun e => e.1 == pc) = some (pc, .iaload, a, b)) (hA : shA A = some (.inl n)) (hi : 0 ≤ i ∧ i < n) (H : ∀ v, v = mem A i.toNat → InI v → Wx C S M K (pc + 1) L (.inl v :: st) mem) : Wx C S M K pc L (.inl i :: .inr A :: st) mem :=
  Wx.go hC ht fun h0 lv h h1 h2 h3 => by
    obtain ⟨g, e1, e2⟩ := h3.row hA
    have hI : InI i := h2 _ List.mem_cons_self
    have hv : InI (mem A i.toNat) := h3.rowI hA _
    show p_iald S h (.int (Int32.ofInt i) :: .ref A :: st.map wv) fun st => Vx C S M [] (QK h0 K) (pc + 1) lv st h 0 0
    refine iald_mk e1 (vp_in_iff.mpr (by rw [wi hI]; exact hi)) ?_
    rw [clampN hI hi.1, show g i.toNat = Int32.ofInt (mem A i.toNat) from ofI_eq (e2 _).symm]
    exact H _ rfl hv h0 lv h h1 (stc hv (fun u hu => h2 u (List.mem_cons_of_mem _ (List.mem_cons_of_mem _ hu)))) h3
theorem Wx.iast (hC : Cmono C) {a b A n : Nat} {i x : Int} (ht : (pT M).find? (fun e => e.1 == pc) = some (pc, .iastore, a, b)) (hA : shA A = some (.inl n)) (hi : 0 ≤ i ∧ i < n) (H : Wx C S M K (pc + 1) L st (upm mem A i.toNat x)) : Wx C S M K pc L (.inl x :: .inl i :: .inr A :: st) mem :=
  Wx.go hC ht fun h0 lv h h1 h2 h3 => by
    obtain ⟨g, e1, e2⟩ := h3.row hA
    have hx : InI x := h2 _ List.mem_cons_self
    have hI : InI i := h2 _ (List.mem_cons_of_mem _ List.mem_cons_self)
    show p_iast h (.int (Int32.ofInt x) :: .int (Int32.ofInt i) :: .ref A :: st.map wv) fun st h => Vx C S M [] (QK h0 K) (pc + 1) lv st h 0 0
    refine iast_mk e1 (vp_in_iff.mpr (by rw [wi hI]; exact hi)) ?_
    have := h3.setRow (i := i.toNat) (x := Int32.ofInt x) hA e1
    rw [wi hx] at this
    rw [clampN hI hi.1]
    exact H h0 lv _ h1 (fun u hu => h2 u (List.mem_cons_of_mem _ (List.mem_cons_of_mem _ (List.mem_cons_of_mem _ hu)))) this
theorem Wx.getI (hC : Cmono C) {p A ci f : Nat} {fs : List (Option Nat)} (ht : (pT M).find? (fun e => e.1 == pc) = some (pc, .getfield p, ci, f)) (hA : shA A = some (.inr (ci, fs))) (hf : fs[f]? = some none) (hn : Nat.blt f (fnum ci) = true) (H : ∀ v, v = mem A f → InI v → Wx C S M K (pc + 3) L (.inl v :: st) mem) : Wx C S M K pc L (.inr A :: st) mem :=
  Wx.go hC ht fun h0 lv h h1 h2 h3 => by
    obtain ⟨gs, e1, -, e2⟩ := h3.obj hA
    have e3 := e2 f
    rw [hf] at e3
    obtain ⟨z, e4, e5⟩ := e3
    have hv : InI (mem A f) := h3.fldI hA hf
    show p_get h ci f (.ref A :: st.map wv) fun st => Vx C S M [] (QK h0 K) (pc + 3) lv st h 0 0
    refine get_mk (v := .int z) e1 (blt_iff.mp hn) e4 ?_
    rw [show z = Int32.ofInt (mem A f) from ofI_eq e5.symm]
    exact H _ rfl hv h0 lv h h1 (stc hv (fun u hu => h2 u (List.mem_cons_of_mem _ hu))) h3
theorem Wx.getR (hC : Cmono C) {p A B ci f : Nat} {fs : List (Option Nat)} (ht : (pT M).find? (fun e => e.1 == pc) = some (pc, .getfield p, ci, f)) (hA : shA A = some (.inr (ci, fs))) (hf : fs[f]? = some (some B)) (hn : Nat.blt f (fnum ci) = true) (H : Wx C S M K (pc + 3) L (.inr B :: st) mem) : Wx C S M K pc L (.inr A :: st) mem :=
  Wx.go hC ht fun h0 lv h h1 h2 h3 => by
    obtain ⟨gs, e1, -, e2⟩ := h3.obj hA
    have e3 := e2 f
    rw [hf] at e3
    show p_get h ci f (.ref A :: st.map wv) fun st => Vx C S M [] (QK h0 K) (pc + 3) lv st h 0 0
    exact get_mk (v := .ref B) e1 (blt_iff.mp hn) e3 (H h0 lv h h1 (stc trivial (fun u hu => h2 u (List.mem_cons_of_mem _ hu))) h3)
theorem Wx.putI (hC : Cmono C) {p A ci f : Nat} {fs : List (Option Nat)} {x : Int} (ht : (pT M).find? (fun e => e.1 == pc) = some (pc, .putfield p, ci, f)) (hA : shA A = some (.inr (ci, fs))) (hf : fs[f]? = some none) (hn : Nat.blt f (fnum ci) = true) (hy : ftyX ci f = .int) (H : Wx C S M K (pc + 3) L st (upm mem A f x)) : Wx C S M K pc L (.inl x :: .inr A :: st) mem :=
  Wx.go hC ht fun h0 lv h h1 h2 h3 => by
    obtain ⟨gs, e1, e0, e2⟩ := h3.obj hA
    have hx : InI x := h2 _ List.mem_cons_self
    have hfl : f < gs.length := by rw [e0]; exact (List.getElem?_eq_some_iff.mp hf).1
    show p_put h ci f (.int (Int32.ofInt x) :: .ref A :: st.map wv) fun st h => Vx C S M [] (QK h0 K) (pc + 3) lv st h 0 0
    refine put_mk e1 (blt_iff.mp hn) hfl (by rw [hy]; rfl) (by rw [hy]; rfl) ?_
    have := h3.setObj (x := Int32.ofInt x) hA hf e1
    rw [wi hx] at this
    exact H h0 lv _ h1 (fun u hu => h2 u (List.mem_cons_of_mem _ (List.mem_cons_of_mem _ hu))) this
/-! ends -/
theorem Wx.ireturn (hC : Cmono C) {a b : Nat} {x : Int} (ht : (pT M).find? (fun e => e.1 == pc) = some (pc, .ireturn, a, b)) (hR : pR M = some .int) (H : InI x → K (some x) mem) : Wx C S M K pc L [.inl x] mem :=
  Wx.go hC ht fun h0 lv h h1 h2 h3 => ⟨_, rfl, ⟨_, hR, rfl⟩, some x, mem, rfl, fun y hy => by cases hy; exact h2 _ List.mem_cons_self, h3, H (h2 _ List.mem_cons_self)⟩
theorem Wx.bret (hC : Cmono C) {a b : Nat} {x : Int} (ht : (pT M).find? (fun e => e.1 == pc) = some (pc, .ireturn, a, b)) (hR : pR M = some .boolean) (hx : x = 0 ∨ x = 1) (H : K (some x) mem) : Wx C S M K pc L [.inl x] mem :=
  Wx.go hC ht fun h0 lv h h1 h2 h3 => ⟨_, rfl, ⟨_, hR, by rcases hx with rfl | rfl <;> rfl⟩, some x, mem, rfl, fun y hy => by cases hy; exact h2 _ List.mem_cons_self, h3, H⟩
theorem Wx.vret (hC : Cmono C) {a b : Nat} (ht : (pT M).find? (fun e => e.1 == pc) = some (pc, .return_, a, b)) (hR : pR M = none) (H : K none mem) : Wx C S M K pc L [] mem :=
  Wx.go hC ht fun h0 lv h h1 h2 h3 => ⟨rfl, hR, none, mem, rfl, (fun y hy => by cases hy), h3, H⟩
/-! calls -/
theorem cats1 : ∀ (l : List WV), ((l.map wv).map Value.category).sum = l.length
  | [] => rfl
  | v :: l => by rw [List.map_cons, List.map_cons, List.sum_cons, wv_cat, cats1 l, List.length_cons]; omega
theorem Wx.call (hC : Cmono C) {N : PM} {μ : Nat} {virt : Bool} {args rest : List WV} (hN : MT[μ]? = some N) (hl : args.length = pN N) (hr : Nat.ble rest.length 8 = true) (hc : pC N = 0) (hs : pS N = 0) (hv : virt = true → ∃ A ci fs, args[0]? = some (.inr A) ∧ shA A = some (.inr (ci, fs)) ∧ ci = pO N) {K2 : WK} (H : CW C μ args mem K2) (Hk : ∀ r m, K2 r m → (∀ y, r = some y → InI y) → Wx C S M K (pc + 3) L ((r.map Sum.inl).toList ++ rest) m) {h0 : PH} {lv : LV} {h : PH} (h1 : LkW lv L) (h2 : ∀ v ∈ args.reverse ++ rest, vOK v) (h3 : RH h0 h mem) : p_call C M [] (QK h0 K) (Vx C S M [] (QK h0 K)) pc μ virt lv ((args.reverse ++ rest).map wv) h 0 0 := by
  unfold p_call
  rw [hN]
  have el : (args.reverse.map wv).length = pN N := by simp [hl]
  have e1 : ((args.reverse ++ rest).map wv).take (pN N) = args.reverse.map wv := by rw [List.map_append, ← el, List.take_left]
  have e2 : ((args.reverse ++ rest).map wv).drop (pN N) = rest.map wv := by rw [List.map_append, ← el, List.drop_left]
  simp only [e1, e2]
  refine ⟨by simp [hl], by rw [cats1]; exact Nat.le_of_ble_eq_true hr, by omega, by omega, ?_, ?_⟩
  · intro q
    obtain ⟨A, ci, fs, g1, g2, g3⟩ := hv q
    obtain ⟨gs, g4, -⟩ := h3.obj g2
    refine ⟨A, gs, ?_, by rw [← g3]; exact g4⟩
    rw [List.getLast?_eq_head?_reverse, ← List.map_reverse, List.reverse_reverse, List.head?_eq_getElem?, List.getElem?_map, g1]
    rfl
  · rw [← List.map_reverse, List.reverse_reverse]
    refine hC _ _ _ _ _ ?_ (H (fun v hv => h2 v (List.mem_append_left _ (List.mem_reverse.mpr hv))) h0 h h3)
    rintro r h' ⟨x, m, rfl, k2, k3, k4⟩
    show Vx C S M [] (QK h0 K) (pc + 3) lv _ h' (0 + pC N) (0 + pS N)
    rw [hc, hs]
    have := Hk x m k4 k2 h0 lv h' h1 (fun u hu => ?_) k3
    · cases x with
      | none => exact this
      | some y => exact this
    · rcases List.mem_append.mp hu with hu | hu
      · cases x with
        | none => cases hu
        | some y =>
          have : u = .inl y := by simpa using hu
          subst this
          exact k2 y rfl
      · exact h2 u (List.mem_append_right _ hu)
theorem Wx.virtI (hC : Cmono C) {p μ b ci A : Nat} {N : PM} {args rest : List WV} {fs : List (Option Nat)} (ht : (pT M).find? (fun e => e.1 == pc) = some (pc, .invokevirtual p, μ, b)) (hN : MT[μ]? = some N) (hst : st = args.reverse ++ rest) (hl : args.length = pN N) (hr : Nat.ble rest.length 8 = true) (hc : pC N = 0) (hs : pS N = 0) (ha : args[0]? = some (.inr A)) (hA : shA A = some (.inr (ci, fs))) (ho : ci = pO N) (H : CWI C μ args mem fun y m => InI y → Wx C S M K (pc + 3) L (.inl y :: rest) m) : Wx C S M K pc L st mem := by
  subst hst
  exact Wx.go hC ht fun h0 lv h h1 h2 h3 => Wx.call hC hN hl hr hc hs (fun _ => ⟨A, ci, fs, ha, hA, ho⟩) H (fun r m ⟨y, e, q⟩ hy => by subst e; exact q (hy y rfl)) h1 h2 h3
theorem Wx.virtV (hC : Cmono C) {p μ b ci A : Nat} {N : PM} {args rest : List WV} {fs : List (Option Nat)} (ht : (pT M).find? (fun e => e.1 == pc) = some (pc, .invokevirtual p, μ, b)) (hN : MT[μ]? = some N) (hst : st = args.reverse ++ rest) (hl : args.length = pN N) (hr : Nat.ble rest.length 8 = true) (hc : pC N = 0) (hs : pS N = 0) (ha : args[0]? = some (.inr A)) (hA : shA A = some (.inr (ci, fs))) (ho : ci = pO N) (H : CWV C μ args mem fun m => Wx C S M K (pc + 3) L rest m) : Wx C S M K pc L st mem := by
  subst hst
  exact Wx.go hC ht fun h0 lv h h1 h2 h3 => Wx.call hC hN hl hr hc hs (fun _ => ⟨A, ci, fs, ha, hA, ho⟩) H (fun r m ⟨e, q⟩ _ => by subst e; exact q) h1 h2 h3
theorem Wx.statI (hC : Cmono C) {p μ b : Nat} {N : PM} {args rest : List WV} (ht : (pT M).find? (fun e => e.1 == pc) = some (pc, .invokestatic p, μ, b)) (hb : b ≠ 7) (hN : MT[μ]? = some N) (hst : st = args.reverse ++ rest) (hl : args.length = pN N) (hr : Nat.ble rest.length 8 = true) (hc : pC N = 0) (hs : pS N = 0) (H : CWI C μ args mem fun y m => InI y → Wx C S M K (pc + 3) L (.inl y :: rest) m) : Wx C S M K pc L st mem := by
  subst hst
  exact Wx.go hC ht fun h0 lv h h1 h2 h3 => Or.inr ⟨hb, Wx.call hC hN hl hr hc hs (fun q => by cases q) H (fun r m ⟨y, e, q⟩ hy => by subst e; exact q (hy y rfl)) h1 h2 h3⟩
end WX
/-- fewer locals known -/
def subL : List (Option WV) → List (Option WV) → Prop
  | [], _ => True
  | none :: a, _ :: c => subL a c
  | some v :: a, w :: c => w = some v ∧ subL a c
  | none :: a, [] => subL a []
  | some _ :: _, [] => False
theorem subL.at : ∀ {a b : List (Option WV)} {i : Nat} {v : WV}, subL a b → a[i]? = some (some v) → b[i]? = some (some v)
  | [], _, i, v, _, h => by simp at h
  | none :: a, _ :: c, 0, v, _, h => by simp at h
  | none :: a, _ :: c, i + 1, v, H, h => by simpa using subL.at (a := a) (b := c) (i := i) H (by simpa using h)
  | some u :: a, w :: c, 0, v, H, h => by
    have e : u = v := by simpa using h
    subst e
    simpa using H.1
  | some u :: a, w :: c, i + 1, v, H, h => by simpa using subL.at (a := a) (b := c) (i := i) H.2 (by simpa using h)
  | none :: a, [], 0, v, _, h => by simp at h
  | none :: a, [], i + 1, v, H, h => by have := subL.at (a := a) (b := []) (i := i) H (by simpa using h); simp at this
  | some _ :: _, [], i, v, H, h => H.elim
theorem Wx.weak {C : CXW} {S : Nat × (Nat → Int32)} {M : PM} {K : WK} {pc : Nat} {L' L : List (Option WV)} {st : List WV} {mem : MM} (h : subL L' L) (H : Wx C S M K pc L' st mem) : Wx C S M K pc L st mem := fun h0 lv hh h1 h2 h3 => H h0 lv hh (fun i v hv => h1 i v (h.at hv)) h2 h3
/-- a method by hand -/
theorem CW.of {S : Nat × (Nat → Int32)} {n μ : Nat} {M : PM} {args : List WV} {mem : MM} {K : WK} (hM : MT[μ]? = some M) (hk : (pK M == 3) = false) (hl : Nat.ble args.length (pL M) = true) {k : Nat} (H : Wx (Ex S n) S M K 0 (args.map some ++ List.replicate k none) [] mem) : CW (Ex S (n + 1)) μ args mem K := by
  intro ha h0 h hh
  refine ⟨M, hM, by rw [cats1]; exact Nat.le_of_ble_eq_true hl, ?_⟩
  rw [if_neg (by simpa using hk)]
  refine H h0 _ h ?_ (fun v hv => by cases hv) hh
  intro i v hv
  have hv : (args.map some)[i]? = some (some v) := by
    rw [List.getElem?_append] at hv
    split at hv
    · exact hv
    · rw [List.getElem?_replicate] at hv
      split at hv <;> cases hv
  rw [List.getElem?_map] at hv
  cases hv2 : args[i]? with
  | none => rw [hv2] at hv; cases hv
  | some u =>
    rw [hv2] at hv
    have hv : u = v := by cases hv; rfl
    subst hv
    refine ⟨?_, ha _ (List.mem_of_getElem? hv2)⟩
    have := pg_args (l := args.map wv) (k := 0) (i := i) (w := wv u) (fun w hw => by obtain ⟨z, -, rfl⟩ := List.mem_map.mp hw; exact wv_cat z) (by rw [List.getElem?_map, hv2]; rfl)
    rwa [Nat.zero_add] at this
