/-! the machine by hand with longs (what they hold doesn't matter) -/
abbrev XV : Type := WV ⊕ Int64
def xv : XV → Value
  | .inl v => wv v
  | .inr l => .long l
def xOK : XV → Prop
  | .inl v => vOK v
  | .inr _ => True
def LkX (lv : LV) (L : List (Option XV)) : Prop := ∀ i v, L[i]? = some (some v) → px_g lv i = some (xv v) ∧ xOK v
def isLg : Option (Option XV) → Bool
  | some (some (.inr _)) => true
  | _ => false
def noLg (L : List (Option XV)) (i : Nat) : Bool := match i with
  | 0 => true
  | j + 1 => !isLg L[j]?
def QLg (h0 : PH) (K : MM → Prop) : Rs → PH → Prop := fun r h => ∃ (l : Int64) (mem : MM), r = .inl (some (.long l)) ∧ RH h0 h mem ∧ K mem
def Lx (C : CXW) (S : Nat × (Nat → Int32)) (M : PM) (Q : PH → Rs → PH → Prop) (pc : Nat) (L : List (Option XV)) (st : List XV) (mem : MM) : Prop := ∀ (h0 : PH) (lv : LV) (h : PH), RA h0 → LkX lv L → (∀ v ∈ st, xOK v) → RH h0 h mem → Vx C S M [] (Q h0) pc lv (st.map xv) h 0 0
theorem nl_cat {L : List (Option XV)} {i j : Nat} {u : XV} (h : noLg L i = true) (hj : j + 1 = i) (hu : L[j]? = some (some u)) : (xv u).category = 1 := by
  subst hj
  replace h : (!isLg L[j]?) = true := h
  rw [hu] at h
  cases u with
  | inl v => exact wv_cat v
  | inr l => exact absurd h (by simp [isLg])
theorem LkX.set {lv : LV} {L : List (Option XV)} (h : LkX lv L) {i : Nat} {v : WV} (hv : vOK v) (hn : noLg L i = true) : LkX (px_s1 lv i (wv v)) (L.set i (some (.inl v))) := by
  intro j u hu
  by_cases hij : i = j
  · subst hij
    rw [List.getElem?_set] at hu
    simp only [if_true] at hu
    split at hu
    · cases hu; exact ⟨pg_self _ _ _, hv⟩
    · cases hu
  · rw [List.getElem?_set_ne hij] at hu
    obtain ⟨h1, h2⟩ := h j u hu
    exact ⟨pg_ne2 (fun q => hij q.symm) h1 (fun q => nl_cat hn q hu), h2⟩
theorem LkX.setL {lv : LV} {L : List (Option XV)} (h : LkX lv L) {i : Nat} {l : Int64} (hn : noLg L i = true) : LkX (px_s2 lv i (.long l)) ((L.set i (some (.inr l))).set (i + 1) none) := by
  intro j u hu
  by_cases hj1 : i + 1 = j
  · subst hj1
    rw [List.getElem?_set] at hu
    simp only [if_true] at hu
    split at hu <;> cases hu
  · rw [List.getElem?_set_ne hj1] at hu
    by_cases hij : i = j
    · subst hij
      rw [List.getElem?_set] at hu
      simp only [if_true] at hu
      split at hu
      · cases hu; exact ⟨pg_self2 _ _ _, trivial⟩
      · cases hu
    · rw [List.getElem?_set_ne hij] at hu
      obtain ⟨h1, h2⟩ := h j u hu
      exact ⟨pg_ne3 (fun q => hij q.symm) (fun q => hj1 q.symm) h1 (fun q => nl_cat hn q hu), h2⟩
theorem Tx.ofL {C : CXW} {S : Nat × (Nat → Int32)} {M : PM} {K : TK} {pc : Nat} {L : List (Option WV)} {mem : MM} (H : Lx C S M (fun h0 => QX h0 K) pc (L.map (Option.map Sum.inl)) [] mem) : Tx C S M K 0 0 pc L [] mem := fun h0 lv h h9 h1 _ h3 => H h0 lv h h9 (fun i v hv => by
  rw [List.getElem?_map] at hv
  cases e : L[i]? with
  | none => rw [e] at hv; cases hv
  | some o =>
    rw [e] at hv
    cases o with
    | none => cases hv
    | some w => cases hv; exact h1 i w e) (fun v hv => by cases hv) h3
section LX
variable {C : CXW} {S : Nat × (Nat → Int32)} {M : PM} {Q : PH → Rs → PH → Prop} {pc : Nat} {L : List (Option XV)} {st : List XV} {mem : MM}
theorem Lx.go (hC : Cmono C) {te : TE} (ht : (pT M).find? (fun e => e.1 == pc) = some te) (H : ∀ (h0 : PH) (lv : LV) (h : PH), RA h0 → LkX lv L → (∀ v ∈ st, xOK v) → RH h0 h mem → pmI C S M [] (Q h0) (Vx C S M [] (Q h0)) te lv (st.map xv) h 0 0) : Lx C S M Q pc L st mem := fun h0 lv h h9 h1 h2 h3 => Vx.go hC ht (H h0 lv h h9 h1 h2 h3)
theorem xtc {v : XV} (hv : xOK v) (hs : ∀ u ∈ st, xOK u) : ∀ u ∈ v :: st, xOK u := by
  intro u hu
  rcases List.mem_cons.mp hu with rfl | hu
  · exact hv
  · exact hs u hu
theorem xt1 {v : XV} (h : ∀ u ∈ v :: st, xOK u) : ∀ u ∈ st, xOK u := fun u hu => h u (List.mem_cons_of_mem _ hu)
theorem Lx.iconst (hC : Cmono C) {z : Int} {a b : Nat} (ht : (pT M).find? (fun e => e.1 == pc) = some (pc, .iconst z, a, b)) (hz : inI z z = true) (H : Lx C S M Q (pc + 1) L (.inl (.inl z) :: st) mem) : Lx C S M Q pc L st mem :=
  Lx.go hC ht fun h0 lv h h9 h1 h2 h3 => H h0 lv h h9 h1 (xtc (inI_iff.mp hz) h2) h3
theorem Lx.lconst (hC : Cmono C) {a b : Nat} {k : _root_.Fin 2} (ht : (pT M).find? (fun e => e.1 == pc) = some (pc, .lconst k, a, b)) (H : ∀ l, Lx C S M Q (pc + 1) L (.inr l :: st) mem) : Lx C S M Q pc L st mem :=
  Lx.go hC ht fun h0 lv h h9 h1 h2 h3 => H (Int64.ofNat k.val) h0 lv h h9 h1 (xtc trivial h2) h3
theorem Lx.iload (hC : Cmono C) {i a b : Nat} {x : Int} (ht : (pT M).find? (fun e => e.1 == pc) = some (pc, .iload i, a, b)) (hl : L[i]? = some (some (.inl (.inl x)))) (H : Lx C S M Q (pc + 2) L (.inl (.inl x) :: st) mem) : Lx C S M Q pc L st mem :=
  Lx.go hC ht fun h0 lv h h9 h1 h2 h3 => ⟨_, (h1 i _ hl).1, H h0 lv h h9 h1 (xtc (h1 i _ hl).2 h2) h3⟩
theorem Lx.iload_n (hC : Cmono C) {i : _root_.Fin 4} {a b : Nat} {x : Int} (ht : (pT M).find? (fun e => e.1 == pc) = some (pc, .iload_n i, a, b)) (hl : L[i.val]? = some (some (.inl (.inl x)))) (H : Lx C S M Q (pc + 1) L (.inl (.inl x) :: st) mem) : Lx C S M Q pc L st mem :=
  Lx.go hC ht fun h0 lv h h9 h1 h2 h3 => ⟨_, (h1 i _ hl).1, H h0 lv h h9 h1 (xtc (h1 i _ hl).2 h2) h3⟩
theorem Lx.aload_n (hC : Cmono C) {i : _root_.Fin 4} {a b A : Nat} (ht : (pT M).find? (fun e => e.1 == pc) = some (pc, .aload_n i, a, b)) (hl : L[i.val]? = some (some (.inl (.inr A)))) (H : Lx C S M Q (pc + 1) L (.inl (.inr A) :: st) mem) : Lx C S M Q pc L st mem :=
  Lx.go hC ht fun h0 lv h h9 h1 h2 h3 => ⟨_, (h1 i _ hl).1, ⟨A, Or.inl rfl⟩, H h0 lv h h9 h1 (xtc trivial h2) h3⟩
theorem Lx.lload (hC : Cmono C) {i a b : Nat} {l : Int64} (ht : (pT M).find? (fun e => e.1 == pc) = some (pc, .lload i, a, b)) (hl : L[i]? = some (some (.inr l))) (H : Lx C S M Q (pc + 2) L (.inr l :: st) mem) : Lx C S M Q pc L st mem :=
  Lx.go hC ht fun h0 lv h h9 h1 h2 h3 => ⟨_, (h1 i _ hl).1, H h0 lv h h9 h1 (xtc trivial h2) h3⟩
theorem Lx.istore (hC : Cmono C) {i a b : Nat} {x : Int} (ht : (pT M).find? (fun e => e.1 == pc) = some (pc, .istore i, a, b)) (hi : Nat.blt i (pL M) = true) (hn : noLg L i = true) (H : Lx C S M Q (pc + 2) (L.set i (some (.inl (.inl x)))) st mem) : Lx C S M Q pc L (.inl (.inl x) :: st) mem :=
  Lx.go hC ht fun h0 lv h h9 h1 h2 h3 => ⟨blt_iff.mp hi, H h0 _ h h9 (h1.set (h2 _ List.mem_cons_self) hn) (xt1 h2) h3⟩
theorem Lx.lstore (hC : Cmono C) {i a b : Nat} {l : Int64} (ht : (pT M).find? (fun e => e.1 == pc) = some (pc, .lstore i, a, b)) (hi : Nat.blt (i + 1) (pL M) = true) (hn : noLg L i = true) (H : Lx C S M Q (pc + 2) ((L.set i (some (.inr l))).set (i + 1) none) st mem) : Lx C S M Q pc L (.inr l :: st) mem :=
  Lx.go hC ht fun h0 lv h h9 h1 h2 h3 => ⟨blt_iff.mp hi, l, st.map xv, rfl, H h0 _ h h9 (h1.setL hn) (xt1 h2) h3⟩
theorem Lx.iincW (hC : Cmono C) {i a b : Nat} {z x : Int} (ht : (pT M).find? (fun e => e.1 == pc) = some (pc, .iinc i z, a, b)) (hi : Nat.blt i (pL M) = true) (hl : L[i]? = some (some (.inl (.inl x)))) (hn : noLg L i = true) (H : ∀ y, InI y → (InI (x + z) → y = x + z) → Lx C S M Q (pc + 3) (L.set i (some (.inl (.inl y)))) st mem) : Lx C S M Q pc L st mem :=
  Lx.go hC ht fun h0 lv h h9 h1 h2 h3 => ⟨blt_iff.mp hi, _, (h1 i _ hl).1, by
    have := H (Int32.ofInt x + Int32.ofInt z).toInt (wiI _) (fun q => by rw [← Int32.ofInt_add, wi q]) h0 _ h h9 (h1.set (i := i) (v := .inl (Int32.ofInt x + Int32.ofInt z).toInt) (wiI _) hn) h2 h3
    rw [show wv (.inl (Int32.ofInt x + Int32.ofInt z).toInt) = .int (Int32.ofInt x + Int32.ofInt z) from by show Value.int (Int32.ofInt _) = _; rw [Int32.ofInt_toInt]] at this
    exact this⟩
theorem Lx.binW (hC : Cmono C) {ins : Instr} {a b : Nat} {x y : Int} (f : Int32 → Int32 → Int32) (ht : (pT M).find? (fun e => e.1 == pc) = some (pc, ins, a, b)) (hi : ∀ h0 lv r h, pmI C S M [] (Q h0) (Vx C S M [] (Q h0)) (pc, ins, a, b) lv (.int (Int32.ofInt y) :: .int (Int32.ofInt x) :: r) h 0 0 ↔ Vx C S M [] (Q h0) (pc + 1) lv (.int (f (Int32.ofInt x) (Int32.ofInt y)) :: r) h 0 0) (H : ∀ z, InI z → z = (f (Int32.ofInt x) (Int32.ofInt y)).toInt → Lx C S M Q (pc + 1) L (.inl (.inl z) :: st) mem) : Lx C S M Q pc L (.inl (.inl y) :: .inl (.inl x) :: st) mem :=
  Lx.go hC ht fun h0 lv h h9 h1 h2 h3 => by
    have := H (f (Int32.ofInt x) (Int32.ofInt y)).toInt (wiI _) rfl h0 lv h h9 h1 (xtc (wiI _) (xt1 (xt1 h2))) h3
    rw [List.map_cons, show xv (.inl (.inl (f (Int32.ofInt x) (Int32.ofInt y)).toInt)) = .int (f (Int32.ofInt x) (Int32.ofInt y)) from by show Value.int (Int32.ofInt _) = _; rw [Int32.ofInt_toInt]] at this
    exact (hi h0 lv _ h).mpr this
theorem Lx.iaddW (hC : Cmono C) {a b : Nat} {x y : Int} (ht : (pT M).find? (fun e => e.1 == pc) = some (pc, .iadd, a, b)) (H : ∀ z, InI z → (InI (x + y) → z = x + y) → Lx C S M Q (pc + 1) L (.inl (.inl z) :: st) mem) : Lx C S M Q pc L (.inl (.inl y) :: .inl (.inl x) :: st) mem := Lx.binW hC (fun x y => x + y) ht (fun _ _ _ _ => Iff.rfl) (fun z h1 h2 => H z h1 (fun q => by rw [h2, ← Int32.ofInt_add, wi q]))
theorem Lx.isubW (hC : Cmono C) {a b : Nat} {x y : Int} (ht : (pT M).find? (fun e => e.1 == pc) = some (pc, .isub, a, b)) (H : ∀ z, InI z → (InI (x - y) → z = x - y) → Lx C S M Q (pc + 1) L (.inl (.inl z) :: st) mem) : Lx C S M Q pc L (.inl (.inl y) :: .inl (.inl x) :: st) mem := Lx.binW hC (fun x y => x - y) ht (fun _ _ _ _ => Iff.rfl) (fun z h1 h2 => H z h1 (fun q => by rw [h2, ← Int32.ofInt_sub, wi q]))
theorem Lx.imulW (hC : Cmono C) {a b : Nat} {x y : Int} (ht : (pT M).find? (fun e => e.1 == pc) = some (pc, .imul, a, b)) (H : ∀ z, InI z → (InI (x * y) → z = x * y) → Lx C S M Q (pc + 1) L (.inl (.inl z) :: st) mem) : Lx C S M Q pc L (.inl (.inl y) :: .inl (.inl x) :: st) mem := Lx.binW hC (fun x y => x * y) ht (fun _ _ _ _ => Iff.rfl) (fun z h1 h2 => H z h1 (fun q => by rw [h2, ← Int32.ofInt_mul, wi q]))
theorem Lx.lor (hC : Cmono C) {a b : Nat} {x y : Int64} (ht : (pT M).find? (fun e => e.1 == pc) = some (pc, .lor, a, b)) (H : ∀ l, Lx C S M Q (pc + 1) L (.inr l :: st) mem) : Lx C S M Q pc L (.inr y :: .inr x :: st) mem :=
  Lx.go hC ht fun h0 lv h h9 h1 h2 h3 => H (x ||| y) h0 lv h h9 h1 (xtc trivial (xt1 (xt1 h2))) h3
theorem Lx.land (hC : Cmono C) {a b : Nat} {x y : Int64} (ht : (pT M).find? (fun e => e.1 == pc) = some (pc, .land, a, b)) (H : ∀ l, Lx C S M Q (pc + 1) L (.inr l :: st) mem) : Lx C S M Q pc L (.inr y :: .inr x :: st) mem :=
  Lx.go hC ht fun h0 lv h h9 h1 h2 h3 => H (x &&& y) h0 lv h h9 h1 (xtc trivial (xt1 (xt1 h2))) h3
theorem Lx.lshl (hC : Cmono C) {a b : Nat} {x : Int64} {y : Int} (ht : (pT M).find? (fun e => e.1 == pc) = some (pc, .lshl, a, b)) (H : ∀ l, Lx C S M Q (pc + 1) L (.inr l :: st) mem) : Lx C S M Q pc L (.inl (.inl y) :: .inr x :: st) mem :=
  Lx.go hC ht fun h0 lv h h9 h1 h2 h3 => H (x <<< ((Int32.ofInt y).toInt64 &&& 63)) h0 lv h h9 h1 (xtc trivial (xt1 (xt1 h2))) h3
theorem Lx.lcmp (hC : Cmono C) {a b : Nat} {x y : Int64} (ht : (pT M).find? (fun e => e.1 == pc) = some (pc, .lcmp, a, b)) (H : ∀ z, InI z → Lx C S M Q (pc + 1) L (.inl (.inl z) :: st) mem) : Lx C S M Q pc L (.inr y :: .inr x :: st) mem :=
  Lx.go hC ht fun h0 lv h h9 h1 h2 h3 => by
    have := H (lg_cmp x y).toInt (wiI _) h0 lv h h9 h1 (xtc (wiI _) (xt1 (xt1 h2))) h3
    rw [List.map_cons, show xv (.inl (.inl (lg_cmp x y).toInt)) = .int (lg_cmp x y) from by show Value.int (Int32.ofInt _) = _; rw [Int32.ofInt_toInt]] at this
    exact this
theorem Lx.goto (hC : Cmono C) {a b t : Nat} {z : Int} (ht : (pT M).find? (fun e => e.1 == pc) = some (pc, .goto z, a, b)) (hz : (pc : Int) + z = t) (H : Lx C S M Q t L st mem) : Lx C S M Q pc L st mem :=
  Lx.go hC ht fun h0 lv h h9 h1 h2 h3 => ⟨by show 0 ≤ (pc : Int) + z; omega, by
    show Vx C S M [] (Q h0) ((pc : Int) + z).toNat _ _ _ _ _
    rw [show ((pc : Int) + z).toNat = t by omega]; exact H h0 lv h h9 h1 h2 h3⟩
theorem Lx.ifc (hC : Cmono C) {cc : ClassFile.Cond} {a b t : Nat} {z x : Int} (ht : (pT M).find? (fun e => e.1 == pc) = some (pc, .ifCond cc z, a, b)) (hz : (pc : Int) + z = t) (H1 : ccZ cc x 0 → Lx C S M Q t L st mem) (H2 : ¬ ccZ cc x 0 → Lx C S M Q (pc + 3) L st mem) : Lx C S M Q pc L (.inl (.inl x) :: st) mem :=
  Lx.go hC ht fun h0 lv h h9 h1 h2 h3 => by
    have hx := wi (h2 _ List.mem_cons_self)
    have hst := xt1 h2
    have e : ccI cc (Int32.ofInt x) 0 ↔ ccZ cc x 0 := by rw [ccI_iff, hx]; exact Iff.rfl
    refine ⟨by show 0 ≤ (pc : Int) + z; omega, fun q => ?_, fun q => ?_⟩
    · show Vx C S M [] (Q h0) ((pc : Int) + z).toNat _ _ _ _ _
      rw [show ((pc : Int) + z).toNat = t by omega]; exact H1 (e.mp q) h0 lv h h9 h1 hst h3
    · exact H2 (fun w => q (e.mpr w)) h0 lv h h9 h1 hst h3
theorem Lx.icmp (hC : Cmono C) {cc : ClassFile.Cond} {a b t : Nat} {z x y : Int} (ht : (pT M).find? (fun e => e.1 == pc) = some (pc, .if_icmp cc z, a, b)) (hz : (pc : Int) + z = t) (H1 : ccZ cc x y → Lx C S M Q t L st mem) (H2 : ¬ ccZ cc x y → Lx C S M Q (pc + 3) L st mem) : Lx C S M Q pc L (.inl (.inl y) :: .inl (.inl x) :: st) mem :=
  Lx.go hC ht fun h0 lv h h9 h1 h2 h3 => by
    have hy := wi (h2 _ List.mem_cons_self)
    have hx := wi (h2 _ (List.mem_cons_of_mem _ List.mem_cons_self))
    have hst := xt1 (xt1 h2)
    have e : ccI cc (Int32.ofInt x) (Int32.ofInt y) ↔ ccZ cc x y := by rw [ccI_iff, hx, hy]
    refine ⟨by show 0 ≤ (pc : Int) + z; omega, fun q => ?_, fun q => ?_⟩
    · show Vx C S M [] (Q h0) ((pc : Int) + z).toNat _ _ _ _ _
      rw [show ((pc : Int) + z).toNat = t by omega]; exact H1 (e.mp q) h0 lv h h9 h1 hst h3
    · exact H2 (fun w => q (e.mpr w)) h0 lv h h9 h1 hst h3
theorem Lx.iald (hC : Cmono C) {a b A n : Nat} {i : Int} (ht : (pT M).find? (fun e => e.1 == pc) = some (pc, .iaload, a, b)) (hA : shA A = some (.inl n)) (hi : 0 ≤ i ∧ i < n) (H : ∀ v, v = mem A i.toNat → InI v → Lx C S M Q (pc + 1) L (.inl (.inl v) :: st) mem) : Lx C S M Q pc L (.inl (.inl i) :: .inl (.inr A) :: st) mem :=
  Lx.go hC ht fun h0 lv h h9 h1 h2 h3 => by
    obtain ⟨g, e1, e2⟩ := h3.row hA
    have hI : InI i := h2 _ List.mem_cons_self
    have hv : InI (mem A i.toNat) := h3.rowI hA _
    show p_iald S h (.int (Int32.ofInt i) :: .ref A :: st.map xv) fun st => Vx C S M [] (Q h0) (pc + 1) lv st h 0 0
    refine iald_mk e1 (vp_in_iff.mpr (by rw [wi hI]; exact hi)) ?_
    rw [clampN hI hi.1, show g i.toNat = Int32.ofInt (mem A i.toNat) from ofI_eq (e2 _).symm]
    exact H _ rfl hv h0 lv h h9 h1 (xtc hv (xt1 (xt1 h2))) h3
theorem Lx.getI (hC : Cmono C) {p A ci f : Nat} {fs : List (Option Nat)} (ht : (pT M).find? (fun e => e.1 == pc) = some (pc, .getfield p, ci, f)) (hA : shA A = some (.inr (ci, fs))) (hf : fs[f]? = some none) (hn : Nat.blt f (fnum ci) = true) (H : ∀ v, v = mem A f → InI v → Lx C S M Q (pc + 3) L (.inl (.inl v) :: st) mem) : Lx C S M Q pc L (.inl (.inr A) :: st) mem :=
  Lx.go hC ht fun h0 lv h h9 h1 h2 h3 => by
    obtain ⟨gs, e1, -, e2⟩ := h3.obj hA
    have e3 := e2 f
    rw [hf] at e3
    obtain ⟨z, e4, e5⟩ := e3
    have hv : InI (mem A f) := h3.fldI hA hf
    show p_get h ci f (.ref A :: st.map xv) fun st => Vx C S M [] (Q h0) (pc + 3) lv st h 0 0
    refine get_mk (v := .int z) e1 (blt_iff.mp hn) e4 ?_
    rw [show z = Int32.ofInt (mem A f) from ofI_eq e5.symm]
    exact H _ rfl hv h0 lv h h9 h1 (xtc hv (xt1 h2)) h3
theorem Lx.getR (hC : Cmono C) {p A B ci f : Nat} {fs : List (Option Nat)} (ht : (pT M).find? (fun e => e.1 == pc) = some (pc, .getfield p, ci, f)) (hA : shA A = some (.inr (ci, fs))) (hf : fs[f]? = some (some B)) (hn : Nat.blt f (fnum ci) = true) (H : Lx C S M Q (pc + 3) L (.inl (.inr B) :: st) mem) : Lx C S M Q pc L (.inl (.inr A) :: st) mem :=
  Lx.go hC ht fun h0 lv h h9 h1 h2 h3 => by
    obtain ⟨gs, e1, -, e2⟩ := h3.obj hA
    have e3 := e2 f
    rw [hf] at e3
    show p_get h ci f (.ref A :: st.map xv) fun st => Vx C S M [] (Q h0) (pc + 3) lv st h 0 0
    exact get_mk (v := .ref B) e1 (blt_iff.mp hn) e3 (H h0 lv h h9 h1 (xtc trivial (xt1 h2)) h3)
theorem Lx.lret (hC : Cmono C) {a b : Nat} {l : Int64} {K : MM → Prop} (ht : (pT M).find? (fun e => e.1 == pc) = some (pc, .lreturn, a, b)) (hR : pR M = some .long) (H : K mem) : Lx C S M (fun h0 => QLg h0 K) pc L [.inr l] mem :=
  Lx.go hC ht fun h0 lv h h9 h1 h2 h3 => ⟨l, rfl, hR, l, mem, rfl, h3, H⟩
theorem Lx.ireturn (hC : Cmono C) {a b : Nat} {x : Int} {K : TK} (ht : (pT M).find? (fun e => e.1 == pc) = some (pc, .ireturn, a, b)) (hR : pR M = some .int) (H : InI x → K (.inl (some (.inl x))) mem) : Lx C S M (fun h0 => QX h0 K) pc L [.inl (.inl x)] mem :=
  Lx.go hC ht fun h0 lv h h9 h1 h2 h3 => ⟨_, rfl, ⟨_, hR, rfl⟩, .inl (some (.inl x)), mem, rfl, h2 (.inl (.inl x)) List.mem_cons_self, h3, H (h2 (.inl (.inl x)) List.mem_cons_self)⟩
theorem cats2 : ∀ (l : List XV), ((l.map xv).map Value.category).sum ≤ 2 * l.length
  | [] => Nat.le_refl _
  | v :: l => by
    rw [List.map_cons, List.map_cons, List.sum_cons, List.length_cons]
    have := cats2 l
    have : (xv v).category ≤ 2 := by
      cases v with
      | inl w => rw [show xv (.inl w) = wv w from rfl, wv_cat]; omega
      | inr l => exact Nat.le_refl _
    omega
theorem Lx.call (hC : Cmono C) {N : PM} {μ : Nat} {virt : Bool} {args : List WV} {rest : List XV} {Q2 : Rs → PH → Prop} (hN : MT[μ]? = some N) (hl : args.length = pN N) (hr : Nat.ble rest.length 4 = true) (hc : pC N = 0) (hs : pS N = 0) (hv : virt = true → ∃ A ci fs, args[0]? = some (.inr A) ∧ shA A = some (.inr (ci, fs)) ∧ ci = pO N) {h0 : PH} {lv : LV} {h : PH} (H : C μ (args.map wv) h Q2) (h2 : ∀ v ∈ args, vOK v) (h3 : RH h0 h mem) (Hk : ∀ r h', Q2 r h' → p_back M [] (Q h0) (Vx C S M [] (Q h0)) pc lv (rest.map xv) 0 0 r h') : p_call C M [] (Q h0) (Vx C S M [] (Q h0)) pc μ virt lv (args.reverse.map wv ++ rest.map xv) h 0 0 := by
  unfold p_call
  rw [hN]
  have el : (args.reverse.map wv).length = pN N := by simp [hl]
  have e1 : (args.reverse.map wv ++ rest.map xv).take (pN N) = args.reverse.map wv := by rw [← el, List.take_left]
  have e2 : (args.reverse.map wv ++ rest.map xv).drop (pN N) = rest.map xv := by rw [← el, List.drop_left]
  simp only [e1, e2]
  have hr2 := Nat.le_of_ble_eq_true hr
  refine ⟨by simp [hl], by have := cats2 rest; omega, by omega, by omega, ?_, ?_⟩
  · intro q
    obtain ⟨A, ci, fs, g1, g2, g3⟩ := hv q
    obtain ⟨gs, g4, -⟩ := h3.obj g2
    refine ⟨A, gs, ?_, by rw [← g3]; exact g4⟩
    rw [List.getLast?_eq_head?_reverse, ← List.map_reverse, List.reverse_reverse, List.head?_eq_getElem?, List.getElem?_map, g1]
    rfl
  · rw [← List.map_reverse, List.reverse_reverse, hc, hs]
    exact hC _ _ _ _ _ Hk H
/-- a call for a number -/
theorem Lx.statI (hC : Cmono C) {p μ b : Nat} {N : PM} {args : List WV} {rest : List XV} (ht : (pT M).find? (fun e => e.1 == pc) = some (pc, .invokestatic p, μ, b)) (hb : b ≠ 7) (hN : MT[μ]? = some N) (hst : st = args.reverse.map Sum.inl ++ rest) (hl : args.length = pN N) (hr : Nat.ble rest.length 4 = true) (hc : pC N = 0) (hs : pS N = 0) (H : CQI C μ args mem (fun y m => InI y → Lx C S M Q (pc + 3) L (.inl (.inl y) :: rest) m) (fun _ _ => False)) : Lx C S M Q pc L st mem := by
  subst hst
  refine Lx.go hC ht fun h0 lv h h9 h1 h2 h3 => Or.inr ⟨hb, ?_⟩
  have ha : ∀ v ∈ args, vOK v := fun v hv => h2 (.inl v) (List.mem_append_left _ (List.mem_map.mpr ⟨v, List.mem_reverse.mpr hv, rfl⟩))
  have := Lx.call (Q := Q) (S := S) (pc := pc) (M := M) (lv := lv) (rest := rest) hC (virt := false) hN hl hr hc hs (fun q => by cases q) (H ha h0 h h9 h3) ha h3 (fun r h' ⟨x, m, e1, e2, e3, e4⟩ => by
    subst e1
    cases x with
    | inr e => exact False.elim e4
    | inl o => cases o with
      | none => exact False.elim e4
      | some v => cases v with
        | inr A => exact False.elim e4
        | inl y => exact e4 e2 h0 lv h' h9 h1 (xtc e2 (fun u hu => h2 u (List.mem_append_right _ hu))) e3)
  rw [List.map_append, List.map_map]
  exact this
/-- a call for a long -/
theorem Lx.virtL (hC : Cmono C) {p μ b ci A : Nat} {N : PM} {args : List WV} {rest : List XV} {fs : List (Option Nat)} (ht : (pT M).find? (fun e => e.1 == pc) = some (pc, .invokevirtual p, μ, b)) (hN : MT[μ]? = some N) (hst : st = args.reverse.map Sum.inl ++ rest) (hl : args.length = pN N) (hr : Nat.ble rest.length 4 = true) (hc : pC N = 0) (hs : pS N = 0) (ha0 : args[0]? = some (.inr A)) (hA : shA A = some (.inr (ci, fs))) (ho : ci = pO N) (H : (∀ v ∈ args, vOK v) → ∀ h0 h, RA h0 → RH h0 h mem → C μ (args.map wv) h (QLg h0 fun m => ∀ l, Lx C S M Q (pc + 3) L (.inr l :: rest) m)) : Lx C S M Q pc L st mem := by
  subst hst
  refine Lx.go hC ht fun h0 lv h h9 h1 h2 h3 => ?_
  have ha : ∀ v ∈ args, vOK v := fun v hv => h2 (.inl v) (List.mem_append_left _ (List.mem_map.mpr ⟨v, List.mem_reverse.mpr hv, rfl⟩))
  have := Lx.call (Q := Q) (S := S) (pc := pc) (M := M) (lv := lv) (rest := rest) hC (virt := true) hN hl hr hc hs (fun _ => ⟨A, ci, fs, ha0, hA, ho⟩) (H ha h0 h h9 h3) ha h3 (fun r h' ⟨l, m, e1, e2, e3⟩ => by
    subst e1
    exact e3 l h0 lv h' h9 h1 (xtc trivial (fun u hu => h2 u (List.mem_append_right _ hu))) e2)
  show p_call C M [] (Q h0) (Vx C S M [] (Q h0)) pc μ true lv _ h 0 0
  rw [List.map_append, List.map_map]
  exact this
end LX
def CQL (C : CXW) (μ : Nat) (args : List WV) (mem : MM) (K : MM → Prop) : Prop := (∀ v ∈ args, vOK v) → ∀ h0 h, RA h0 → RH h0 h mem → C μ (args.map wv) h (QLg h0 K)
theorem CQL.of {S : Nat × (Nat → Int32)} {n μ : Nat} {M : PM} {args : List WV} {mem : MM} {K : MM → Prop} (hM : MT[μ]? = some M) (hk : (pK M == 3) = false) (hl : Nat.ble args.length (pL M) = true) {k : Nat} (H : (∀ v ∈ args, vOK v) → Lx (Ex S n) S M (fun h0 => QLg h0 K) 0 (args.map (fun v => some (Sum.inl v)) ++ List.replicate k none) [] mem) : CQL (Ex S (n + 1)) μ args mem K := by
  intro ha h0 h h9 hh
  refine ⟨M, hM, by rw [cats1]; exact Nat.le_of_ble_eq_true hl, ?_⟩
  rw [if_neg (by simpa using hk)]
  refine H ha h0 _ h h9 ?_ (fun v hv => by cases hv) hh
  intro i v hv
  have hv : (args.map (fun v => some (Sum.inl v)))[i]? = some (some v) := by
    rw [List.getElem?_append] at hv
    split at hv
    · exact hv
    · rw [List.getElem?_replicate] at hv
      split at hv <;> cases hv
  rw [List.getElem?_map] at hv
  cases hv2 : args[i]? with
  | none => rw [hv2] at hv; cases hv
  | some u =>
    rw [hv2] at hv
    have hv : (Sum.inl u : XV) = v := by cases hv; rfl
    subst hv
    refine ⟨?_, ha _ (List.mem_of_getElem? hv2)⟩
    have := pg_args (l := args.map wv) (k := 0) (i := i) (w := wv u) (fun w hw => by obtain ⟨z, -, rfl⟩ := List.mem_map.mp hw; exact wv_cat z) (by rw [List.getElem?_map, hv2]; rfl)
    rwa [Nat.zero_add] at this
