/-! the machine by hand, once more: calls may throw, give a reference, cost cells; rows of references are known; sums may go round -/
def RA (h : PH) : Prop := (∃ g : Nat → Option Nat, h[37]? = some (.inl (2, 13, .inr (.inr (.inr (.inr g))))) ∧ ∀ k, k < 13 → g k = some (38 + 7 * k)) ∧ ∃ g : Nat → Option Nat, h[135]? = some (.inl (3, 2, .inr (.inr (.inr (.inr g))))) ∧ ∀ k, k < 2 → g k = some (136 + k)
abbrev TR : Type := Option WV ⊕ Nat
abbrev TK : Type := TR → MM → Prop
def rsT : TR → Rs
  | .inl o => .inl (o.map wv)
  | .inr e => .inr e
def rOK : TR → Prop
  | .inl (some v) => vOK v
  | _ => True
def QX (h0 : PH) (K : TK) : Rs → PH → Prop := fun r h => ∃ (x : TR) (mem : MM), r = rsT x ∧ rOK x ∧ RH h0 h mem ∧ K x mem
def Tx (C : CXW) (S : Nat × (Nat → Int32)) (M : PM) (K : TK) (c s : Nat) (pc : Nat) (L : List (Option WV)) (st : List WV) (mem : MM) : Prop := ∀ (h0 : PH) (lv : LV) (h : PH), RA h0 → LkW lv L → (∀ v ∈ st, vOK v) → RH h0 h mem → Vx C S M [] (QX h0 K) pc lv (st.map wv) h c s
def CY (C : CXW) (μ : Nat) (args : List WV) (mem : MM) (K : TK) : Prop := (∀ v ∈ args, vOK v) → ∀ h0 h, RA h0 → RH h0 h mem → C μ (args.map wv) h (QX h0 K)
def kI (K : Int → MM → Prop) (E : Nat → MM → Prop) : TK := fun r m => match r with
  | .inl (some (.inl y)) => K y m
  | .inr e => E e m
  | _ => False
def kV (K : MM → Prop) (E : Nat → MM → Prop) : TK := fun r m => match r with
  | .inl none => K m
  | .inr e => E e m
  | _ => False
def kR (K : Nat → MM → Prop) (E : Nat → MM → Prop) : TK := fun r m => match r with
  | .inl (some (.inr A)) => K A m
  | .inr e => E e m
  | _ => False
def CQI (C : CXW) (μ : Nat) (args : List WV) (mem : MM) (K : Int → MM → Prop) (E : Nat → MM → Prop) : Prop := CY C μ args mem (kI K E)
def CQV (C : CXW) (μ : Nat) (args : List WV) (mem : MM) (K : MM → Prop) (E : Nat → MM → Prop) : Prop := CY C μ args mem (kV K E)
def CQR (C : CXW) (μ : Nat) (args : List WV) (mem : MM) (K : Nat → MM → Prop) (E : Nat → MM → Prop) : Prop := CY C μ args mem (kR K E)
theorem CY.mono {C : CXW} (hC : Cmono C) {μ : Nat} {args : List WV} {mem : MM} {K K' : TK} (h : ∀ r m, K r m → K' r m) (H : CY C μ args mem K) : CY C μ args mem K' := fun h1 h0 h2 h9 h3 => hC _ _ _ _ _ (fun _ _ ⟨x, m, e1, e2, e3, e4⟩ => ⟨x, m, e1, e2, e3, h _ _ e4⟩) (H h1 h0 h2 h9 h3)
theorem CWI.q {C : CXW} (hC : Cmono C) {μ : Nat} {args : List WV} {mem : MM} {K : Int → MM → Prop} {E : Nat → MM → Prop} (H : CWI C μ args mem K) : CQI C μ args mem K E := fun h1 h0 h2 _ h3 => hC _ _ _ _ _ (fun r h ⟨x, m, e1, e2, e3, y, e4, e5⟩ => by
  subst e4
  exact ⟨.inl (some (.inl y)), m, e1, e2 y rfl, e3, e5⟩) (H h1 h0 h2 h3)
theorem CWV.q {C : CXW} (hC : Cmono C) {μ : Nat} {args : List WV} {mem : MM} {K : MM → Prop} {E : Nat → MM → Prop} (H : CWV C μ args mem K) : CQV C μ args mem K E := fun h1 h0 h2 _ h3 => hC _ _ _ _ _ (fun r h ⟨x, m, e1, e2, e3, e4, e5⟩ => by
  subst e4
  exact ⟨.inl none, m, e1, trivial, e3, e5⟩) (H h1 h0 h2 h3)
section TX
variable {C : CXW} {S : Nat × (Nat → Int32)} {M : PM} {K : TK} {c s : Nat} {pc : Nat} {L : List (Option WV)} {st : List WV} {mem : MM}
theorem Tx.go (hC : Cmono C) {te : TE} (ht : (pT M).find? (fun e => e.1 == pc) = some te) (H : ∀ (h0 : PH) (lv : LV) (h : PH), RA h0 → LkW lv L → (∀ v ∈ st, vOK v) → RH h0 h mem → pmI C S M [] (QX h0 K) (Vx C S M [] (QX h0 K)) te lv (st.map wv) h c s) : Tx C S M K c s pc L st mem := fun h0 lv h h9 h1 h2 h3 => Vx.go hC ht (H h0 lv h h9 h1 h2 h3)
theorem Tx.iconst (hC : Cmono C) {z : Int} {a b : Nat} (ht : (pT M).find? (fun e => e.1 == pc) = some (pc, .iconst z, a, b)) (hz : inI z z = true) (H : Tx C S M K c s (pc + 1) L (.inl z :: st) mem) : Tx C S M K c s pc L st mem :=
  Tx.go hC ht fun h0 lv h h9 h1 h2 h3 => H h0 lv h h9 h1 (stc (inI_iff.mp hz) h2) h3
theorem Tx.bipush (hC : Cmono C) {z : Int} {a b : Nat} (ht : (pT M).find? (fun e => e.1 == pc) = some (pc, .bipush z, a, b)) (hz : inI z z = true) (e : (Int8.ofInt z).toInt32 = Int32.ofInt z) (H : Tx C S M K c s (pc + 2) L (.inl z :: st) mem) : Tx C S M K c s pc L st mem :=
  Tx.go hC ht fun h0 lv h h9 h1 h2 h3 => by
    have := H h0 lv h h9 h1 (stc (inI_iff.mp hz) h2) h3
    show Vx C S M [] (QX h0 K) (pc + 2) lv (.int (Int8.ofInt z).toInt32 :: st.map wv) h c s
    rw [e]; exact this
theorem Tx.sipush (hC : Cmono C) {z : Int} {a b : Nat} (ht : (pT M).find? (fun e => e.1 == pc) = some (pc, .sipush z, a, b)) (hz : inI z z = true) (e : (Int16.ofInt z).toInt32 = Int32.ofInt z) (H : Tx C S M K c s (pc + 3) L (.inl z :: st) mem) : Tx C S M K c s pc L st mem :=
  Tx.go hC ht fun h0 lv h h9 h1 h2 h3 => by
    have := H h0 lv h h9 h1 (stc (inI_iff.mp hz) h2) h3
    show Vx C S M [] (QX h0 K) (pc + 3) lv (.int (Int16.ofInt z).toInt32 :: st.map wv) h c s
    rw [e]; exact this
theorem Tx.iload (hC : Cmono C) {i a b : Nat} {x : Int} (ht : (pT M).find? (fun e => e.1 == pc) = some (pc, .iload i, a, b)) (hl : L[i]? = some (some (.inl x))) (H : Tx C S M K c s (pc + 2) L (.inl x :: st) mem) : Tx C S M K c s pc L st mem :=
  Tx.go hC ht fun h0 lv h h9 h1 h2 h3 => ⟨_, (h1 i _ hl).1, H h0 lv h h9 h1 (stc (h1 i _ hl).2 h2) h3⟩
theorem Tx.iload_n (hC : Cmono C) {i : _root_.Fin 4} {a b : Nat} {x : Int} (ht : (pT M).find? (fun e => e.1 == pc) = some (pc, .iload_n i, a, b)) (hl : L[i.val]? = some (some (.inl x))) (H : Tx C S M K c s (pc + 1) L (.inl x :: st) mem) : Tx C S M K c s pc L st mem :=
  Tx.go hC ht fun h0 lv h h9 h1 h2 h3 => ⟨_, (h1 i _ hl).1, H h0 lv h h9 h1 (stc (h1 i _ hl).2 h2) h3⟩
theorem Tx.aload (hC : Cmono C) {i a b A : Nat} (ht : (pT M).find? (fun e => e.1 == pc) = some (pc, .aload i, a, b)) (hl : L[i]? = some (some (.inr A))) (H : Tx C S M K c s (pc + 2) L (.inr A :: st) mem) : Tx C S M K c s pc L st mem :=
  Tx.go hC ht fun h0 lv h h9 h1 h2 h3 => ⟨_, (h1 i _ hl).1, ⟨A, Or.inl rfl⟩, H h0 lv h h9 h1 (stc trivial h2) h3⟩
theorem Tx.aload_n (hC : Cmono C) {i : _root_.Fin 4} {a b A : Nat} (ht : (pT M).find? (fun e => e.1 == pc) = some (pc, .aload_n i, a, b)) (hl : L[i.val]? = some (some (.inr A))) (H : Tx C S M K c s (pc + 1) L (.inr A :: st) mem) : Tx C S M K c s pc L st mem :=
  Tx.go hC ht fun h0 lv h h9 h1 h2 h3 => ⟨_, (h1 i _ hl).1, ⟨A, Or.inl rfl⟩, H h0 lv h h9 h1 (stc trivial h2) h3⟩
theorem Tx.istore (hC : Cmono C) {i a b : Nat} {x : Int} (ht : (pT M).find? (fun e => e.1 == pc) = some (pc, .istore i, a, b)) (hi : Nat.blt i (pL M) = true) (H : Tx C S M K c s (pc + 2) (L.set i (some (.inl x))) st mem) : Tx C S M K c s pc L (.inl x :: st) mem :=
  Tx.go hC ht fun h0 lv h h9 h1 h2 h3 => ⟨blt_iff.mp hi, H h0 _ h h9 (h1.set (h2 _ List.mem_cons_self)) (fun u hu => h2 u (List.mem_cons_of_mem _ hu)) h3⟩
theorem Tx.istore_n (hC : Cmono C) {i : _root_.Fin 4} {a b : Nat} {x : Int} (ht : (pT M).find? (fun e => e.1 == pc) = some (pc, .istore_n i, a, b)) (hi : Nat.blt i.val (pL M) = true) (H : Tx C S M K c s (pc + 1) (L.set i.val (some (.inl x))) st mem) : Tx C S M K c s pc L (.inl x :: st) mem :=
  Tx.go hC ht fun h0 lv h h9 h1 h2 h3 => ⟨blt_iff.mp hi, H h0 _ h h9 (h1.set (h2 _ List.mem_cons_self)) (fun u hu => h2 u (List.mem_cons_of_mem _ hu)) h3⟩
theorem Tx.iaddW (hC : Cmono C) {a b : Nat} {x y : Int} (ht : (pT M).find? (fun e => e.1 == pc) = some (pc, .iadd, a, b)) (H : ∀ z, InI z → (InI (x + y) → z = x + y) → Tx C S M K c s (pc + 1) L (.inl z :: st) mem) : Tx C S M K c s pc L (.inl y :: .inl x :: st) mem :=
  Tx.go hC ht fun h0 lv h h9 h1 h2 h3 => by
    have hx := wi (h2 _ (List.mem_cons_of_mem _ List.mem_cons_self))
    have hy := wi (h2 _ List.mem_cons_self)
    have := H (Int32.ofInt x + Int32.ofInt y).toInt (wiI _) (fun q => by rw [← Int32.ofInt_add, wi q]) h0 lv h h9 h1 (stc (wiI _) (fun u hu => h2 u (List.mem_cons_of_mem _ (List.mem_cons_of_mem _ hu)))) h3
    rw [List.map_cons, show wv (.inl (Int32.ofInt x + Int32.ofInt y).toInt) = .int (Int32.ofInt x + Int32.ofInt y) from by show Value.int (Int32.ofInt _) = _; rw [Int32.ofInt_toInt]] at this
    exact this
theorem Tx.idiv (hC : Cmono C) {a b : Nat} {x y : Int} (ht : (pT M).find? (fun e => e.1 == pc) = some (pc, .idiv, a, b)) (hy : 0 < y) (H : Tx C S M K c s (pc + 1) L (.inl (x.tdiv y) :: st) mem) : Tx C S M K c s pc L (.inl y :: .inl x :: st) mem :=
  Tx.go hC ht fun h0 lv h h9 h1 h2 h3 => by
    have hy1 := wi (h2 _ List.mem_cons_self)
    have hx1 := wi (h2 _ (List.mem_cons_of_mem _ List.mem_cons_self))
    have e := dv_toInt (x := Int32.ofInt x) (y := Int32.ofInt y) (by rw [hy1]; exact hy)
    rw [hx1, hy1] at e
    have hr : InI (x.tdiv y) := by rw [← e]; exact wiI _
    have := H h0 lv h h9 h1 (stc hr (fun u hu => h2 u (List.mem_cons_of_mem _ (List.mem_cons_of_mem _ hu)))) h3
    rw [List.map_cons, show wv (.inl (x.tdiv y)) = .int (Int32.ofInt x / Int32.ofInt y) from by rw [ofI_eq e]; rfl] at this
    exact ⟨nz_of (by rw [hy1]; omega), this⟩
theorem Tx.irem (hC : Cmono C) {a b : Nat} {x y : Int} (ht : (pT M).find? (fun e => e.1 == pc) = some (pc, .irem, a, b)) (hy : 0 < y) (H : Tx C S M K c s (pc + 1) L (.inl (x.tmod y) :: st) mem) : Tx C S M K c s pc L (.inl y :: .inl x :: st) mem :=
  Tx.go hC ht fun h0 lv h h9 h1 h2 h3 => by
    have hy1 := wi (h2 _ List.mem_cons_self)
    have hx1 := wi (h2 _ (List.mem_cons_of_mem _ List.mem_cons_self))
    have e := dv_toInt (x := Int32.ofInt x) (y := Int32.ofInt y) (by rw [hy1]; exact hy)
    rw [hx1, hy1] at e
    have e2 : Int32.ofInt x - Int32.ofInt x / Int32.ofInt y * Int32.ofInt y = Int32.ofInt (x.tmod y) := by
      rw [ofI_eq e, ← Int32.ofInt_mul, ← Int32.ofInt_sub, Int.tmod_def, Int.mul_comm]
    have hr : InI (x.tmod y) := by
      have a1 : InI y := h2 _ List.mem_cons_self
      have a2 : InI x := h2 _ (List.mem_cons_of_mem _ List.mem_cons_self)
      have l1 := Int.tmod_lt_of_pos x hy
      have l2 : -y < x.tmod y := by
        rcases Int.le_total 0 x with h | h
        · have := Int.tmod_nonneg y h; omega
        · have := Int.tmod_lt_of_pos (-x) hy
          rw [Int.neg_tmod] at this; omega
      unfold InI at a1 ⊢
      omega
    have := H h0 lv h h9 h1 (stc hr (fun u hu => h2 u (List.mem_cons_of_mem _ (List.mem_cons_of_mem _ hu)))) h3
    rw [List.map_cons, show wv (.inl (x.tmod y)) = .int (Int32.ofInt x - Int32.ofInt x / Int32.ofInt y * Int32.ofInt y) from by rw [e2]; rfl] at this
    exact ⟨nz_of (by rw [hy1]; omega), this⟩
theorem Tx.bits (hC : Cmono C) {ins : Instr} {a b : Nat} {x y : Int} {f : Int32 → Int32 → Int32} (ht : (pT M).find? (fun e => e.1 == pc) = some (pc, ins, a, b)) (hi : ∀ h0 lv r h, pmI C S M [] (QX h0 K) (Vx C S M [] (QX h0 K)) (pc, ins, a, b) lv (.int (Int32.ofInt y) :: .int (Int32.ofInt x) :: r) h c s ↔ Vx C S M [] (QX h0 K) (pc + 1) lv (.int (f (Int32.ofInt x) (Int32.ofInt y)) :: r) h c s) (H : ∀ z, z = (f (Int32.ofInt x) (Int32.ofInt y)).toInt → InI z → Tx C S M K c s (pc + 1) L (.inl z :: st) mem) : Tx C S M K c s pc L (.inl y :: .inl x :: st) mem :=
  Tx.go hC ht fun h0 lv h h9 h1 h2 h3 => by
    have := H _ rfl (wiI _) h0 lv h h9 h1 (stc (wiI _) (fun u hu => h2 u (List.mem_cons_of_mem _ (List.mem_cons_of_mem _ hu)))) h3
    rw [List.map_cons, show wv (.inl (f (Int32.ofInt x) (Int32.ofInt y)).toInt) = .int (f (Int32.ofInt x) (Int32.ofInt y)) from by show Value.int (Int32.ofInt _) = _; rw [Int32.ofInt_toInt]] at this
    exact (hi h0 lv _ h).mpr this
theorem Tx.dup (hC : Cmono C) {a b : Nat} {v : WV} (ht : (pT M).find? (fun e => e.1 == pc) = some (pc, .dup, a, b)) (H : Tx C S M K c s (pc + 1) L (v :: v :: st) mem) : Tx C S M K c s pc L (v :: st) mem :=
  Tx.go hC ht fun h0 lv h h9 h1 h2 h3 => ⟨wv v, st.map wv, rfl, wv_cat v, H h0 lv h h9 h1 (stc (h2 _ List.mem_cons_self) h2) h3⟩
theorem Tx.dup2 (hC : Cmono C) {a b : Nat} {v w : WV} (ht : (pT M).find? (fun e => e.1 == pc) = some (pc, .dup2, a, b)) (H : Tx C S M K c s (pc + 1) L (v :: w :: v :: w :: st) mem) : Tx C S M K c s pc L (v :: w :: st) mem :=
  Tx.go hC ht fun h0 lv h h9 h1 h2 h3 => ⟨wv v, wv w, st.map wv, rfl, wv_cat v, wv_cat w, H h0 lv h h9 h1 (stc (h2 _ List.mem_cons_self) (stc (h2 _ (List.mem_cons_of_mem _ List.mem_cons_self)) h2)) h3⟩
theorem Tx.goto (hC : Cmono C) {a b t : Nat} {z : Int} (ht : (pT M).find? (fun e => e.1 == pc) = some (pc, .goto z, a, b)) (hz : (pc : Int) + z = t) (H : Tx C S M K c s t L st mem) : Tx C S M K c s pc L st mem :=
  Tx.go hC ht fun h0 lv h h9 h1 h2 h3 => ⟨by show 0 ≤ (pc : Int) + z; omega, by
    show Vx C S M [] (QX h0 K) ((pc : Int) + z).toNat _ _ _ _ _
    rw [show ((pc : Int) + z).toNat = t by omega]; exact H h0 lv h h9 h1 h2 h3⟩
theorem Tx.ifc (hC : Cmono C) {cc : ClassFile.Cond} {a b t : Nat} {z x : Int} (ht : (pT M).find? (fun e => e.1 == pc) = some (pc, .ifCond cc z, a, b)) (hz : (pc : Int) + z = t) (H1 : ccZ cc x 0 → Tx C S M K c s t L st mem) (H2 : ¬ ccZ cc x 0 → Tx C S M K c s (pc + 3) L st mem) : Tx C S M K c s pc L (.inl x :: st) mem :=
  Tx.go hC ht fun h0 lv h h9 h1 h2 h3 => by
    have hx := wi (h2 _ List.mem_cons_self)
    have hst : ∀ u ∈ st, vOK u := fun u hu => h2 u (List.mem_cons_of_mem _ hu)
    have e : ccI cc (Int32.ofInt x) 0 ↔ ccZ cc x 0 := by rw [ccI_iff, hx]; exact Iff.rfl
    refine ⟨by show 0 ≤ (pc : Int) + z; omega, fun q => ?_, fun q => ?_⟩
    · show Vx C S M [] (QX h0 K) ((pc : Int) + z).toNat _ _ _ _ _
      rw [show ((pc : Int) + z).toNat = t by omega]; exact H1 (e.mp q) h0 lv h h9 h1 hst h3
    · exact H2 (fun w => q (e.mpr w)) h0 lv h h9 h1 hst h3
theorem Tx.icmp (hC : Cmono C) {cc : ClassFile.Cond} {a b t : Nat} {z x y : Int} (ht : (pT M).find? (fun e => e.1 == pc) = some (pc, .if_icmp cc z, a, b)) (hz : (pc : Int) + z = t) (H1 : ccZ cc x y → Tx C S M K c s t L st mem) (H2 : ¬ ccZ cc x y → Tx C S M K c s (pc + 3) L st mem) : Tx C S M K c s pc L (.inl y :: .inl x :: st) mem :=
  Tx.go hC ht fun h0 lv h h9 h1 h2 h3 => by
    have hy := wi (h2 _ List.mem_cons_self)
    have hx := wi (h2 _ (List.mem_cons_of_mem _ List.mem_cons_self))
    have hst : ∀ u ∈ st, vOK u := fun u hu => h2 u (List.mem_cons_of_mem _ (List.mem_cons_of_mem _ hu))
    have e : ccI cc (Int32.ofInt x) (Int32.ofInt y) ↔ ccZ cc x y := by rw [ccI_iff, hx, hy]
    refine ⟨by show 0 ≤ (pc : Int) + z; omega, fun q => ?_, fun q => ?_⟩
    · show Vx C S M [] (QX h0 K) ((pc : Int) + z).toNat _ _ _ _ _
      rw [show ((pc : Int) + z).toNat = t by omega]; exact H1 (e.mp q) h0 lv h h9 h1 hst h3
    · exact H2 (fun w => q (e.mpr w)) h0 lv h h9 h1 hst h3
theorem Tx.iald (hC : Cmono C) {a b A n : Nat} {i : Int} (ht : (pT M).find? (fun e => e.1 == pc) = some (pc, .iaload, a, b)) (hA : shA A = some (.inl n)) (hi : 0 ≤ i ∧ i < n) (H : ∀ v, v = mem A i.toNat → InI v → Tx C S M K c s (pc + 1) L (.inl v :: st) mem) : Tx C S M K c s pc L (.inl i :: .inr A :: st) mem :=
  Tx.go hC ht fun h0 lv h h9 h1 h2 h3 => by
    obtain ⟨g, e1, e2⟩ := h3.row hA
    have hI : InI i := h2 _ List.mem_cons_self
    have hv : InI (mem A i.toNat) := h3.rowI hA _
    show p_iald S h (.int (Int32.ofInt i) :: .ref A :: st.map wv) fun st => Vx C S M [] (QX h0 K) (pc + 1) lv st h c s
    refine iald_mk e1 (vp_in_iff.mpr (by rw [wi hI]; exact hi)) ?_
    rw [clampN hI hi.1, show g i.toNat = Int32.ofInt (mem A i.toNat) from ofI_eq (e2 _).symm]
    exact H _ rfl hv h0 lv h h9 h1 (stc hv (fun u hu => h2 u (List.mem_cons_of_mem _ (List.mem_cons_of_mem _ hu)))) h3
theorem Tx.iast (hC : Cmono C) {a b A n : Nat} {i x : Int} (ht : (pT M).find? (fun e => e.1 == pc) = some (pc, .iastore, a, b)) (hA : shA A = some (.inl n)) (hi : 0 ≤ i ∧ i < n) (H : Tx C S M K c s (pc + 1) L st (upm mem A i.toNat x)) : Tx C S M K c s pc L (.inl x :: .inl i :: .inr A :: st) mem :=
  Tx.go hC ht fun h0 lv h h9 h1 h2 h3 => by
    obtain ⟨g, e1, e2⟩ := h3.row hA
    have hx : InI x := h2 _ List.mem_cons_self
    have hI : InI i := h2 _ (List.mem_cons_of_mem _ List.mem_cons_self)
    show p_iast h (.int (Int32.ofInt x) :: .int (Int32.ofInt i) :: .ref A :: st.map wv) fun st h => Vx C S M [] (QX h0 K) (pc + 1) lv st h c s
    refine iast_mk e1 (vp_in_iff.mpr (by rw [wi hI]; exact hi)) ?_
    have := h3.setRow (i := i.toNat) (x := Int32.ofInt x) hA e1
    rw [wi hx] at this
    rw [clampN hI hi.1]
    exact H h0 lv _ h9 h1 (fun u hu => h2 u (List.mem_cons_of_mem _ (List.mem_cons_of_mem _ (List.mem_cons_of_mem _ hu)))) this
theorem Tx.getI (hC : Cmono C) {p A ci f : Nat} {fs : List (Option Nat)} (ht : (pT M).find? (fun e => e.1 == pc) = some (pc, .getfield p, ci, f)) (hA : shA A = some (.inr (ci, fs))) (hf : fs[f]? = some none) (hn : Nat.blt f (fnum ci) = true) (H : ∀ v, v = mem A f → InI v → Tx C S M K c s (pc + 3) L (.inl v :: st) mem) : Tx C S M K c s pc L (.inr A :: st) mem :=
  Tx.go hC ht fun h0 lv h h9 h1 h2 h3 => by
    obtain ⟨gs, e1, -, e2⟩ := h3.obj hA
    have e3 := e2 f
    rw [hf] at e3
    obtain ⟨z, e4, e5⟩ := e3
    have hv : InI (mem A f) := h3.fldI hA hf
    show p_get h ci f (.ref A :: st.map wv) fun st => Vx C S M [] (QX h0 K) (pc + 3) lv st h c s
    refine get_mk (v := .int z) e1 (blt_iff.mp hn) e4 ?_
    rw [show z = Int32.ofInt (mem A f) from ofI_eq e5.symm]
    exact H _ rfl hv h0 lv h h9 h1 (stc hv (fun u hu => h2 u (List.mem_cons_of_mem _ hu))) h3
theorem Tx.getR (hC : Cmono C) {p A B ci f : Nat} {fs : List (Option Nat)} (ht : (pT M).find? (fun e => e.1 == pc) = some (pc, .getfield p, ci, f)) (hA : shA A = some (.inr (ci, fs))) (hf : fs[f]? = some (some B)) (hn : Nat.blt f (fnum ci) = true) (H : Tx C S M K c s (pc + 3) L (.inr B :: st) mem) : Tx C S M K c s pc L (.inr A :: st) mem :=
  Tx.go hC ht fun h0 lv h h9 h1 h2 h3 => by
    obtain ⟨gs, e1, -, e2⟩ := h3.obj hA
    have e3 := e2 f
    rw [hf] at e3
    show p_get h ci f (.ref A :: st.map wv) fun st => Vx C S M [] (QX h0 K) (pc + 3) lv st h c s
    exact get_mk (v := .ref B) e1 (blt_iff.mp hn) e3 (H h0 lv h h9 h1 (stc trivial (fun u hu => h2 u (List.mem_cons_of_mem _ hu))) h3)
theorem Tx.putI (hC : Cmono C) {p A ci f : Nat} {fs : List (Option Nat)} {x : Int} (ht : (pT M).find? (fun e => e.1 == pc) = some (pc, .putfield p, ci, f)) (hA : shA A = some (.inr (ci, fs))) (hf : fs[f]? = some none) (hn : Nat.blt f (fnum ci) = true) (hy : ftyX ci f = .int) (H : Tx C S M K c s (pc + 3) L st (upm mem A f x)) : Tx C S M K c s pc L (.inl x :: .inr A :: st) mem :=
  Tx.go hC ht fun h0 lv h h9 h1 h2 h3 => by
    obtain ⟨gs, e1, e0, e2⟩ := h3.obj hA
    have hx : InI x := h2 _ List.mem_cons_self
    have hfl : f < gs.length := by rw [e0]; exact (List.getElem?_eq_some_iff.mp hf).1
    show p_put h ci f (.int (Int32.ofInt x) :: .ref A :: st.map wv) fun st h => Vx C S M [] (QX h0 K) (pc + 3) lv st h c s
    refine put_mk e1 (blt_iff.mp hn) hfl (by rw [hy]; rfl) (by rw [hy]; rfl) ?_
    have := h3.setObj (x := Int32.ofInt x) hA hf e1
    rw [wi hx] at this
    exact H h0 lv _ h9 h1 (fun u hu => h2 u (List.mem_cons_of_mem _ (List.mem_cons_of_mem _ hu))) this
theorem Tx.alen (hC : Cmono C) {a b A n : Nat} (ht : (pT M).find? (fun e => e.1 == pc) = some (pc, .arraylength, a, b)) (hA : shA A = some (.inl n)) (hI : InI (n : Int)) (H : Tx C S M K c s (pc + 1) L (.inl (n : Int) :: st) mem) : Tx C S M K c s pc L (.inr A :: st) mem :=
  Tx.go hC ht fun h0 lv h h9 h1 h2 h3 => by
    obtain ⟨g, e1, e2⟩ := h3.row hA
    show p_alen S h (.ref A :: st.map wv) fun st => Vx C S M [] (QX h0 K) (pc + 1) lv st h c s
    refine alen_mk e1 (by omega) ?_
    have := H h0 lv h h9 h1 (stc hI (fun u hu => h2 u (List.mem_cons_of_mem _ hu))) h3
    rw [List.map_cons, show wv (.inl (n : Int)) = .int (Int32.ofNat n) from rfl] at this
    exact this
theorem Tx.putB (hC : Cmono C) {p A ci f : Nat} {fs : List (Option Nat)} {x : Int} (ht : (pT M).find? (fun e => e.1 == pc) = some (pc, .putfield p, ci, f)) (hA : shA A = some (.inr (ci, fs))) (hf : fs[f]? = some none) (hn : Nat.blt f (fnum ci) = true) (hy : ftyX ci f = .boolean) (hx : x = 0 ∨ x = 1) (H : Tx C S M K c s (pc + 3) L st (upm mem A f x)) : Tx C S M K c s pc L (.inl x :: .inr A :: st) mem :=
  Tx.go hC ht fun h0 lv h h9 h1 h2 h3 => by
    obtain ⟨gs, e1, e0, e2⟩ := h3.obj hA
    have hfl : f < gs.length := by rw [e0]; exact (List.getElem?_eq_some_iff.mp hf).1
    have hI : InI x := h2 _ List.mem_cons_self
    show p_put h ci f (.int (Int32.ofInt x) :: .ref A :: st.map wv) fun st h => Vx C S M [] (QX h0 K) (pc + 3) lv st h c s
    refine put_mk e1 (blt_iff.mp hn) hfl (by rw [hy]; rcases hx with e | e <;> subst e <;> rfl) (by rw [hy]; rcases hx with e | e <;> subst e <;> rfl) ?_
    have := h3.setObj (x := Int32.ofInt x) hA hf e1
    rw [wi hI] at this
    exact H h0 lv _ h9 h1 (fun u hu => h2 u (List.mem_cons_of_mem _ (List.mem_cons_of_mem _ hu))) this
theorem Tx.tsw (hC : Cmono C) {d lo hi x : Int} {offs : Array Int} {a b t : Nat} {ts : List Nat} (ht : (pT M).find? (fun e => e.1 == pc) = some (pc, .tableswitch d lo hi offs, a, b)) (hn : hi - lo + 1 = offs.size) (hz : (pc : Int) + d = t) (hts : offs.toList.map (fun o => (pc : Int) + o) = ts.map fun (n : Nat) => (n : Int)) (H1 : x < lo ∨ hi < x → Tx C S M K c s t L st mem) (H2 : ∀ (i t' : Nat), ts[i]? = some t' → x = lo + i → Tx C S M K c s t' L st mem) : Tx C S M K c s pc L (.inl x :: st) mem :=
  Tx.go hC ht fun h0 lv h h9 h1 h2 h3 => by
    have hx := wi (h2 _ List.mem_cons_self)
    have hst : ∀ u ∈ st, vOK u := fun u hu => h2 u (List.mem_cons_of_mem _ hu)
    refine ⟨?_, ?_⟩
    · intro q
      rw [hx] at q
      refine ⟨by show 0 ≤ (pc : Int) + d; omega, ?_⟩
      show Vx C S M [] (QX h0 K) ((pc : Int) + d).toNat _ _ _ _ _
      rw [show ((pc : Int) + d).toNat = t by omega]; exact H1 q h0 lv h h9 h1 hst h3
    · intro q1 q2
      rw [hx] at q1 q2 ⊢
      have hl : (x - lo).toNat < offs.size := by omega
      have e1 : offs.toList[(x - lo).toNat]? = some (offs[(x - lo).toNat]'hl) := by simp
      have e2 : (offs.toList.map (fun o => (pc : Int) + o))[(x - lo).toNat]? = some ((pc : Int) + offs[(x - lo).toNat]'hl) := by rw [List.getElem?_map, e1]; rfl
      rw [hts, List.getElem?_map] at e2
      cases ht' : ts[(x - lo).toNat]? with
      | none => rw [ht'] at e2; cases e2
      | some t' =>
        rw [ht'] at e2
        have e3 : (t' : Int) = (pc : Int) + offs[(x - lo).toNat]'hl := Option.some.inj e2
        refine ⟨offs[(x - lo).toNat]'hl, by simp [hl], by show 0 ≤ (pc : Int) + _; omega, ?_⟩
        show Vx C S M [] (QX h0 K) ((pc : Int) + _).toNat _ _ _ _ _
        rw [show ((pc : Int) + offs[(x - lo).toNat]'hl).toNat = t' by omega]
        exact H2 _ t' ht' (by omega) h0 lv h h9 h1 hst h3
theorem Tx.isubW (hC : Cmono C) {a b : Nat} {x y : Int} (ht : (pT M).find? (fun e => e.1 == pc) = some (pc, .isub, a, b)) (H : ∀ z, InI z → (InI (x - y) → z = x - y) → Tx C S M K c s (pc + 1) L (.inl z :: st) mem) : Tx C S M K c s pc L (.inl y :: .inl x :: st) mem :=
  Tx.go hC ht fun h0 lv h h9 h1 h2 h3 => by
    have := H (Int32.ofInt x - Int32.ofInt y).toInt (wiI _) (fun q => by rw [← Int32.ofInt_sub, wi q]) h0 lv h h9 h1 (stc (wiI _) (fun u hu => h2 u (List.mem_cons_of_mem _ (List.mem_cons_of_mem _ hu)))) h3
    rw [List.map_cons, show wv (.inl (Int32.ofInt x - Int32.ofInt y).toInt) = .int (Int32.ofInt x - Int32.ofInt y) from by show Value.int (Int32.ofInt _) = _; rw [Int32.ofInt_toInt]] at this
    exact this
theorem Tx.imulW (hC : Cmono C) {a b : Nat} {x y : Int} (ht : (pT M).find? (fun e => e.1 == pc) = some (pc, .imul, a, b)) (H : ∀ z, InI z → (InI (x * y) → z = x * y) → Tx C S M K c s (pc + 1) L (.inl z :: st) mem) : Tx C S M K c s pc L (.inl y :: .inl x :: st) mem :=
  Tx.go hC ht fun h0 lv h h9 h1 h2 h3 => by
    have := H (Int32.ofInt x * Int32.ofInt y).toInt (wiI _) (fun q => by rw [← Int32.ofInt_mul, wi q]) h0 lv h h9 h1 (stc (wiI _) (fun u hu => h2 u (List.mem_cons_of_mem _ (List.mem_cons_of_mem _ hu)))) h3
    rw [List.map_cons, show wv (.inl (Int32.ofInt x * Int32.ofInt y).toInt) = .int (Int32.ofInt x * Int32.ofInt y) from by show Value.int (Int32.ofInt _) = _; rw [Int32.ofInt_toInt]] at this
    exact this
theorem Tx.inegW (hC : Cmono C) {a b : Nat} {x : Int} (ht : (pT M).find? (fun e => e.1 == pc) = some (pc, .ineg, a, b)) (H : ∀ z, InI z → (InI (-x) → z = -x) → Tx C S M K c s (pc + 1) L (.inl z :: st) mem) : Tx C S M K c s pc L (.inl x :: st) mem :=
  Tx.go hC ht fun h0 lv h h9 h1 h2 h3 => by
    have := H (-Int32.ofInt x).toInt (wiI _) (fun q => by rw [← Int32.ofInt_neg, wi q]) h0 lv h h9 h1 (stc (wiI _) (fun u hu => h2 u (List.mem_cons_of_mem _ hu))) h3
    rw [List.map_cons, show wv (.inl (-Int32.ofInt x).toInt) = .int (-Int32.ofInt x) from by show Value.int (Int32.ofInt _) = _; rw [Int32.ofInt_toInt]] at this
    exact this
theorem Tx.iincW (hC : Cmono C) {i a b : Nat} {z x : Int} (ht : (pT M).find? (fun e => e.1 == pc) = some (pc, .iinc i z, a, b)) (hi : Nat.blt i (pL M) = true) (hl : L[i]? = some (some (.inl x))) (H : ∀ y, InI y → (InI (x + z) → y = x + z) → Tx C S M K c s (pc + 3) (L.set i (some (.inl y))) st mem) : Tx C S M K c s pc L st mem :=
  Tx.go hC ht fun h0 lv h h9 h1 h2 h3 => ⟨blt_iff.mp hi, _, (h1 i _ hl).1, by
    have := H (Int32.ofInt x + Int32.ofInt z).toInt (wiI _) (fun q => by rw [← Int32.ofInt_add, wi q]) h0 _ h h9 (h1.set (i := i) (v := .inl (Int32.ofInt x + Int32.ofInt z).toInt) (wiI _)) h2 h3
    rw [show wv (.inl (Int32.ofInt x + Int32.ofInt z).toInt) = .int (Int32.ofInt x + Int32.ofInt z) from by show Value.int (Int32.ofInt _) = _; rw [Int32.ofInt_toInt]] at this
    exact this⟩
theorem Tx.pop (hC : Cmono C) {a b : Nat} {v : WV} (ht : (pT M).find? (fun e => e.1 == pc) = some (pc, .pop, a, b)) (H : Tx C S M K c s (pc + 1) L st mem) : Tx C S M K c s pc L (v :: st) mem :=
  Tx.go hC ht fun h0 lv h h9 h1 h2 h3 => ⟨wv v, st.map wv, rfl, wv_cat v, H h0 lv h h9 h1 (fun u hu => h2 u (List.mem_cons_of_mem _ hu)) h3⟩
theorem Tx.ldc (hC : Cmono C) {p a b : Nat} {z : Int} {q : Nat × Nat × Int32} (ht : (pT M).find? (fun e => e.1 == pc) = some (pc, .ldc p, a, b)) (hb : b = 0) (hk : KLs[a]? = some q) (hz : Int32.ofInt z = q.2.2) (hI : inI z z = true) (H : Tx C S M K c s (pc + 2) L (.inl z :: st) mem) : Tx C S M K c s pc L st mem :=
  Tx.go hC ht fun h0 lv h h9 h1 h2 h3 => ⟨q, hk, hb, by
    have := H h0 lv h h9 h1 (stc (inI_iff.mp hI) h2) h3
    rw [List.map_cons, show wv (.inl z) = .int q.2.2 from by show Value.int (Int32.ofInt z) = _; rw [hz]] at this
    exact this⟩
theorem Tx.ldc_w (hC : Cmono C) {p a b : Nat} {z : Int} {q : Nat × Nat × Int32} (ht : (pT M).find? (fun e => e.1 == pc) = some (pc, .ldc_w p, a, b)) (hb : b = 0) (hk : KLs[a]? = some q) (hz : Int32.ofInt z = q.2.2) (hI : inI z z = true) (H : Tx C S M K c s (pc + 3) L (.inl z :: st) mem) : Tx C S M K c s pc L st mem :=
  Tx.go hC ht fun h0 lv h h9 h1 h2 h3 => ⟨q, hk, hb, by
    have := H h0 lv h h9 h1 (stc (inI_iff.mp hI) h2) h3
    rw [List.map_cons, show wv (.inl z) = .int q.2.2 from by show Value.int (Int32.ofInt z) = _; rw [hz]] at this
    exact this⟩
theorem Tx.astore (hC : Cmono C) {i a b A : Nat} (ht : (pT M).find? (fun e => e.1 == pc) = some (pc, .astore i, a, b)) (hi : Nat.blt i (pL M) = true) (H : Tx C S M K c s (pc + 2) (L.set i (some (.inr A))) st mem) : Tx C S M K c s pc L (.inr A :: st) mem :=
  Tx.go hC ht fun h0 lv h h9 h1 h2 h3 => ⟨blt_iff.mp hi, H h0 _ h h9 (h1.set (h2 _ List.mem_cons_self)) (fun u hu => h2 u (List.mem_cons_of_mem _ hu)) h3⟩
theorem Tx.astore_n (hC : Cmono C) {i : _root_.Fin 4} {a b A : Nat} (ht : (pT M).find? (fun e => e.1 == pc) = some (pc, .astore_n i, a, b)) (hi : Nat.blt i.val (pL M) = true) (H : Tx C S M K c s (pc + 1) (L.set i.val (some (.inr A))) st mem) : Tx C S M K c s pc L (.inr A :: st) mem :=
  Tx.go hC ht fun h0 lv h h9 h1 h2 h3 => ⟨blt_iff.mp hi, H h0 _ h h9 (h1.set (h2 _ List.mem_cons_self)) (fun u hu => h2 u (List.mem_cons_of_mem _ hu)) h3⟩
theorem RA.at {h0 h : PH} (h9 : RA h0) (h3 : RH h0 h mem) : RA h := by
  unfold RA
  rw [h3.1 37 rfl, h3.1 135 rfl]
  exact h9
/-- charts[d] -/
theorem Tx.aaldC (hC : Cmono C) {a b : Nat} {i : Int} (ht : (pT M).find? (fun e => e.1 == pc) = some (pc, .aaload, a, b)) (hi : 0 ≤ i ∧ i < 13) (H : ∀ A, A = 38 + 7 * i.toNat → Tx C S M K c s (pc + 1) L (.inr A :: st) mem) : Tx C S M K c s pc L (.inl i :: .inr 37 :: st) mem :=
  Tx.go hC ht fun h0 lv h h9 h1 h2 h3 => by
    obtain ⟨g, e1, e2⟩ := (h9.at h3).1
    have hI : InI i := h2 _ List.mem_cons_self
    show p_aald h (.int (Int32.ofInt i) :: .ref 37 :: st.map wv) fun st => Vx C S M [] (QX h0 K) (pc + 1) lv st h c s
    refine aald_mk e1 (Or.inl rfl) (vp_in_iff.mpr (by rw [wi hI]; exact hi)) (q := 38 + 7 * i.toNat) (by rw [clampN hI hi.1]; exact e2 _ (by omega)) ?_
    exact H _ rfl h0 lv h h9 h1 (stc trivial (fun u hu => h2 u (List.mem_cons_of_mem _ (List.mem_cons_of_mem _ hu)))) h3
/-- rows[k] -/
theorem Tx.aaldP (hC : Cmono C) {a b : Nat} {i : Int} (ht : (pT M).find? (fun e => e.1 == pc) = some (pc, .aaload, a, b)) (hi : 0 ≤ i ∧ i < 2) (H : ∀ A, A = 136 + i.toNat → Tx C S M K c s (pc + 1) L (.inr A :: st) mem) : Tx C S M K c s pc L (.inl i :: .inr 135 :: st) mem :=
  Tx.go hC ht fun h0 lv h h9 h1 h2 h3 => by
    obtain ⟨g, e1, e2⟩ := (h9.at h3).2
    have hI : InI i := h2 _ List.mem_cons_self
    show p_aald h (.int (Int32.ofInt i) :: .ref 135 :: st.map wv) fun st => Vx C S M [] (QX h0 K) (pc + 1) lv st h c s
    refine aald_mk e1 (Or.inr rfl) (vp_in_iff.mpr (by rw [wi hI]; exact hi)) (q := 136 + i.toNat) (by rw [clampN hI hi.1]; exact e2 _ (by omega)) ?_
    exact H _ rfl h0 lv h h9 h1 (stc trivial (fun u hu => h2 u (List.mem_cons_of_mem _ (List.mem_cons_of_mem _ hu)))) h3
/-! ends -/
theorem Tx.ireturn (hC : Cmono C) {a b : Nat} {x : Int} (ht : (pT M).find? (fun e => e.1 == pc) = some (pc, .ireturn, a, b)) (hR : pR M = some .int) (H : InI x → K (.inl (some (.inl x))) mem) : Tx C S M K c s pc L [.inl x] mem :=
  Tx.go hC ht fun h0 lv h h9 h1 h2 h3 => ⟨_, rfl, ⟨_, hR, rfl⟩, .inl (some (.inl x)), mem, rfl, h2 _ List.mem_cons_self, h3, H (h2 _ List.mem_cons_self)⟩
theorem Tx.bret (hC : Cmono C) {a b : Nat} {x : Int} (ht : (pT M).find? (fun e => e.1 == pc) = some (pc, .ireturn, a, b)) (hR : pR M = some .boolean) (hx : x = 0 ∨ x = 1) (H : K (.inl (some (.inl x))) mem) : Tx C S M K c s pc L [.inl x] mem :=
  Tx.go hC ht fun h0 lv h h9 h1 h2 h3 => ⟨_, rfl, ⟨_, hR, by rcases hx with rfl | rfl <;> rfl⟩, .inl (some (.inl x)), mem, rfl, h2 _ List.mem_cons_self, h3, H⟩
theorem Tx.vret (hC : Cmono C) {a b : Nat} (ht : (pT M).find? (fun e => e.1 == pc) = some (pc, .return_, a, b)) (hR : pR M = none) (H : K (.inl none) mem) : Tx C S M K c s pc L [] mem :=
  Tx.go hC ht fun h0 lv h h9 h1 h2 h3 => ⟨rfl, hR, .inl none, mem, rfl, trivial, h3, H⟩
theorem Tx.aret (hC : Cmono C) {a b A : Nat} {t : String} (ht : (pT M).find? (fun e => e.1 == pc) = some (pc, .areturn, a, b)) (hR : pR M = some (.object t)) (H : K (.inl (some (.inr A))) mem) : Tx C S M K c s pc L [.inr A] mem :=
  Tx.go hC ht fun h0 lv h h9 h1 h2 h3 => ⟨A, rfl, ⟨t, hR⟩, .inl (some (.inr A)), mem, rfl, trivial, h3, H⟩
theorem Tx.thr (hC : Cmono C) {p a b : Nat} {x : Nat × Nat × Nat × Nat × Nat × Nat} (ht : (pT M).find? (fun e => e.1 == pc) = some (pc, .new p, a, b)) (hb : b = 1) (hc : Nat.ble (c + 1) (pC M) = true) (hs : Nat.ble (s + 6) (pS M) = true) (hst : Nat.ble st.length 8 = true) (hx : XLs[a]? = some x) (H : K (.inr x.2.2.1) mem) : Tx C S M K c s pc L st mem :=
  Tx.go hC ht fun h0 lv h h9 h1 h2 h3 => Or.inr ⟨hb, rfl, Nat.le_of_ble_eq_true hc, Nat.le_of_ble_eq_true hs, by rw [cats1]; exact Nat.le_of_ble_eq_true hst, x, hx, .inr x.2.2.1, mem, rfl, trivial, h3, H⟩
/-! calls -/
theorem Tx.call (hC : Cmono C) {N : PM} {μ : Nat} {virt : Bool} {args rest : List WV} {c' s' : Nat} (hN : MT[μ]? = some N) (hl : args.length = pN N) (hr : Nat.ble rest.length 8 = true) (hc1 : Nat.ble c' (pC M) = true) (hs1 : Nat.ble s' (pS M) = true) (hc : c + pC N = c') (hs : s + pS N = s') (hv : virt = true → ∃ A ci fs, args[0]? = some (.inr A) ∧ shA A = some (.inr (ci, fs)) ∧ ci = pO N) {K2 : TK} (H : CY C μ args mem K2) (Hk : ∀ o m, K2 (.inl o) m → rOK (.inl o) → Tx C S M K c' s' (pc + 3) L (o.toList ++ rest) m) (He : ∀ e m, K2 (.inr e) m → K (.inr e) m) {h0 : PH} {lv : LV} {h : PH} (h9 : RA h0) (h1 : LkW lv L) (h2 : ∀ v ∈ args.reverse ++ rest, vOK v) (h3 : RH h0 h mem) : p_call C M [] (QX h0 K) (Vx C S M [] (QX h0 K)) pc μ virt lv ((args.reverse ++ rest).map wv) h c s := by
  subst hc
  subst hs
  unfold p_call
  rw [hN]
  have el : (args.reverse.map wv).length = pN N := by simp [hl]
  have e1 : ((args.reverse ++ rest).map wv).take (pN N) = args.reverse.map wv := by rw [List.map_append, ← el, List.take_left]
  have e2 : ((args.reverse ++ rest).map wv).drop (pN N) = rest.map wv := by rw [List.map_append, ← el, List.drop_left]
  simp only [e1, e2]
  refine ⟨by simp [hl], by rw [cats1]; exact Nat.le_of_ble_eq_true hr, Nat.le_of_ble_eq_true hc1, Nat.le_of_ble_eq_true hs1, ?_, ?_⟩
  · intro q
    obtain ⟨A, ci, fs, g1, g2, g3⟩ := hv q
    obtain ⟨gs, g4, -⟩ := h3.obj g2
    refine ⟨A, gs, ?_, by rw [← g3]; exact g4⟩
    rw [List.getLast?_eq_head?_reverse, ← List.map_reverse, List.reverse_reverse, List.head?_eq_getElem?, List.getElem?_map, g1]
    rfl
  · rw [← List.map_reverse, List.reverse_reverse]
    refine hC _ _ _ _ _ ?_ (H (fun v hv => h2 v (List.mem_append_left _ (List.mem_reverse.mpr hv))) h0 h h9 h3)
    rintro r h' ⟨x, m, rfl, k2, k3, k4⟩
    cases x with
    | inr e => exact ⟨.inr e, m, rfl, trivial, k3, He e m k4⟩
    | inl o =>
      show Vx C S M [] (QX h0 K) (pc + 3) lv _ h' _ _
      have := Hk o m k4 k2 h0 lv h' h9 h1 (fun u hu => ?_) k3
      · cases o with
        | none => exact this
        | some y => exact this
      · rcases List.mem_append.mp hu with hu | hu
        · cases o with
          | none => cases hu
          | some y =>
            have : u = y := by simpa using hu
            subst this
            exact k2
        · exact h2 u (List.mem_append_right _ hu)
theorem Tx.virtI (hC : Cmono C) {p μ b ci A : Nat} {N : PM} {args rest : List WV} {c' s' : Nat} {fs : List (Option Nat)} (ht : (pT M).find? (fun e => e.1 == pc) = some (pc, .invokevirtual p, μ, b)) (hN : MT[μ]? = some N) (hst : st = args.reverse ++ rest) (hl : args.length = pN N) (hr : Nat.ble rest.length 8 = true) (hc1 : Nat.ble c' (pC M) = true) (hs1 : Nat.ble s' (pS M) = true) (hc : c + pC N = c') (hs : s + pS N = s') (ha : args[0]? = some (.inr A)) (hA : shA A = some (.inr (ci, fs))) (ho : ci = pO N) (H : CQI C μ args mem (fun y m => InI y → Tx C S M K c' s' (pc + 3) L (.inl y :: rest) m) (fun e m => K (.inr e) m)) : Tx C S M K c s pc L st mem := by
  subst hst
  exact Tx.go hC ht fun h0 lv h h9 h1 h2 h3 => Tx.call (K := K) (S := S) (pc := pc) hC hN hl hr hc1 hs1 hc hs (fun _ => ⟨A, ci, fs, ha, hA, ho⟩) H (fun o m q hy => by
    cases o with
    | none => exact False.elim q
    | some v => cases v with
      | inl y => exact q hy
      | inr A => exact False.elim q) (fun e m q => q) h9 h1 h2 h3
theorem Tx.virtV (hC : Cmono C) {p μ b ci A : Nat} {N : PM} {args rest : List WV} {c' s' : Nat} {fs : List (Option Nat)} (ht : (pT M).find? (fun e => e.1 == pc) = some (pc, .invokevirtual p, μ, b)) (hN : MT[μ]? = some N) (hst : st = args.reverse ++ rest) (hl : args.length = pN N) (hr : Nat.ble rest.length 8 = true) (hc1 : Nat.ble c' (pC M) = true) (hs1 : Nat.ble s' (pS M) = true) (hc : c + pC N = c') (hs : s + pS N = s') (ha : args[0]? = some (.inr A)) (hA : shA A = some (.inr (ci, fs))) (ho : ci = pO N) (H : CQV C μ args mem (fun m => Tx C S M K c' s' (pc + 3) L rest m) (fun e m => K (.inr e) m)) : Tx C S M K c s pc L st mem := by
  subst hst
  exact Tx.go hC ht fun h0 lv h h9 h1 h2 h3 => Tx.call (K := K) (S := S) (pc := pc) hC hN hl hr hc1 hs1 hc hs (fun _ => ⟨A, ci, fs, ha, hA, ho⟩) H (fun o m q hy => by
    cases o with
    | none => exact q
    | some v => cases v <;> exact False.elim q) (fun e m q => q) h9 h1 h2 h3
theorem Tx.virtR (hC : Cmono C) {p μ b ci A : Nat} {N : PM} {args rest : List WV} {c' s' : Nat} {fs : List (Option Nat)} (ht : (pT M).find? (fun e => e.1 == pc) = some (pc, .invokevirtual p, μ, b)) (hN : MT[μ]? = some N) (hst : st = args.reverse ++ rest) (hl : args.length = pN N) (hr : Nat.ble rest.length 8 = true) (hc1 : Nat.ble c' (pC M) = true) (hs1 : Nat.ble s' (pS M) = true) (hc : c + pC N = c') (hs : s + pS N = s') (ha : args[0]? = some (.inr A)) (hA : shA A = some (.inr (ci, fs))) (ho : ci = pO N) (H : CQR C μ args mem (fun y m => Tx C S M K c' s' (pc + 3) L (.inr y :: rest) m) (fun e m => K (.inr e) m)) : Tx C S M K c s pc L st mem := by
  subst hst
  exact Tx.go hC ht fun h0 lv h h9 h1 h2 h3 => Tx.call (K := K) (S := S) (pc := pc) hC hN hl hr hc1 hs1 hc hs (fun _ => ⟨A, ci, fs, ha, hA, ho⟩) H (fun o m q hy => by
    cases o with
    | none => exact False.elim q
    | some v => cases v with
      | inl y => exact False.elim q
      | inr A => exact q) (fun e m q => q) h9 h1 h2 h3
theorem Tx.statI (hC : Cmono C) {p μ b : Nat} {N : PM} {args rest : List WV} {c' s' : Nat} (ht : (pT M).find? (fun e => e.1 == pc) = some (pc, .invokestatic p, μ, b)) (hb : b ≠ 7) (hN : MT[μ]? = some N) (hst : st = args.reverse ++ rest) (hl : args.length = pN N) (hr : Nat.ble rest.length 8 = true) (hc1 : Nat.ble c' (pC M) = true) (hs1 : Nat.ble s' (pS M) = true) (hc : c + pC N = c') (hs : s + pS N = s') (H : CQI C μ args mem (fun y m => InI y → Tx C S M K c' s' (pc + 3) L (.inl y :: rest) m) (fun e m => K (.inr e) m)) : Tx C S M K c s pc L st mem := by
  subst hst
  exact Tx.go hC ht fun h0 lv h h9 h1 h2 h3 => Or.inr ⟨hb, Tx.call (K := K) (S := S) (pc := pc) hC hN hl hr hc1 hs1 hc hs (fun q => by cases q) H (fun o m q hy => by
    cases o with
    | none => exact False.elim q
    | some v => cases v with
      | inl y => exact q hy
      | inr A => exact False.elim q) (fun e m q => q) h9 h1 h2 h3⟩
theorem Tx.statV (hC : Cmono C) {p μ b : Nat} {N : PM} {args rest : List WV} {c' s' : Nat} (ht : (pT M).find? (fun e => e.1 == pc) = some (pc, .invokestatic p, μ, b)) (hb : b ≠ 7) (hN : MT[μ]? = some N) (hst : st = args.reverse ++ rest) (hl : args.length = pN N) (hr : Nat.ble rest.length 8 = true) (hc1 : Nat.ble c' (pC M) = true) (hs1 : Nat.ble s' (pS M) = true) (hc : c + pC N = c') (hs : s + pS N = s') (H : CQV C μ args mem (fun m => Tx C S M K c' s' (pc + 3) L rest m) (fun e m => K (.inr e) m)) : Tx C S M K c s pc L st mem := by
  subst hst
  exact Tx.go hC ht fun h0 lv h h9 h1 h2 h3 => Or.inr ⟨hb, Tx.call (K := K) (S := S) (pc := pc) hC hN hl hr hc1 hs1 hc hs (fun q => by cases q) H (fun o m q hy => by
    cases o with
    | none => exact q
    | some v => cases v <;> exact False.elim q) (fun e m q => q) h9 h1 h2 h3⟩
/-- arraycopy -/
theorem Tx.copy (hC : Cmono C) {p a A0 A1 n0 n1 : Nat} {sp dp n : Int} (ht : (pT M).find? (fun e => e.1 == pc) = some (pc, .invokestatic p, a, 7)) (hA0 : shA A0 = some (.inl n0)) (hA1 : shA A1 = some (.inl n1)) (h1a : 0 ≤ sp ∧ 0 ≤ dp ∧ 0 ≤ n ∧ sp + n ≤ n0 ∧ dp + n ≤ n1) (hr : Nat.ble st.length 8 = true) (H : ∀ m', (∀ A i, ¬ A = A1 → m' A i = mem A i) → (∀ i, m' A1 i = if dp.toNat ≤ i ∧ i < dp.toNat + n.toNat then mem A0 (sp.toNat + (i - dp.toNat)) else mem A1 i) → Tx C S M K c s (pc + 3) L st m') : Tx C S M K c s pc L (.inl n :: .inl dp :: .inr A1 :: .inl sp :: .inr A0 :: st) mem :=
  Tx.go hC ht fun h0 lv h h9 h1 h2 h3 => by
    obtain ⟨f, e1, e2⟩ := h3.row hA0
    obtain ⟨g, g1, g2⟩ := h3.row hA1
    have i1 : InI n := h2 (.inl n) (by simp)
    have i2 : InI dp := h2 (.inl dp) (by simp)
    have i3 : InI sp := h2 (.inl sp) (by simp)
    have ng : ∀ x : Int, InI x → 0 ≤ x → ¬ Int32.ofInt x < 0 := fun x hx h0 q => by
      rw [Int32.lt_iff_toInt_lt, wi hx] at q
      have : (0 : Int32).toInt = 0 := rfl
      omega
    refine Or.inl ⟨rfl, ?_⟩
    show p_copy h (.int (Int32.ofInt n) :: .int (Int32.ofInt dp) :: .ref A1 :: .int (Int32.ofInt sp) :: .ref A0 :: st.map wv) _
    refine copy_mk e1 g1 (ng _ i3 h1a.1) (ng _ i2 h1a.2.1) (ng _ i1 h1a.2.2.1) (by rw [clampN i3 h1a.1, clampN i1 h1a.2.2.1]; omega) (by rw [clampN i2 h1a.2.1, clampN i1 h1a.2.2.1]; omega) ⟨by rw [cats1]; exact Nat.le_of_ble_eq_true hr, ?_⟩
    rw [clampN i3 h1a.1, clampN i1 h1a.2.2.1, clampN i2 h1a.2.1]
    refine H (fun A i => if A = A1 then (va_cpy f g sp.toNat dp.toNat n.toNat i).toInt else mem A i) (fun A i q => if_neg q) (fun i => ?_) h0 lv _ h9 h1 (fun u hu => h2 u (by simp [hu])) ?_
    · rw [if_pos rfl]
      unfold va_cpy
      split
      · rw [e2]
      · rw [g2]
    · have hl := (List.getElem?_eq_some_iff.mp g1).1
      refine ⟨fun B hB => by
        rw [List.getElem?_set_ne (fun q => by rw [← q, hA1] at hB; cases hB)]
        exact h3.1 B hB, ?_⟩
      intro B t hB
      by_cases hAB : A1 = B
      · subst hAB
        rw [hA1] at hB
        cases hB
        exact ⟨_, List.getElem?_set_self hl, _, rfl, fun j => if_pos rfl⟩
      · obtain ⟨y, k1, k2⟩ := h3.2 B t hB
        refine ⟨y, by rw [List.getElem?_set_ne hAB]; exact k1, ?_⟩
        have : (fun i => if B = A1 then (va_cpy f g sp.toNat dp.toNat n.toNat i).toInt else mem B i) = mem B := by
          funext j
          exact if_neg (fun q => hAB q.symm)
        show shR t (fun i => if B = A1 then (va_cpy f g sp.toNat dp.toNat n.toNat i).toInt else mem B i) y
        rw [this]; exact k2
end TX
theorem Tx.weak {C : CXW} {S : Nat × (Nat → Int32)} {M : PM} {K : TK} {c s pc : Nat} {L' L : List (Option WV)} {st : List WV} {mem : MM} (h : subL L' L) (H : Tx C S M K c s pc L' st mem) : Tx C S M K c s pc L st mem := fun h0 lv hh h9 h1 h2 h3 => H h0 lv hh h9 (fun i v hv => h1 i v (h.at hv)) h2 h3
/-- a method by hand -/
theorem CY.of {S : Nat × (Nat → Int32)} {n μ : Nat} {M : PM} {args : List WV} {mem : MM} {K : TK} (hM : MT[μ]? = some M) (hk : (pK M == 3) = false) (hl : Nat.ble args.length (pL M) = true) {k : Nat} (H : (∀ v ∈ args, vOK v) → Tx (Ex S n) S M K 0 0 0 (args.map some ++ List.replicate k none) [] mem) : CY (Ex S (n + 1)) μ args mem K := by
  intro ha h0 h h9 hh
  refine ⟨M, hM, by rw [cats1]; exact Nat.le_of_ble_eq_true hl, ?_⟩
  rw [if_neg (by simpa using hk)]
  refine H ha h0 _ h h9 ?_ (fun v hv => by cases hv) hh
  intro i v hv
  have hv : (args.map some)[i]? = some (some v) := by
    rw [List.getElem?_append] at hv
    split at hv
    · exact hv
    · rw [List.getElem?_replicate] at hv
      split at hv <;> cases hv
  rw [List.getElem?_map] at hv
  cases hv2 : args[i]? with
  | none => rw [hv2] at hv; cases hv
  | some u =>
    rw [hv2] at hv
    have hv : u = v := by cases hv; rfl
    subst hv
    refine ⟨?_, ha _ (List.mem_of_getElem? hv2)⟩
    have := pg_args (l := args.map wv) (k := 0) (i := i) (w := wv u) (fun w hw => by obtain ⟨z, -, rfl⟩ := List.mem_map.mp hw; exact wv_cat z) (by rw [List.getElem?_map, hv2]; rfl)
    rwa [Nat.zero_add] at this
/-! what the class's methods need: frames, charts, what holds of the class between calls -/
theorem tmo_b {x y : Int} (hy : 0 < y) : ((0 ≤ x → 0 ≤ x.tmod y ∧ x.tmod y < y ∧ x.tmod y ≤ x) ∧ (x ≤ 0 → x.tmod y ≤ 0)) ∧ -y < x.tmod y ∧ x.tmod y < y := by
  have a := Int.tmod_lt_of_pos x hy
  have b : -y < x.tmod y := by
    rcases Int.le_total 0 x with h | h
    · have := Int.tmod_nonneg y h; omega
    · have := Int.tmod_lt_of_pos (-x) hy
      rw [Int.neg_tmod] at this; omega
  refine ⟨⟨fun h => ?_, fun h => ?_⟩, b, a⟩
  · have h1 := Int.tmod_nonneg y h
    refine ⟨h1, a, ?_⟩
    have h2 := Int.tmod_def x y
    have h3 : 0 ≤ x.tdiv y := Int.tdiv_nonneg h (by omega)
    have h4 : 0 ≤ y * x.tdiv y := Int.mul_nonneg (by omega) h3
    omega
  · have h1 := Int.tmod_nonneg y (show 0 ≤ -x by omega)
    rw [Int.neg_tmod] at h1; omega
theorem tdv_b {x y z : Int} (hy : 0 < y) (e : z = x.tdiv y) : (0 ≤ x → 0 ≤ z ∧ z ≤ x ∧ 0 ≤ y * z ∧ y * z ≤ x ∧ x < y * z + y) ∧ (x ≤ 0 → z ≤ 0 ∧ x ≤ z ∧ x ≤ y * z ∧ y * z ≤ 0 ∧ y * z - y < x) := by
  have h := Int.tmod_def x y
  rw [← e] at h
  have b := tmo_b (x := x) hy
  refine ⟨fun h0 => ?_, fun h0 => ?_⟩
  · have h3 : 0 ≤ z := by rw [e]; exact Int.tdiv_nonneg h0 (by omega)
    have h4 : 0 ≤ y * z := Int.mul_nonneg (by omega) h3
    have h5 : z ≤ y * z := by
      have : 1 * z ≤ y * z := Int.mul_le_mul_of_nonneg_right (by omega) h3
      omega
    have := b.1.1 h0
    omega
  · have h3 : 0 ≤ -z := by rw [e, ← Int.neg_tdiv]; exact Int.tdiv_nonneg (by omega) (by omega)
    have h4 : 0 ≤ y * -z := Int.mul_nonneg (by omega) h3
    rw [Int.mul_neg] at h4
    have h5 : -z ≤ y * -z := by
      have : 1 * -z ≤ y * -z := Int.mul_le_mul_of_nonneg_right (by omega) h3
      omega
    rw [Int.mul_neg] at h5
    have := b.1.2 h0
    omega
theorem Tx.iremW {C : CXW} {S : Nat × (Nat → Int32)} {M : PM} {K : TK} {c s pc : Nat} {L : List (Option WV)} {st : List WV} {mem : MM} (hC : Cmono C) {a b : Nat} {x y : Int} (ht : (pT M).find? (fun e => e.1 == pc) = some (pc, .irem, a, b)) (hy : 0 < y) (H : ∀ z, InI z → z = x.tmod y → (((0 ≤ x → 0 ≤ z ∧ z < y ∧ z ≤ x) ∧ (x ≤ 0 → z ≤ 0)) ∧ -y < z ∧ z < y) → Tx C S M K c s (pc + 1) L (.inl z :: st) mem) : Tx C S M K c s pc L (.inl y :: .inl x :: st) mem := fun h0 lv h h9 h1 h2 h3 => by
  have hb := tmo_b (x := x) hy
  have iy : InI y := h2 _ List.mem_cons_self
  exact Tx.irem hC ht hy (H _ (by unfold InI at iy ⊢; omega) rfl hb) h0 lv h h9 h1 h2 h3
theorem Tx.idivW {C : CXW} {S : Nat × (Nat → Int32)} {M : PM} {K : TK} {c s pc : Nat} {L : List (Option WV)} {st : List WV} {mem : MM} (hC : Cmono C) {a b : Nat} {x y : Int} (ht : (pT M).find? (fun e => e.1 == pc) = some (pc, .idiv, a, b)) (hy : 0 < y) (H : ∀ z, InI z → z = x.tdiv y → ((0 ≤ x → 0 ≤ z ∧ z ≤ x) ∧ (x ≤ 0 → z ≤ 0 ∧ x ≤ z)) → Tx C S M K c s (pc + 1) L (.inl z :: st) mem) : Tx C S M K c s pc L (.inl y :: .inl x :: st) mem := fun h0 lv h h9 h1 h2 h3 => by
  have hb := tdv_b (x := x) hy rfl
  have ix : InI x := h2 _ (List.mem_cons_of_mem _ List.mem_cons_self)
  exact Tx.idiv hC ht hy (H _ (by unfold InI at ix ⊢; omega) rfl ⟨fun q => ⟨(hb.1 q).1, (hb.1 q).2.1⟩, fun q => ⟨(hb.2 q).1, (hb.2 q).2.1⟩⟩) h0 lv h h9 h1 h2 h3
theorem neg_msb (w : Int32) : w.toInt < 0 ↔ w.toBitVec.msb = true := by
  rw [BitVec.msb_eq_toInt, decide_eq_true_iff]
  exact Iff.rfl
theorem xor_neg {x y z : Int} (hx : InI x) (hy : InI y) (h0 : 0 < y) (e : z = ((fun (x y : Int32) => x ^^^ y) (Int32.ofInt x) (Int32.ofInt y)).toInt) : z < 0 ↔ x < 0 := by
  have hy2 : (Int32.ofInt y).toBitVec.msb = false := by
    cases q : (Int32.ofInt y).toBitVec.msb with
    | false => rfl
    | true =>
      have := (neg_msb _).mpr q
      rw [wi hy] at this
      omega
  rw [e, neg_msb]
  show ((Int32.ofInt x).toBitVec ^^^ (Int32.ofInt y).toBitVec).msb = true ↔ _
  rw [BitVec.msb_xor, hy2, Bool.xor_false, ← neg_msb, wi hx]
/-- what may have been written -/
def Frm (P : Nat → Nat → Prop) (m m' : MM) : Prop := ∀ A i, ¬ P A i → m' A i = m A i
theorem Frm.rf {P : Nat → Nat → Prop} {m : MM} : Frm P m m := fun _ _ _ => rfl
theorem Frm.tr {P : Nat → Nat → Prop} {a b c : MM} (h1 : Frm P a b) (h2 : Frm P b c) : Frm P a c := fun A i e => (h2 A i e).trans (h1 A i e)
theorem Frm.up {P : Nat → Nat → Prop} {m m1 : MM} {A i : Nat} {x : Int} (h : Frm P m m1) (q : P A i) : Frm P m (upm m1 A i x) := fun B j e => by
  rw [upm_ne (fun w => e (by rw [w.1, w.2]; exact q))]; exact h B j e
theorem Frm.mono {P P' : Nat → Nat → Prop} {m m' : MM} (h : Frm P m m') (q : ∀ A i, P A i → P' A i) : Frm P' m m' := fun A i e => h A i (fun w => e (q A i w))
/-- a chart -/
def ChSh (Q : Nat) : Prop := (∃ k, k < 13 ∧ Q = 38 + 7 * k) ∧ shA Q = some (.inr (1, [none, none, none, none, none, none, none, none, some (Q + 1), some (Q + 2), some (Q + 3), some (Q + 4), some (Q + 5), some (Q + 6)])) ∧ shA (Q + 1) = some (.inl 8) ∧ shA (Q + 2) = some (.inl 8) ∧ shA (Q + 3) = some (.inl 8) ∧ shA (Q + 4) = some (.inl 8) ∧ shA (Q + 5) = some (.inl 8) ∧ shA (Q + 6) = some (.inl 8)
theorem ChSh.of {k : Nat} (h : k < 13) : ChSh (38 + 7 * k) := by
  refine ⟨⟨k, h, rfl⟩, ?_⟩
  have a : k = 0 ∨ k = 1 ∨ k = 2 ∨ k = 3 ∨ k = 4 ∨ k = 5 ∨ k = 6 ∨ k = 7 ∨ k = 8 ∨ k = 9 ∨ k = 10 ∨ k = 11 ∨ k = 12 := by omega
  rcases a with a | a | a | a | a | a | a | a | a | a | a | a | a <;> subst a <;> exact ⟨rfl, rfl, rfl, rfl, rfl, rfl, rfl⟩
theorem ChSh.mk {Q : Nat} {i : Int} (e : Q = 38 + 7 * i.toNat) (h : 0 ≤ i ∧ i < 13) : ChSh Q := by
  rw [e]; exact ChSh.of (by omega)
theorem ChSh.s0 {Q : Nat} (h : ChSh Q) : shA Q = some (.inr (1, [none, none, none, none, none, none, none, none, some (Q + 1), some (Q + 2), some (Q + 3), some (Q + 4), some (Q + 5), some (Q + 6)])) := h.2.1
theorem ChSh.s1 {Q : Nat} (h : ChSh Q) : shA (Q + 1) = some (.inl 8) := h.2.2.1
theorem ChSh.s2 {Q : Nat} (h : ChSh Q) : shA (Q + 2) = some (.inl 8) := h.2.2.2.1
theorem ChSh.s3 {Q : Nat} (h : ChSh Q) : shA (Q + 3) = some (.inl 8) := h.2.2.2.2.1
theorem ChSh.s4 {Q : Nat} (h : ChSh Q) : shA (Q + 4) = some (.inl 8) := h.2.2.2.2.2.1
theorem ChSh.s5 {Q : Nat} (h : ChSh Q) : shA (Q + 5) = some (.inl 8) := h.2.2.2.2.2.2.1
theorem ChSh.s6 {Q : Nat} (h : ChSh Q) : shA (Q + 6) = some (.inl 8) := h.2.2.2.2.2.2.2
theorem rowP {R : Nat} {i : Int} (e : R = 136 + i.toNat) (h : 0 ≤ i ∧ i < 2) : shA R = some (.inl 64) := by
  have a : i.toNat = 0 ∨ i.toNat = 1 := by omega
  rcases a with a | a <;> rw [e, a] <;> rfl
def ChtOK (m : MM) (Q : Nat) : Prop := ((0 ≤ m Q 2 ∧ m Q 2 ≤ 8) ∧ (1 ≤ m Q 3 ∧ m Q 3 ≤ 12) ∧ 0 ≤ m Q 1 ∧ m Q 1 ≤ 1) ∧ ∀ o, o < 8 → (0 ≤ m (Q + 1) o ∧ m (Q + 1) o ≤ 11) ∧ (0 ≤ m (Q + 2) o ∧ m (Q + 2) o ≤ 11000) ∧ 0 ≤ m (Q + 3) o ∧ m (Q + 3) o ≤ 11010
theorem ChtOK.fr {m m' : MM} {Q : Nat} (h : ChtOK m Q) (e : ∀ A i, Q ≤ A → A ≤ Q + 3 → m' A i = m A i) : ChtOK m' Q := by
  refine ⟨?_, fun o ho => ?_⟩
  · rw [e Q 1 (by omega) (by omega), e Q 2 (by omega) (by omega), e Q 3 (by omega) (by omega)]; exact h.1
  · rw [e (Q + 1) o (by omega) (by omega), e (Q + 2) o (by omega) (by omega), e (Q + 3) o (by omega) (by omega)]; exact h.2 o ho
theorem BodyOK.kd {m : MM} (h : BodyOK m) {o : Nat} (ho : o < 8) : 0 ≤ m 2 o ∧ m 2 o ≤ 5 := (h.2.1 o ho).1
theorem BodyOK.un {m : MM} (h : BodyOK m) {o : Nat} (ho : o < 6) : 0 ≤ m 5 o ∧ m 5 o ≤ 2 := h.2.2.1 o ho
theorem BodyOK.la {m : MM} (h : BodyOK m) {o : Nat} (ho : o < 6) : 1 ≤ m 6 o ∧ m 6 o ≤ 6 := h.2.2.2.1 o ho
theorem BodyOK.bu {m : MM} (h : BodyOK m) {o : Nat} (ho : o < 6) : 1 ≤ m 7 o ∧ m 7 o ≤ 15 := h.2.2.2.2.1 o ho
theorem BodyOK.cn {m : MM} (h : BodyOK m) {o : Nat} (ho : o < 3) : 1 ≤ m 8 o ∧ m 8 o ≤ 3 := h.2.2.2.2.2 o ho
/-- needs lead from op to op -/
def WbS (m : MM) : Prop := ∀ j : Nat, (j : Int) < m 9 0 → m 10 j < m 1 0 ∧ m 11 j < m 1 0
/-- the class between calls -/
def CI (m : MM) : Prop := BodyOK m ∧ WbOK m 9 ∧ WbOK m 14 ∧ (0 ≤ m 19 0 ∧ m 19 0 ≤ 8) ∧ HsOK m ∧ (∀ o, o < 8 → 0 ≤ m 24 o ∧ m 24 o ≤ 2) ∧ (∀ Q, ChSh Q → ChtOK m Q) ∧ (0 ≤ m 0 10 ∧ m 0 10 ≤ 1) ∧ (0 ≤ m 0 11 ∧ m 0 11 ≤ 1) ∧ (m 0 11 = 0 → m 0 10 = 1 → WbS m)
/-- the class writes its own cells alone -/
abbrev FrC (m m' : MM) : Prop := ∀ A i, 143 ≤ A → m' A i = m A i
theorem CI.b {m : MM} (h : CI m) : BodyOK m := h.1
theorem CI.w {m : MM} (h : CI m) : WbOK m 9 := h.2.1
theorem CI.w2 {m : MM} (h : CI m) : WbOK m 14 := h.2.2.1
theorem CI.r {m : MM} (h : CI m) : 0 ≤ m 19 0 ∧ m 19 0 ≤ 8 := h.2.2.2.1
theorem CI.hs {m : MM} (h : CI m) : HsOK m := h.2.2.2.2.1
theorem CI.un {m : MM} (h : CI m) : ∀ o, o < 8 → 0 ≤ m 24 o ∧ m 24 o ≤ 2 := h.2.2.2.2.2.1
theorem CI.ch {m : MM} (h : CI m) : ∀ Q, ChSh Q → ChtOK m Q := h.2.2.2.2.2.2.1
theorem CI.so {m : MM} (h : CI m) : 0 ≤ m 0 10 ∧ m 0 10 ≤ 1 := h.2.2.2.2.2.2.2.1
theorem CI.st {m : MM} (h : CI m) : 0 ≤ m 0 11 ∧ m 0 11 ≤ 1 := h.2.2.2.2.2.2.2.2.1
theorem CI.ws {m : MM} (h : CI m) : m 0 11 = 0 → m 0 10 = 1 → WbS m := h.2.2.2.2.2.2.2.2.2
theorem FrC.rf {m : MM} : FrC m m := fun _ _ _ => rfl
theorem FrC.tr {a b c : MM} (h1 : FrC a b) (h2 : FrC b c) : FrC a c := fun A i e => (h2 A i e).trans (h1 A i e)
/-! methods known by hand, for Tx -/
section QQ
variable {S : Nat × (Nat → Int32)} {n : Nat} {mem : MM} {K : Int → MM → Prop} {E : Nat → MM → Prop}
theorem f_40q {a b : Int} (H : ∀ r, a ≤ r → b ≤ r → (r = a ∨ r = b) → K r mem) : CQI (Ex S (n + 1)) 40 [.inl a, .inl b] mem K E := CWI.q (Ex.mono S (n + 1)) (f_40 (H _ (by omega) (by omega) (by omega)))
theorem f_29q {a b : Int} (H : ∀ r, r ≤ a → r ≤ b → (r = a ∨ r = b) → K r mem) : CQI (Ex S (n + 1)) 29 [.inl a, .inl b] mem K E := CWI.q (Ex.mono S (n + 1)) (f_29 (H _ (by omega) (by omega) (by omega)))
theorem f_13q {o : Int} (h : 0 ≤ o ∧ o < 8) (H : ∀ r, r = csN mem o.toNat → 0 ≤ r → r ≤ 2 → K r mem) : CQI (Ex S (n + 1)) 13 [.inr 1, .inl o] mem K E := CWI.q (Ex.mono S (n + 1)) (f_13 h (H _ rfl (csN_le _ _).1 (csN_le _ _).2))
theorem f_14q {o k : Int} (ho : 0 ≤ o ∧ o < 8) (hk : 0 ≤ k ∧ k < 2) (H : ∀ r, r = mem 3 (4 * o.toNat + 2 * k.toNat) → K r mem) : CQI (Ex S (n + 1)) 14 [.inr 1, .inl o, .inl k] mem K E := by
  obtain ⟨a, rfl⟩ : ∃ a : Nat, o = a := ⟨o.toNat, by omega⟩
  obtain ⟨b, rfl⟩ : ∃ b : Nat, k = b := ⟨k.toNat, by omega⟩
  exact CWI.q (Ex.mono S (n + 1)) (f_14 (by omega) (by omega) (H _ (by rw [Int.toNat_natCast, Int.toNat_natCast])))
theorem f_15q {o k : Int} (ho : 0 ≤ o ∧ o < 8) (hk : 0 ≤ k ∧ k < 2) (H : ∀ r, r = mem 3 (4 * o.toNat + 2 * k.toNat + 1) → K r mem) : CQI (Ex S (n + 1)) 15 [.inr 1, .inl o, .inl k] mem K E := by
  obtain ⟨a, rfl⟩ : ∃ a : Nat, o = a := ⟨o.toNat, by omega⟩
  obtain ⟨b, rfl⟩ : ∃ b : Nat, k = b := ⟨k.toNat, by omega⟩
  exact CWI.q (Ex.mono S (n + 1)) (f_15 (by omega) (by omega) (H _ (by rw [Int.toNat_natCast, Int.toNat_natCast])))
theorem f_24q {o : Int} (ho : 0 ≤ o ∧ o < 8) (H : ∀ r, r = rowB mem o.toNat → K r mem) : CQI (Ex S (n + 1)) 24 [.inr 1, .inl o] mem K E := by
  obtain ⟨a, rfl⟩ : ∃ a : Nat, o = a := ⟨o.toNat, by omega⟩
  exact CWI.q (Ex.mono S (n + 1)) (f_24 (by omega) (H _ (by rw [Int.toNat_natCast])))
theorem f_25q {o : Int} (ho : 0 ≤ o ∧ o < 8) (H : ∀ r, r = plcB mem o.toNat → K r mem) : CQI (Ex S (n + 1)) 25 [.inr 1, .inl o] mem K E := by
  obtain ⟨a, rfl⟩ : ∃ a : Nat, o = a := ⟨o.toNat, by omega⟩
  exact CWI.q (Ex.mono S (n + 1)) (f_25 (by omega) (H _ (by rw [Int.toNat_natCast])))
theorem f_14s (hB : BodyOK mem) {o k : Int} (ho : 0 ≤ o ∧ o < 8) (hk : 0 ≤ k ∧ k < csN mem o.toNat) (H : ∀ r, r = mem 3 (4 * o.toNat + 2 * k.toNat) → -2 ≤ r → r ≤ 7 → K r mem) : CQI (Ex S (n + 1)) 14 [.inr 1, .inl o, .inl k] mem K E := by
  have hs := hB.src (o := o.toNat) (k := k.toNat) (by omega) (by omega)
  have := csN_le mem o.toNat
  unfold srcOK at hs
  exact f_14q ho (by omega) (fun r e => H r e (by omega) (by omega))
theorem f_15s (hB : BodyOK mem) {o k : Int} (ho : 0 ≤ o ∧ o < 8) (hk : 0 ≤ k ∧ k < csN mem o.toNat) (H : ∀ r, (0 ≤ mem 3 (4 * o.toNat + 2 * k.toNat) → 0 ≤ r ∧ r ≤ 3) → K r mem) : CQI (Ex S (n + 1)) 15 [.inr 1, .inl o, .inl k] mem K E := by
  have hs := hB.src (o := o.toNat) (k := k.toNat) (by omega) (by omega)
  have := csN_le mem o.toNat
  unfold srcOK at hs
  exact f_15q ho (by omega) (fun r e => H r (fun q => by omega))
end QQ
theorem ru_fin {a b z r w : Int} (h1 : 0 < b) (h2 : 0 < a) (e : z = -a) (hz : -2147483647 ≤ z) (ra : b * r ≤ z) (rb : z < b * r + b) (r1 : -2147483648 ≤ r) (r2 : r ≤ 2147483647) (we : -2147483648 ≤ -r ∧ -r ≤ 2147483647 → w = -r) : b * (w - 1) < a ∧ a ≤ b * w ∧ 0 < w := by
  have q : ¬ r = -2147483648 := by
    intro q
    subst q
    omega
  have hw : w = -r := we ⟨by omega, by omega⟩
  subst hw
  have e1 : b * (-r - 1) = -(b * r) - b := by rw [Int.mul_sub, Int.mul_neg, Int.mul_one]
  have e2 : b * -r = -(b * r) := Int.mul_neg _ _
  refine ⟨by omega, by omega, ?_⟩
  rcases Int.le_total (-r) 0 with h | h
  · have : b * -r ≤ b * 0 := Int.mul_le_mul_of_nonneg_left h (by omega)
    omega
  · by_cases z0 : r = 0
    · subst z0; omega
    · omega
/-! laid by wip/hand/tg.py: methods of the class that only read, and those that ask -/
set_option maxRecDepth 100000 in
theorem mt_16 : MT[16]? = some M_16 := rfl
set_option maxRecDepth 100000 in
theorem mt_32 : MT[32]? = some M_32 := rfl
set_option maxRecDepth 100000 in
theorem mt_33 : MT[33]? = some M_33 := rfl
set_option maxRecDepth 100000 in
theorem mt_34 : MT[34]? = some M_34 := rfl
set_option maxRecDepth 100000 in
theorem mt_35 : MT[35]? = some M_35 := rfl
set_option maxRecDepth 100000 in
theorem mt_36 : MT[36]? = some M_36 := rfl
set_option maxRecDepth 100000 in
theorem mt_39 : MT[39]? = some M_39 := rfl
set_option maxRecDepth 100000 in
theorem mt_41 : MT[41]? = some M_41 := rfl
set_option maxRecDepth 100000 in
theorem mt_42 : MT[42]? = some M_42 := rfl
set_option maxRecDepth 100000 in
theorem mt_45 : MT[45]? = some M_45 := rfl
set_option maxRecDepth 100000 in
theorem mt_50 : MT[50]? = some M_50 := rfl
set_option maxRecDepth 100000 in
theorem mt_57 : MT[57]? = some M_57 := rfl
set_option maxRecDepth 100000 in
theorem mt_60 : MT[60]? = some M_60 := rfl
set_option maxRecDepth 100000 in
theorem mt_63 : MT[63]? = some M_63 := rfl
set_option maxRecDepth 100000 in
theorem mt_66 : MT[66]? = some M_66 := rfl
set_option maxRecDepth 100000 in
theorem mt_70 : MT[70]? = some M_70 := rfl
set_option maxRecDepth 100000 in
theorem mt_74 : MT[74]? = some M_74 := rfl
set_option maxRecDepth 100000 in
theorem mt_94 : MT[94]? = some M_94 := rfl
set_option maxRecDepth 100000 in
theorem mt_108 : MT[108]? = some M_108 := rfl
set_option maxRecDepth 100000 in
theorem mt_118 : MT[118]? = some M_118 := rfl
set_option maxRecDepth 100000 in
theorem mt_119 : MT[119]? = some M_119 := rfl
set_option maxRecDepth 100000 in
theorem mt_120 : MT[120]? = some M_120 := rfl
set_option maxRecDepth 100000 in
theorem mt_141 : MT[141]? = some M_141 := rfl
set_option maxRecDepth 100000 in
theorem mt_142 : MT[142]? = some M_142 := rfl
set_option maxRecDepth 100000 in
theorem mt_143 : MT[143]? = some M_143 := rfl
set_option maxRecDepth 100000 in
theorem mt_146 : MT[146]? = some M_146 := rfl
set_option maxRecDepth 100000 in
theorem mt_151 : MT[151]? = some M_151 := rfl
set_option maxRecDepth 100000 in
theorem mt_152 : MT[152]? = some M_152 := rfl
set_option maxRecDepth 100000 in
theorem mt_155 : MT[155]? = some M_155 := rfl
set_option maxRecDepth 100000 in
theorem mt_156 : MT[156]? = some M_156 := rfl
set_option maxRecDepth 100000 in
theorem mt_157 : MT[157]? = some M_157 := rfl
set_option maxRecDepth 100000 in
theorem mt_160 : MT[160]? = some M_160 := rfl
set_option maxRecDepth 100000 in
theorem mt_163 : MT[163]? = some M_163 := rfl
set_option maxRecDepth 100000 in
theorem mt_164 : MT[164]? = some M_164 := rfl
set_option maxRecDepth 100000 in
theorem mt_167 : MT[167]? = some M_167 := rfl
set_option maxRecDepth 100000 in
theorem mt_176 : MT[176]? = some M_176 := rfl
set_option maxRecDepth 100000 in
theorem mt_186 : MT[186]? = some M_186 := rfl
set_option maxRecDepth 100000 in
theorem mt_204 : MT[204]? = some M_204 := rfl
set_option maxRecDepth 100000 in
theorem mt_205 : MT[205]? = some M_205 := rfl
set_option maxRecDepth 100000 in
theorem mt_208 : MT[208]? = some M_208 := rfl
set_option maxRecDepth 100000 in
theorem mt_211 : MT[211]? = some M_211 := rfl
set_option maxRecDepth 100000 in
theorem mt_212 : MT[212]? = some M_212 := rfl
set_option maxRecDepth 100000 in
theorem mt_216 : MT[216]? = some M_216 := rfl
set_option maxRecDepth 100000 in
theorem mt_217 : MT[217]? = some M_217 := rfl
theorem te_16_0 : (pT M_16).find? (fun e => e.1 == 0) = some (0, .iload_n 2, 0, 0) := rfl
theorem te_16_1 : (pT M_16).find? (fun e => e.1 == 1) = some (1, .ifCond .ge 5, 0, 0) := rfl
theorem te_16_4 : (pT M_16).find? (fun e => e.1 == 4) = some (4, .iconst 1, 0, 0) := rfl
theorem te_16_5 : (pT M_16).find? (fun e => e.1 == 5) = some (5, .ireturn, 0, 0) := rfl
theorem te_16_6 : (pT M_16).find? (fun e => e.1 == 6) = some (6, .iload_n 2, 0, 0) := rfl
theorem te_16_7 : (pT M_16).find? (fun e => e.1 == 7) = some (7, .aload_n 0, 0, 0) := rfl
theorem te_16_8 : (pT M_16).find? (fun e => e.1 == 8) = some (8, .getfield 33, 0, 0) := rfl
theorem te_16_11 : (pT M_16).find? (fun e => e.1 == 11) = some (11, .if_icmp .ge 13, 0, 0) := rfl
theorem te_16_14 : (pT M_16).find? (fun e => e.1 == 14) = some (14, .aload_n 0, 0, 0) := rfl
theorem te_16_15 : (pT M_16).find? (fun e => e.1 == 15) = some (15, .getfield 9, 0, 1) := rfl
theorem te_16_18 : (pT M_16).find? (fun e => e.1 == 18) = some (18, .iload_n 2, 0, 0) := rfl
theorem te_16_19 : (pT M_16).find? (fun e => e.1 == 19) = some (19, .iaload, 0, 0) := rfl
theorem te_16_20 : (pT M_16).find? (fun e => e.1 == 20) = some (20, .iconst 5, 0, 0) := rfl
theorem te_16_21 : (pT M_16).find? (fun e => e.1 == 21) = some (21, .if_icmp .ne 5, 0, 0) := rfl
theorem te_16_24 : (pT M_16).find? (fun e => e.1 == 24) = some (24, .iconst 0, 0, 0) := rfl
theorem te_16_25 : (pT M_16).find? (fun e => e.1 == 25) = some (25, .ireturn, 0, 0) := rfl
theorem te_16_26 : (pT M_16).find? (fun e => e.1 == 26) = some (26, .iload_n 3, 0, 0) := rfl
theorem te_16_27 : (pT M_16).find? (fun e => e.1 == 27) = some (27, .ifCond .gt 8, 0, 0) := rfl
theorem te_16_30 : (pT M_16).find? (fun e => e.1 == 30) = some (30, .iload_n 2, 0, 0) := rfl
theorem te_16_31 : (pT M_16).find? (fun e => e.1 == 31) = some (31, .iload_n 1, 0, 0) := rfl
theorem te_16_32 : (pT M_16).find? (fun e => e.1 == 32) = some (32, .if_icmp .ge 7, 0, 0) := rfl
theorem te_16_35 : (pT M_16).find? (fun e => e.1 == 35) = some (35, .iconst 1, 0, 0) := rfl
theorem te_16_36 : (pT M_16).find? (fun e => e.1 == 36) = some (36, .goto 4, 0, 0) := rfl
theorem te_16_39 : (pT M_16).find? (fun e => e.1 == 39) = some (39, .iconst 0, 0, 0) := rfl
theorem te_16_40 : (pT M_16).find? (fun e => e.1 == 40) = some (40, .ireturn, 0, 0) := rfl
theorem te_32_0 : (pT M_32).find? (fun e => e.1 == 0) = some (0, .aload_n 0, 0, 0) := rfl
theorem te_32_1 : (pT M_32).find? (fun e => e.1 == 1) = some (1, .getfield 28, 7, 5) := rfl
theorem te_32_4 : (pT M_32).find? (fun e => e.1 == 4) = some (4, .aload_n 0, 0, 0) := rfl
theorem te_32_5 : (pT M_32).find? (fun e => e.1 == 5) = some (5, .getfield 24, 7, 6) := rfl
theorem te_32_8 : (pT M_32).find? (fun e => e.1 == 8) = some (8, .invokestatic 31, 33, 3) := rfl
theorem te_32_11 : (pT M_32).find? (fun e => e.1 == 11) = some (11, .ireturn, 0, 0) := rfl
theorem te_33_0 : (pT M_33).find? (fun e => e.1 == 0) = some (0, .iload_n 1, 0, 0) := rfl
theorem te_33_1 : (pT M_33).find? (fun e => e.1 == 1) = some (1, .ifCond .gt 7, 0, 0) := rfl
theorem te_33_4 : (pT M_33).find? (fun e => e.1 == 4) = some (4, .iconst 0, 0, 0) := rfl
theorem te_33_5 : (pT M_33).find? (fun e => e.1 == 5) = some (5, .goto 10, 0, 0) := rfl
theorem te_33_8 : (pT M_33).find? (fun e => e.1 == 8) = some (8, .iload_n 0, 0, 0) := rfl
theorem te_33_9 : (pT M_33).find? (fun e => e.1 == 9) = some (9, .ineg, 0, 0) := rfl
theorem te_33_10 : (pT M_33).find? (fun e => e.1 == 10) = some (10, .iload_n 1, 0, 0) := rfl
theorem te_33_11 : (pT M_33).find? (fun e => e.1 == 11) = some (11, .invokestatic 450, 34, 2) := rfl
theorem te_33_14 : (pT M_33).find? (fun e => e.1 == 14) = some (14, .ineg, 0, 0) := rfl
theorem te_33_15 : (pT M_33).find? (fun e => e.1 == 15) = some (15, .ireturn, 0, 0) := rfl
theorem te_34_0 : (pT M_34).find? (fun e => e.1 == 0) = some (0, .iload_n 0, 0, 0) := rfl
theorem te_34_1 : (pT M_34).find? (fun e => e.1 == 1) = some (1, .iload_n 1, 0, 0) := rfl
theorem te_34_2 : (pT M_34).find? (fun e => e.1 == 2) = some (2, .idiv, 0, 0) := rfl
theorem te_34_3 : (pT M_34).find? (fun e => e.1 == 3) = some (3, .istore_n 2, 0, 0) := rfl
theorem te_34_4 : (pT M_34).find? (fun e => e.1 == 4) = some (4, .iload_n 0, 0, 0) := rfl
theorem te_34_5 : (pT M_34).find? (fun e => e.1 == 5) = some (5, .iload_n 1, 0, 0) := rfl
theorem te_34_6 : (pT M_34).find? (fun e => e.1 == 6) = some (6, .ixor, 0, 0) := rfl
theorem te_34_7 : (pT M_34).find? (fun e => e.1 == 7) = some (7, .ifCond .ge 14, 0, 0) := rfl
theorem te_34_10 : (pT M_34).find? (fun e => e.1 == 10) = some (10, .iload_n 2, 0, 0) := rfl
theorem te_34_11 : (pT M_34).find? (fun e => e.1 == 11) = some (11, .iload_n 1, 0, 0) := rfl
theorem te_34_12 : (pT M_34).find? (fun e => e.1 == 12) = some (12, .imul, 0, 0) := rfl
theorem te_34_13 : (pT M_34).find? (fun e => e.1 == 13) = some (13, .iload_n 0, 0, 0) := rfl
theorem te_34_14 : (pT M_34).find? (fun e => e.1 == 14) = some (14, .if_icmp .eq 7, 0, 0) := rfl
theorem te_34_17 : (pT M_34).find? (fun e => e.1 == 17) = some (17, .iload_n 2, 0, 0) := rfl
theorem te_34_18 : (pT M_34).find? (fun e => e.1 == 18) = some (18, .iconst 1, 0, 0) := rfl
theorem te_34_19 : (pT M_34).find? (fun e => e.1 == 19) = some (19, .isub, 0, 0) := rfl
theorem te_34_20 : (pT M_34).find? (fun e => e.1 == 20) = some (20, .ireturn, 0, 0) := rfl
theorem te_34_21 : (pT M_34).find? (fun e => e.1 == 21) = some (21, .iload_n 2, 0, 0) := rfl
theorem te_34_22 : (pT M_34).find? (fun e => e.1 == 22) = some (22, .ireturn, 0, 0) := rfl
theorem te_35_0 : (pT M_35).find? (fun e => e.1 == 0) = some (0, .iconst 0, 0, 0) := rfl
theorem te_35_1 : (pT M_35).find? (fun e => e.1 == 1) = some (1, .istore_n 3, 0, 0) := rfl
theorem te_35_2 : (pT M_35).find? (fun e => e.1 == 2) = some (2, .iconst 0, 0, 0) := rfl
theorem te_35_3 : (pT M_35).find? (fun e => e.1 == 3) = some (3, .istore 4, 0, 0) := rfl
theorem te_35_5 : (pT M_35).find? (fun e => e.1 == 5) = some (5, .iload 4, 0, 0) := rfl
theorem te_35_7 : (pT M_35).find? (fun e => e.1 == 7) = some (7, .iconst 3, 0, 0) := rfl
theorem te_35_8 : (pT M_35).find? (fun e => e.1 == 8) = some (8, .if_icmp .ge 54, 0, 0) := rfl
theorem te_35_11 : (pT M_35).find? (fun e => e.1 == 11) = some (11, .iload 4, 0, 0) := rfl
theorem te_35_13 : (pT M_35).find? (fun e => e.1 == 13) = some (13, .iload_n 1, 0, 0) := rfl
theorem te_35_14 : (pT M_35).find? (fun e => e.1 == 14) = some (14, .if_icmp .ne 15, 0, 0) := rfl
theorem te_35_17 : (pT M_35).find? (fun e => e.1 == 17) = some (17, .aload_n 0, 0, 0) := rfl
theorem te_35_18 : (pT M_35).find? (fun e => e.1 == 18) = some (18, .getfield 30, 0, 7) := rfl
theorem te_35_21 : (pT M_35).find? (fun e => e.1 == 21) = some (21, .iload 4, 0, 0) := rfl
theorem te_35_23 : (pT M_35).find? (fun e => e.1 == 23) = some (23, .iaload, 0, 0) := rfl
theorem te_35_24 : (pT M_35).find? (fun e => e.1 == 24) = some (24, .iconst 1, 0, 0) := rfl
theorem te_35_25 : (pT M_35).find? (fun e => e.1 == 25) = some (25, .iadd, 0, 0) := rfl
theorem te_35_26 : (pT M_35).find? (fun e => e.1 == 26) = some (26, .goto 10, 0, 0) := rfl
theorem te_35_29 : (pT M_35).find? (fun e => e.1 == 29) = some (29, .aload_n 0, 0, 0) := rfl
theorem te_35_30 : (pT M_35).find? (fun e => e.1 == 30) = some (30, .getfield 30, 0, 7) := rfl
theorem te_35_33 : (pT M_35).find? (fun e => e.1 == 33) = some (33, .iload 4, 0, 0) := rfl
theorem te_35_35 : (pT M_35).find? (fun e => e.1 == 35) = some (35, .iaload, 0, 0) := rfl
theorem te_35_36 : (pT M_35).find? (fun e => e.1 == 36) = some (36, .istore 5, 0, 0) := rfl
theorem te_35_38 : (pT M_35).find? (fun e => e.1 == 38) = some (38, .iload_n 3, 0, 0) := rfl
theorem te_35_39 : (pT M_35).find? (fun e => e.1 == 39) = some (39, .iload_n 2, 0, 0) := rfl
theorem te_35_40 : (pT M_35).find? (fun e => e.1 == 40) = some (40, .aload_n 0, 0, 0) := rfl
theorem te_35_41 : (pT M_35).find? (fun e => e.1 == 41) = some (41, .iload 4, 0, 0) := rfl
theorem te_35_43 : (pT M_35).find? (fun e => e.1 == 43) = some (43, .invokevirtual 66, 36, 0) := rfl
theorem te_35_46 : (pT M_35).find? (fun e => e.1 == 46) = some (46, .imul, 0, 0) := rfl
theorem te_35_47 : (pT M_35).find? (fun e => e.1 == 47) = some (47, .iload 5, 0, 0) := rfl
theorem te_35_49 : (pT M_35).find? (fun e => e.1 == 49) = some (49, .invokestatic 69, 33, 3) := rfl
theorem te_35_52 : (pT M_35).find? (fun e => e.1 == 52) = some (52, .invokestatic 72, 40, 2) := rfl
theorem te_35_55 : (pT M_35).find? (fun e => e.1 == 55) = some (55, .istore_n 3, 0, 0) := rfl
theorem te_35_56 : (pT M_35).find? (fun e => e.1 == 56) = some (56, .iinc 4 1, 0, 0) := rfl
theorem te_35_59 : (pT M_35).find? (fun e => e.1 == 59) = some (59, .goto (-54), 0, 0) := rfl
theorem te_35_62 : (pT M_35).find? (fun e => e.1 == 62) = some (62, .iload_n 3, 0, 0) := rfl
theorem te_35_63 : (pT M_35).find? (fun e => e.1 == 63) = some (63, .ireturn, 0, 0) := rfl
theorem te_36_0 : (pT M_36).find? (fun e => e.1 == 0) = some (0, .iconst 0, 0, 0) := rfl
theorem te_36_1 : (pT M_36).find? (fun e => e.1 == 1) = some (1, .istore_n 2, 0, 0) := rfl
theorem te_36_2 : (pT M_36).find? (fun e => e.1 == 2) = some (2, .iconst 0, 0, 0) := rfl
theorem te_36_3 : (pT M_36).find? (fun e => e.1 == 3) = some (3, .istore_n 3, 0, 0) := rfl
theorem te_36_4 : (pT M_36).find? (fun e => e.1 == 4) = some (4, .iload_n 3, 0, 0) := rfl
theorem te_36_5 : (pT M_36).find? (fun e => e.1 == 5) = some (5, .aload_n 0, 0, 0) := rfl
theorem te_36_6 : (pT M_36).find? (fun e => e.1 == 6) = some (6, .getfield 33, 0, 0) := rfl
theorem te_36_9 : (pT M_36).find? (fun e => e.1 == 9) = some (9, .if_icmp .ge 29, 0, 0) := rfl
theorem te_36_12 : (pT M_36).find? (fun e => e.1 == 12) = some (12, .aload_n 0, 0, 0) := rfl
theorem te_36_13 : (pT M_36).find? (fun e => e.1 == 13) = some (13, .iload_n 3, 0, 0) := rfl
theorem te_36_14 : (pT M_36).find? (fun e => e.1 == 14) = some (14, .invokevirtual 52, 37, 0) := rfl
theorem te_36_17 : (pT M_36).find? (fun e => e.1 == 17) = some (17, .iload_n 1, 0, 0) := rfl
theorem te_36_18 : (pT M_36).find? (fun e => e.1 == 18) = some (18, .if_icmp .ne 14, 0, 0) := rfl
theorem te_36_21 : (pT M_36).find? (fun e => e.1 == 21) = some (21, .iload_n 2, 0, 0) := rfl
theorem te_36_22 : (pT M_36).find? (fun e => e.1 == 22) = some (22, .aload_n 0, 0, 0) := rfl
theorem te_36_23 : (pT M_36).find? (fun e => e.1 == 23) = some (23, .iload_n 3, 0, 0) := rfl
theorem te_36_24 : (pT M_36).find? (fun e => e.1 == 24) = some (24, .invokevirtual 55, 38, 0) := rfl
theorem te_36_27 : (pT M_36).find? (fun e => e.1 == 27) = some (27, .invokestatic 58, 39, 2) := rfl
theorem te_36_30 : (pT M_36).find? (fun e => e.1 == 30) = some (30, .iadd, 0, 0) := rfl
theorem te_36_31 : (pT M_36).find? (fun e => e.1 == 31) = some (31, .istore_n 2, 0, 0) := rfl
theorem te_36_32 : (pT M_36).find? (fun e => e.1 == 32) = some (32, .iinc 3 1, 0, 0) := rfl
theorem te_36_35 : (pT M_36).find? (fun e => e.1 == 35) = some (35, .goto (-31), 0, 0) := rfl
theorem te_36_38 : (pT M_36).find? (fun e => e.1 == 38) = some (38, .iload_n 2, 0, 0) := rfl
theorem te_36_39 : (pT M_36).find? (fun e => e.1 == 39) = some (39, .ireturn, 0, 0) := rfl
theorem te_39_0 : (pT M_39).find? (fun e => e.1 == 0) = some (0, .iload_n 0, 0, 0) := rfl
theorem te_39_1 : (pT M_39).find? (fun e => e.1 == 1) = some (1, .iload_n 0, 0, 0) := rfl
theorem te_39_2 : (pT M_39).find? (fun e => e.1 == 2) = some (2, .iconst 1, 0, 0) := rfl
theorem te_39_3 : (pT M_39).find? (fun e => e.1 == 3) = some (3, .iushr, 0, 0) := rfl
theorem te_39_4 : (pT M_39).find? (fun e => e.1 == 4) = some (4, .ldc_w 265, 0, 0) := rfl
theorem te_39_7 : (pT M_39).find? (fun e => e.1 == 7) = some (7, .iand, 0, 0) := rfl
theorem te_39_8 : (pT M_39).find? (fun e => e.1 == 8) = some (8, .isub, 0, 0) := rfl
theorem te_39_9 : (pT M_39).find? (fun e => e.1 == 9) = some (9, .istore_n 0, 0, 0) := rfl
theorem te_39_10 : (pT M_39).find? (fun e => e.1 == 10) = some (10, .iload_n 0, 0, 0) := rfl
theorem te_39_11 : (pT M_39).find? (fun e => e.1 == 11) = some (11, .ldc_w 266, 1, 0) := rfl
theorem te_39_14 : (pT M_39).find? (fun e => e.1 == 14) = some (14, .iand, 0, 0) := rfl
theorem te_39_15 : (pT M_39).find? (fun e => e.1 == 15) = some (15, .iload_n 0, 0, 0) := rfl
theorem te_39_16 : (pT M_39).find? (fun e => e.1 == 16) = some (16, .iconst 2, 0, 0) := rfl
theorem te_39_17 : (pT M_39).find? (fun e => e.1 == 17) = some (17, .iushr, 0, 0) := rfl
theorem te_39_18 : (pT M_39).find? (fun e => e.1 == 18) = some (18, .ldc_w 266, 1, 0) := rfl
theorem te_39_21 : (pT M_39).find? (fun e => e.1 == 21) = some (21, .iand, 0, 0) := rfl
theorem te_39_22 : (pT M_39).find? (fun e => e.1 == 22) = some (22, .iadd, 0, 0) := rfl
theorem te_39_23 : (pT M_39).find? (fun e => e.1 == 23) = some (23, .istore_n 0, 0, 0) := rfl
theorem te_39_24 : (pT M_39).find? (fun e => e.1 == 24) = some (24, .iload_n 0, 0, 0) := rfl
theorem te_39_25 : (pT M_39).find? (fun e => e.1 == 25) = some (25, .iload_n 0, 0, 0) := rfl
theorem te_39_26 : (pT M_39).find? (fun e => e.1 == 26) = some (26, .iconst 4, 0, 0) := rfl
theorem te_39_27 : (pT M_39).find? (fun e => e.1 == 27) = some (27, .iushr, 0, 0) := rfl
theorem te_39_28 : (pT M_39).find? (fun e => e.1 == 28) = some (28, .iadd, 0, 0) := rfl
theorem te_39_29 : (pT M_39).find? (fun e => e.1 == 29) = some (29, .ldc_w 267, 2, 0) := rfl
theorem te_39_32 : (pT M_39).find? (fun e => e.1 == 32) = some (32, .iand, 0, 0) := rfl
theorem te_39_33 : (pT M_39).find? (fun e => e.1 == 33) = some (33, .istore_n 0, 0, 0) := rfl
theorem te_39_34 : (pT M_39).find? (fun e => e.1 == 34) = some (34, .iload_n 0, 0, 0) := rfl
theorem te_39_35 : (pT M_39).find? (fun e => e.1 == 35) = some (35, .iload_n 0, 0, 0) := rfl
theorem te_39_36 : (pT M_39).find? (fun e => e.1 == 36) = some (36, .bipush 8, 0, 0) := rfl
theorem te_39_38 : (pT M_39).find? (fun e => e.1 == 38) = some (38, .iushr, 0, 0) := rfl
theorem te_39_39 : (pT M_39).find? (fun e => e.1 == 39) = some (39, .iadd, 0, 0) := rfl
theorem te_39_40 : (pT M_39).find? (fun e => e.1 == 40) = some (40, .istore_n 0, 0, 0) := rfl
theorem te_39_41 : (pT M_39).find? (fun e => e.1 == 41) = some (41, .iload_n 0, 0, 0) := rfl
theorem te_39_42 : (pT M_39).find? (fun e => e.1 == 42) = some (42, .iload_n 0, 0, 0) := rfl
theorem te_39_43 : (pT M_39).find? (fun e => e.1 == 43) = some (43, .bipush 16, 0, 0) := rfl
theorem te_39_45 : (pT M_39).find? (fun e => e.1 == 45) = some (45, .iushr, 0, 0) := rfl
theorem te_39_46 : (pT M_39).find? (fun e => e.1 == 46) = some (46, .iadd, 0, 0) := rfl
theorem te_39_47 : (pT M_39).find? (fun e => e.1 == 47) = some (47, .istore_n 0, 0, 0) := rfl
theorem te_39_48 : (pT M_39).find? (fun e => e.1 == 48) = some (48, .iload_n 0, 0, 0) := rfl
theorem te_39_49 : (pT M_39).find? (fun e => e.1 == 49) = some (49, .bipush 63, 0, 0) := rfl
theorem te_39_51 : (pT M_39).find? (fun e => e.1 == 51) = some (51, .iand, 0, 0) := rfl
theorem te_39_52 : (pT M_39).find? (fun e => e.1 == 52) = some (52, .ireturn, 0, 0) := rfl
theorem te_41_0 : (pT M_41).find? (fun e => e.1 == 0) = some (0, .iconst 1, 0, 0) := rfl
theorem te_41_1 : (pT M_41).find? (fun e => e.1 == 1) = some (1, .iload_n 1, 0, 0) := rfl
theorem te_41_2 : (pT M_41).find? (fun e => e.1 == 2) = some (2, .aload_n 0, 0, 0) := rfl
theorem te_41_3 : (pT M_41).find? (fun e => e.1 == 3) = some (3, .getfield 19, 9, 1) := rfl
theorem te_41_6 : (pT M_41).find? (fun e => e.1 == 6) = some (6, .getfield 339, 7, 5) := rfl
theorem te_41_9 : (pT M_41).find? (fun e => e.1 == 9) = some (9, .imul, 0, 0) := rfl
theorem te_41_10 : (pT M_41).find? (fun e => e.1 == 10) = some (10, .aload_n 0, 0, 0) := rfl
theorem te_41_11 : (pT M_41).find? (fun e => e.1 == 11) = some (11, .getfield 19, 9, 1) := rfl
theorem te_41_14 : (pT M_41).find? (fun e => e.1 == 14) = some (14, .getfield 336, 7, 6) := rfl
theorem te_41_17 : (pT M_41).find? (fun e => e.1 == 17) = some (17, .invokestatic 393, 33, 2) := rfl
theorem te_41_20 : (pT M_41).find? (fun e => e.1 == 20) = some (20, .aload_n 0, 0, 0) := rfl
theorem te_41_21 : (pT M_41).find? (fun e => e.1 == 21) = some (21, .getfield 12, 9, 0) := rfl
theorem te_41_24 : (pT M_41).find? (fun e => e.1 == 24) = some (24, .iconst (-1), 0, 0) := rfl
theorem te_41_25 : (pT M_41).find? (fun e => e.1 == 25) = some (25, .iload_n 1, 0, 0) := rfl
theorem te_41_26 : (pT M_41).find? (fun e => e.1 == 26) = some (26, .invokevirtual 358, 35, 1) := rfl
theorem te_41_29 : (pT M_41).find? (fun e => e.1 == 29) = some (29, .invokestatic 228, 40, 2) := rfl
theorem te_41_32 : (pT M_41).find? (fun e => e.1 == 32) = some (32, .invokestatic 228, 40, 2) := rfl
theorem te_41_35 : (pT M_41).find? (fun e => e.1 == 35) = some (35, .ireturn, 0, 0) := rfl
theorem te_42_0 : (pT M_42).find? (fun e => e.1 == 0) = some (0, .iconst 0, 0, 0) := rfl
theorem te_42_1 : (pT M_42).find? (fun e => e.1 == 1) = some (1, .istore_n 1, 0, 0) := rfl
theorem te_42_2 : (pT M_42).find? (fun e => e.1 == 2) = some (2, .iconst 0, 0, 0) := rfl
theorem te_42_3 : (pT M_42).find? (fun e => e.1 == 3) = some (3, .istore_n 2, 0, 0) := rfl
theorem te_42_4 : (pT M_42).find? (fun e => e.1 == 4) = some (4, .iload_n 2, 0, 0) := rfl
theorem te_42_5 : (pT M_42).find? (fun e => e.1 == 5) = some (5, .aload_n 0, 0, 0) := rfl
theorem te_42_6 : (pT M_42).find? (fun e => e.1 == 6) = some (6, .getfield 33, 0, 0) := rfl
theorem te_42_9 : (pT M_42).find? (fun e => e.1 == 9) = some (9, .if_icmp .ge 17, 0, 0) := rfl
theorem te_42_12 : (pT M_42).find? (fun e => e.1 == 12) = some (12, .iload_n 1, 0, 0) := rfl
theorem te_42_13 : (pT M_42).find? (fun e => e.1 == 13) = some (13, .aload_n 0, 0, 0) := rfl
theorem te_42_14 : (pT M_42).find? (fun e => e.1 == 14) = some (14, .iload_n 2, 0, 0) := rfl
theorem te_42_15 : (pT M_42).find? (fun e => e.1 == 15) = some (15, .invokevirtual 63, 19, 0) := rfl
theorem te_42_18 : (pT M_42).find? (fun e => e.1 == 18) = some (18, .iadd, 0, 0) := rfl
theorem te_42_19 : (pT M_42).find? (fun e => e.1 == 19) = some (19, .istore_n 1, 0, 0) := rfl
theorem te_42_20 : (pT M_42).find? (fun e => e.1 == 20) = some (20, .iinc 2 1, 0, 0) := rfl
theorem te_42_23 : (pT M_42).find? (fun e => e.1 == 23) = some (23, .goto (-19), 0, 0) := rfl
theorem te_42_26 : (pT M_42).find? (fun e => e.1 == 26) = some (26, .iload_n 1, 0, 0) := rfl
theorem te_42_27 : (pT M_42).find? (fun e => e.1 == 27) = some (27, .ireturn, 0, 0) := rfl
theorem te_45_0 : (pT M_45).find? (fun e => e.1 == 0) = some (0, .iload_n 0, 0, 0) := rfl
theorem te_45_1 : (pT M_45).find? (fun e => e.1 == 1) = some (1, .iconst (-1), 0, 0) := rfl
theorem te_45_2 : (pT M_45).find? (fun e => e.1 == 2) = some (2, .if_icmp .ne 5, 0, 0) := rfl
theorem te_45_5 : (pT M_45).find? (fun e => e.1 == 5) = some (5, .iconst 1, 0, 0) := rfl
theorem te_45_6 : (pT M_45).find? (fun e => e.1 == 6) = some (6, .ireturn, 0, 0) := rfl
theorem te_45_7 : (pT M_45).find? (fun e => e.1 == 7) = some (7, .iload_n 0, 0, 0) := rfl
theorem te_45_8 : (pT M_45).find? (fun e => e.1 == 8) = some (8, .bipush (-2), 0, 0) := rfl
theorem te_45_10 : (pT M_45).find? (fun e => e.1 == 10) = some (10, .if_icmp .ne 21, 0, 0) := rfl
theorem te_45_13 : (pT M_45).find? (fun e => e.1 == 13) = some (13, .iload_n 1, 0, 0) := rfl
theorem te_45_14 : (pT M_45).find? (fun e => e.1 == 14) = some (14, .bipush (-99), 0, 0) := rfl
theorem te_45_16 : (pT M_45).find? (fun e => e.1 == 16) = some (16, .if_icmp .lt 13, 0, 0) := rfl
theorem te_45_19 : (pT M_45).find? (fun e => e.1 == 19) = some (19, .iload_n 1, 0, 0) := rfl
theorem te_45_20 : (pT M_45).find? (fun e => e.1 == 20) = some (20, .bipush 99, 0, 0) := rfl
theorem te_45_22 : (pT M_45).find? (fun e => e.1 == 22) = some (22, .if_icmp .gt 7, 0, 0) := rfl
theorem te_45_25 : (pT M_45).find? (fun e => e.1 == 25) = some (25, .iconst 1, 0, 0) := rfl
theorem te_45_26 : (pT M_45).find? (fun e => e.1 == 26) = some (26, .goto 4, 0, 0) := rfl
theorem te_45_29 : (pT M_45).find? (fun e => e.1 == 29) = some (29, .iconst 0, 0, 0) := rfl
theorem te_45_30 : (pT M_45).find? (fun e => e.1 == 30) = some (30, .ireturn, 0, 0) := rfl
theorem te_45_31 : (pT M_45).find? (fun e => e.1 == 31) = some (31, .iload_n 0, 0, 0) := rfl
theorem te_45_32 : (pT M_45).find? (fun e => e.1 == 32) = some (32, .ifCond .lt 22, 0, 0) := rfl
theorem te_45_35 : (pT M_45).find? (fun e => e.1 == 35) = some (35, .iload_n 0, 0, 0) := rfl
theorem te_45_36 : (pT M_45).find? (fun e => e.1 == 36) = some (36, .bipush 8, 0, 0) := rfl
theorem te_45_38 : (pT M_45).find? (fun e => e.1 == 38) = some (38, .if_icmp .ge 16, 0, 0) := rfl
theorem te_45_41 : (pT M_45).find? (fun e => e.1 == 41) = some (41, .iload_n 1, 0, 0) := rfl
theorem te_45_42 : (pT M_45).find? (fun e => e.1 == 42) = some (42, .ifCond .lt 12, 0, 0) := rfl
theorem te_45_45 : (pT M_45).find? (fun e => e.1 == 45) = some (45, .iload_n 1, 0, 0) := rfl
theorem te_45_46 : (pT M_45).find? (fun e => e.1 == 46) = some (46, .iconst 3, 0, 0) := rfl
theorem te_45_47 : (pT M_45).find? (fun e => e.1 == 47) = some (47, .if_icmp .gt 7, 0, 0) := rfl
theorem te_45_50 : (pT M_45).find? (fun e => e.1 == 50) = some (50, .iconst 1, 0, 0) := rfl
theorem te_45_51 : (pT M_45).find? (fun e => e.1 == 51) = some (51, .goto 4, 0, 0) := rfl
theorem te_45_54 : (pT M_45).find? (fun e => e.1 == 54) = some (54, .iconst 0, 0, 0) := rfl
theorem te_45_55 : (pT M_45).find? (fun e => e.1 == 55) = some (55, .ireturn, 0, 0) := rfl
theorem te_50_0 : (pT M_50).find? (fun e => e.1 == 0) = some (0, .iload_n 0, 0, 0) := rfl
theorem te_50_1 : (pT M_50).find? (fun e => e.1 == 1) = some (1, .ifCond .lt 22, 0, 0) := rfl
theorem te_50_4 : (pT M_50).find? (fun e => e.1 == 4) = some (4, .iload_n 0, 0, 0) := rfl
theorem te_50_5 : (pT M_50).find? (fun e => e.1 == 5) = some (5, .iconst 1, 0, 0) := rfl
theorem te_50_6 : (pT M_50).find? (fun e => e.1 == 6) = some (6, .if_icmp .gt 17, 0, 0) := rfl
theorem te_50_9 : (pT M_50).find? (fun e => e.1 == 9) = some (9, .iload_n 1, 0, 0) := rfl
theorem te_50_10 : (pT M_50).find? (fun e => e.1 == 10) = some (10, .ifCond .lt 13, 0, 0) := rfl
theorem te_50_13 : (pT M_50).find? (fun e => e.1 == 13) = some (13, .iload_n 1, 0, 0) := rfl
theorem te_50_14 : (pT M_50).find? (fun e => e.1 == 14) = some (14, .bipush 7, 0, 0) := rfl
theorem te_50_16 : (pT M_50).find? (fun e => e.1 == 16) = some (16, .if_icmp .gt 7, 0, 0) := rfl
theorem te_50_19 : (pT M_50).find? (fun e => e.1 == 19) = some (19, .iconst 1, 0, 0) := rfl
theorem te_50_20 : (pT M_50).find? (fun e => e.1 == 20) = some (20, .goto 4, 0, 0) := rfl
theorem te_50_23 : (pT M_50).find? (fun e => e.1 == 23) = some (23, .iconst 0, 0, 0) := rfl
theorem te_50_24 : (pT M_50).find? (fun e => e.1 == 24) = some (24, .ireturn, 0, 0) := rfl
theorem te_57_0 : (pT M_57).find? (fun e => e.1 == 0) = some (0, .iload_n 1, 0, 0) := rfl
theorem te_57_1 : (pT M_57).find? (fun e => e.1 == 1) = some (1, .ifCond .lt 14, 0, 0) := rfl
theorem te_57_4 : (pT M_57).find? (fun e => e.1 == 4) = some (4, .iload_n 1, 0, 0) := rfl
theorem te_57_5 : (pT M_57).find? (fun e => e.1 == 5) = some (5, .aload_n 0, 0, 0) := rfl
theorem te_57_6 : (pT M_57).find? (fun e => e.1 == 6) = some (6, .getfield 12, 9, 0) := rfl
theorem te_57_9 : (pT M_57).find? (fun e => e.1 == 9) = some (9, .getfield 101, 0, 0) := rfl
theorem te_57_12 : (pT M_57).find? (fun e => e.1 == 12) = some (12, .if_icmp .lt 14, 0, 0) := rfl
theorem te_57_15 : (pT M_57).find? (fun e => e.1 == 15) = some (15, .new 426, 23, 1) := rfl
theorem te_57_26 : (pT M_57).find? (fun e => e.1 == 26) = some (26, .return_, 0, 0) := rfl
theorem te_60_0 : (pT M_60).find? (fun e => e.1 == 0) = some (0, .iload_n 1, 0, 0) := rfl
theorem te_60_1 : (pT M_60).find? (fun e => e.1 == 1) = some (1, .ifCond .lt 9, 0, 0) := rfl
theorem te_60_4 : (pT M_60).find? (fun e => e.1 == 4) = some (4, .iload_n 1, 0, 0) := rfl
theorem te_60_5 : (pT M_60).find? (fun e => e.1 == 5) = some (5, .bipush 6, 0, 0) := rfl
theorem te_60_7 : (pT M_60).find? (fun e => e.1 == 7) = some (7, .if_icmp .lt 14, 0, 0) := rfl
theorem te_60_10 : (pT M_60).find? (fun e => e.1 == 10) = some (10, .new 426, 25, 1) := rfl
theorem te_60_21 : (pT M_60).find? (fun e => e.1 == 21) = some (21, .return_, 0, 0) := rfl
theorem te_63_0 : (pT M_63).find? (fun e => e.1 == 0) = some (0, .iload_n 1, 0, 0) := rfl
theorem te_63_1 : (pT M_63).find? (fun e => e.1 == 1) = some (1, .ifCond .lt 8, 0, 0) := rfl
theorem te_63_4 : (pT M_63).find? (fun e => e.1 == 4) = some (4, .iload_n 1, 0, 0) := rfl
theorem te_63_5 : (pT M_63).find? (fun e => e.1 == 5) = some (5, .iconst 3, 0, 0) := rfl
theorem te_63_6 : (pT M_63).find? (fun e => e.1 == 6) = some (6, .if_icmp .lt 14, 0, 0) := rfl
theorem te_63_9 : (pT M_63).find? (fun e => e.1 == 9) = some (9, .new 426, 24, 1) := rfl
theorem te_63_20 : (pT M_63).find? (fun e => e.1 == 20) = some (20, .return_, 0, 0) := rfl
theorem te_66_0 : (pT M_66).find? (fun e => e.1 == 0) = some (0, .iload_n 0, 0, 0) := rfl
theorem te_66_1 : (pT M_66).find? (fun e => e.1 == 1) = some (1, .ifCond .lt 8, 0, 0) := rfl
theorem te_66_4 : (pT M_66).find? (fun e => e.1 == 4) = some (4, .iload_n 0, 0, 0) := rfl
theorem te_66_5 : (pT M_66).find? (fun e => e.1 == 5) = some (5, .iload_n 1, 0, 0) := rfl
theorem te_66_6 : (pT M_66).find? (fun e => e.1 == 6) = some (6, .if_icmp .le 14, 0, 0) := rfl
theorem te_66_9 : (pT M_66).find? (fun e => e.1 == 9) = some (9, .new 439, 27, 1) := rfl
theorem te_66_20 : (pT M_66).find? (fun e => e.1 == 20) = some (20, .return_, 0, 0) := rfl
theorem te_70_0 : (pT M_70).find? (fun e => e.1 == 0) = some (0, .iload_n 1, 0, 0) := rfl
theorem te_70_1 : (pT M_70).find? (fun e => e.1 == 1) = some (1, .ifCond .lt 14, 0, 0) := rfl
theorem te_70_4 : (pT M_70).find? (fun e => e.1 == 4) = some (4, .iload_n 1, 0, 0) := rfl
theorem te_70_5 : (pT M_70).find? (fun e => e.1 == 5) = some (5, .aload_n 0, 0, 0) := rfl
theorem te_70_6 : (pT M_70).find? (fun e => e.1 == 6) = some (6, .getfield 19, 9, 1) := rfl
theorem te_70_9 : (pT M_70).find? (fun e => e.1 == 9) = some (9, .getfield 386, 7, 0) := rfl
theorem te_70_12 : (pT M_70).find? (fun e => e.1 == 12) = some (12, .if_icmp .lt 14, 0, 0) := rfl
theorem te_70_15 : (pT M_70).find? (fun e => e.1 == 15) = some (15, .new 426, 26, 1) := rfl
theorem te_70_26 : (pT M_70).find? (fun e => e.1 == 26) = some (26, .return_, 0, 0) := rfl
theorem te_74_0 : (pT M_74).find? (fun e => e.1 == 0) = some (0, .iload_n 0, 0, 0) := rfl
theorem te_74_1 : (pT M_74).find? (fun e => e.1 == 1) = some (1, .iconst 1, 0, 0) := rfl
theorem te_74_2 : (pT M_74).find? (fun e => e.1 == 2) = some (2, .if_icmp .lt 9, 0, 0) := rfl
theorem te_74_5 : (pT M_74).find? (fun e => e.1 == 5) = some (5, .iload_n 0, 0, 0) := rfl
theorem te_74_6 : (pT M_74).find? (fun e => e.1 == 6) = some (6, .bipush 12, 0, 0) := rfl
theorem te_74_8 : (pT M_74).find? (fun e => e.1 == 8) = some (8, .if_icmp .le 14, 0, 0) := rfl
theorem te_74_11 : (pT M_74).find? (fun e => e.1 == 11) = some (11, .new 83, 14, 1) := rfl
theorem te_74_22 : (pT M_74).find? (fun e => e.1 == 22) = some (22, .return_, 0, 0) := rfl
theorem te_94_0 : (pT M_94).find? (fun e => e.1 == 0) = some (0, .iload_n 0, 0, 0) := rfl
theorem te_94_1 : (pT M_94).find? (fun e => e.1 == 1) = some (1, .iload_n 1, 0, 0) := rfl
theorem te_94_2 : (pT M_94).find? (fun e => e.1 == 2) = some (2, .irem, 0, 0) := rfl
theorem te_94_3 : (pT M_94).find? (fun e => e.1 == 3) = some (3, .istore_n 2, 0, 0) := rfl
theorem te_94_4 : (pT M_94).find? (fun e => e.1 == 4) = some (4, .iload_n 0, 0, 0) := rfl
theorem te_94_5 : (pT M_94).find? (fun e => e.1 == 5) = some (5, .iload_n 1, 0, 0) := rfl
theorem te_94_6 : (pT M_94).find? (fun e => e.1 == 6) = some (6, .ixor, 0, 0) := rfl
theorem te_94_7 : (pT M_94).find? (fun e => e.1 == 7) = some (7, .ifCond .ge 11, 0, 0) := rfl
theorem te_94_10 : (pT M_94).find? (fun e => e.1 == 10) = some (10, .iload_n 2, 0, 0) := rfl
theorem te_94_11 : (pT M_94).find? (fun e => e.1 == 11) = some (11, .ifCond .eq 7, 0, 0) := rfl
theorem te_94_14 : (pT M_94).find? (fun e => e.1 == 14) = some (14, .iload_n 2, 0, 0) := rfl
theorem te_94_15 : (pT M_94).find? (fun e => e.1 == 15) = some (15, .iload_n 1, 0, 0) := rfl
theorem te_94_16 : (pT M_94).find? (fun e => e.1 == 16) = some (16, .iadd, 0, 0) := rfl
theorem te_94_17 : (pT M_94).find? (fun e => e.1 == 17) = some (17, .ireturn, 0, 0) := rfl
theorem te_94_18 : (pT M_94).find? (fun e => e.1 == 18) = some (18, .iload_n 2, 0, 0) := rfl
theorem te_94_19 : (pT M_94).find? (fun e => e.1 == 19) = some (19, .ireturn, 0, 0) := rfl
theorem te_108_0 : (pT M_108).find? (fun e => e.1 == 0) = some (0, .aload_n 0, 0, 0) := rfl
theorem te_108_1 : (pT M_108).find? (fun e => e.1 == 1) = some (1, .getfield 9, 1, 3) := rfl
theorem te_108_4 : (pT M_108).find? (fun e => e.1 == 4) = some (4, .ifCond .gt 7, 0, 0) := rfl
theorem te_108_7 : (pT M_108).find? (fun e => e.1 == 7) = some (7, .iconst 0, 0, 0) := rfl
theorem te_108_8 : (pT M_108).find? (fun e => e.1 == 8) = some (8, .goto 14, 0, 0) := rfl
theorem te_108_11 : (pT M_108).find? (fun e => e.1 == 11) = some (11, .aload_n 0, 0, 0) := rfl
theorem te_108_12 : (pT M_108).find? (fun e => e.1 == 12) = some (12, .getfield 19, 1, 9) := rfl
theorem te_108_15 : (pT M_108).find? (fun e => e.1 == 15) = some (15, .iload_n 1, 0, 0) := rfl
theorem te_108_16 : (pT M_108).find? (fun e => e.1 == 16) = some (16, .iaload, 0, 0) := rfl
theorem te_108_17 : (pT M_108).find? (fun e => e.1 == 17) = some (17, .aload_n 0, 0, 0) := rfl
theorem te_108_18 : (pT M_108).find? (fun e => e.1 == 18) = some (18, .getfield 9, 1, 3) := rfl
theorem te_108_21 : (pT M_108).find? (fun e => e.1 == 21) = some (21, .idiv, 0, 0) := rfl
theorem te_108_22 : (pT M_108).find? (fun e => e.1 == 22) = some (22, .ireturn, 0, 0) := rfl
theorem te_118_0 : (pT M_118).find? (fun e => e.1 == 0) = some (0, .iload_n 0, 0, 0) := rfl
theorem te_118_1 : (pT M_118).find? (fun e => e.1 == 1) = some (1, .ifCond .lt 8, 0, 0) := rfl
theorem te_118_4 : (pT M_118).find? (fun e => e.1 == 4) = some (4, .iload_n 0, 0, 0) := rfl
theorem te_118_5 : (pT M_118).find? (fun e => e.1 == 5) = some (5, .iload_n 1, 0, 0) := rfl
theorem te_118_6 : (pT M_118).find? (fun e => e.1 == 6) = some (6, .if_icmp .lt 14, 0, 0) := rfl
theorem te_118_9 : (pT M_118).find? (fun e => e.1 == 9) = some (9, .new 83, 15, 1) := rfl
theorem te_118_20 : (pT M_118).find? (fun e => e.1 == 20) = some (20, .return_, 0, 0) := rfl
theorem te_119_0 : (pT M_119).find? (fun e => e.1 == 0) = some (0, .iconst 0, 0, 0) := rfl
theorem te_119_1 : (pT M_119).find? (fun e => e.1 == 1) = some (1, .istore 4, 0, 0) := rfl
theorem te_119_3 : (pT M_119).find? (fun e => e.1 == 3) = some (3, .iconst 0, 0, 0) := rfl
theorem te_119_4 : (pT M_119).find? (fun e => e.1 == 4) = some (4, .istore 5, 0, 0) := rfl
theorem te_119_6 : (pT M_119).find? (fun e => e.1 == 6) = some (6, .iload 5, 0, 0) := rfl
theorem te_119_8 : (pT M_119).find? (fun e => e.1 == 8) = some (8, .aload_n 0, 0, 0) := rfl
theorem te_119_9 : (pT M_119).find? (fun e => e.1 == 9) = some (9, .getfield 39, 1, 2) := rfl
theorem te_119_12 : (pT M_119).find? (fun e => e.1 == 12) = some (12, .if_icmp .ge 32, 0, 0) := rfl
theorem te_119_15 : (pT M_119).find? (fun e => e.1 == 15) = some (15, .aload_n 1, 0, 0) := rfl
theorem te_119_16 : (pT M_119).find? (fun e => e.1 == 16) = some (16, .iload 5, 0, 0) := rfl
theorem te_119_18 : (pT M_119).find? (fun e => e.1 == 18) = some (18, .invokevirtual 130, 37, 1) := rfl
theorem te_119_21 : (pT M_119).find? (fun e => e.1 == 21) = some (21, .iload_n 2, 0, 0) := rfl
theorem te_119_22 : (pT M_119).find? (fun e => e.1 == 22) = some (22, .if_icmp .ne 16, 0, 0) := rfl
theorem te_119_25 : (pT M_119).find? (fun e => e.1 == 25) = some (25, .iload 4, 0, 0) := rfl
theorem te_119_27 : (pT M_119).find? (fun e => e.1 == 27) = some (27, .aload_n 0, 0, 0) := rfl
theorem te_119_28 : (pT M_119).find? (fun e => e.1 == 28) = some (28, .aload_n 1, 0, 0) := rfl
theorem te_119_29 : (pT M_119).find? (fun e => e.1 == 29) = some (29, .iload 5, 0, 0) := rfl
theorem te_119_31 : (pT M_119).find? (fun e => e.1 == 31) = some (31, .iload_n 3, 0, 0) := rfl
theorem te_119_32 : (pT M_119).find? (fun e => e.1 == 32) = some (32, .invokevirtual 133, 120, 0) := rfl
theorem te_119_35 : (pT M_119).find? (fun e => e.1 == 35) = some (35, .iadd, 0, 0) := rfl
theorem te_119_36 : (pT M_119).find? (fun e => e.1 == 36) = some (36, .istore 4, 0, 0) := rfl
theorem te_119_38 : (pT M_119).find? (fun e => e.1 == 38) = some (38, .iinc 5 1, 0, 0) := rfl
theorem te_119_41 : (pT M_119).find? (fun e => e.1 == 41) = some (41, .goto (-35), 0, 0) := rfl
theorem te_119_44 : (pT M_119).find? (fun e => e.1 == 44) = some (44, .iload 4, 0, 0) := rfl
theorem te_119_46 : (pT M_119).find? (fun e => e.1 == 46) = some (46, .ireturn, 0, 0) := rfl
theorem te_120_0 : (pT M_120).find? (fun e => e.1 == 0) = some (0, .iconst 0, 0, 0) := rfl
theorem te_120_1 : (pT M_120).find? (fun e => e.1 == 1) = some (1, .istore 4, 0, 0) := rfl
theorem te_120_3 : (pT M_120).find? (fun e => e.1 == 3) = some (3, .iconst 0, 0, 0) := rfl
theorem te_120_4 : (pT M_120).find? (fun e => e.1 == 4) = some (4, .istore 5, 0, 0) := rfl
theorem te_120_6 : (pT M_120).find? (fun e => e.1 == 6) = some (6, .iload 5, 0, 0) := rfl
theorem te_120_8 : (pT M_120).find? (fun e => e.1 == 8) = some (8, .iconst 4, 0, 0) := rfl
theorem te_120_9 : (pT M_120).find? (fun e => e.1 == 9) = some (9, .if_icmp .ge 43, 0, 0) := rfl
theorem te_120_12 : (pT M_120).find? (fun e => e.1 == 12) = some (12, .aload_n 1, 0, 0) := rfl
theorem te_120_13 : (pT M_120).find? (fun e => e.1 == 13) = some (13, .iload_n 2, 0, 0) := rfl
theorem te_120_14 : (pT M_120).find? (fun e => e.1 == 14) = some (14, .invokevirtual 127, 38, 1) := rfl
theorem te_120_17 : (pT M_120).find? (fun e => e.1 == 17) = some (17, .iconst 1, 0, 0) := rfl
theorem te_120_18 : (pT M_120).find? (fun e => e.1 == 18) = some (18, .iload 5, 0, 0) := rfl
theorem te_120_20 : (pT M_120).find? (fun e => e.1 == 20) = some (20, .ishl, 0, 0) := rfl
theorem te_120_21 : (pT M_120).find? (fun e => e.1 == 21) = some (21, .iand, 0, 0) := rfl
theorem te_120_22 : (pT M_120).find? (fun e => e.1 == 22) = some (22, .ifCond .eq 24, 0, 0) := rfl
theorem te_120_25 : (pT M_120).find? (fun e => e.1 == 25) = some (25, .aload_n 0, 0, 0) := rfl
theorem te_120_26 : (pT M_120).find? (fun e => e.1 == 26) = some (26, .getfield 15, 1, 8) := rfl
theorem te_120_29 : (pT M_120).find? (fun e => e.1 == 29) = some (29, .iload_n 2, 0, 0) := rfl
theorem te_120_30 : (pT M_120).find? (fun e => e.1 == 30) = some (30, .iaload, 0, 0) := rfl
theorem te_120_31 : (pT M_120).find? (fun e => e.1 == 31) = some (31, .iload 5, 0, 0) := rfl
theorem te_120_33 : (pT M_120).find? (fun e => e.1 == 33) = some (33, .iadd, 0, 0) := rfl
theorem te_120_34 : (pT M_120).find? (fun e => e.1 == 34) = some (34, .aload_n 0, 0, 0) := rfl
theorem te_120_35 : (pT M_120).find? (fun e => e.1 == 35) = some (35, .getfield 9, 1, 3) := rfl
theorem te_120_38 : (pT M_120).find? (fun e => e.1 == 38) = some (38, .irem, 0, 0) := rfl
theorem te_120_39 : (pT M_120).find? (fun e => e.1 == 39) = some (39, .iload_n 3, 0, 0) := rfl
theorem te_120_40 : (pT M_120).find? (fun e => e.1 == 40) = some (40, .if_icmp .ne 6, 0, 0) := rfl
theorem te_120_43 : (pT M_120).find? (fun e => e.1 == 43) = some (43, .iinc 4 1, 0, 0) := rfl
theorem te_120_46 : (pT M_120).find? (fun e => e.1 == 46) = some (46, .iinc 5 1, 0, 0) := rfl
theorem te_120_49 : (pT M_120).find? (fun e => e.1 == 49) = some (49, .goto (-43), 0, 0) := rfl
theorem te_120_52 : (pT M_120).find? (fun e => e.1 == 52) = some (52, .iload 4, 0, 0) := rfl
theorem te_120_54 : (pT M_120).find? (fun e => e.1 == 54) = some (54, .ireturn, 0, 0) := rfl
theorem te_141_0 : (pT M_141).find? (fun e => e.1 == 0) = some (0, .iconst 0, 0, 0) := rfl
theorem te_141_1 : (pT M_141).find? (fun e => e.1 == 1) = some (1, .istore_n 1, 0, 0) := rfl
theorem te_141_2 : (pT M_141).find? (fun e => e.1 == 2) = some (2, .iconst 0, 0, 0) := rfl
theorem te_141_3 : (pT M_141).find? (fun e => e.1 == 3) = some (3, .istore_n 2, 0, 0) := rfl
theorem te_141_4 : (pT M_141).find? (fun e => e.1 == 4) = some (4, .iload_n 2, 0, 0) := rfl
theorem te_141_5 : (pT M_141).find? (fun e => e.1 == 5) = some (5, .aload_n 0, 0, 0) := rfl
theorem te_141_6 : (pT M_141).find? (fun e => e.1 == 6) = some (6, .getfield 39, 1, 2) := rfl
theorem te_141_9 : (pT M_141).find? (fun e => e.1 == 9) = some (9, .if_icmp .ge 18, 0, 0) := rfl
theorem te_141_12 : (pT M_141).find? (fun e => e.1 == 12) = some (12, .iload_n 1, 0, 0) := rfl
theorem te_141_13 : (pT M_141).find? (fun e => e.1 == 13) = some (13, .aload_n 0, 0, 0) := rfl
theorem te_141_14 : (pT M_141).find? (fun e => e.1 == 14) = some (14, .getfield 31, 1, 13) := rfl
theorem te_141_17 : (pT M_141).find? (fun e => e.1 == 17) = some (17, .iload_n 2, 0, 0) := rfl
theorem te_141_18 : (pT M_141).find? (fun e => e.1 == 18) = some (18, .iaload, 0, 0) := rfl
theorem te_141_19 : (pT M_141).find? (fun e => e.1 == 19) = some (19, .iadd, 0, 0) := rfl
theorem te_141_20 : (pT M_141).find? (fun e => e.1 == 20) = some (20, .istore_n 1, 0, 0) := rfl
theorem te_141_21 : (pT M_141).find? (fun e => e.1 == 21) = some (21, .iinc 2 1, 0, 0) := rfl
theorem te_141_24 : (pT M_141).find? (fun e => e.1 == 24) = some (24, .goto (-20), 0, 0) := rfl
theorem te_141_27 : (pT M_141).find? (fun e => e.1 == 27) = some (27, .iload_n 1, 0, 0) := rfl
theorem te_141_28 : (pT M_141).find? (fun e => e.1 == 28) = some (28, .ireturn, 0, 0) := rfl
theorem te_142_0 : (pT M_142).find? (fun e => e.1 == 0) = some (0, .iconst 0, 0, 0) := rfl
theorem te_142_1 : (pT M_142).find? (fun e => e.1 == 1) = some (1, .istore_n 1, 0, 0) := rfl
theorem te_142_2 : (pT M_142).find? (fun e => e.1 == 2) = some (2, .aload_n 0, 0, 0) := rfl
theorem te_142_3 : (pT M_142).find? (fun e => e.1 == 3) = some (3, .iconst 0, 0, 0) := rfl
theorem te_142_4 : (pT M_142).find? (fun e => e.1 == 4) = some (4, .invokevirtual 121, 143, 0) := rfl
theorem te_142_7 : (pT M_142).find? (fun e => e.1 == 7) = some (7, .istore_n 2, 0, 0) := rfl
theorem te_142_8 : (pT M_142).find? (fun e => e.1 == 8) = some (8, .iconst 1, 0, 0) := rfl
theorem te_142_9 : (pT M_142).find? (fun e => e.1 == 9) = some (9, .istore_n 3, 0, 0) := rfl
theorem te_142_10 : (pT M_142).find? (fun e => e.1 == 10) = some (10, .iload_n 3, 0, 0) := rfl
theorem te_142_11 : (pT M_142).find? (fun e => e.1 == 11) = some (11, .aload_n 0, 0, 0) := rfl
theorem te_142_12 : (pT M_142).find? (fun e => e.1 == 12) = some (12, .getfield 9, 1, 3) := rfl
theorem te_142_15 : (pT M_142).find? (fun e => e.1 == 15) = some (15, .if_icmp .ge 27, 0, 0) := rfl
theorem te_142_18 : (pT M_142).find? (fun e => e.1 == 18) = some (18, .aload_n 0, 0, 0) := rfl
theorem te_142_19 : (pT M_142).find? (fun e => e.1 == 19) = some (19, .iload_n 3, 0, 0) := rfl
theorem te_142_20 : (pT M_142).find? (fun e => e.1 == 20) = some (20, .invokevirtual 121, 143, 0) := rfl
theorem te_142_23 : (pT M_142).find? (fun e => e.1 == 23) = some (23, .istore 4, 0, 0) := rfl
theorem te_142_25 : (pT M_142).find? (fun e => e.1 == 25) = some (25, .iload 4, 0, 0) := rfl
theorem te_142_27 : (pT M_142).find? (fun e => e.1 == 27) = some (27, .iload_n 2, 0, 0) := rfl
theorem te_142_28 : (pT M_142).find? (fun e => e.1 == 28) = some (28, .if_icmp .le 8, 0, 0) := rfl
theorem te_142_31 : (pT M_142).find? (fun e => e.1 == 31) = some (31, .iload 4, 0, 0) := rfl
theorem te_142_33 : (pT M_142).find? (fun e => e.1 == 33) = some (33, .istore_n 2, 0, 0) := rfl
theorem te_142_34 : (pT M_142).find? (fun e => e.1 == 34) = some (34, .iload_n 3, 0, 0) := rfl
theorem te_142_35 : (pT M_142).find? (fun e => e.1 == 35) = some (35, .istore_n 1, 0, 0) := rfl
theorem te_142_36 : (pT M_142).find? (fun e => e.1 == 36) = some (36, .iinc 3 1, 0, 0) := rfl
theorem te_142_39 : (pT M_142).find? (fun e => e.1 == 39) = some (39, .goto (-29), 0, 0) := rfl
theorem te_142_42 : (pT M_142).find? (fun e => e.1 == 42) = some (42, .iload_n 1, 0, 0) := rfl
theorem te_142_43 : (pT M_142).find? (fun e => e.1 == 43) = some (43, .ireturn, 0, 0) := rfl
theorem te_143_0 : (pT M_143).find? (fun e => e.1 == 0) = some (0, .iconst 0, 0, 0) := rfl
theorem te_143_1 : (pT M_143).find? (fun e => e.1 == 1) = some (1, .istore_n 2, 0, 0) := rfl
theorem te_143_2 : (pT M_143).find? (fun e => e.1 == 2) = some (2, .iconst 0, 0, 0) := rfl
theorem te_143_3 : (pT M_143).find? (fun e => e.1 == 3) = some (3, .istore_n 3, 0, 0) := rfl
theorem te_143_4 : (pT M_143).find? (fun e => e.1 == 4) = some (4, .iload_n 3, 0, 0) := rfl
theorem te_143_5 : (pT M_143).find? (fun e => e.1 == 5) = some (5, .aload_n 0, 0, 0) := rfl
theorem te_143_6 : (pT M_143).find? (fun e => e.1 == 6) = some (6, .getfield 39, 1, 2) := rfl
theorem te_143_9 : (pT M_143).find? (fun e => e.1 == 9) = some (9, .if_icmp .ge 58, 0, 0) := rfl
theorem te_143_12 : (pT M_143).find? (fun e => e.1 == 12) = some (12, .iload_n 1, 0, 0) := rfl
theorem te_143_13 : (pT M_143).find? (fun e => e.1 == 13) = some (13, .aload_n 0, 0, 0) := rfl
theorem te_143_14 : (pT M_143).find? (fun e => e.1 == 14) = some (14, .getfield 22, 1, 10) := rfl
theorem te_143_17 : (pT M_143).find? (fun e => e.1 == 17) = some (17, .iload_n 3, 0, 0) := rfl
theorem te_143_18 : (pT M_143).find? (fun e => e.1 == 18) = some (18, .iaload, 0, 0) := rfl
theorem te_143_19 : (pT M_143).find? (fun e => e.1 == 19) = some (19, .isub, 0, 0) := rfl
theorem te_143_20 : (pT M_143).find? (fun e => e.1 == 20) = some (20, .aload_n 0, 0, 0) := rfl
theorem te_143_21 : (pT M_143).find? (fun e => e.1 == 21) = some (21, .getfield 9, 1, 3) := rfl
theorem te_143_24 : (pT M_143).find? (fun e => e.1 == 24) = some (24, .invokestatic 118, 94, 2) := rfl
theorem te_143_27 : (pT M_143).find? (fun e => e.1 == 27) = some (27, .istore 4, 0, 0) := rfl
theorem te_143_29 : (pT M_143).find? (fun e => e.1 == 29) = some (29, .iload 4, 0, 0) := rfl
theorem te_143_31 : (pT M_143).find? (fun e => e.1 == 31) = some (31, .aload_n 0, 0, 0) := rfl
theorem te_143_32 : (pT M_143).find? (fun e => e.1 == 32) = some (32, .getfield 25, 1, 11) := rfl
theorem te_143_35 : (pT M_143).find? (fun e => e.1 == 35) = some (35, .iload_n 3, 0, 0) := rfl
theorem te_143_36 : (pT M_143).find? (fun e => e.1 == 36) = some (36, .iaload, 0, 0) := rfl
theorem te_143_37 : (pT M_143).find? (fun e => e.1 == 37) = some (37, .if_icmp .ge 24, 0, 0) := rfl
theorem te_143_40 : (pT M_143).find? (fun e => e.1 == 40) = some (40, .iload_n 2, 0, 0) := rfl
theorem te_143_41 : (pT M_143).find? (fun e => e.1 == 41) = some (41, .aload_n 0, 0, 0) := rfl
theorem te_143_42 : (pT M_143).find? (fun e => e.1 == 42) = some (42, .getfield 25, 1, 11) := rfl
theorem te_143_45 : (pT M_143).find? (fun e => e.1 == 45) = some (45, .iload_n 3, 0, 0) := rfl
theorem te_143_46 : (pT M_143).find? (fun e => e.1 == 46) = some (46, .iaload, 0, 0) := rfl
theorem te_143_47 : (pT M_143).find? (fun e => e.1 == 47) = some (47, .iload 4, 0, 0) := rfl
theorem te_143_49 : (pT M_143).find? (fun e => e.1 == 49) = some (49, .isub, 0, 0) := rfl
theorem te_143_50 : (pT M_143).find? (fun e => e.1 == 50) = some (50, .iconst 1, 0, 0) := rfl
theorem te_143_51 : (pT M_143).find? (fun e => e.1 == 51) = some (51, .isub, 0, 0) := rfl
theorem te_143_52 : (pT M_143).find? (fun e => e.1 == 52) = some (52, .aload_n 0, 0, 0) := rfl
theorem te_143_53 : (pT M_143).find? (fun e => e.1 == 53) = some (53, .getfield 9, 1, 3) := rfl
theorem te_143_56 : (pT M_143).find? (fun e => e.1 == 56) = some (56, .idiv, 0, 0) := rfl
theorem te_143_57 : (pT M_143).find? (fun e => e.1 == 57) = some (57, .iconst 1, 0, 0) := rfl
theorem te_143_58 : (pT M_143).find? (fun e => e.1 == 58) = some (58, .iadd, 0, 0) := rfl
theorem te_143_59 : (pT M_143).find? (fun e => e.1 == 59) = some (59, .iadd, 0, 0) := rfl
theorem te_143_60 : (pT M_143).find? (fun e => e.1 == 60) = some (60, .istore_n 2, 0, 0) := rfl
theorem te_143_61 : (pT M_143).find? (fun e => e.1 == 61) = some (61, .iinc 3 1, 0, 0) := rfl
theorem te_143_64 : (pT M_143).find? (fun e => e.1 == 64) = some (64, .goto (-60), 0, 0) := rfl
theorem te_143_67 : (pT M_143).find? (fun e => e.1 == 67) = some (67, .iload_n 2, 0, 0) := rfl
theorem te_143_68 : (pT M_143).find? (fun e => e.1 == 68) = some (68, .ireturn, 0, 0) := rfl
theorem te_146_0 : (pT M_146).find? (fun e => e.1 == 0) = some (0, .bipush 99, 0, 0) := rfl
theorem te_146_2 : (pT M_146).find? (fun e => e.1 == 2) = some (2, .istore_n 3, 0, 0) := rfl
theorem te_146_3 : (pT M_146).find? (fun e => e.1 == 3) = some (3, .iconst 0, 0, 0) := rfl
theorem te_146_4 : (pT M_146).find? (fun e => e.1 == 4) = some (4, .istore 4, 0, 0) := rfl
theorem te_146_6 : (pT M_146).find? (fun e => e.1 == 6) = some (6, .iload 4, 0, 0) := rfl
theorem te_146_8 : (pT M_146).find? (fun e => e.1 == 8) = some (8, .aload_n 1, 0, 0) := rfl
theorem te_146_9 : (pT M_146).find? (fun e => e.1 == 9) = some (9, .getfield 76, 7, 0) := rfl
theorem te_146_12 : (pT M_146).find? (fun e => e.1 == 12) = some (12, .if_icmp .ge 79, 0, 0) := rfl
theorem te_146_15 : (pT M_146).find? (fun e => e.1 == 15) = some (15, .aload_n 1, 0, 0) := rfl
theorem te_146_16 : (pT M_146).find? (fun e => e.1 == 16) = some (16, .getfield 79, 7, 2) := rfl
theorem te_146_19 : (pT M_146).find? (fun e => e.1 == 19) = some (19, .iload 4, 0, 0) := rfl
theorem te_146_21 : (pT M_146).find? (fun e => e.1 == 21) = some (21, .iaload, 0, 0) := rfl
theorem te_146_22 : (pT M_146).find? (fun e => e.1 == 22) = some (22, .istore 5, 0, 0) := rfl
theorem te_146_24 : (pT M_146).find? (fun e => e.1 == 24) = some (24, .aload_n 1, 0, 0) := rfl
theorem te_146_25 : (pT M_146).find? (fun e => e.1 == 25) = some (25, .getfield 82, 7, 1) := rfl
theorem te_146_28 : (pT M_146).find? (fun e => e.1 == 28) = some (28, .iload 4, 0, 0) := rfl
theorem te_146_30 : (pT M_146).find? (fun e => e.1 == 30) = some (30, .iaload, 0, 0) := rfl
theorem te_146_31 : (pT M_146).find? (fun e => e.1 == 31) = some (31, .iload_n 2, 0, 0) := rfl
theorem te_146_32 : (pT M_146).find? (fun e => e.1 == 32) = some (32, .if_icmp .ne 53, 0, 0) := rfl
theorem te_146_35 : (pT M_146).find? (fun e => e.1 == 35) = some (35, .iload 5, 0, 0) := rfl
theorem te_146_37 : (pT M_146).find? (fun e => e.1 == 37) = some (37, .iload_n 2, 0, 0) := rfl
theorem te_146_38 : (pT M_146).find? (fun e => e.1 == 38) = some (38, .if_icmp .eq 47, 0, 0) := rfl
theorem te_146_41 : (pT M_146).find? (fun e => e.1 == 41) = some (41, .aload_n 0, 0, 0) := rfl
theorem te_146_42 : (pT M_146).find? (fun e => e.1 == 42) = some (42, .getfield 19, 1, 9) := rfl
theorem te_146_45 : (pT M_146).find? (fun e => e.1 == 45) = some (45, .iload 5, 0, 0) := rfl
theorem te_146_47 : (pT M_146).find? (fun e => e.1 == 47) = some (47, .iaload, 0, 0) := rfl
theorem te_146_48 : (pT M_146).find? (fun e => e.1 == 48) = some (48, .aload_n 0, 0, 0) := rfl
theorem te_146_49 : (pT M_146).find? (fun e => e.1 == 49) = some (49, .getfield 19, 1, 9) := rfl
theorem te_146_52 : (pT M_146).find? (fun e => e.1 == 52) = some (52, .iload_n 2, 0, 0) := rfl
theorem te_146_53 : (pT M_146).find? (fun e => e.1 == 53) = some (53, .iaload, 0, 0) := rfl
theorem te_146_54 : (pT M_146).find? (fun e => e.1 == 54) = some (54, .isub, 0, 0) := rfl
theorem te_146_55 : (pT M_146).find? (fun e => e.1 == 55) = some (55, .aload_n 1, 0, 0) := rfl
theorem te_146_56 : (pT M_146).find? (fun e => e.1 == 56) = some (56, .getfield 85, 7, 4) := rfl
theorem te_146_59 : (pT M_146).find? (fun e => e.1 == 59) = some (59, .iload 4, 0, 0) := rfl
theorem te_146_61 : (pT M_146).find? (fun e => e.1 == 61) = some (61, .iaload, 0, 0) := rfl
theorem te_146_62 : (pT M_146).find? (fun e => e.1 == 62) = some (62, .isub, 0, 0) := rfl
theorem te_146_63 : (pT M_146).find? (fun e => e.1 == 63) = some (63, .aload_n 0, 0, 0) := rfl
theorem te_146_64 : (pT M_146).find? (fun e => e.1 == 64) = some (64, .getfield 9, 1, 3) := rfl
theorem te_146_67 : (pT M_146).find? (fun e => e.1 == 67) = some (67, .aload_n 1, 0, 0) := rfl
theorem te_146_68 : (pT M_146).find? (fun e => e.1 == 68) = some (68, .getfield 88, 7, 3) := rfl
theorem te_146_71 : (pT M_146).find? (fun e => e.1 == 71) = some (71, .iload 4, 0, 0) := rfl
theorem te_146_73 : (pT M_146).find? (fun e => e.1 == 73) = some (73, .iaload, 0, 0) := rfl
theorem te_146_74 : (pT M_146).find? (fun e => e.1 == 74) = some (74, .imul, 0, 0) := rfl
theorem te_146_75 : (pT M_146).find? (fun e => e.1 == 75) = some (75, .iadd, 0, 0) := rfl
theorem te_146_76 : (pT M_146).find? (fun e => e.1 == 76) = some (76, .istore 6, 0, 0) := rfl
theorem te_146_78 : (pT M_146).find? (fun e => e.1 == 78) = some (78, .iload_n 3, 0, 0) := rfl
theorem te_146_79 : (pT M_146).find? (fun e => e.1 == 79) = some (79, .iload 6, 0, 0) := rfl
theorem te_146_81 : (pT M_146).find? (fun e => e.1 == 81) = some (81, .invokestatic 124, 29, 2) := rfl
theorem te_146_84 : (pT M_146).find? (fun e => e.1 == 84) = some (84, .istore_n 3, 0, 0) := rfl
theorem te_146_85 : (pT M_146).find? (fun e => e.1 == 85) = some (85, .iinc 4 1, 0, 0) := rfl
theorem te_146_88 : (pT M_146).find? (fun e => e.1 == 88) = some (88, .goto (-82), 0, 0) := rfl
theorem te_146_91 : (pT M_146).find? (fun e => e.1 == 91) = some (91, .iload_n 3, 0, 0) := rfl
theorem te_146_92 : (pT M_146).find? (fun e => e.1 == 92) = some (92, .ireturn, 0, 0) := rfl
theorem te_151_0 : (pT M_151).find? (fun e => e.1 == 0) = some (0, .iload_n 0, 0, 0) := rfl
theorem te_151_1 : (pT M_151).find? (fun e => e.1 == 1) = some (1, .ifCond .lt 9, 0, 0) := rfl
theorem te_151_4 : (pT M_151).find? (fun e => e.1 == 4) = some (4, .iload_n 0, 0, 0) := rfl
theorem te_151_5 : (pT M_151).find? (fun e => e.1 == 5) = some (5, .bipush 40, 0, 0) := rfl
theorem te_151_7 : (pT M_151).find? (fun e => e.1 == 7) = some (7, .if_icmp .le 14, 0, 0) := rfl
theorem te_151_10 : (pT M_151).find? (fun e => e.1 == 10) = some (10, .new 83, 16, 1) := rfl
theorem te_151_21 : (pT M_151).find? (fun e => e.1 == 21) = some (21, .return_, 0, 0) := rfl
theorem te_152_0 : (pT M_152).find? (fun e => e.1 == 0) = some (0, .iload_n 2, 0, 0) := rfl
theorem te_152_1 : (pT M_152).find? (fun e => e.1 == 1) = some (1, .aload_n 0, 0, 0) := rfl
theorem te_152_2 : (pT M_152).find? (fun e => e.1 == 2) = some (2, .getfield 19, 1, 9) := rfl
theorem te_152_5 : (pT M_152).find? (fun e => e.1 == 5) = some (5, .iload_n 1, 0, 0) := rfl
theorem te_152_6 : (pT M_152).find? (fun e => e.1 == 6) = some (6, .iaload, 0, 0) := rfl
theorem te_152_7 : (pT M_152).find? (fun e => e.1 == 7) = some (7, .if_icmp .lt 18, 0, 0) := rfl
theorem te_152_10 : (pT M_152).find? (fun e => e.1 == 10) = some (10, .iload_n 2, 0, 0) := rfl
theorem te_152_11 : (pT M_152).find? (fun e => e.1 == 11) = some (11, .aload_n 0, 0, 0) := rfl
theorem te_152_12 : (pT M_152).find? (fun e => e.1 == 12) = some (12, .getfield 9, 1, 3) := rfl
theorem te_152_15 : (pT M_152).find? (fun e => e.1 == 15) = some (15, .irem, 0, 0) := rfl
theorem te_152_16 : (pT M_152).find? (fun e => e.1 == 16) = some (16, .aload_n 0, 0, 0) := rfl
theorem te_152_17 : (pT M_152).find? (fun e => e.1 == 17) = some (17, .getfield 15, 1, 8) := rfl
theorem te_152_20 : (pT M_152).find? (fun e => e.1 == 20) = some (20, .iload_n 1, 0, 0) := rfl
theorem te_152_21 : (pT M_152).find? (fun e => e.1 == 21) = some (21, .iaload, 0, 0) := rfl
theorem te_152_22 : (pT M_152).find? (fun e => e.1 == 22) = some (22, .if_icmp .eq 5, 0, 0) := rfl
theorem te_152_25 : (pT M_152).find? (fun e => e.1 == 25) = some (25, .iconst (-1), 0, 0) := rfl
theorem te_152_26 : (pT M_152).find? (fun e => e.1 == 26) = some (26, .ireturn, 0, 0) := rfl
theorem te_152_27 : (pT M_152).find? (fun e => e.1 == 27) = some (27, .iload_n 2, 0, 0) := rfl
theorem te_152_28 : (pT M_152).find? (fun e => e.1 == 28) = some (28, .aload_n 0, 0, 0) := rfl
theorem te_152_29 : (pT M_152).find? (fun e => e.1 == 29) = some (29, .getfield 19, 1, 9) := rfl
theorem te_152_32 : (pT M_152).find? (fun e => e.1 == 32) = some (32, .iload_n 1, 0, 0) := rfl
theorem te_152_33 : (pT M_152).find? (fun e => e.1 == 33) = some (33, .iaload, 0, 0) := rfl
theorem te_152_34 : (pT M_152).find? (fun e => e.1 == 34) = some (34, .isub, 0, 0) := rfl
theorem te_152_35 : (pT M_152).find? (fun e => e.1 == 35) = some (35, .aload_n 0, 0, 0) := rfl
theorem te_152_36 : (pT M_152).find? (fun e => e.1 == 36) = some (36, .getfield 9, 1, 3) := rfl
theorem te_152_39 : (pT M_152).find? (fun e => e.1 == 39) = some (39, .idiv, 0, 0) := rfl
theorem te_152_40 : (pT M_152).find? (fun e => e.1 == 40) = some (40, .istore 4, 0, 0) := rfl
theorem te_152_42 : (pT M_152).find? (fun e => e.1 == 42) = some (42, .iload 4, 0, 0) := rfl
theorem te_152_44 : (pT M_152).find? (fun e => e.1 == 44) = some (44, .iload_n 3, 0, 0) := rfl
theorem te_152_45 : (pT M_152).find? (fun e => e.1 == 45) = some (45, .if_icmp .ge 8, 0, 0) := rfl
theorem te_152_48 : (pT M_152).find? (fun e => e.1 == 48) = some (48, .iload 4, 0, 0) := rfl
theorem te_152_50 : (pT M_152).find? (fun e => e.1 == 50) = some (50, .goto 4, 0, 0) := rfl
theorem te_152_53 : (pT M_152).find? (fun e => e.1 == 53) = some (53, .iconst (-1), 0, 0) := rfl
theorem te_152_54 : (pT M_152).find? (fun e => e.1 == 54) = some (54, .ireturn, 0, 0) := rfl
theorem te_155_0 : (pT M_155).find? (fun e => e.1 == 0) = some (0, .iload_n 1, 0, 0) := rfl
theorem te_155_1 : (pT M_155).find? (fun e => e.1 == 1) = some (1, .ifCond .gt 7, 0, 0) := rfl
theorem te_155_4 : (pT M_155).find? (fun e => e.1 == 4) = some (4, .iconst 0, 0, 0) := rfl
theorem te_155_5 : (pT M_155).find? (fun e => e.1 == 5) = some (5, .goto 16, 0, 0) := rfl
theorem te_155_8 : (pT M_155).find? (fun e => e.1 == 8) = some (8, .aload_n 0, 0, 0) := rfl
theorem te_155_9 : (pT M_155).find? (fun e => e.1 == 9) = some (9, .getfield 9, 1, 3) := rfl
theorem te_155_12 : (pT M_155).find? (fun e => e.1 == 12) = some (12, .iload_n 1, 0, 0) := rfl
theorem te_155_13 : (pT M_155).find? (fun e => e.1 == 13) = some (13, .iconst 1, 0, 0) := rfl
theorem te_155_14 : (pT M_155).find? (fun e => e.1 == 14) = some (14, .isub, 0, 0) := rfl
theorem te_155_15 : (pT M_155).find? (fun e => e.1 == 15) = some (15, .imul, 0, 0) := rfl
theorem te_155_16 : (pT M_155).find? (fun e => e.1 == 16) = some (16, .aload_n 0, 0, 0) := rfl
theorem te_155_17 : (pT M_155).find? (fun e => e.1 == 17) = some (17, .getfield 50, 1, 4) := rfl
theorem te_155_20 : (pT M_155).find? (fun e => e.1 == 20) = some (20, .iadd, 0, 0) := rfl
theorem te_155_21 : (pT M_155).find? (fun e => e.1 == 21) = some (21, .ireturn, 0, 0) := rfl
theorem te_156_0 : (pT M_156).find? (fun e => e.1 == 0) = some (0, .aload_n 0, 0, 0) := rfl
theorem te_156_1 : (pT M_156).find? (fun e => e.1 == 1) = some (1, .iload_n 1, 0, 0) := rfl
theorem te_156_2 : (pT M_156).find? (fun e => e.1 == 2) = some (2, .invokevirtual 137, 155, 0) := rfl
theorem te_156_5 : (pT M_156).find? (fun e => e.1 == 5) = some (5, .istore_n 2, 0, 0) := rfl
theorem te_156_6 : (pT M_156).find? (fun e => e.1 == 6) = some (6, .iload_n 1, 0, 0) := rfl
theorem te_156_7 : (pT M_156).find? (fun e => e.1 == 7) = some (7, .aload_n 0, 0, 0) := rfl
theorem te_156_8 : (pT M_156).find? (fun e => e.1 == 8) = some (8, .getfield 53, 1, 5) := rfl
theorem te_156_11 : (pT M_156).find? (fun e => e.1 == 11) = some (11, .if_icmp .ge 7, 0, 0) := rfl
theorem te_156_14 : (pT M_156).find? (fun e => e.1 == 14) = some (14, .iload_n 2, 0, 0) := rfl
theorem te_156_15 : (pT M_156).find? (fun e => e.1 == 15) = some (15, .goto 18, 0, 0) := rfl
theorem te_156_18 : (pT M_156).find? (fun e => e.1 == 18) = some (18, .iload_n 2, 0, 0) := rfl
theorem te_156_19 : (pT M_156).find? (fun e => e.1 == 19) = some (19, .aload_n 0, 0, 0) := rfl
theorem te_156_20 : (pT M_156).find? (fun e => e.1 == 20) = some (20, .getfield 9, 1, 3) := rfl
theorem te_156_23 : (pT M_156).find? (fun e => e.1 == 23) = some (23, .aload_n 0, 0, 0) := rfl
theorem te_156_24 : (pT M_156).find? (fun e => e.1 == 24) = some (24, .getfield 53, 1, 5) := rfl
theorem te_156_27 : (pT M_156).find? (fun e => e.1 == 27) = some (27, .iconst 1, 0, 0) := rfl
theorem te_156_28 : (pT M_156).find? (fun e => e.1 == 28) = some (28, .isub, 0, 0) := rfl
theorem te_156_29 : (pT M_156).find? (fun e => e.1 == 29) = some (29, .imul, 0, 0) := rfl
theorem te_156_30 : (pT M_156).find? (fun e => e.1 == 30) = some (30, .invokestatic 124, 29, 2) := rfl
theorem te_156_33 : (pT M_156).find? (fun e => e.1 == 33) = some (33, .ireturn, 0, 0) := rfl
theorem te_157_0 : (pT M_157).find? (fun e => e.1 == 0) = some (0, .iload_n 1, 0, 0) := rfl
theorem te_157_1 : (pT M_157).find? (fun e => e.1 == 1) = some (1, .aload_n 0, 0, 0) := rfl
theorem te_157_2 : (pT M_157).find? (fun e => e.1 == 2) = some (2, .getfield 53, 1, 5) := rfl
theorem te_157_5 : (pT M_157).find? (fun e => e.1 == 5) = some (5, .if_icmp .ge 5, 0, 0) := rfl
theorem te_157_8 : (pT M_157).find? (fun e => e.1 == 8) = some (8, .iconst 0, 0, 0) := rfl
theorem te_157_9 : (pT M_157).find? (fun e => e.1 == 9) = some (9, .ireturn, 0, 0) := rfl
theorem te_157_10 : (pT M_157).find? (fun e => e.1 == 10) = some (10, .aload_n 0, 0, 0) := rfl
theorem te_157_11 : (pT M_157).find? (fun e => e.1 == 11) = some (11, .getfield 9, 1, 3) := rfl
theorem te_157_14 : (pT M_157).find? (fun e => e.1 == 14) = some (14, .iload_n 1, 0, 0) := rfl
theorem te_157_15 : (pT M_157).find? (fun e => e.1 == 15) = some (15, .aload_n 0, 0, 0) := rfl
theorem te_157_16 : (pT M_157).find? (fun e => e.1 == 16) = some (16, .getfield 53, 1, 5) := rfl
theorem te_157_19 : (pT M_157).find? (fun e => e.1 == 19) = some (19, .isub, 0, 0) := rfl
theorem te_157_20 : (pT M_157).find? (fun e => e.1 == 20) = some (20, .iconst 1, 0, 0) := rfl
theorem te_157_21 : (pT M_157).find? (fun e => e.1 == 21) = some (21, .iadd, 0, 0) := rfl
theorem te_157_22 : (pT M_157).find? (fun e => e.1 == 22) = some (22, .imul, 0, 0) := rfl
theorem te_157_23 : (pT M_157).find? (fun e => e.1 == 23) = some (23, .aload_n 0, 0, 0) := rfl
theorem te_157_24 : (pT M_157).find? (fun e => e.1 == 24) = some (24, .iload_n 1, 0, 0) := rfl
theorem te_157_25 : (pT M_157).find? (fun e => e.1 == 25) = some (25, .invokevirtual 137, 155, 0) := rfl
theorem te_157_28 : (pT M_157).find? (fun e => e.1 == 28) = some (28, .aload_n 0, 0, 0) := rfl
theorem te_157_29 : (pT M_157).find? (fun e => e.1 == 29) = some (29, .iload_n 1, 0, 0) := rfl
theorem te_157_30 : (pT M_157).find? (fun e => e.1 == 30) = some (30, .invokevirtual 140, 156, 0) := rfl
theorem te_157_33 : (pT M_157).find? (fun e => e.1 == 33) = some (33, .isub, 0, 0) := rfl
theorem te_157_34 : (pT M_157).find? (fun e => e.1 == 34) = some (34, .invokestatic 124, 29, 2) := rfl
theorem te_157_37 : (pT M_157).find? (fun e => e.1 == 37) = some (37, .ireturn, 0, 0) := rfl
theorem te_160_0 : (pT M_160).find? (fun e => e.1 == 0) = some (0, .iload_n 0, 0, 0) := rfl
theorem te_160_1 : (pT M_160).find? (fun e => e.1 == 1) = some (1, .ifCond .lt 18, 0, 0) := rfl
theorem te_160_4 : (pT M_160).find? (fun e => e.1 == 4) = some (4, .iload_n 0, 0, 0) := rfl
theorem te_160_5 : (pT M_160).find? (fun e => e.1 == 5) = some (5, .iconst 1, 0, 0) := rfl
theorem te_160_6 : (pT M_160).find? (fun e => e.1 == 6) = some (6, .if_icmp .gt 13, 0, 0) := rfl
theorem te_160_9 : (pT M_160).find? (fun e => e.1 == 9) = some (9, .iload_n 1, 0, 0) := rfl
theorem te_160_10 : (pT M_160).find? (fun e => e.1 == 10) = some (10, .ifCond .lt 9, 0, 0) := rfl
theorem te_160_13 : (pT M_160).find? (fun e => e.1 == 13) = some (13, .iload_n 1, 0, 0) := rfl
theorem te_160_14 : (pT M_160).find? (fun e => e.1 == 14) = some (14, .bipush 64, 0, 0) := rfl
theorem te_160_16 : (pT M_160).find? (fun e => e.1 == 16) = some (16, .if_icmp .lt 13, 0, 0) := rfl
theorem te_160_19 : (pT M_160).find? (fun e => e.1 == 19) = some (19, .new 83, 1, 1) := rfl
theorem te_160_29 : (pT M_160).find? (fun e => e.1 == 29) = some (29, .return_, 0, 0) := rfl
theorem te_163_0 : (pT M_163).find? (fun e => e.1 == 0) = some (0, .aload_n 1, 0, 0) := rfl
theorem te_163_1 : (pT M_163).find? (fun e => e.1 == 1) = some (1, .iload_n 2, 0, 0) := rfl
theorem te_163_2 : (pT M_163).find? (fun e => e.1 == 2) = some (2, .iload_n 3, 0, 0) := rfl
theorem te_163_3 : (pT M_163).find? (fun e => e.1 == 3) = some (3, .invokevirtual 50, 14, 1) := rfl
theorem te_163_6 : (pT M_163).find? (fun e => e.1 == 6) = some (6, .istore 5, 0, 0) := rfl
theorem te_163_8 : (pT M_163).find? (fun e => e.1 == 8) = some (8, .aload_n 1, 0, 0) := rfl
theorem te_163_9 : (pT M_163).find? (fun e => e.1 == 9) = some (9, .iload_n 2, 0, 0) := rfl
theorem te_163_10 : (pT M_163).find? (fun e => e.1 == 10) = some (10, .iload_n 3, 0, 0) := rfl
theorem te_163_11 : (pT M_163).find? (fun e => e.1 == 11) = some (11, .invokevirtual 53, 15, 1) := rfl
theorem te_163_14 : (pT M_163).find? (fun e => e.1 == 14) = some (14, .istore 6, 0, 0) := rfl
theorem te_163_16 : (pT M_163).find? (fun e => e.1 == 16) = some (16, .iload 5, 0, 0) := rfl
theorem te_163_18 : (pT M_163).find? (fun e => e.1 == 18) = some (18, .iconst (-1), 0, 0) := rfl
theorem te_163_19 : (pT M_163).find? (fun e => e.1 == 19) = some (19, .if_icmp .ne 6, 0, 0) := rfl
theorem te_163_22 : (pT M_163).find? (fun e => e.1 == 22) = some (22, .iload 4, 0, 0) := rfl
theorem te_163_24 : (pT M_163).find? (fun e => e.1 == 24) = some (24, .ireturn, 0, 0) := rfl
theorem te_163_25 : (pT M_163).find? (fun e => e.1 == 25) = some (25, .iload 5, 0, 0) := rfl
theorem te_163_27 : (pT M_163).find? (fun e => e.1 == 27) = some (27, .bipush (-2), 0, 0) := rfl
theorem te_163_29 : (pT M_163).find? (fun e => e.1 == 29) = some (29, .if_icmp .ne 6, 0, 0) := rfl
theorem te_163_32 : (pT M_163).find? (fun e => e.1 == 32) = some (32, .iload 6, 0, 0) := rfl
theorem te_163_34 : (pT M_163).find? (fun e => e.1 == 34) = some (34, .ireturn, 0, 0) := rfl
theorem te_163_35 : (pT M_163).find? (fun e => e.1 == 35) = some (35, .aload_n 0, 0, 0) := rfl
theorem te_163_36 : (pT M_163).find? (fun e => e.1 == 36) = some (36, .aload_n 1, 0, 0) := rfl
theorem te_163_37 : (pT M_163).find? (fun e => e.1 == 37) = some (37, .iload 5, 0, 0) := rfl
theorem te_163_39 : (pT M_163).find? (fun e => e.1 == 39) = some (39, .iload 4, 0, 0) := rfl
theorem te_163_41 : (pT M_163).find? (fun e => e.1 == 41) = some (41, .iload 6, 0, 0) := rfl
theorem te_163_43 : (pT M_163).find? (fun e => e.1 == 43) = some (43, .isub, 0, 0) := rfl
theorem te_163_44 : (pT M_163).find? (fun e => e.1 == 44) = some (44, .invokevirtual 56, 164, 0) := rfl
theorem te_163_47 : (pT M_163).find? (fun e => e.1 == 47) = some (47, .ireturn, 0, 0) := rfl
theorem te_164_0 : (pT M_164).find? (fun e => e.1 == 0) = some (0, .iload_n 3, 0, 0) := rfl
theorem te_164_1 : (pT M_164).find? (fun e => e.1 == 1) = some (1, .ifCond .ge 12, 0, 0) := rfl
theorem te_164_4 : (pT M_164).find? (fun e => e.1 == 4) = some (4, .aload_n 1, 0, 0) := rfl
theorem te_164_5 : (pT M_164).find? (fun e => e.1 == 5) = some (5, .getfield 59, 0, 3) := rfl
theorem te_164_8 : (pT M_164).find? (fun e => e.1 == 8) = some (8, .iload_n 2, 0, 0) := rfl
theorem te_164_9 : (pT M_164).find? (fun e => e.1 == 9) = some (9, .iaload, 0, 0) := rfl
theorem te_164_10 : (pT M_164).find? (fun e => e.1 == 10) = some (10, .goto 14, 0, 0) := rfl
theorem te_164_13 : (pT M_164).find? (fun e => e.1 == 13) = some (13, .aload_n 0, 0, 0) := rfl
theorem te_164_14 : (pT M_164).find? (fun e => e.1 == 14) = some (14, .getfield 16, 4, 1) := rfl
theorem te_164_17 : (pT M_164).find? (fun e => e.1 == 17) = some (17, .iload_n 2, 0, 0) := rfl
theorem te_164_18 : (pT M_164).find? (fun e => e.1 == 18) = some (18, .bipush 40, 0, 0) := rfl
theorem te_164_20 : (pT M_164).find? (fun e => e.1 == 20) = some (20, .imul, 0, 0) := rfl
theorem te_164_21 : (pT M_164).find? (fun e => e.1 == 21) = some (21, .iload_n 3, 0, 0) := rfl
theorem te_164_22 : (pT M_164).find? (fun e => e.1 == 22) = some (22, .iadd, 0, 0) := rfl
theorem te_164_23 : (pT M_164).find? (fun e => e.1 == 23) = some (23, .iaload, 0, 0) := rfl
theorem te_164_24 : (pT M_164).find? (fun e => e.1 == 24) = some (24, .ireturn, 0, 0) := rfl
theorem te_167_0 : (pT M_167).find? (fun e => e.1 == 0) = some (0, .aload_n 0, 0, 0) := rfl
theorem te_167_1 : (pT M_167).find? (fun e => e.1 == 1) = some (1, .getfield 12, 9, 0) := rfl
theorem te_167_4 : (pT M_167).find? (fun e => e.1 == 4) = some (4, .getfield 146, 0, 1) := rfl
theorem te_167_7 : (pT M_167).find? (fun e => e.1 == 7) = some (7, .iload_n 1, 0, 0) := rfl
theorem te_167_8 : (pT M_167).find? (fun e => e.1 == 8) = some (8, .iaload, 0, 0) := rfl
theorem te_167_9 : (pT M_167).find? (fun e => e.1 == 9) = some (9, .iconst 5, 0, 0) := rfl
theorem te_167_10 : (pT M_167).find? (fun e => e.1 == 10) = some (10, .if_icmp .ne 14, 0, 0) := rfl
theorem te_167_13 : (pT M_167).find? (fun e => e.1 == 13) = some (13, .new 83, 13, 1) := rfl
theorem te_167_24 : (pT M_167).find? (fun e => e.1 == 24) = some (24, .return_, 0, 0) := rfl
theorem te_176_0 : (pT M_176).find? (fun e => e.1 == 0) = some (0, .iload_n 1, 0, 0) := rfl
theorem te_176_1 : (pT M_176).find? (fun e => e.1 == 1) = some (1, .aload_n 0, 0, 0) := rfl
theorem te_176_2 : (pT M_176).find? (fun e => e.1 == 2) = some (2, .getfield 53, 1, 5) := rfl
theorem te_176_5 : (pT M_176).find? (fun e => e.1 == 5) = some (5, .if_icmp .lt 10, 0, 0) := rfl
theorem te_176_8 : (pT M_176).find? (fun e => e.1 == 8) = some (8, .aload_n 0, 0, 0) := rfl
theorem te_176_9 : (pT M_176).find? (fun e => e.1 == 9) = some (9, .getfield 112, 1, 7) := rfl
theorem te_176_12 : (pT M_176).find? (fun e => e.1 == 12) = some (12, .ifCond .gt 5, 0, 0) := rfl
theorem te_176_15 : (pT M_176).find? (fun e => e.1 == 15) = some (15, .iload_n 1, 0, 0) := rfl
theorem te_176_16 : (pT M_176).find? (fun e => e.1 == 16) = some (16, .ireturn, 0, 0) := rfl
theorem te_176_17 : (pT M_176).find? (fun e => e.1 == 17) = some (17, .iload_n 1, 0, 0) := rfl
theorem te_176_18 : (pT M_176).find? (fun e => e.1 == 18) = some (18, .aload_n 0, 0, 0) := rfl
theorem te_176_19 : (pT M_176).find? (fun e => e.1 == 19) = some (19, .getfield 53, 1, 5) := rfl
theorem te_176_22 : (pT M_176).find? (fun e => e.1 == 22) = some (22, .isub, 0, 0) := rfl
theorem te_176_23 : (pT M_176).find? (fun e => e.1 == 23) = some (23, .iconst 1, 0, 0) := rfl
theorem te_176_24 : (pT M_176).find? (fun e => e.1 == 24) = some (24, .iadd, 0, 0) := rfl
theorem te_176_25 : (pT M_176).find? (fun e => e.1 == 25) = some (25, .aload_n 0, 0, 0) := rfl
theorem te_176_26 : (pT M_176).find? (fun e => e.1 == 26) = some (26, .getfield 112, 1, 7) := rfl
theorem te_176_29 : (pT M_176).find? (fun e => e.1 == 29) = some (29, .irem, 0, 0) := rfl
theorem te_176_30 : (pT M_176).find? (fun e => e.1 == 30) = some (30, .ireturn, 0, 0) := rfl
theorem te_186_0 : (pT M_186).find? (fun e => e.1 == 0) = some (0, .iload_n 3, 0, 0) := rfl
theorem te_186_1 : (pT M_186).find? (fun e => e.1 == 1) = some (1, .aload_n 0, 0, 0) := rfl
theorem te_186_2 : (pT M_186).find? (fun e => e.1 == 2) = some (2, .getfield 22, 1, 10) := rfl
theorem te_186_5 : (pT M_186).find? (fun e => e.1 == 5) = some (5, .iload_n 1, 0, 0) := rfl
theorem te_186_6 : (pT M_186).find? (fun e => e.1 == 6) = some (6, .iaload, 0, 0) := rfl
theorem te_186_7 : (pT M_186).find? (fun e => e.1 == 7) = some (7, .if_icmp .lt 12, 0, 0) := rfl
theorem te_186_10 : (pT M_186).find? (fun e => e.1 == 10) = some (10, .aload_n 0, 0, 0) := rfl
theorem te_186_11 : (pT M_186).find? (fun e => e.1 == 11) = some (11, .getfield 31, 1, 13) := rfl
theorem te_186_14 : (pT M_186).find? (fun e => e.1 == 14) = some (14, .iload_n 1, 0, 0) := rfl
theorem te_186_15 : (pT M_186).find? (fun e => e.1 == 15) = some (15, .iaload, 0, 0) := rfl
theorem te_186_16 : (pT M_186).find? (fun e => e.1 == 16) = some (16, .ifCond .gt 5, 0, 0) := rfl
theorem te_186_19 : (pT M_186).find? (fun e => e.1 == 19) = some (19, .iconst (-1), 0, 0) := rfl
theorem te_186_20 : (pT M_186).find? (fun e => e.1 == 20) = some (20, .ireturn, 0, 0) := rfl
theorem te_186_21 : (pT M_186).find? (fun e => e.1 == 21) = some (21, .iload 4, 0, 0) := rfl
theorem te_186_23 : (pT M_186).find? (fun e => e.1 == 23) = some (23, .iconst 1, 0, 0) := rfl
theorem te_186_24 : (pT M_186).find? (fun e => e.1 == 24) = some (24, .isub, 0, 0) := rfl
theorem te_186_25 : (pT M_186).find? (fun e => e.1 == 25) = some (25, .iload_n 3, 0, 0) := rfl
theorem te_186_26 : (pT M_186).find? (fun e => e.1 == 26) = some (26, .aload_n 0, 0, 0) := rfl
theorem te_186_27 : (pT M_186).find? (fun e => e.1 == 27) = some (27, .getfield 22, 1, 10) := rfl
theorem te_186_30 : (pT M_186).find? (fun e => e.1 == 30) = some (30, .iload_n 1, 0, 0) := rfl
theorem te_186_31 : (pT M_186).find? (fun e => e.1 == 31) = some (31, .iaload, 0, 0) := rfl
theorem te_186_32 : (pT M_186).find? (fun e => e.1 == 32) = some (32, .isub, 0, 0) := rfl
theorem te_186_33 : (pT M_186).find? (fun e => e.1 == 33) = some (33, .aload_n 0, 0, 0) := rfl
theorem te_186_34 : (pT M_186).find? (fun e => e.1 == 34) = some (34, .getfield 9, 1, 3) := rfl
theorem te_186_37 : (pT M_186).find? (fun e => e.1 == 37) = some (37, .idiv, 0, 0) := rfl
theorem te_186_38 : (pT M_186).find? (fun e => e.1 == 38) = some (38, .invokestatic 124, 29, 2) := rfl
theorem te_186_41 : (pT M_186).find? (fun e => e.1 == 41) = some (41, .istore 5, 0, 0) := rfl
theorem te_186_43 : (pT M_186).find? (fun e => e.1 == 43) = some (43, .iload 5, 0, 0) := rfl
theorem te_186_45 : (pT M_186).find? (fun e => e.1 == 45) = some (45, .iload 5, 0, 0) := rfl
theorem te_186_47 : (pT M_186).find? (fun e => e.1 == 47) = some (47, .iload_n 2, 0, 0) := rfl
theorem te_186_48 : (pT M_186).find? (fun e => e.1 == 48) = some (48, .isub, 0, 0) := rfl
theorem te_186_49 : (pT M_186).find? (fun e => e.1 == 49) = some (49, .aload_n 0, 0, 0) := rfl
theorem te_186_50 : (pT M_186).find? (fun e => e.1 == 50) = some (50, .getfield 31, 1, 13) := rfl
theorem te_186_53 : (pT M_186).find? (fun e => e.1 == 53) = some (53, .iload_n 1, 0, 0) := rfl
theorem te_186_54 : (pT M_186).find? (fun e => e.1 == 54) = some (54, .iaload, 0, 0) := rfl
theorem te_186_55 : (pT M_186).find? (fun e => e.1 == 55) = some (55, .invokestatic 118, 94, 2) := rfl
theorem te_186_58 : (pT M_186).find? (fun e => e.1 == 58) = some (58, .isub, 0, 0) := rfl
theorem te_186_59 : (pT M_186).find? (fun e => e.1 == 59) = some (59, .istore 5, 0, 0) := rfl
theorem te_186_61 : (pT M_186).find? (fun e => e.1 == 61) = some (61, .iload 5, 0, 0) := rfl
theorem te_186_63 : (pT M_186).find? (fun e => e.1 == 63) = some (63, .ifCond .ge 7, 0, 0) := rfl
theorem te_186_66 : (pT M_186).find? (fun e => e.1 == 66) = some (66, .iconst (-1), 0, 0) := rfl
theorem te_186_67 : (pT M_186).find? (fun e => e.1 == 67) = some (67, .goto 5, 0, 0) := rfl
theorem te_186_70 : (pT M_186).find? (fun e => e.1 == 70) = some (70, .iload 5, 0, 0) := rfl
theorem te_186_72 : (pT M_186).find? (fun e => e.1 == 72) = some (72, .ireturn, 0, 0) := rfl
theorem te_204_0 : (pT M_204).find? (fun e => e.1 == 0) = some (0, .iconst 0, 0, 0) := rfl
theorem te_204_1 : (pT M_204).find? (fun e => e.1 == 1) = some (1, .istore_n 3, 0, 0) := rfl
theorem te_204_2 : (pT M_204).find? (fun e => e.1 == 2) = some (2, .iconst 0, 0, 0) := rfl
theorem te_204_3 : (pT M_204).find? (fun e => e.1 == 3) = some (3, .istore 4, 0, 0) := rfl
theorem te_204_5 : (pT M_204).find? (fun e => e.1 == 5) = some (5, .iload 4, 0, 0) := rfl
theorem te_204_7 : (pT M_204).find? (fun e => e.1 == 7) = some (7, .aload_n 0, 0, 0) := rfl
theorem te_204_8 : (pT M_204).find? (fun e => e.1 == 8) = some (8, .getfield 24, 5, 0) := rfl
theorem te_204_11 : (pT M_204).find? (fun e => e.1 == 11) = some (11, .if_icmp .ge 27, 0, 0) := rfl
theorem te_204_14 : (pT M_204).find? (fun e => e.1 == 14) = some (14, .iload_n 3, 0, 0) := rfl
theorem te_204_15 : (pT M_204).find? (fun e => e.1 == 15) = some (15, .aload_n 0, 0, 0) := rfl
theorem te_204_16 : (pT M_204).find? (fun e => e.1 == 16) = some (16, .iload 4, 0, 0) := rfl
theorem te_204_18 : (pT M_204).find? (fun e => e.1 == 18) = some (18, .invokevirtual 57, 205, 0) := rfl
theorem te_204_21 : (pT M_204).find? (fun e => e.1 == 21) = some (21, .aload_n 1, 0, 0) := rfl
theorem te_204_22 : (pT M_204).find? (fun e => e.1 == 22) = some (22, .iload 4, 0, 0) := rfl
theorem te_204_24 : (pT M_204).find? (fun e => e.1 == 24) = some (24, .invokevirtual 61, 19, 1) := rfl
theorem te_204_27 : (pT M_204).find? (fun e => e.1 == 27) = some (27, .iadd, 0, 0) := rfl
theorem te_204_28 : (pT M_204).find? (fun e => e.1 == 28) = some (28, .invokestatic 47, 40, 2) := rfl
theorem te_204_31 : (pT M_204).find? (fun e => e.1 == 31) = some (31, .istore_n 3, 0, 0) := rfl
theorem te_204_32 : (pT M_204).find? (fun e => e.1 == 32) = some (32, .iinc 4 1, 0, 0) := rfl
theorem te_204_35 : (pT M_204).find? (fun e => e.1 == 35) = some (35, .goto (-30), 0, 0) := rfl
theorem te_204_38 : (pT M_204).find? (fun e => e.1 == 38) = some (38, .iload_n 3, 0, 0) := rfl
theorem te_204_39 : (pT M_204).find? (fun e => e.1 == 39) = some (39, .aload_n 1, 0, 0) := rfl
theorem te_204_40 : (pT M_204).find? (fun e => e.1 == 40) = some (40, .iload_n 2, 0, 0) := rfl
theorem te_204_41 : (pT M_204).find? (fun e => e.1 == 41) = some (41, .invokevirtual 61, 19, 1) := rfl
theorem te_204_44 : (pT M_204).find? (fun e => e.1 == 44) = some (44, .isub, 0, 0) := rfl
theorem te_204_45 : (pT M_204).find? (fun e => e.1 == 45) = some (45, .istore 4, 0, 0) := rfl
theorem te_204_47 : (pT M_204).find? (fun e => e.1 == 47) = some (47, .iconst 0, 0, 0) := rfl
theorem te_204_48 : (pT M_204).find? (fun e => e.1 == 48) = some (48, .istore 5, 0, 0) := rfl
theorem te_204_50 : (pT M_204).find? (fun e => e.1 == 50) = some (50, .iload 5, 0, 0) := rfl
theorem te_204_52 : (pT M_204).find? (fun e => e.1 == 52) = some (52, .aload_n 0, 0, 0) := rfl
theorem te_204_53 : (pT M_204).find? (fun e => e.1 == 53) = some (53, .getfield 24, 5, 0) := rfl
theorem te_204_56 : (pT M_204).find? (fun e => e.1 == 56) = some (56, .if_icmp .ge 48, 0, 0) := rfl
theorem te_204_59 : (pT M_204).find? (fun e => e.1 == 59) = some (59, .aload_n 0, 0, 0) := rfl
theorem te_204_60 : (pT M_204).find? (fun e => e.1 == 60) = some (60, .getfield 9, 5, 2) := rfl
theorem te_204_63 : (pT M_204).find? (fun e => e.1 == 63) = some (63, .iload_n 2, 0, 0) := rfl
theorem te_204_64 : (pT M_204).find? (fun e => e.1 == 64) = some (64, .bipush 8, 0, 0) := rfl
theorem te_204_66 : (pT M_204).find? (fun e => e.1 == 66) = some (66, .imul, 0, 0) := rfl
theorem te_204_67 : (pT M_204).find? (fun e => e.1 == 67) = some (67, .iload 5, 0, 0) := rfl
theorem te_204_69 : (pT M_204).find? (fun e => e.1 == 69) = some (69, .iadd, 0, 0) := rfl
theorem te_204_70 : (pT M_204).find? (fun e => e.1 == 70) = some (70, .iaload, 0, 0) := rfl
theorem te_204_71 : (pT M_204).find? (fun e => e.1 == 71) = some (71, .istore 6, 0, 0) := rfl
theorem te_204_73 : (pT M_204).find? (fun e => e.1 == 73) = some (73, .iload 6, 0, 0) := rfl
theorem te_204_75 : (pT M_204).find? (fun e => e.1 == 75) = some (75, .ldc 25, 3, 0) := rfl
theorem te_204_77 : (pT M_204).find? (fun e => e.1 == 77) = some (77, .if_icmp .eq 21, 0, 0) := rfl
theorem te_204_80 : (pT M_204).find? (fun e => e.1 == 80) = some (80, .iload 4, 0, 0) := rfl
theorem te_204_82 : (pT M_204).find? (fun e => e.1 == 82) = some (82, .iload_n 3, 0, 0) := rfl
theorem te_204_83 : (pT M_204).find? (fun e => e.1 == 83) = some (83, .aload_n 1, 0, 0) := rfl
theorem te_204_84 : (pT M_204).find? (fun e => e.1 == 84) = some (84, .iload 5, 0, 0) := rfl
theorem te_204_86 : (pT M_204).find? (fun e => e.1 == 86) = some (86, .invokevirtual 61, 19, 1) := rfl
theorem te_204_89 : (pT M_204).find? (fun e => e.1 == 89) = some (89, .isub, 0, 0) := rfl
theorem te_204_90 : (pT M_204).find? (fun e => e.1 == 90) = some (90, .iload 6, 0, 0) := rfl
theorem te_204_92 : (pT M_204).find? (fun e => e.1 == 92) = some (92, .isub, 0, 0) := rfl
theorem te_204_93 : (pT M_204).find? (fun e => e.1 == 93) = some (93, .invokestatic 64, 29, 2) := rfl
theorem te_204_96 : (pT M_204).find? (fun e => e.1 == 96) = some (96, .istore 4, 0, 0) := rfl
theorem te_204_98 : (pT M_204).find? (fun e => e.1 == 98) = some (98, .iinc 5 1, 0, 0) := rfl
theorem te_204_101 : (pT M_204).find? (fun e => e.1 == 101) = some (101, .goto (-51), 0, 0) := rfl
theorem te_204_104 : (pT M_204).find? (fun e => e.1 == 104) = some (104, .iload 4, 0, 0) := rfl
theorem te_204_106 : (pT M_204).find? (fun e => e.1 == 106) = some (106, .ireturn, 0, 0) := rfl
theorem te_205_0 : (pT M_205).find? (fun e => e.1 == 0) = some (0, .iconst 0, 0, 0) := rfl
theorem te_205_1 : (pT M_205).find? (fun e => e.1 == 1) = some (1, .istore_n 2, 0, 0) := rfl
theorem te_205_2 : (pT M_205).find? (fun e => e.1 == 2) = some (2, .iconst 0, 0, 0) := rfl
theorem te_205_3 : (pT M_205).find? (fun e => e.1 == 3) = some (3, .istore_n 3, 0, 0) := rfl
theorem te_205_4 : (pT M_205).find? (fun e => e.1 == 4) = some (4, .iload_n 3, 0, 0) := rfl
theorem te_205_5 : (pT M_205).find? (fun e => e.1 == 5) = some (5, .aload_n 0, 0, 0) := rfl
theorem te_205_6 : (pT M_205).find? (fun e => e.1 == 6) = some (6, .getfield 24, 5, 0) := rfl
theorem te_205_9 : (pT M_205).find? (fun e => e.1 == 9) = some (9, .if_icmp .ge 25, 0, 0) := rfl
theorem te_205_12 : (pT M_205).find? (fun e => e.1 == 12) = some (12, .iload_n 2, 0, 0) := rfl
theorem te_205_13 : (pT M_205).find? (fun e => e.1 == 13) = some (13, .aload_n 0, 0, 0) := rfl
theorem te_205_14 : (pT M_205).find? (fun e => e.1 == 14) = some (14, .getfield 9, 5, 2) := rfl
theorem te_205_17 : (pT M_205).find? (fun e => e.1 == 17) = some (17, .iload_n 3, 0, 0) := rfl
theorem te_205_18 : (pT M_205).find? (fun e => e.1 == 18) = some (18, .bipush 8, 0, 0) := rfl
theorem te_205_20 : (pT M_205).find? (fun e => e.1 == 20) = some (20, .imul, 0, 0) := rfl
theorem te_205_21 : (pT M_205).find? (fun e => e.1 == 21) = some (21, .iload_n 1, 0, 0) := rfl
theorem te_205_22 : (pT M_205).find? (fun e => e.1 == 22) = some (22, .iadd, 0, 0) := rfl
theorem te_205_23 : (pT M_205).find? (fun e => e.1 == 23) = some (23, .iaload, 0, 0) := rfl
theorem te_205_24 : (pT M_205).find? (fun e => e.1 == 24) = some (24, .invokestatic 47, 40, 2) := rfl
theorem te_205_27 : (pT M_205).find? (fun e => e.1 == 27) = some (27, .istore_n 2, 0, 0) := rfl
theorem te_205_28 : (pT M_205).find? (fun e => e.1 == 28) = some (28, .iinc 3 1, 0, 0) := rfl
theorem te_205_31 : (pT M_205).find? (fun e => e.1 == 31) = some (31, .goto (-27), 0, 0) := rfl
theorem te_205_34 : (pT M_205).find? (fun e => e.1 == 34) = some (34, .iload_n 2, 0, 0) := rfl
theorem te_205_35 : (pT M_205).find? (fun e => e.1 == 35) = some (35, .ireturn, 0, 0) := rfl
theorem te_208_0 : (pT M_208).find? (fun e => e.1 == 0) = some (0, .iconst 0, 0, 0) := rfl
theorem te_208_1 : (pT M_208).find? (fun e => e.1 == 1) = some (1, .istore 4, 0, 0) := rfl
theorem te_208_3 : (pT M_208).find? (fun e => e.1 == 3) = some (3, .iconst 0, 0, 0) := rfl
theorem te_208_4 : (pT M_208).find? (fun e => e.1 == 4) = some (4, .istore 5, 0, 0) := rfl
theorem te_208_6 : (pT M_208).find? (fun e => e.1 == 6) = some (6, .iload 5, 0, 0) := rfl
theorem te_208_8 : (pT M_208).find? (fun e => e.1 == 8) = some (8, .aload_n 0, 0, 0) := rfl
theorem te_208_9 : (pT M_208).find? (fun e => e.1 == 9) = some (9, .getfield 39, 1, 2) := rfl
theorem te_208_12 : (pT M_208).find? (fun e => e.1 == 12) = some (12, .if_icmp .ge 39, 0, 0) := rfl
theorem te_208_15 : (pT M_208).find? (fun e => e.1 == 15) = some (15, .aload_n 1, 0, 0) := rfl
theorem te_208_16 : (pT M_208).find? (fun e => e.1 == 16) = some (16, .iload 5, 0, 0) := rfl
theorem te_208_18 : (pT M_208).find? (fun e => e.1 == 18) = some (18, .invokevirtual 130, 37, 1) := rfl
theorem te_208_21 : (pT M_208).find? (fun e => e.1 == 21) = some (21, .iload_n 2, 0, 0) := rfl
theorem te_208_22 : (pT M_208).find? (fun e => e.1 == 22) = some (22, .if_icmp .ne 23, 0, 0) := rfl
theorem te_208_25 : (pT M_208).find? (fun e => e.1 == 25) = some (25, .aload_n 0, 0, 0) := rfl
theorem te_208_26 : (pT M_208).find? (fun e => e.1 == 26) = some (26, .aload_n 1, 0, 0) := rfl
theorem te_208_27 : (pT M_208).find? (fun e => e.1 == 27) = some (27, .iload 5, 0, 0) := rfl
theorem te_208_29 : (pT M_208).find? (fun e => e.1 == 29) = some (29, .iload_n 3, 0, 0) := rfl
theorem te_208_30 : (pT M_208).find? (fun e => e.1 == 30) = some (30, .invokevirtual 133, 120, 0) := rfl
theorem te_208_33 : (pT M_208).find? (fun e => e.1 == 33) = some (33, .ifCond .le 12, 0, 0) := rfl
theorem te_208_36 : (pT M_208).find? (fun e => e.1 == 36) = some (36, .iload 4, 0, 0) := rfl
theorem te_208_38 : (pT M_208).find? (fun e => e.1 == 38) = some (38, .iconst 1, 0, 0) := rfl
theorem te_208_39 : (pT M_208).find? (fun e => e.1 == 39) = some (39, .iload 5, 0, 0) := rfl
theorem te_208_41 : (pT M_208).find? (fun e => e.1 == 41) = some (41, .ishl, 0, 0) := rfl
theorem te_208_42 : (pT M_208).find? (fun e => e.1 == 42) = some (42, .ior, 0, 0) := rfl
theorem te_208_43 : (pT M_208).find? (fun e => e.1 == 43) = some (43, .istore 4, 0, 0) := rfl
theorem te_208_45 : (pT M_208).find? (fun e => e.1 == 45) = some (45, .iinc 5 1, 0, 0) := rfl
theorem te_208_48 : (pT M_208).find? (fun e => e.1 == 48) = some (48, .goto (-42), 0, 0) := rfl
theorem te_208_51 : (pT M_208).find? (fun e => e.1 == 51) = some (51, .iload 4, 0, 0) := rfl
theorem te_208_53 : (pT M_208).find? (fun e => e.1 == 53) = some (53, .ireturn, 0, 0) := rfl
theorem te_211_0 : (pT M_211).find? (fun e => e.1 == 0) = some (0, .iconst 0, 0, 0) := rfl
theorem te_211_1 : (pT M_211).find? (fun e => e.1 == 1) = some (1, .istore_n 2, 0, 0) := rfl
theorem te_211_2 : (pT M_211).find? (fun e => e.1 == 2) = some (2, .aload_n 0, 0, 0) := rfl
theorem te_211_3 : (pT M_211).find? (fun e => e.1 == 3) = some (3, .iload_n 1, 0, 0) := rfl
theorem te_211_4 : (pT M_211).find? (fun e => e.1 == 4) = some (4, .invokevirtual 137, 155, 0) := rfl
theorem te_211_7 : (pT M_211).find? (fun e => e.1 == 7) = some (7, .istore_n 3, 0, 0) := rfl
theorem te_211_8 : (pT M_211).find? (fun e => e.1 == 8) = some (8, .iconst 0, 0, 0) := rfl
theorem te_211_9 : (pT M_211).find? (fun e => e.1 == 9) = some (9, .istore 4, 0, 0) := rfl
theorem te_211_11 : (pT M_211).find? (fun e => e.1 == 11) = some (11, .iload 4, 0, 0) := rfl
theorem te_211_13 : (pT M_211).find? (fun e => e.1 == 13) = some (13, .iload_n 3, 0, 0) := rfl
theorem te_211_14 : (pT M_211).find? (fun e => e.1 == 14) = some (14, .if_icmp .ge 22, 0, 0) := rfl
theorem te_211_17 : (pT M_211).find? (fun e => e.1 == 17) = some (17, .aload_n 0, 0, 0) := rfl
theorem te_211_18 : (pT M_211).find? (fun e => e.1 == 18) = some (18, .iload 4, 0, 0) := rfl
theorem te_211_20 : (pT M_211).find? (fun e => e.1 == 20) = some (20, .iload_n 1, 0, 0) := rfl
theorem te_211_21 : (pT M_211).find? (fun e => e.1 == 21) = some (21, .invokevirtual 143, 212, 0) := rfl
theorem te_211_24 : (pT M_211).find? (fun e => e.1 == 24) = some (24, .ifCond .ne 6, 0, 0) := rfl
theorem te_211_27 : (pT M_211).find? (fun e => e.1 == 27) = some (27, .iinc 2 1, 0, 0) := rfl
theorem te_211_30 : (pT M_211).find? (fun e => e.1 == 30) = some (30, .iinc 4 1, 0, 0) := rfl
theorem te_211_33 : (pT M_211).find? (fun e => e.1 == 33) = some (33, .goto (-22), 0, 0) := rfl
theorem te_211_36 : (pT M_211).find? (fun e => e.1 == 36) = some (36, .iload_n 2, 0, 0) := rfl
theorem te_211_37 : (pT M_211).find? (fun e => e.1 == 37) = some (37, .ireturn, 0, 0) := rfl
theorem te_212_0 : (pT M_212).find? (fun e => e.1 == 0) = some (0, .iconst 0, 0, 0) := rfl
theorem te_212_1 : (pT M_212).find? (fun e => e.1 == 1) = some (1, .istore_n 3, 0, 0) := rfl
theorem te_212_2 : (pT M_212).find? (fun e => e.1 == 2) = some (2, .iload_n 3, 0, 0) := rfl
theorem te_212_3 : (pT M_212).find? (fun e => e.1 == 3) = some (3, .aload_n 0, 0, 0) := rfl
theorem te_212_4 : (pT M_212).find? (fun e => e.1 == 4) = some (4, .getfield 39, 1, 2) := rfl
theorem te_212_7 : (pT M_212).find? (fun e => e.1 == 7) = some (7, .if_icmp .ge 22, 0, 0) := rfl
theorem te_212_10 : (pT M_212).find? (fun e => e.1 == 10) = some (10, .aload_n 0, 0, 0) := rfl
theorem te_212_11 : (pT M_212).find? (fun e => e.1 == 11) = some (11, .iload_n 3, 0, 0) := rfl
theorem te_212_12 : (pT M_212).find? (fun e => e.1 == 12) = some (12, .iload_n 1, 0, 0) := rfl
theorem te_212_13 : (pT M_212).find? (fun e => e.1 == 13) = some (13, .iload_n 2, 0, 0) := rfl
theorem te_212_14 : (pT M_212).find? (fun e => e.1 == 14) = some (14, .invokevirtual 147, 152, 0) := rfl
theorem te_212_17 : (pT M_212).find? (fun e => e.1 == 17) = some (17, .iconst (-1), 0, 0) := rfl
theorem te_212_18 : (pT M_212).find? (fun e => e.1 == 18) = some (18, .if_icmp .eq 5, 0, 0) := rfl
theorem te_212_21 : (pT M_212).find? (fun e => e.1 == 21) = some (21, .iconst 1, 0, 0) := rfl
theorem te_212_22 : (pT M_212).find? (fun e => e.1 == 22) = some (22, .ireturn, 0, 0) := rfl
theorem te_212_23 : (pT M_212).find? (fun e => e.1 == 23) = some (23, .iinc 3 1, 0, 0) := rfl
theorem te_212_26 : (pT M_212).find? (fun e => e.1 == 26) = some (26, .goto (-24), 0, 0) := rfl
theorem te_212_29 : (pT M_212).find? (fun e => e.1 == 29) = some (29, .iconst 0, 0, 0) := rfl
theorem te_212_30 : (pT M_212).find? (fun e => e.1 == 30) = some (30, .ireturn, 0, 0) := rfl
theorem te_216_0 : (pT M_216).find? (fun e => e.1 == 0) = some (0, .iconst 0, 0, 0) := rfl
theorem te_216_1 : (pT M_216).find? (fun e => e.1 == 1) = some (1, .istore 5, 0, 0) := rfl
theorem te_216_3 : (pT M_216).find? (fun e => e.1 == 3) = some (3, .iconst 0, 0, 0) := rfl
theorem te_216_4 : (pT M_216).find? (fun e => e.1 == 4) = some (4, .istore 6, 0, 0) := rfl
theorem te_216_6 : (pT M_216).find? (fun e => e.1 == 6) = some (6, .iload 6, 0, 0) := rfl
theorem te_216_8 : (pT M_216).find? (fun e => e.1 == 8) = some (8, .aload_n 1, 0, 0) := rfl
theorem te_216_9 : (pT M_216).find? (fun e => e.1 == 9) = some (9, .iload_n 3, 0, 0) := rfl
theorem te_216_10 : (pT M_216).find? (fun e => e.1 == 10) = some (10, .invokevirtual 48, 13, 1) := rfl
theorem te_216_13 : (pT M_216).find? (fun e => e.1 == 13) = some (13, .if_icmp .ge 57, 0, 0) := rfl
theorem te_216_16 : (pT M_216).find? (fun e => e.1 == 16) = some (16, .aload_n 1, 0, 0) := rfl
theorem te_216_17 : (pT M_216).find? (fun e => e.1 == 17) = some (17, .iload_n 3, 0, 0) := rfl
theorem te_216_18 : (pT M_216).find? (fun e => e.1 == 18) = some (18, .iload 6, 0, 0) := rfl
theorem te_216_20 : (pT M_216).find? (fun e => e.1 == 20) = some (20, .invokevirtual 53, 14, 1) := rfl
theorem te_216_23 : (pT M_216).find? (fun e => e.1 == 23) = some (23, .istore 7, 0, 0) := rfl
theorem te_216_25 : (pT M_216).find? (fun e => e.1 == 25) = some (25, .iload 4, 0, 0) := rfl
theorem te_216_27 : (pT M_216).find? (fun e => e.1 == 27) = some (27, .aload_n 1, 0, 0) := rfl
theorem te_216_28 : (pT M_216).find? (fun e => e.1 == 28) = some (28, .iload_n 3, 0, 0) := rfl
theorem te_216_29 : (pT M_216).find? (fun e => e.1 == 29) = some (29, .iload 6, 0, 0) := rfl
theorem te_216_31 : (pT M_216).find? (fun e => e.1 == 31) = some (31, .invokevirtual 56, 15, 1) := rfl
theorem te_216_34 : (pT M_216).find? (fun e => e.1 == 34) = some (34, .isub, 0, 0) := rfl
theorem te_216_35 : (pT M_216).find? (fun e => e.1 == 35) = some (35, .istore 8, 0, 0) := rfl
theorem te_216_37 : (pT M_216).find? (fun e => e.1 == 37) = some (37, .iload 7, 0, 0) := rfl
theorem te_216_39 : (pT M_216).find? (fun e => e.1 == 39) = some (39, .ifCond .lt 25, 0, 0) := rfl
theorem te_216_42 : (pT M_216).find? (fun e => e.1 == 42) = some (42, .iload 8, 0, 0) := rfl
theorem te_216_44 : (pT M_216).find? (fun e => e.1 == 44) = some (44, .ifCond .lt 20, 0, 0) := rfl
theorem te_216_47 : (pT M_216).find? (fun e => e.1 == 47) = some (47, .iload 5, 0, 0) := rfl
theorem te_216_49 : (pT M_216).find? (fun e => e.1 == 49) = some (49, .aload_n 0, 0, 0) := rfl
theorem te_216_50 : (pT M_216).find? (fun e => e.1 == 50) = some (50, .aload_n 1, 0, 0) := rfl
theorem te_216_51 : (pT M_216).find? (fun e => e.1 == 51) = some (51, .aload_n 2, 0, 0) := rfl
theorem te_216_52 : (pT M_216).find? (fun e => e.1 == 52) = some (52, .iload 7, 0, 0) := rfl
theorem te_216_54 : (pT M_216).find? (fun e => e.1 == 54) = some (54, .iload 8, 0, 0) := rfl
theorem te_216_56 : (pT M_216).find? (fun e => e.1 == 56) = some (56, .invokevirtual 59, 217, 0) := rfl
theorem te_216_59 : (pT M_216).find? (fun e => e.1 == 59) = some (59, .invokestatic 45, 40, 2) := rfl
theorem te_216_62 : (pT M_216).find? (fun e => e.1 == 62) = some (62, .istore 5, 0, 0) := rfl
theorem te_216_64 : (pT M_216).find? (fun e => e.1 == 64) = some (64, .iinc 6 1, 0, 0) := rfl
theorem te_216_67 : (pT M_216).find? (fun e => e.1 == 67) = some (67, .goto (-61), 0, 0) := rfl
theorem te_216_70 : (pT M_216).find? (fun e => e.1 == 70) = some (70, .iload 5, 0, 0) := rfl
theorem te_216_72 : (pT M_216).find? (fun e => e.1 == 72) = some (72, .ireturn, 0, 0) := rfl
theorem te_217_0 : (pT M_217).find? (fun e => e.1 == 0) = some (0, .aload_n 2, 0, 0) := rfl
theorem te_217_1 : (pT M_217).find? (fun e => e.1 == 1) = some (1, .getfield 62, 1, 9) := rfl
theorem te_217_4 : (pT M_217).find? (fun e => e.1 == 4) = some (4, .iload_n 3, 0, 0) := rfl
theorem te_217_5 : (pT M_217).find? (fun e => e.1 == 5) = some (5, .iaload, 0, 0) := rfl
theorem te_217_6 : (pT M_217).find? (fun e => e.1 == 6) = some (6, .aload_n 2, 0, 0) := rfl
theorem te_217_7 : (pT M_217).find? (fun e => e.1 == 7) = some (7, .getfield 65, 1, 3) := rfl
theorem te_217_10 : (pT M_217).find? (fun e => e.1 == 10) = some (10, .iload 4, 0, 0) := rfl
theorem te_217_12 : (pT M_217).find? (fun e => e.1 == 12) = some (12, .imul, 0, 0) := rfl
theorem te_217_13 : (pT M_217).find? (fun e => e.1 == 13) = some (13, .iadd, 0, 0) := rfl
theorem te_217_14 : (pT M_217).find? (fun e => e.1 == 14) = some (14, .istore 5, 0, 0) := rfl
theorem te_217_16 : (pT M_217).find? (fun e => e.1 == 16) = some (16, .iload 5, 0, 0) := rfl
theorem te_217_18 : (pT M_217).find? (fun e => e.1 == 18) = some (18, .ifCond .lt 11, 0, 0) := rfl
theorem te_217_21 : (pT M_217).find? (fun e => e.1 == 21) = some (21, .iload 5, 0, 0) := rfl
theorem te_217_23 : (pT M_217).find? (fun e => e.1 == 23) = some (23, .sipush 1024, 0, 0) := rfl
theorem te_217_26 : (pT M_217).find? (fun e => e.1 == 26) = some (26, .if_icmp .lt 5, 0, 0) := rfl
theorem te_217_29 : (pT M_217).find? (fun e => e.1 == 29) = some (29, .iconst 0, 0, 0) := rfl
theorem te_217_30 : (pT M_217).find? (fun e => e.1 == 30) = some (30, .ireturn, 0, 0) := rfl
theorem te_217_31 : (pT M_217).find? (fun e => e.1 == 31) = some (31, .iload 5, 0, 0) := rfl
theorem te_217_33 : (pT M_217).find? (fun e => e.1 == 33) = some (33, .aload_n 0, 0, 0) := rfl
theorem te_217_34 : (pT M_217).find? (fun e => e.1 == 34) = some (34, .getfield 11, 3, 0) := rfl
theorem te_217_37 : (pT M_217).find? (fun e => e.1 == 37) = some (37, .iload 5, 0, 0) := rfl
theorem te_217_39 : (pT M_217).find? (fun e => e.1 == 39) = some (39, .iaload, 0, 0) := rfl
theorem te_217_40 : (pT M_217).find? (fun e => e.1 == 40) = some (40, .iadd, 0, 0) := rfl
theorem te_217_41 : (pT M_217).find? (fun e => e.1 == 41) = some (41, .aload_n 1, 0, 0) := rfl
theorem te_217_42 : (pT M_217).find? (fun e => e.1 == 42) = some (42, .iload_n 3, 0, 0) := rfl
theorem te_217_43 : (pT M_217).find? (fun e => e.1 == 43) = some (43, .invokevirtual 68, 19, 1) := rfl
theorem te_217_46 : (pT M_217).find? (fun e => e.1 == 46) = some (46, .iadd, 0, 0) := rfl
theorem te_217_47 : (pT M_217).find? (fun e => e.1 == 47) = some (47, .istore 6, 0, 0) := rfl
theorem te_217_49 : (pT M_217).find? (fun e => e.1 == 49) = some (49, .aload_n 1, 0, 0) := rfl
theorem te_217_50 : (pT M_217).find? (fun e => e.1 == 50) = some (50, .getfield 71, 0, 1) := rfl
theorem te_217_53 : (pT M_217).find? (fun e => e.1 == 53) = some (53, .iload_n 3, 0, 0) := rfl
theorem te_217_54 : (pT M_217).find? (fun e => e.1 == 54) = some (54, .iaload, 0, 0) := rfl
theorem te_217_55 : (pT M_217).find? (fun e => e.1 == 55) = some (55, .iconst 4, 0, 0) := rfl
theorem te_217_56 : (pT M_217).find? (fun e => e.1 == 56) = some (56, .if_icmp .ne 7, 0, 0) := rfl
theorem te_217_59 : (pT M_217).find? (fun e => e.1 == 59) = some (59, .iconst 1, 0, 0) := rfl
theorem te_217_60 : (pT M_217).find? (fun e => e.1 == 60) = some (60, .goto 4, 0, 0) := rfl
theorem te_217_63 : (pT M_217).find? (fun e => e.1 == 63) = some (63, .iconst 0, 0, 0) := rfl
theorem te_217_64 : (pT M_217).find? (fun e => e.1 == 64) = some (64, .istore 7, 0, 0) := rfl
theorem te_217_66 : (pT M_217).find? (fun e => e.1 == 66) = some (66, .iload 7, 0, 0) := rfl
theorem te_217_68 : (pT M_217).find? (fun e => e.1 == 68) = some (68, .ifCond .eq 35, 0, 0) := rfl
theorem te_217_71 : (pT M_217).find? (fun e => e.1 == 71) = some (71, .aload_n 0, 0, 0) := rfl
theorem te_217_72 : (pT M_217).find? (fun e => e.1 == 72) = some (72, .getfield 15, 3, 1) := rfl
theorem te_217_75 : (pT M_217).find? (fun e => e.1 == 75) = some (75, .ifCond .le 28, 0, 0) := rfl
theorem te_217_78 : (pT M_217).find? (fun e => e.1 == 78) = some (78, .iload 4, 0, 0) := rfl
theorem te_217_80 : (pT M_217).find? (fun e => e.1 == 80) = some (80, .aload_n 1, 0, 0) := rfl
theorem te_217_81 : (pT M_217).find? (fun e => e.1 == 81) = some (81, .iload_n 3, 0, 0) := rfl
theorem te_217_82 : (pT M_217).find? (fun e => e.1 == 82) = some (82, .invokevirtual 74, 25, 1) := rfl
theorem te_217_85 : (pT M_217).find? (fun e => e.1 == 85) = some (85, .iadd, 0, 0) := rfl
theorem te_217_86 : (pT M_217).find? (fun e => e.1 == 86) = some (86, .aload_n 0, 0, 0) := rfl
theorem te_217_87 : (pT M_217).find? (fun e => e.1 == 87) = some (87, .getfield 15, 3, 1) := rfl
theorem te_217_90 : (pT M_217).find? (fun e => e.1 == 90) = some (90, .irem, 0, 0) := rfl
theorem te_217_91 : (pT M_217).find? (fun e => e.1 == 91) = some (91, .ifCond .ne 12, 0, 0) := rfl
theorem te_217_94 : (pT M_217).find? (fun e => e.1 == 94) = some (94, .iload 6, 0, 0) := rfl
theorem te_217_96 : (pT M_217).find? (fun e => e.1 == 96) = some (96, .aload_n 0, 0, 0) := rfl
theorem te_217_97 : (pT M_217).find? (fun e => e.1 == 97) = some (97, .getfield 19, 3, 2) := rfl
theorem te_217_100 : (pT M_217).find? (fun e => e.1 == 100) = some (100, .iadd, 0, 0) := rfl
theorem te_217_101 : (pT M_217).find? (fun e => e.1 == 101) = some (101, .istore 6, 0, 0) := rfl
theorem te_217_103 : (pT M_217).find? (fun e => e.1 == 103) = some (103, .iload 6, 0, 0) := rfl
theorem te_217_105 : (pT M_217).find? (fun e => e.1 == 105) = some (105, .ireturn, 0, 0) := rfl
theorem f_34 {S : Nat × (Nat → Int32)} {n : Nat} {mem : MM} {K : Int → MM → Prop} {E : Nat → MM → Prop} {x y : Int} (hy : 0 < y) (H : ∀ q, y * q ≤ x → x < y * q + y → K q mem) : CQI (Ex S (n + 1)) 34 [.inl x, .inl y] mem K E := by
  refine CY.of (k := 1) mt_34 rfl rfl (fun hv => ?_)
  have hC := Ex.mono S n
  have ii_x : InI x := hv (.inl x) (by simp)
  unfold InI at ii_x
  have ii_y : InI y := hv (.inl y) (by simp)
  unfold InI at ii_y
  clear hv
  have fin : ∀ q z : Int, z = x.tdiv y → (q = z ∧ (0 ≤ x ∨ y * z = x) ∨ q = z - 1 ∧ x < 0 ∧ ¬ y * z = x) → K q mem := fun q z e h => by
    have td := tdv_b (x := x) hy e
    rcases h with h | h
    · exact H q (by rw [h.1]; omega) (by rw [h.1]; omega)
    · have e1 : y * (z - 1) = y * z - y := by rw [Int.mul_sub, Int.mul_one]
      exact H q (by rw [h.1, e1]; omega) (by rw [h.1, e1]; omega)
  show Tx (Ex S n) S M_34 (kI K E) 0 0 0 [some (.inl x), some (.inl y), none] [] mem
  refine Tx.iload_n hC te_34_0 rfl ?_
  refine Tx.iload_n hC te_34_1 rfl ?_
  refine Tx.idivW hC te_34_2 (by omega) (fun z1 z1i z1e z1f => ?_)
  unfold InI at z1i
  have td := tdv_b (x := x) hy z1e
  refine Tx.istore_n hC te_34_3 rfl ?_
  refine Tx.iload_n hC te_34_4 rfl ?_
  refine Tx.iload_n hC te_34_5 rfl ?_
  refine Tx.bits hC (f := (fun (x y : Int32) => x ^^^ y)) te_34_6 (fun _ _ _ _ => Iff.rfl) (fun b2 b2e b2i => ?_)
  unfold InI at b2i
  have xs := xor_neg (by unfold InI; omega) (by unfold InI; omega) hy b2e
  refine Tx.ifc hC (t := 21) te_34_7 (by decide) (fun q3 => ?_) (fun q3 => ?_)
  · replace q3 : 0 ≤ (b2 : Int) := q3
    refine Tx.iload_n hC te_34_21 rfl ?_
    exact Tx.ireturn hC te_34_22 rfl (fun hr => show K z1 mem from fin z1 _ z1e (by omega))
  · replace q3 : ¬ (0 ≤ (b2 : Int)) := q3
    refine Tx.iload_n hC te_34_10 rfl ?_
    refine Tx.iload_n hC te_34_11 rfl ?_
    have cm := Int.mul_comm z1 y
    refine Tx.imulW hC te_34_12 (fun z4 z4i z4e => ?_)
    unfold InI at z4i z4e
    first | replace z4e := z4e (by omega) | clear z4e
    refine Tx.iload_n hC te_34_13 rfl ?_
    refine Tx.icmp hC (t := 21) te_34_14 (by decide) (fun q5 => ?_) (fun q5 => ?_)
    · replace q5 : (z4 : Int) = x := q5
      refine Tx.iload_n hC te_34_21 rfl ?_
      exact Tx.ireturn hC te_34_22 rfl (fun hr => show K z1 mem from fin z1 _ z1e (by omega))
    · replace q5 : ¬ ((z4 : Int) = x) := q5
      refine Tx.iload_n hC te_34_17 rfl ?_
      refine Tx.iconst hC te_34_18 rfl ?_
      have nm : ¬ z1 = -2147483648 := by
        intro q; subst q; omega
      refine Tx.isubW hC te_34_19 (fun z6 z6i z6e => ?_)
      unfold InI at z6i z6e
      first | replace z6e := z6e (by omega) | clear z6e
      exact Tx.ireturn hC te_34_20 rfl (fun hr => show K z6 mem from fin z6 _ z1e (by omega))
theorem f_94 {S : Nat × (Nat → Int32)} {n : Nat} {mem : MM} {K : Int → MM → Prop} {E : Nat → MM → Prop} {x y : Int} (hy : 0 < y) (H : ∀ r, 0 ≤ r → r < y → K r mem) : CQI (Ex S (n + 1)) 94 [.inl x, .inl y] mem K E := by
  refine CY.of (k := 1) mt_94 rfl rfl (fun hv => ?_)
  have hC := Ex.mono S n
  have ii_x : InI x := hv (.inl x) (by simp)
  unfold InI at ii_x
  have ii_y : InI y := hv (.inl y) (by simp)
  unfold InI at ii_y
  clear hv
  show Tx (Ex S n) S M_94 (kI K E) 0 0 0 [some (.inl x), some (.inl y), none] [] mem
  refine Tx.iload_n hC te_94_0 rfl ?_
  refine Tx.iload_n hC te_94_1 rfl ?_
  refine Tx.iremW hC te_94_2 (by omega) (fun z1 z1i z1e z1f => ?_)
  unfold InI at z1i
  refine Tx.istore_n hC te_94_3 rfl ?_
  refine Tx.iload_n hC te_94_4 rfl ?_
  refine Tx.iload_n hC te_94_5 rfl ?_
  refine Tx.bits hC (f := (fun (x y : Int32) => x ^^^ y)) te_94_6 (fun _ _ _ _ => Iff.rfl) (fun b2 b2e b2i => ?_)
  unfold InI at b2i
  have xs := xor_neg (by unfold InI; omega) (by unfold InI; omega) hy b2e
  refine Tx.ifc hC (t := 18) te_94_7 (by decide) (fun q3 => ?_) (fun q3 => ?_)
  · replace q3 : 0 ≤ (b2 : Int) := q3
    refine Tx.iload_n hC te_94_18 rfl ?_
    exact Tx.ireturn hC te_94_19 rfl (fun hr => show K z1 mem from H z1 (by omega) (by omega))
  · replace q3 : ¬ (0 ≤ (b2 : Int)) := q3
    refine Tx.iload_n hC te_94_10 rfl ?_
    refine Tx.ifc hC (t := 18) te_94_11 (by decide) (fun q4 => ?_) (fun q4 => ?_)
    · replace q4 : (z1 : Int) = 0 := q4
      refine Tx.iload_n hC te_94_18 rfl ?_
      exact Tx.ireturn hC te_94_19 rfl (fun hr => show K z1 mem from H z1 (by omega) (by omega))
    · replace q4 : ¬ ((z1 : Int) = 0) := q4
      refine Tx.iload_n hC te_94_14 rfl ?_
      refine Tx.iload_n hC te_94_15 rfl ?_
      refine Tx.iaddW hC te_94_16 (fun z5 z5i z5e => ?_)
      unfold InI at z5i z5e
      first | replace z5e := z5e (by omega) | clear z5e
      exact Tx.ireturn hC te_94_17 rfl (fun hr => show K z5 mem from H z5 (by omega) (by omega))
theorem f_33 {S : Nat × (Nat → Int32)} {n : Nat} {mem : MM} {K : Int → MM → Prop} {E : Nat → MM → Prop} {a b : Int} (H : ∀ r, (0 < b → 0 < a → b * (r - 1) < a ∧ a ≤ b * r ∧ 0 < r) → K r mem) : CQI (Ex S (n + 2)) 33 [.inl a, .inl b] mem K E := by
  refine CY.of (k := 0) mt_33 rfl rfl (fun hv => ?_)
  have hC := Ex.mono S (n + 1)
  have ii_a : InI a := hv (.inl a) (by simp)
  unfold InI at ii_a
  have ii_b : InI b := hv (.inl b) (by simp)
  unfold InI at ii_b
  clear hv
  show Tx (Ex S (n + 1)) S M_33 (kI K E) 0 0 0 [some (.inl a), some (.inl b)] [] mem
  refine Tx.iload_n hC te_33_0 rfl ?_
  refine Tx.ifc hC (t := 8) te_33_1 (by decide) (fun q1 => ?_) (fun q1 => ?_)
  · replace q1 : 0 < (b : Int) := q1
    refine Tx.iload_n hC te_33_8 rfl ?_
    refine Tx.inegW hC te_33_9 (fun z2 z2i z2e => ?_)
    unfold InI at z2i z2e
    refine Tx.iload_n hC te_33_10 rfl ?_
    refine Tx.statI hC te_33_11 (by decide) mt_34 (args := [.inl z2, .inl b]) (rest := []) (c' := 0) (s' := 0) rfl rfl rfl rfl rfl rfl rfl ?_
    refine f_34 (by omega) (fun r3 r3a r3b r3i => ?_)
    unfold InI at r3i
    refine Tx.inegW hC te_33_14 (fun z6 z6i z6e => ?_)
    unfold InI at z6i z6e
    exact Tx.ireturn hC te_33_15 rfl (fun hr => show K z6 mem from H z6 (fun h1 h2 => ru_fin h1 h2 (z2e (by omega)) (by have := z2e (by omega); omega) r3a r3b (by omega) (by omega) z6e))
  · replace q1 : ¬ (0 < (b : Int)) := q1
    refine Tx.iconst hC te_33_4 rfl ?_
    refine Tx.goto hC (t := 15) te_33_5 (by decide) ?_
    exact Tx.ireturn hC te_33_15 rfl (fun hr => show K 0 mem from H 0 (fun h1 h2 => by omega))
theorem f_32 {S : Nat × (Nat → Int32)} {n : Nat} {mem : MM} {K : Int → MM → Prop} {E : Nat → MM → Prop} {W : Nat} (hW : WebSh W) (H : ∀ r, K r mem) : CQI (Ex S (n + 3)) 32 [.inr W] mem K E := by
  refine CY.of (k := 0) mt_32 rfl rfl (fun hv => ?_)
  have hC := Ex.mono S (n + 2)
  clear hv
  show Tx (Ex S (n + 2)) S M_32 (kI K E) 0 0 0 [some (.inr W)] [] mem
  refine Tx.aload_n hC te_32_0 rfl ?_
  refine Tx.getI hC te_32_1 hW.1 rfl rfl (fun v1 v1e v1i => ?_)
  unfold InI at v1i
  refine Tx.aload_n hC te_32_4 rfl ?_
  refine Tx.getI hC te_32_5 hW.1 rfl rfl (fun v2 v2e v2i => ?_)
  unfold InI at v2i
  refine Tx.statI hC te_32_8 (by decide) mt_33 (args := [.inl v1, .inl v2]) (rest := []) (c' := 0) (s' := 0) rfl rfl rfl rfl rfl rfl rfl ?_
  refine f_33 (fun r3 r3f r3i => ?_)
  unfold InI at r3i
  exact Tx.ireturn hC te_32_11 rfl (fun hr => show K r3 mem from H r3)
theorem f_39 {S : Nat × (Nat → Int32)} {n : Nat} {mem : MM} {K : Int → MM → Prop} {E : Nat → MM → Prop} {x : Int} (H : ∀ r, K r mem) : CQI (Ex S (n + 1)) 39 [.inl x] mem K E := by
  refine CY.of (k := 0) mt_39 rfl rfl (fun hv => ?_)
  have hC := Ex.mono S n
  have ii_x : InI x := hv (.inl x) (by simp)
  unfold InI at ii_x
  clear hv
  show Tx (Ex S n) S M_39 (kI K E) 0 0 0 [some (.inl x)] [] mem
  refine Tx.iload_n hC te_39_0 rfl ?_
  refine Tx.iload_n hC te_39_1 rfl ?_
  refine Tx.iconst hC te_39_2 rfl ?_
  refine Tx.bits hC (f := (fun (x y : Int32) => (x.toUInt32 >>> (y.toUInt32 &&& Int32.toUInt32 31)).toInt32)) te_39_3 (fun _ _ _ _ => Iff.rfl) (fun b1 b1e b1i => ?_)
  unfold InI at b1i
  refine Tx.ldc_w hC (z := 1431655765) te_39_4 rfl rfl rfl rfl ?_
  refine Tx.bits hC (f := (fun (x y : Int32) => x &&& y)) te_39_7 (fun _ _ _ _ => Iff.rfl) (fun b2 b2e b2i => ?_)
  unfold InI at b2i
  refine Tx.isubW hC te_39_8 (fun z3 z3i z3e => ?_)
  unfold InI at z3i z3e
  first | replace z3e := z3e (by omega) | clear z3e
  refine Tx.istore_n hC te_39_9 rfl ?_
  refine Tx.iload_n hC te_39_10 rfl ?_
  refine Tx.ldc_w hC (z := 858993459) te_39_11 rfl rfl rfl rfl ?_
  refine Tx.bits hC (f := (fun (x y : Int32) => x &&& y)) te_39_14 (fun _ _ _ _ => Iff.rfl) (fun b4 b4e b4i => ?_)
  unfold InI at b4i
  refine Tx.iload_n hC te_39_15 rfl ?_
  refine Tx.iconst hC te_39_16 rfl ?_
  refine Tx.bits hC (f := (fun (x y : Int32) => (x.toUInt32 >>> (y.toUInt32 &&& Int32.toUInt32 31)).toInt32)) te_39_17 (fun _ _ _ _ => Iff.rfl) (fun b5 b5e b5i => ?_)
  unfold InI at b5i
  refine Tx.ldc_w hC (z := 858993459) te_39_18 rfl rfl rfl rfl ?_
  refine Tx.bits hC (f := (fun (x y : Int32) => x &&& y)) te_39_21 (fun _ _ _ _ => Iff.rfl) (fun b6 b6e b6i => ?_)
  unfold InI at b6i
  refine Tx.iaddW hC te_39_22 (fun z7 z7i z7e => ?_)
  unfold InI at z7i z7e
  first | replace z7e := z7e (by omega) | clear z7e
  refine Tx.istore_n hC te_39_23 rfl ?_
  refine Tx.iload_n hC te_39_24 rfl ?_
  refine Tx.iload_n hC te_39_25 rfl ?_
  refine Tx.iconst hC te_39_26 rfl ?_
  refine Tx.bits hC (f := (fun (x y : Int32) => (x.toUInt32 >>> (y.toUInt32 &&& Int32.toUInt32 31)).toInt32)) te_39_27 (fun _ _ _ _ => Iff.rfl) (fun b8 b8e b8i => ?_)
  unfold InI at b8i
  refine Tx.iaddW hC te_39_28 (fun z9 z9i z9e => ?_)
  unfold InI at z9i z9e
  first | replace z9e := z9e (by omega) | clear z9e
  refine Tx.ldc_w hC (z := 252645135) te_39_29 rfl rfl rfl rfl ?_
  refine Tx.bits hC (f := (fun (x y : Int32) => x &&& y)) te_39_32 (fun _ _ _ _ => Iff.rfl) (fun b10 b10e b10i => ?_)
  unfold InI at b10i
  refine Tx.istore_n hC te_39_33 rfl ?_
  refine Tx.iload_n hC te_39_34 rfl ?_
  refine Tx.iload_n hC te_39_35 rfl ?_
  refine Tx.bipush hC te_39_36 rfl rfl ?_
  refine Tx.bits hC (f := (fun (x y : Int32) => (x.toUInt32 >>> (y.toUInt32 &&& Int32.toUInt32 31)).toInt32)) te_39_38 (fun _ _ _ _ => Iff.rfl) (fun b11 b11e b11i => ?_)
  unfold InI at b11i
  refine Tx.iaddW hC te_39_39 (fun z12 z12i z12e => ?_)
  unfold InI at z12i z12e
  first | replace z12e := z12e (by omega) | clear z12e
  refine Tx.istore_n hC te_39_40 rfl ?_
  refine Tx.iload_n hC te_39_41 rfl ?_
  refine Tx.iload_n hC te_39_42 rfl ?_
  refine Tx.bipush hC te_39_43 rfl rfl ?_
  refine Tx.bits hC (f := (fun (x y : Int32) => (x.toUInt32 >>> (y.toUInt32 &&& Int32.toUInt32 31)).toInt32)) te_39_45 (fun _ _ _ _ => Iff.rfl) (fun b13 b13e b13i => ?_)
  unfold InI at b13i
  refine Tx.iaddW hC te_39_46 (fun z14 z14i z14e => ?_)
  unfold InI at z14i z14e
  first | replace z14e := z14e (by omega) | clear z14e
  refine Tx.istore_n hC te_39_47 rfl ?_
  refine Tx.iload_n hC te_39_48 rfl ?_
  refine Tx.bipush hC te_39_49 rfl rfl ?_
  refine Tx.bits hC (f := (fun (x y : Int32) => x &&& y)) te_39_51 (fun _ _ _ _ => Iff.rfl) (fun b15 b15e b15i => ?_)
  unfold InI at b15i
  exact Tx.ireturn hC te_39_52 rfl (fun hr => show K b15 mem from H b15)
theorem f_36 {S : Nat × (Nat → Int32)} {n : Nat} {mem : MM} {K : Int → MM → Prop} {E : Nat → MM → Prop} {u : Int} (hB : BodyOK mem) (H : ∀ r, K r mem) : CQI (Ex S (n + 2)) 36 [.inr 1, .inl u] mem K E := by
  refine CY.of (k := 2) mt_36 rfl rfl (fun hv => ?_)
  have hC := Ex.mono S (n + 1)
  have ii_u : InI u := hv (.inl u) (by simp)
  unfold InI at ii_u
  clear hv
  have h8 := hB.1
  show Tx (Ex S (n + 1)) S M_36 (kI K E) 0 0 0 [some (.inr 1), some (.inl u), none, none] [] mem
  have l_4 : ∀ (N : Nat) (x2 x3 : Int), (0 ≤ x3) → ((8 - x3).toNat) < N → Tx (Ex S (n + 1)) S M_36 (kI K E) 0 0 4 [some (.inr 1), some (.inl u), some (.inl x2), some (.inl x3)] [] mem := by
    intro N
    induction N with
    | zero => intros; omega
    | succ N ih_4 =>
      intro x2 x3 i4_0 hN_4 
      refine Tx.iload_n hC te_36_4 rfl ?_
      refine Tx.aload_n hC te_36_5 rfl ?_
      refine Tx.getI hC te_36_6 rfl rfl rfl (fun v1 v1e v1i => ?_)
      unfold InI at v1i
      refine Tx.icmp hC (t := 38) te_36_9 (by decide) (fun q2 => ?_) (fun q2 => ?_)
      · replace q2 : v1 ≤ (x3 : Int) := q2
        refine Tx.iload_n hC te_36_38 rfl ?_
        exact Tx.ireturn hC te_36_39 rfl (fun hr => show K x2 mem from H x2)
      · replace q2 : ¬ (v1 ≤ (x3 : Int)) := q2
        refine Tx.aload_n hC te_36_12 rfl ?_
        refine Tx.iload_n hC te_36_13 rfl ?_
        refine Tx.virtI hC te_36_14 mt_37 (args := [.inr 1, .inl x3]) (rest := []) (c' := 0) (s' := 0) rfl rfl rfl rfl rfl rfl rfl rfl rfl rfl ?_
        refine CWI.q hC (f_37 hB (by omega) (fun r3 r3a r3b r3i => ?_))
        unfold InI at r3i
        refine Tx.iload_n hC te_36_17 rfl ?_
        refine Tx.icmp hC (t := 32) te_36_18 (by decide) (fun q6 => ?_) (fun q6 => ?_)
        · replace q6 : ¬ (r3 : Int) = u := q6
          refine Tx.iincW hC te_36_32 rfl rfl (fun z7 z7i z7e => ?_)
          unfold InI at z7i z7e
          first | replace z7e := z7e (by omega) | clear z7e
          refine Tx.goto hC (t := 4) te_36_35 (by decide) ?_
          exact ih_4 x2 z7 (by omega) (by omega)
        · replace q6 : ¬ (¬ (r3 : Int) = u) := q6
          refine Tx.iload_n hC te_36_21 rfl ?_
          refine Tx.aload_n hC te_36_22 rfl ?_
          refine Tx.iload_n hC te_36_23 rfl ?_
          refine Tx.virtI hC te_36_24 mt_38 (args := [.inr 1, .inl x3]) (rest := [.inl x2]) (c' := 0) (s' := 0) rfl rfl rfl rfl rfl rfl rfl rfl rfl rfl ?_
          refine CWI.q hC (f_38 hB (by omega) (fun r8 r8a r8b r8i => ?_))
          unfold InI at r8i
          refine Tx.statI hC te_36_27 (by decide) mt_39 (args := [.inl r8]) (rest := [.inl x2]) (c' := 0) (s' := 0) rfl rfl rfl rfl rfl rfl rfl ?_
          refine f_39 (fun r11 r11i => ?_)
          unfold InI at r11i
          refine Tx.iaddW hC te_36_30 (fun z14 z14i z14e => ?_)
          unfold InI at z14i z14e
          first | replace z14e := z14e (by omega) | clear z14e
          refine Tx.istore_n hC te_36_31 rfl ?_
          refine Tx.iincW hC te_36_32 rfl rfl (fun z15 z15i z15e => ?_)
          unfold InI at z15i z15e
          first | replace z15e := z15e (by omega) | clear z15e
          refine Tx.goto hC (t := 4) te_36_35 (by decide) ?_
          exact ih_4 z14 z15 (by omega) (by omega)
  refine Tx.iconst hC te_36_0 rfl ?_
  refine Tx.istore_n hC te_36_1 rfl ?_
  refine Tx.iconst hC te_36_2 rfl ?_
  refine Tx.istore_n hC te_36_3 rfl ?_
  exact l_4 _ 0 0 (by omega) (Nat.lt_succ_self _)
theorem f_42 {S : Nat × (Nat → Int32)} {n : Nat} {mem : MM} {K : Int → MM → Prop} {E : Nat → MM → Prop} (hB : BodyOK mem) (H : ∀ r, K r mem) : CQI (Ex S (n + 2)) 42 [.inr 1] mem K E := by
  refine CY.of (k := 2) mt_42 rfl rfl (fun hv => ?_)
  have hC := Ex.mono S (n + 1)
  clear hv
  have h8 := hB.1
  show Tx (Ex S (n + 1)) S M_42 (kI K E) 0 0 0 [some (.inr 1), none, none] [] mem
  have l_4 : ∀ (N : Nat) (x1 x2 : Int), (0 ≤ x2) → ((8 - x2).toNat) < N → Tx (Ex S (n + 1)) S M_42 (kI K E) 0 0 4 [some (.inr 1), some (.inl x1), some (.inl x2)] [] mem := by
    intro N
    induction N with
    | zero => intros; omega
    | succ N ih_4 =>
      intro x1 x2 i4_0 hN_4 
      refine Tx.iload_n hC te_42_4 rfl ?_
      refine Tx.aload_n hC te_42_5 rfl ?_
      refine Tx.getI hC te_42_6 rfl rfl rfl (fun v1 v1e v1i => ?_)
      unfold InI at v1i
      refine Tx.icmp hC (t := 26) te_42_9 (by decide) (fun q2 => ?_) (fun q2 => ?_)
      · replace q2 : v1 ≤ (x2 : Int) := q2
        refine Tx.iload_n hC te_42_26 rfl ?_
        exact Tx.ireturn hC te_42_27 rfl (fun hr => show K x1 mem from H x1)
      · replace q2 : ¬ (v1 ≤ (x2 : Int)) := q2
        refine Tx.iload_n hC te_42_12 rfl ?_
        refine Tx.aload_n hC te_42_13 rfl ?_
        refine Tx.iload_n hC te_42_14 rfl ?_
        refine Tx.virtI hC te_42_15 mt_19 (args := [.inr 1, .inl x2]) (rest := [.inl x1]) (c' := 0) (s' := 0) rfl rfl rfl rfl rfl rfl rfl rfl rfl rfl ?_
        refine CWI.q hC (f_19 hB (by omega) (fun r3 r3a r3b r3i => ?_))
        unfold InI at r3i
        refine Tx.iaddW hC te_42_18 (fun z6 z6i z6e => ?_)
        unfold InI at z6i z6e
        first | replace z6e := z6e (by omega) | clear z6e
        refine Tx.istore_n hC te_42_19 rfl ?_
        refine Tx.iincW hC te_42_20 rfl rfl (fun z7 z7i z7e => ?_)
        unfold InI at z7i z7e
        first | replace z7e := z7e (by omega) | clear z7e
        refine Tx.goto hC (t := 4) te_42_23 (by decide) ?_
        exact ih_4 z6 z7 (by omega) (by omega)
  refine Tx.iconst hC te_42_0 rfl ?_
  refine Tx.istore_n hC te_42_1 rfl ?_
  refine Tx.iconst hC te_42_2 rfl ?_
  refine Tx.istore_n hC te_42_3 rfl ?_
  exact l_4 _ 0 0 (by omega) (Nat.lt_succ_self _)
theorem f_35 {S : Nat × (Nat → Int32)} {n : Nat} {mem : MM} {K : Int → MM → Prop} {E : Nat → MM → Prop} {u k : Int} (hB : BodyOK mem) (H : ∀ r, K r mem) : CQI (Ex S (n + 3)) 35 [.inr 1, .inl u, .inl k] mem K E := by
  refine CY.of (k := 3) mt_35 rfl rfl (fun hv => ?_)
  have hC := Ex.mono S (n + 2)
  have ii_u : InI u := hv (.inl u) (by simp)
  unfold InI at ii_u
  have ii_k : InI k := hv (.inl k) (by simp)
  unfold InI at ii_k
  clear hv
  have h8 := hB.1
  show Tx (Ex S (n + 2)) S M_35 (kI K E) 0 0 0 [some (.inr 1), some (.inl u), some (.inl k), none, none, none] [] mem
  have l_5 : ∀ (N : Nat) (x3 x4 : Int), (0 ≤ x4) → ((3 - x4).toNat) < N → Tx (Ex S (n + 2)) S M_35 (kI K E) 0 0 5 [some (.inr 1), some (.inl u), some (.inl k), some (.inl x3), some (.inl x4), none] [] mem := by
    intro N
    induction N with
    | zero => intros; omega
    | succ N ih_5 =>
      intro x3 x4 i5_0 hN_5 
      refine Tx.iload hC te_35_5 rfl ?_
      refine Tx.iconst hC te_35_7 rfl ?_
      refine Tx.icmp hC (t := 62) te_35_8 (by decide) (fun q1 => ?_) (fun q1 => ?_)
      · replace q1 : 3 ≤ (x4 : Int) := q1
        refine Tx.iload_n hC te_35_62 rfl ?_
        exact Tx.ireturn hC te_35_63 rfl (fun hr => show K x3 mem from H x3)
      · replace q1 : ¬ (3 ≤ (x4 : Int)) := q1
        refine Tx.iload hC te_35_11 rfl ?_
        refine Tx.iload_n hC te_35_13 rfl ?_
        refine Tx.icmp hC (t := 29) te_35_14 (by decide) (fun q2 => ?_) (fun q2 => ?_)
        · replace q2 : ¬ (x4 : Int) = u := q2
          refine Tx.aload_n hC te_35_29 rfl ?_
          refine Tx.getR hC te_35_30 rfl rfl rfl ?_
          refine Tx.iload hC te_35_33 rfl ?_
          refine Tx.iald hC te_35_35 rfl (by omega) (fun v3 v3e v3i => ?_)
          unfold InI at v3i
          have f4 := hB.cn (o := (Int.toNat x4)) (by omega)
          refine Tx.istore hC te_35_36 rfl ?_
          refine Tx.iload_n hC te_35_38 rfl ?_
          refine Tx.iload_n hC te_35_39 rfl ?_
          refine Tx.aload_n hC te_35_40 rfl ?_
          refine Tx.iload hC te_35_41 rfl ?_
          refine Tx.virtI hC te_35_43 mt_36 (args := [.inr 1, .inl x4]) (rest := [.inl k, .inl x3]) (c' := 0) (s' := 0) rfl rfl rfl rfl rfl rfl rfl rfl rfl rfl ?_
          refine f_36 hB (fun r5 r5i => ?_)
          unfold InI at r5i
          refine Tx.imulW hC te_35_46 (fun z8 z8i z8e => ?_)
          unfold InI at z8i z8e
          first | replace z8e := z8e (by omega) | clear z8e
          refine Tx.iload hC te_35_47 rfl ?_
          refine Tx.statI hC te_35_49 (by decide) mt_33 (args := [.inl z8, .inl v3]) (rest := [.inl x3]) (c' := 0) (s' := 0) rfl rfl rfl rfl rfl rfl rfl ?_
          refine f_33 (fun r9 r9f r9i => ?_)
          unfold InI at r9i
          refine Tx.statI hC te_35_52 (by decide) mt_40 (args := [.inl x3, .inl r9]) (rest := []) (c' := 0) (s' := 0) rfl rfl rfl rfl rfl rfl rfl ?_
          refine f_40q (fun r12 r12a r12b r12c r12i => ?_)
          unfold InI at r12i
          refine Tx.istore_n hC te_35_55 rfl ?_
          refine Tx.iincW hC te_35_56 rfl rfl (fun z15 z15i z15e => ?_)
          unfold InI at z15i z15e
          first | replace z15e := z15e (by omega) | clear z15e
          refine Tx.goto hC (t := 5) te_35_59 (by decide) ?_
          exact Tx.weak (by repeat' (first | exact trivial | exact rfl | constructor)) (ih_5 r12 z15 (by omega) (by omega))
        · replace q2 : ¬ (¬ (x4 : Int) = u) := q2
          refine Tx.aload_n hC te_35_17 rfl ?_
          refine Tx.getR hC te_35_18 rfl rfl rfl ?_
          refine Tx.iload hC te_35_21 rfl ?_
          refine Tx.iald hC te_35_23 rfl (by omega) (fun v16 v16e v16i => ?_)
          unfold InI at v16i
          have f17 := hB.cn (o := (Int.toNat x4)) (by omega)
          refine Tx.iconst hC te_35_24 rfl ?_
          refine Tx.iaddW hC te_35_25 (fun z18 z18i z18e => ?_)
          unfold InI at z18i z18e
          first | replace z18e := z18e (by omega) | clear z18e
          refine Tx.goto hC (t := 36) te_35_26 (by decide) ?_
          refine Tx.istore hC te_35_36 rfl ?_
          refine Tx.iload_n hC te_35_38 rfl ?_
          refine Tx.iload_n hC te_35_39 rfl ?_
          refine Tx.aload_n hC te_35_40 rfl ?_
          refine Tx.iload hC te_35_41 rfl ?_
          refine Tx.virtI hC te_35_43 mt_36 (args := [.inr 1, .inl x4]) (rest := [.inl k, .inl x3]) (c' := 0) (s' := 0) rfl rfl rfl rfl rfl rfl rfl rfl rfl rfl ?_
          refine f_36 hB (fun r19 r19i => ?_)
          unfold InI at r19i
          refine Tx.imulW hC te_35_46 (fun z22 z22i z22e => ?_)
          unfold InI at z22i z22e
          first | replace z22e := z22e (by omega) | clear z22e
          refine Tx.iload hC te_35_47 rfl ?_
          refine Tx.statI hC te_35_49 (by decide) mt_33 (args := [.inl z22, .inl z18]) (rest := [.inl x3]) (c' := 0) (s' := 0) rfl rfl rfl rfl rfl rfl rfl ?_
          refine f_33 (fun r23 r23f r23i => ?_)
          unfold InI at r23i
          refine Tx.statI hC te_35_52 (by decide) mt_40 (args := [.inl x3, .inl r23]) (rest := []) (c' := 0) (s' := 0) rfl rfl rfl rfl rfl rfl rfl ?_
          refine f_40q (fun r26 r26a r26b r26c r26i => ?_)
          unfold InI at r26i
          refine Tx.istore_n hC te_35_55 rfl ?_
          refine Tx.iincW hC te_35_56 rfl rfl (fun z29 z29i z29e => ?_)
          unfold InI at z29i z29e
          first | replace z29e := z29e (by omega) | clear z29e
          refine Tx.goto hC (t := 5) te_35_59 (by decide) ?_
          exact Tx.weak (by repeat' (first | exact trivial | exact rfl | constructor)) (ih_5 r26 z29 (by omega) (by omega))
  refine Tx.iconst hC te_35_0 rfl ?_
  refine Tx.istore_n hC te_35_1 rfl ?_
  refine Tx.iconst hC te_35_2 rfl ?_
  refine Tx.istore hC te_35_3 rfl ?_
  exact l_5 _ 0 0 (by omega) (Nat.lt_succ_self _)
theorem f_41 {S : Nat × (Nat → Int32)} {n : Nat} {mem : MM} {K : Int → MM → Prop} {E : Nat → MM → Prop} {k : Int} (hB : BodyOK mem) (H : ∀ r, K r mem) : CQI (Ex S (n + 4)) 41 [.inr 0, .inl k] mem K E := by
  refine CY.of (k := 0) mt_41 rfl rfl (fun hv => ?_)
  have hC := Ex.mono S (n + 3)
  have ii_k : InI k := hv (.inl k) (by simp)
  unfold InI at ii_k
  clear hv
  show Tx (Ex S (n + 3)) S M_41 (kI K E) 0 0 0 [some (.inr 0), some (.inl k)] [] mem
  refine Tx.iconst hC te_41_0 rfl ?_
  refine Tx.iload_n hC te_41_1 rfl ?_
  refine Tx.aload_n hC te_41_2 rfl ?_
  refine Tx.getR hC te_41_3 rfl rfl rfl ?_
  refine Tx.getI hC te_41_6 rfl rfl rfl (fun v1 v1e v1i => ?_)
  unfold InI at v1i
  refine Tx.imulW hC te_41_9 (fun z2 z2i z2e => ?_)
  unfold InI at z2i z2e
  first | replace z2e := z2e (by omega) | clear z2e
  refine Tx.aload_n hC te_41_10 rfl ?_
  refine Tx.getR hC te_41_11 rfl rfl rfl ?_
  refine Tx.getI hC te_41_14 rfl rfl rfl (fun v3 v3e v3i => ?_)
  unfold InI at v3i
  refine Tx.statI hC te_41_17 (by decide) mt_33 (args := [.inl z2, .inl v3]) (rest := [.inl 1]) (c' := 0) (s' := 0) rfl rfl rfl rfl rfl rfl rfl ?_
  refine f_33 (fun r4 r4f r4i => ?_)
  unfold InI at r4i
  refine Tx.aload_n hC te_41_20 rfl ?_
  refine Tx.getR hC te_41_21 rfl rfl rfl ?_
  refine Tx.iconst hC te_41_24 rfl ?_
  refine Tx.iload_n hC te_41_25 rfl ?_
  refine Tx.virtI hC te_41_26 mt_35 (args := [.inr 1, .inl (-1), .inl k]) (rest := [.inl r4, .inl 1]) (c' := 0) (s' := 0) rfl rfl rfl rfl rfl rfl rfl rfl rfl rfl ?_
  refine f_35 hB (fun r7 r7i => ?_)
  unfold InI at r7i
  refine Tx.statI hC te_41_29 (by decide) mt_40 (args := [.inl r4, .inl r7]) (rest := [.inl 1]) (c' := 0) (s' := 0) rfl rfl rfl rfl rfl rfl rfl ?_
  refine f_40q (fun r10 r10a r10b r10c r10i => ?_)
  unfold InI at r10i
  refine Tx.statI hC te_41_32 (by decide) mt_40 (args := [.inl 1, .inl r10]) (rest := []) (c' := 0) (s' := 0) rfl rfl rfl rfl rfl rfl rfl ?_
  refine f_40q (fun r13 r13a r13b r13c r13i => ?_)
  unfold InI at r13i
  exact Tx.ireturn hC te_41_35 rfl (fun hr => show K r13 mem from H r13)
theorem f_16 {S : Nat × (Nat → Int32)} {n : Nat} {mem : MM} {K : Int → MM → Prop} {E : Nat → MM → Prop} {o s d : Int} (hB : BodyOK mem) (H : ∀ r, (r = 0 ∨ r = 1) → (r = 1 → s < mem 1 0) → K r mem) : CQI (Ex S (n + 1)) 16 [.inr 1, .inl o, .inl s, .inl d] mem K E := by
  refine CY.of (k := 0) mt_16 rfl rfl (fun hv => ?_)
  have hC := Ex.mono S n
  have ii_o : InI o := hv (.inl o) (by simp)
  unfold InI at ii_o
  have ii_s : InI s := hv (.inl s) (by simp)
  unfold InI at ii_s
  have ii_d : InI d := hv (.inl d) (by simp)
  unfold InI at ii_d
  clear hv
  have h8 := hB.1
  show Tx (Ex S n) S M_16 (kI K E) 0 0 0 [some (.inr 1), some (.inl o), some (.inl s), some (.inl d)] [] mem
  refine Tx.iload_n hC te_16_0 rfl ?_
  refine Tx.ifc hC (t := 6) te_16_1 (by decide) (fun q1 => ?_) (fun q1 => ?_)
  · replace q1 : 0 ≤ (s : Int) := q1
    refine Tx.iload_n hC te_16_6 rfl ?_
    refine Tx.aload_n hC te_16_7 rfl ?_
    refine Tx.getI hC te_16_8 rfl rfl rfl (fun v2 v2e v2i => ?_)
    unfold InI at v2i
    refine Tx.icmp hC (t := 24) te_16_11 (by decide) (fun q3 => ?_) (fun q3 => ?_)
    · replace q3 : v2 ≤ (s : Int) := q3
      refine Tx.iconst hC te_16_24 rfl ?_
      exact Tx.bret hC te_16_25 rfl (by omega) (show K 0 mem from H 0 (by omega) (by omega))
    · replace q3 : ¬ (v2 ≤ (s : Int)) := q3
      refine Tx.aload_n hC te_16_14 rfl ?_
      refine Tx.getR hC te_16_15 rfl rfl rfl ?_
      refine Tx.iload_n hC te_16_18 rfl ?_
      refine Tx.iald hC te_16_19 rfl (by omega) (fun v4 v4e v4i => ?_)
      unfold InI at v4i
      have f5 := hB.kd (o := (Int.toNat s)) (by omega)
      refine Tx.iconst hC te_16_20 rfl ?_
      refine Tx.icmp hC (t := 26) te_16_21 (by decide) (fun q6 => ?_) (fun q6 => ?_)
      · replace q6 : ¬ (v4 : Int) = 5 := q6
        refine Tx.iload_n hC te_16_26 rfl ?_
        refine Tx.ifc hC (t := 35) te_16_27 (by decide) (fun q7 => ?_) (fun q7 => ?_)
        · replace q7 : 0 < (d : Int) := q7
          refine Tx.iconst hC te_16_35 rfl ?_
          refine Tx.goto hC (t := 40) te_16_36 (by decide) ?_
          exact Tx.bret hC te_16_40 rfl (by omega) (show K 1 mem from H 1 (by omega) (by omega))
        · replace q7 : ¬ (0 < (d : Int)) := q7
          refine Tx.iload_n hC te_16_30 rfl ?_
          refine Tx.iload_n hC te_16_31 rfl ?_
          refine Tx.icmp hC (t := 39) te_16_32 (by decide) (fun q8 => ?_) (fun q8 => ?_)
          · replace q8 : o ≤ (s : Int) := q8
            refine Tx.iconst hC te_16_39 rfl ?_
            exact Tx.bret hC te_16_40 rfl (by omega) (show K 0 mem from H 0 (by omega) (by omega))
          · replace q8 : ¬ (o ≤ (s : Int)) := q8
            refine Tx.iconst hC te_16_35 rfl ?_
            refine Tx.goto hC (t := 40) te_16_36 (by decide) ?_
            exact Tx.bret hC te_16_40 rfl (by omega) (show K 1 mem from H 1 (by omega) (by omega))
      · replace q6 : ¬ (¬ (v4 : Int) = 5) := q6
        refine Tx.iconst hC te_16_24 rfl ?_
        exact Tx.bret hC te_16_25 rfl (by omega) (show K 0 mem from H 0 (by omega) (by omega))
  · replace q1 : ¬ (0 ≤ (s : Int)) := q1
    refine Tx.iconst hC te_16_4 rfl ?_
    exact Tx.bret hC te_16_5 rfl (by omega) (show K 1 mem from H 1 (by omega) (by omega))
theorem f_108 {S : Nat × (Nat → Int32)} {n : Nat} {mem : MM} {K : Int → MM → Prop} {E : Nat → MM → Prop} {Q : Nat} (hQ : ChSh Q) (hO : ChtOK mem Q) {o : Int} (ho : 0 ≤ o ∧ o < 8) (H : ∀ r, K r mem) : CQI (Ex S (n + 1)) 108 [.inr Q, .inl o] mem K E := by
  refine CY.of (k := 0) mt_108 rfl rfl (fun hv => ?_)
  have hC := Ex.mono S n
  have ii_o : InI o := hv (.inl o) (by simp)
  unfold InI at ii_o
  clear hv
  have hQ1 := hO.1
  show Tx (Ex S n) S M_108 (kI K E) 0 0 0 [some (.inr Q), some (.inl o)] [] mem
  refine Tx.aload_n hC te_108_0 rfl ?_
  refine Tx.getI hC te_108_1 hQ.s0 rfl rfl (fun v1 v1e v1i => ?_)
  unfold InI at v1i
  refine Tx.ifc hC (t := 11) te_108_4 (by decide) (fun q2 => ?_) (fun q2 => ?_)
  · replace q2 : 0 < (v1 : Int) := q2
    refine Tx.aload_n hC te_108_11 rfl ?_
    refine Tx.getR hC te_108_12 hQ.s0 rfl rfl ?_
    refine Tx.iload_n hC te_108_15 rfl ?_
    refine Tx.iald hC te_108_16 hQ.s2 (by omega) (fun v3 v3e v3i => ?_)
    unfold InI at v3i
    have f4 := hO.2 (Int.toNat o) (by omega)
    refine Tx.aload_n hC te_108_17 rfl ?_
    refine Tx.getI hC te_108_18 hQ.s0 rfl rfl (fun v5 v5e v5i => ?_)
    unfold InI at v5i
    refine Tx.idivW hC te_108_21 (by omega) (fun z6 z6i z6e z6f => ?_)
    unfold InI at z6i
    exact Tx.ireturn hC te_108_22 rfl (fun hr => show K z6 mem from H z6)
  · replace q2 : ¬ (0 < (v1 : Int)) := q2
    refine Tx.iconst hC te_108_7 rfl ?_
    refine Tx.goto hC (t := 22) te_108_8 (by decide) ?_
    exact Tx.ireturn hC te_108_22 rfl (fun hr => show K 0 mem from H 0)
theorem f_141 {S : Nat × (Nat → Int32)} {n : Nat} {mem : MM} {K : Int → MM → Prop} {E : Nat → MM → Prop} {Q : Nat} (hQ : ChSh Q) (hO : ChtOK mem Q) (H : ∀ r, K r mem) : CQI (Ex S (n + 1)) 141 [.inr Q] mem K E := by
  refine CY.of (k := 2) mt_141 rfl rfl (fun hv => ?_)
  have hC := Ex.mono S n
  clear hv
  have hQ1 := hO.1
  show Tx (Ex S n) S M_141 (kI K E) 0 0 0 [some (.inr Q), none, none] [] mem
  have l_4 : ∀ (N : Nat) (x1 x2 : Int), (0 ≤ x2) → ((8 - x2).toNat) < N → Tx (Ex S n) S M_141 (kI K E) 0 0 4 [some (.inr Q), some (.inl x1), some (.inl x2)] [] mem := by
    intro N
    induction N with
    | zero => intros; omega
    | succ N ih_4 =>
      intro x1 x2 i4_0 hN_4 
      refine Tx.iload_n hC te_141_4 rfl ?_
      refine Tx.aload_n hC te_141_5 rfl ?_
      refine Tx.getI hC te_141_6 hQ.s0 rfl rfl (fun v1 v1e v1i => ?_)
      unfold InI at v1i
      refine Tx.icmp hC (t := 27) te_141_9 (by decide) (fun q2 => ?_) (fun q2 => ?_)
      · replace q2 : v1 ≤ (x2 : Int) := q2
        refine Tx.iload_n hC te_141_27 rfl ?_
        exact Tx.ireturn hC te_141_28 rfl (fun hr => show K x1 mem from H x1)
      · replace q2 : ¬ (v1 ≤ (x2 : Int)) := q2
        refine Tx.iload_n hC te_141_12 rfl ?_
        refine Tx.aload_n hC te_141_13 rfl ?_
        refine Tx.getR hC te_141_14 hQ.s0 rfl rfl ?_
        refine Tx.iload_n hC te_141_17 rfl ?_
        refine Tx.iald hC te_141_18 hQ.s6 (by omega) (fun v3 v3e v3i => ?_)
        unfold InI at v3i
        refine Tx.iaddW hC te_141_19 (fun z4 z4i z4e => ?_)
        unfold InI at z4i z4e
        first | replace z4e := z4e (by omega) | clear z4e
        refine Tx.istore_n hC te_141_20 rfl ?_
        refine Tx.iincW hC te_141_21 rfl rfl (fun z5 z5i z5e => ?_)
        unfold InI at z5i z5e
        first | replace z5e := z5e (by omega) | clear z5e
        refine Tx.goto hC (t := 4) te_141_24 (by decide) ?_
        exact ih_4 z4 z5 (by omega) (by omega)
  refine Tx.iconst hC te_141_0 rfl ?_
  refine Tx.istore_n hC te_141_1 rfl ?_
  refine Tx.iconst hC te_141_2 rfl ?_
  refine Tx.istore_n hC te_141_3 rfl ?_
  exact l_4 _ 0 0 (by omega) (Nat.lt_succ_self _)
theorem f_143 {S : Nat × (Nat → Int32)} {n : Nat} {mem : MM} {K : Int → MM → Prop} {E : Nat → MM → Prop} {Q : Nat} (hQ : ChSh Q) (hO : ChtOK mem Q) {s : Int} (H : ∀ r, K r mem) : CQI (Ex S (n + 2)) 143 [.inr Q, .inl s] mem K E := by
  refine CY.of (k := 3) mt_143 rfl rfl (fun hv => ?_)
  have hC := Ex.mono S (n + 1)
  have ii_s : InI s := hv (.inl s) (by simp)
  unfold InI at ii_s
  clear hv
  have hQ1 := hO.1
  show Tx (Ex S (n + 1)) S M_143 (kI K E) 0 0 0 [some (.inr Q), some (.inl s), none, none, none] [] mem
  have l_4 : ∀ (N : Nat) (x2 x3 : Int), (0 ≤ x3) → ((8 - x3).toNat) < N → Tx (Ex S (n + 1)) S M_143 (kI K E) 0 0 4 [some (.inr Q), some (.inl s), some (.inl x2), some (.inl x3), none] [] mem := by
    intro N
    induction N with
    | zero => intros; omega
    | succ N ih_4 =>
      intro x2 x3 i4_0 hN_4 
      refine Tx.iload_n hC te_143_4 rfl ?_
      refine Tx.aload_n hC te_143_5 rfl ?_
      refine Tx.getI hC te_143_6 hQ.s0 rfl rfl (fun v1 v1e v1i => ?_)
      unfold InI at v1i
      refine Tx.icmp hC (t := 67) te_143_9 (by decide) (fun q2 => ?_) (fun q2 => ?_)
      · replace q2 : v1 ≤ (x3 : Int) := q2
        refine Tx.iload_n hC te_143_67 rfl ?_
        exact Tx.ireturn hC te_143_68 rfl (fun hr => show K x2 mem from H x2)
      · replace q2 : ¬ (v1 ≤ (x3 : Int)) := q2
        refine Tx.iload_n hC te_143_12 rfl ?_
        refine Tx.aload_n hC te_143_13 rfl ?_
        refine Tx.getR hC te_143_14 hQ.s0 rfl rfl ?_
        refine Tx.iload_n hC te_143_17 rfl ?_
        refine Tx.iald hC te_143_18 hQ.s3 (by omega) (fun v3 v3e v3i => ?_)
        unfold InI at v3i
        have f4 := hO.2 (Int.toNat x3) (by omega)
        refine Tx.isubW hC te_143_19 (fun z5 z5i z5e => ?_)
        unfold InI at z5i z5e
        first | replace z5e := z5e (by omega) | clear z5e
        refine Tx.aload_n hC te_143_20 rfl ?_
        refine Tx.getI hC te_143_21 hQ.s0 rfl rfl (fun v6 v6e v6i => ?_)
        unfold InI at v6i
        refine Tx.statI hC te_143_24 (by decide) mt_94 (args := [.inl z5, .inl v6]) (rest := []) (c' := 0) (s' := 0) rfl rfl rfl rfl rfl rfl rfl ?_
        refine f_94 (by omega) (fun r7 r7a r7b r7i => ?_)
        unfold InI at r7i
        refine Tx.istore hC te_143_27 rfl ?_
        refine Tx.iload hC te_143_29 rfl ?_
        refine Tx.aload_n hC te_143_31 rfl ?_
        refine Tx.getR hC te_143_32 hQ.s0 rfl rfl ?_
        refine Tx.iload_n hC te_143_35 rfl ?_
        refine Tx.iald hC te_143_36 hQ.s4 (by omega) (fun v10 v10e v10i => ?_)
        unfold InI at v10i
        refine Tx.icmp hC (t := 61) te_143_37 (by decide) (fun q11 => ?_) (fun q11 => ?_)
        · replace q11 : v10 ≤ (r7 : Int) := q11
          refine Tx.iincW hC te_143_61 rfl rfl (fun z12 z12i z12e => ?_)
          unfold InI at z12i z12e
          first | replace z12e := z12e (by omega) | clear z12e
          refine Tx.goto hC (t := 4) te_143_64 (by decide) ?_
          exact Tx.weak (by repeat' (first | exact trivial | exact rfl | constructor)) (ih_4 x2 z12 (by omega) (by omega))
        · replace q11 : ¬ (v10 ≤ (r7 : Int)) := q11
          refine Tx.iload_n hC te_143_40 rfl ?_
          refine Tx.aload_n hC te_143_41 rfl ?_
          refine Tx.getR hC te_143_42 hQ.s0 rfl rfl ?_
          refine Tx.iload_n hC te_143_45 rfl ?_
          refine Tx.iald hC te_143_46 hQ.s4 (by omega) (fun v13 v13e v13i => ?_)
          unfold InI at v13i
          refine Tx.iload hC te_143_47 rfl ?_
          refine Tx.isubW hC te_143_49 (fun z14 z14i z14e => ?_)
          unfold InI at z14i z14e
          first | replace z14e := z14e (by omega) | clear z14e
          refine Tx.iconst hC te_143_50 rfl ?_
          refine Tx.isubW hC te_143_51 (fun z15 z15i z15e => ?_)
          unfold InI at z15i z15e
          first | replace z15e := z15e (by omega) | clear z15e
          refine Tx.aload_n hC te_143_52 rfl ?_
          refine Tx.getI hC te_143_53 hQ.s0 rfl rfl (fun v16 v16e v16i => ?_)
          unfold InI at v16i
          refine Tx.idivW hC te_143_56 (by omega) (fun z17 z17i z17e z17f => ?_)
          unfold InI at z17i
          refine Tx.iconst hC te_143_57 rfl ?_
          refine Tx.iaddW hC te_143_58 (fun z18 z18i z18e => ?_)
          unfold InI at z18i z18e
          first | replace z18e := z18e (by omega) | clear z18e
          refine Tx.iaddW hC te_143_59 (fun z19 z19i z19e => ?_)
          unfold InI at z19i z19e
          first | replace z19e := z19e (by omega) | clear z19e
          refine Tx.istore_n hC te_143_60 rfl ?_
          refine Tx.iincW hC te_143_61 rfl rfl (fun z20 z20i z20e => ?_)
          unfold InI at z20i z20e
          first | replace z20e := z20e (by omega) | clear z20e
          refine Tx.goto hC (t := 4) te_143_64 (by decide) ?_
          exact Tx.weak (by repeat' (first | exact trivial | exact rfl | constructor)) (ih_4 z19 z20 (by omega) (by omega))
  refine Tx.iconst hC te_143_0 rfl ?_
  refine Tx.istore_n hC te_143_1 rfl ?_
  refine Tx.iconst hC te_143_2 rfl ?_
  refine Tx.istore_n hC te_143_3 rfl ?_
  exact l_4 _ 0 0 (by omega) (Nat.lt_succ_self _)
theorem f_142 {S : Nat × (Nat → Int32)} {n : Nat} {mem : MM} {K : Int → MM → Prop} {E : Nat → MM → Prop} {Q : Nat} (hQ : ChSh Q) (hO : ChtOK mem Q) (H : ∀ r, K r mem) : CQI (Ex S (n + 3)) 142 [.inr Q] mem K E := by
  refine CY.of (k := 4) mt_142 rfl rfl (fun hv => ?_)
  have hC := Ex.mono S (n + 2)
  clear hv
  have hQ1 := hO.1
  show Tx (Ex S (n + 2)) S M_142 (kI K E) 0 0 0 [some (.inr Q), none, none, none, none] [] mem
  have l_10 : ∀ (N : Nat) (x1 x2 x3 : Int), (0 ≤ x3) → ((12 - x3).toNat) < N → Tx (Ex S (n + 2)) S M_142 (kI K E) 0 0 10 [some (.inr Q), some (.inl x1), some (.inl x2), some (.inl x3), none] [] mem := by
    intro N
    induction N with
    | zero => intros; omega
    | succ N ih_10 =>
      intro x1 x2 x3 i10_0 hN_10 
      refine Tx.iload_n hC te_142_10 rfl ?_
      refine Tx.aload_n hC te_142_11 rfl ?_
      refine Tx.getI hC te_142_12 hQ.s0 rfl rfl (fun v1 v1e v1i => ?_)
      unfold InI at v1i
      refine Tx.icmp hC (t := 42) te_142_15 (by decide) (fun q2 => ?_) (fun q2 => ?_)
      · replace q2 : v1 ≤ (x3 : Int) := q2
        refine Tx.iload_n hC te_142_42 rfl ?_
        exact Tx.ireturn hC te_142_43 rfl (fun hr => show K x1 mem from H x1)
      · replace q2 : ¬ (v1 ≤ (x3 : Int)) := q2
        refine Tx.aload_n hC te_142_18 rfl ?_
        refine Tx.iload_n hC te_142_19 rfl ?_
        refine Tx.virtI hC te_142_20 mt_143 (args := [.inr Q, .inl x3]) (rest := []) (c' := 0) (s' := 0) rfl rfl rfl rfl rfl rfl rfl rfl hQ.s0 rfl ?_
        refine f_143 hQ hO (fun r3 r3i => ?_)
        unfold InI at r3i
        refine Tx.istore hC te_142_23 rfl ?_
        refine Tx.iload hC te_142_25 rfl ?_
        refine Tx.iload_n hC te_142_27 rfl ?_
        refine Tx.icmp hC (t := 36) te_142_28 (by decide) (fun q6 => ?_) (fun q6 => ?_)
        · replace q6 : (r3 : Int) ≤ x2 := q6
          refine Tx.iincW hC te_142_36 rfl rfl (fun z7 z7i z7e => ?_)
          unfold InI at z7i z7e
          first | replace z7e := z7e (by omega) | clear z7e
          refine Tx.goto hC (t := 10) te_142_39 (by decide) ?_
          exact Tx.weak (by repeat' (first | exact trivial | exact rfl | constructor)) (ih_10 x1 x2 z7 (by omega) (by omega))
        · replace q6 : ¬ ((r3 : Int) ≤ x2) := q6
          refine Tx.iload hC te_142_31 rfl ?_
          refine Tx.istore_n hC te_142_33 rfl ?_
          refine Tx.iload_n hC te_142_34 rfl ?_
          refine Tx.istore_n hC te_142_35 rfl ?_
          refine Tx.iincW hC te_142_36 rfl rfl (fun z8 z8i z8e => ?_)
          unfold InI at z8i z8e
          first | replace z8e := z8e (by omega) | clear z8e
          refine Tx.goto hC (t := 10) te_142_39 (by decide) ?_
          exact Tx.weak (by repeat' (first | exact trivial | exact rfl | constructor)) (ih_10 x3 r3 z8 (by omega) (by omega))
  refine Tx.iconst hC te_142_0 rfl ?_
  refine Tx.istore_n hC te_142_1 rfl ?_
  refine Tx.aload_n hC te_142_2 rfl ?_
  refine Tx.iconst hC te_142_3 rfl ?_
  refine Tx.virtI hC te_142_4 mt_143 (args := [.inr Q, .inl 0]) (rest := []) (c' := 0) (s' := 0) rfl rfl rfl rfl rfl rfl rfl rfl hQ.s0 rfl ?_
  refine f_143 hQ hO (fun r9 r9i => ?_)
  unfold InI at r9i
  refine Tx.istore_n hC te_142_7 rfl ?_
  refine Tx.iconst hC te_142_8 rfl ?_
  refine Tx.istore_n hC te_142_9 rfl ?_
  exact l_10 _ 0 r9 1 (by omega) (Nat.lt_succ_self _)
theorem f_146 {S : Nat × (Nat → Int32)} {n : Nat} {mem : MM} {K : Int → MM → Prop} {E : Nat → MM → Prop} {Q : Nat} (hQ : ChSh Q) (hO : ChtOK mem Q) (hW9 : WbOK mem 9) {o : Int} (ho : 0 ≤ o ∧ o < 8) (H : ∀ r, K r mem) : CQI (Ex S (n + 2)) 146 [.inr Q, .inr 9, .inl o] mem K E := by
  refine CY.of (k := 4) mt_146 rfl rfl (fun hv => ?_)
  have hC := Ex.mono S (n + 1)
  have ii_o : InI o := hv (.inl o) (by simp)
  unfold InI at ii_o
  clear hv
  have hQ1 := hO.1
  have hw := hW9.2
  show Tx (Ex S (n + 1)) S M_146 (kI K E) 0 0 0 [some (.inr Q), some (.inr 9), some (.inl o), none, none, none, none] [] mem
  have l_6 : ∀ (N : Nat) (x3 x4 : Int), (0 ≤ x4) → ((64 - x4).toNat) < N → Tx (Ex S (n + 1)) S M_146 (kI K E) 0 0 6 [some (.inr Q), some (.inr 9), some (.inl o), some (.inl x3), some (.inl x4), none, none] [] mem := by
    intro N
    induction N with
    | zero => intros; omega
    | succ N ih_6 =>
      intro x3 x4 i6_0 hN_6 
      refine Tx.iload hC te_146_6 rfl ?_
      refine Tx.aload_n hC te_146_8 rfl ?_
      refine Tx.getI hC te_146_9 rfl rfl rfl (fun v1 v1e v1i => ?_)
      unfold InI at v1i
      refine Tx.icmp hC (t := 91) te_146_12 (by decide) (fun q2 => ?_) (fun q2 => ?_)
      · replace q2 : v1 ≤ (x4 : Int) := q2
        refine Tx.iload_n hC te_146_91 rfl ?_
        exact Tx.ireturn hC te_146_92 rfl (fun hr => show K x3 mem from H x3)
      · replace q2 : ¬ (v1 ≤ (x4 : Int)) := q2
        refine Tx.aload_n hC te_146_15 rfl ?_
        refine Tx.getR hC te_146_16 rfl rfl rfl ?_
        refine Tx.iload hC te_146_19 rfl ?_
        refine Tx.iald hC te_146_21 rfl (by omega) (fun v3 v3e v3i => ?_)
        unfold InI at v3i
        have f4 : Rg (mem 10 (Int.toNat x4)) (mem 11 (Int.toNat x4)) (mem 12 (Int.toNat x4)) (mem 13 (Int.toNat x4)) := hW9.1 (Int.toNat x4) (by omega)
        unfold Rg at f4
        refine Tx.istore hC te_146_22 rfl ?_
        refine Tx.aload_n hC te_146_24 rfl ?_
        refine Tx.getR hC te_146_25 rfl rfl rfl ?_
        refine Tx.iload hC te_146_28 rfl ?_
        refine Tx.iald hC te_146_30 rfl (by omega) (fun v5 v5e v5i => ?_)
        unfold InI at v5i
        have f6 : Rg (mem 10 (Int.toNat x4)) (mem 11 (Int.toNat x4)) (mem 12 (Int.toNat x4)) (mem 13 (Int.toNat x4)) := hW9.1 (Int.toNat x4) (by omega)
        unfold Rg at f6
        refine Tx.iload_n hC te_146_31 rfl ?_
        refine Tx.icmp hC (t := 85) te_146_32 (by decide) (fun q7 => ?_) (fun q7 => ?_)
        · replace q7 : ¬ (v5 : Int) = o := q7
          refine Tx.iincW hC te_146_85 rfl rfl (fun z8 z8i z8e => ?_)
          unfold InI at z8i z8e
          first | replace z8e := z8e (by omega) | clear z8e
          refine Tx.goto hC (t := 6) te_146_88 (by decide) ?_
          exact Tx.weak (by repeat' (first | exact trivial | exact rfl | constructor)) (ih_6 x3 z8 (by omega) (by omega))
        · replace q7 : ¬ (¬ (v5 : Int) = o) := q7
          refine Tx.iload hC te_146_35 rfl ?_
          refine Tx.iload_n hC te_146_37 rfl ?_
          refine Tx.icmp hC (t := 85) te_146_38 (by decide) (fun q9 => ?_) (fun q9 => ?_)
          · replace q9 : (v3 : Int) = o := q9
            refine Tx.iincW hC te_146_85 rfl rfl (fun z10 z10i z10e => ?_)
            unfold InI at z10i z10e
            first | replace z10e := z10e (by omega) | clear z10e
            refine Tx.goto hC (t := 6) te_146_88 (by decide) ?_
            exact Tx.weak (by repeat' (first | exact trivial | exact rfl | constructor)) (ih_6 x3 z10 (by omega) (by omega))
          · replace q9 : ¬ ((v3 : Int) = o) := q9
            refine Tx.aload_n hC te_146_41 rfl ?_
            refine Tx.getR hC te_146_42 hQ.s0 rfl rfl ?_
            refine Tx.iload hC te_146_45 rfl ?_
            refine Tx.iald hC te_146_47 hQ.s2 (by omega) (fun v11 v11e v11i => ?_)
            unfold InI at v11i
            have f12 := hO.2 (Int.toNat v3) (by omega)
            refine Tx.aload_n hC te_146_48 rfl ?_
            refine Tx.getR hC te_146_49 hQ.s0 rfl rfl ?_
            refine Tx.iload_n hC te_146_52 rfl ?_
            refine Tx.iald hC te_146_53 hQ.s2 (by omega) (fun v13 v13e v13i => ?_)
            unfold InI at v13i
            have f14 := hO.2 (Int.toNat o) (by omega)
            refine Tx.isubW hC te_146_54 (fun z15 z15i z15e => ?_)
            unfold InI at z15i z15e
            first | replace z15e := z15e (by omega) | clear z15e
            refine Tx.aload_n hC te_146_55 rfl ?_
            refine Tx.getR hC te_146_56 rfl rfl rfl ?_
            refine Tx.iload hC te_146_59 rfl ?_
            refine Tx.iald hC te_146_61 rfl (by omega) (fun v16 v16e v16i => ?_)
            unfold InI at v16i
            have f17 : Rg (mem 10 (Int.toNat x4)) (mem 11 (Int.toNat x4)) (mem 12 (Int.toNat x4)) (mem 13 (Int.toNat x4)) := hW9.1 (Int.toNat x4) (by omega)
            unfold Rg at f17
            refine Tx.isubW hC te_146_62 (fun z18 z18i z18e => ?_)
            unfold InI at z18i z18e
            first | replace z18e := z18e (by omega) | clear z18e
            refine Tx.aload_n hC te_146_63 rfl ?_
            refine Tx.getI hC te_146_64 hQ.s0 rfl rfl (fun v19 v19e v19i => ?_)
            unfold InI at v19i
            refine Tx.aload_n hC te_146_67 rfl ?_
            refine Tx.getR hC te_146_68 rfl rfl rfl ?_
            refine Tx.iload hC te_146_71 rfl ?_
            refine Tx.iald hC te_146_73 rfl (by omega) (fun v20 v20e v20i => ?_)
            unfold InI at v20i
            have f21 : Rg (mem 10 (Int.toNat x4)) (mem 11 (Int.toNat x4)) (mem 12 (Int.toNat x4)) (mem 13 (Int.toNat x4)) := hW9.1 (Int.toNat x4) (by omega)
            unfold Rg at f21
            refine Tx.imulW hC te_146_74 (fun z22 z22i z22e => ?_)
            unfold InI at z22i z22e
            first | replace z22e := z22e (by omega) | clear z22e
            refine Tx.iaddW hC te_146_75 (fun z23 z23i z23e => ?_)
            unfold InI at z23i z23e
            first | replace z23e := z23e (by omega) | clear z23e
            refine Tx.istore hC te_146_76 rfl ?_
            refine Tx.iload_n hC te_146_78 rfl ?_
            refine Tx.iload hC te_146_79 rfl ?_
            refine Tx.statI hC te_146_81 (by decide) mt_29 (args := [.inl x3, .inl z23]) (rest := []) (c' := 0) (s' := 0) rfl rfl rfl rfl rfl rfl rfl ?_
            refine f_29q (fun r24 r24a r24b r24c r24i => ?_)
            unfold InI at r24i
            refine Tx.istore_n hC te_146_84 rfl ?_
            refine Tx.iincW hC te_146_85 rfl rfl (fun z27 z27i z27e => ?_)
            unfold InI at z27i z27e
            first | replace z27e := z27e (by omega) | clear z27e
            refine Tx.goto hC (t := 6) te_146_88 (by decide) ?_
            exact Tx.weak (by repeat' (first | exact trivial | exact rfl | constructor)) (ih_6 r24 z27 (by omega) (by omega))
  refine Tx.bipush hC te_146_0 rfl rfl ?_
  refine Tx.istore_n hC te_146_2 rfl ?_
  refine Tx.iconst hC te_146_3 rfl ?_
  refine Tx.istore hC te_146_4 rfl ?_
  exact l_6 _ 99 0 (by omega) (Nat.lt_succ_self _)
theorem f_120 {S : Nat × (Nat → Int32)} {n : Nat} {mem : MM} {K : Int → MM → Prop} {E : Nat → MM → Prop} {Q : Nat} (hQ : ChSh Q) (hO : ChtOK mem Q) (hB : BodyOK mem) {o s : Int} (ho : 0 ≤ o ∧ o < 8) (H : ∀ r, K r mem) : CQI (Ex S (n + 2)) 120 [.inr Q, .inr 1, .inl o, .inl s] mem K E := by
  refine CY.of (k := 2) mt_120 rfl rfl (fun hv => ?_)
  have hC := Ex.mono S (n + 1)
  have ii_o : InI o := hv (.inl o) (by simp)
  unfold InI at ii_o
  have ii_s : InI s := hv (.inl s) (by simp)
  unfold InI at ii_s
  clear hv
  have hQ1 := hO.1
  show Tx (Ex S (n + 1)) S M_120 (kI K E) 0 0 0 [some (.inr Q), some (.inr 1), some (.inl o), some (.inl s), none, none] [] mem
  have l_6 : ∀ (N : Nat) (x4 x5 : Int), (0 ≤ x5) → ((4 - x5).toNat) < N → Tx (Ex S (n + 1)) S M_120 (kI K E) 0 0 6 [some (.inr Q), some (.inr 1), some (.inl o), some (.inl s), some (.inl x4), some (.inl x5)] [] mem := by
    intro N
    induction N with
    | zero => intros; omega
    | succ N ih_6 =>
      intro x4 x5 i6_0 hN_6 
      refine Tx.iload hC te_120_6 rfl ?_
      refine Tx.iconst hC te_120_8 rfl ?_
      refine Tx.icmp hC (t := 52) te_120_9 (by decide) (fun q1 => ?_) (fun q1 => ?_)
      · replace q1 : 4 ≤ (x5 : Int) := q1
        refine Tx.iload hC te_120_52 rfl ?_
        exact Tx.ireturn hC te_120_54 rfl (fun hr => show K x4 mem from H x4)
      · replace q1 : ¬ (4 ≤ (x5 : Int)) := q1
        refine Tx.aload_n hC te_120_12 rfl ?_
        refine Tx.iload_n hC te_120_13 rfl ?_
        refine Tx.virtI hC te_120_14 mt_38 (args := [.inr 1, .inl o]) (rest := []) (c' := 0) (s' := 0) rfl rfl rfl rfl rfl rfl rfl rfl rfl rfl ?_
        refine CWI.q hC (f_38 hB (by omega) (fun r2 r2a r2b r2i => ?_))
        unfold InI at r2i
        refine Tx.iconst hC te_120_17 rfl ?_
        refine Tx.iload hC te_120_18 rfl ?_
        refine Tx.bits hC (f := (fun (x y : Int32) => x <<< (y &&& 31))) te_120_20 (fun _ _ _ _ => Iff.rfl) (fun b5 b5e b5i => ?_)
        unfold InI at b5i
        refine Tx.bits hC (f := (fun (x y : Int32) => x &&& y)) te_120_21 (fun _ _ _ _ => Iff.rfl) (fun b6 b6e b6i => ?_)
        unfold InI at b6i
        refine Tx.ifc hC (t := 46) te_120_22 (by decide) (fun q7 => ?_) (fun q7 => ?_)
        · replace q7 : (b6 : Int) = 0 := q7
          refine Tx.iincW hC te_120_46 rfl rfl (fun z8 z8i z8e => ?_)
          unfold InI at z8i z8e
          first | replace z8e := z8e (by omega) | clear z8e
          refine Tx.goto hC (t := 6) te_120_49 (by decide) ?_
          exact ih_6 x4 z8 (by omega) (by omega)
        · replace q7 : ¬ ((b6 : Int) = 0) := q7
          refine Tx.aload_n hC te_120_25 rfl ?_
          refine Tx.getR hC te_120_26 hQ.s0 rfl rfl ?_
          refine Tx.iload_n hC te_120_29 rfl ?_
          refine Tx.iald hC te_120_30 hQ.s1 (by omega) (fun v9 v9e v9i => ?_)
          unfold InI at v9i
          have f10 := hO.2 (Int.toNat o) (by omega)
          refine Tx.iload hC te_120_31 rfl ?_
          refine Tx.iaddW hC te_120_33 (fun z11 z11i z11e => ?_)
          unfold InI at z11i z11e
          first | replace z11e := z11e (by omega) | clear z11e
          refine Tx.aload_n hC te_120_34 rfl ?_
          refine Tx.getI hC te_120_35 hQ.s0 rfl rfl (fun v12 v12e v12i => ?_)
          unfold InI at v12i
          refine Tx.iremW hC te_120_38 (by omega) (fun z13 z13i z13e z13f => ?_)
          unfold InI at z13i
          refine Tx.iload_n hC te_120_39 rfl ?_
          refine Tx.icmp hC (t := 46) te_120_40 (by decide) (fun q14 => ?_) (fun q14 => ?_)
          · replace q14 : ¬ (z13 : Int) = s := q14
            refine Tx.iincW hC te_120_46 rfl rfl (fun z15 z15i z15e => ?_)
            unfold InI at z15i z15e
            first | replace z15e := z15e (by omega) | clear z15e
            refine Tx.goto hC (t := 6) te_120_49 (by decide) ?_
            exact ih_6 x4 z15 (by omega) (by omega)
          · replace q14 : ¬ (¬ (z13 : Int) = s) := q14
            refine Tx.iincW hC te_120_43 rfl rfl (fun z16 z16i z16e => ?_)
            unfold InI at z16i z16e
            first | replace z16e := z16e (by omega) | clear z16e
            refine Tx.iincW hC te_120_46 rfl rfl (fun z17 z17i z17e => ?_)
            unfold InI at z17i z17e
            first | replace z17e := z17e (by omega) | clear z17e
            refine Tx.goto hC (t := 6) te_120_49 (by decide) ?_
            exact ih_6 z16 z17 (by omega) (by omega)
  refine Tx.iconst hC te_120_0 rfl ?_
  refine Tx.istore hC te_120_1 rfl ?_
  refine Tx.iconst hC te_120_3 rfl ?_
  refine Tx.istore hC te_120_4 rfl ?_
  exact l_6 _ 0 0 (by omega) (Nat.lt_succ_self _)
theorem f_119 {S : Nat × (Nat → Int32)} {n : Nat} {mem : MM} {K : Int → MM → Prop} {E : Nat → MM → Prop} {Q : Nat} (hQ : ChSh Q) (hO : ChtOK mem Q) (hB : BodyOK mem) {u s : Int} (H : ∀ r, K r mem) : CQI (Ex S (n + 3)) 119 [.inr Q, .inr 1, .inl u, .inl s] mem K E := by
  refine CY.of (k := 2) mt_119 rfl rfl (fun hv => ?_)
  have hC := Ex.mono S (n + 2)
  have ii_u : InI u := hv (.inl u) (by simp)
  unfold InI at ii_u
  have ii_s : InI s := hv (.inl s) (by simp)
  unfold InI at ii_s
  clear hv
  have hQ1 := hO.1
  show Tx (Ex S (n + 2)) S M_119 (kI K E) 0 0 0 [some (.inr Q), some (.inr 1), some (.inl u), some (.inl s), none, none] [] mem
  have l_6 : ∀ (N : Nat) (x4 x5 : Int), (0 ≤ x5) → ((8 - x5).toNat) < N → Tx (Ex S (n + 2)) S M_119 (kI K E) 0 0 6 [some (.inr Q), some (.inr 1), some (.inl u), some (.inl s), some (.inl x4), some (.inl x5)] [] mem := by
    intro N
    induction N with
    | zero => intros; omega
    | succ N ih_6 =>
      intro x4 x5 i6_0 hN_6 
      refine Tx.iload hC te_119_6 rfl ?_
      refine Tx.aload_n hC te_119_8 rfl ?_
      refine Tx.getI hC te_119_9 hQ.s0 rfl rfl (fun v1 v1e v1i => ?_)
      unfold InI at v1i
      refine Tx.icmp hC (t := 44) te_119_12 (by decide) (fun q2 => ?_) (fun q2 => ?_)
      · replace q2 : v1 ≤ (x5 : Int) := q2
        refine Tx.iload hC te_119_44 rfl ?_
        exact Tx.ireturn hC te_119_46 rfl (fun hr => show K x4 mem from H x4)
      · replace q2 : ¬ (v1 ≤ (x5 : Int)) := q2
        refine Tx.aload_n hC te_119_15 rfl ?_
        refine Tx.iload hC te_119_16 rfl ?_
        refine Tx.virtI hC te_119_18 mt_37 (args := [.inr 1, .inl x5]) (rest := []) (c' := 0) (s' := 0) rfl rfl rfl rfl rfl rfl rfl rfl rfl rfl ?_
        refine CWI.q hC (f_37 hB (by omega) (fun r3 r3a r3b r3i => ?_))
        unfold InI at r3i
        refine Tx.iload_n hC te_119_21 rfl ?_
        refine Tx.icmp hC (t := 38) te_119_22 (by decide) (fun q6 => ?_) (fun q6 => ?_)
        · replace q6 : ¬ (r3 : Int) = u := q6
          refine Tx.iincW hC te_119_38 rfl rfl (fun z7 z7i z7e => ?_)
          unfold InI at z7i z7e
          first | replace z7e := z7e (by omega) | clear z7e
          refine Tx.goto hC (t := 6) te_119_41 (by decide) ?_
          exact ih_6 x4 z7 (by omega) (by omega)
        · replace q6 : ¬ (¬ (r3 : Int) = u) := q6
          refine Tx.iload hC te_119_25 rfl ?_
          refine Tx.aload_n hC te_119_27 rfl ?_
          refine Tx.aload_n hC te_119_28 rfl ?_
          refine Tx.iload hC te_119_29 rfl ?_
          refine Tx.iload_n hC te_119_31 rfl ?_
          refine Tx.virtI hC te_119_32 mt_120 (args := [.inr Q, .inr 1, .inl x5, .inl s]) (rest := [.inl x4]) (c' := 0) (s' := 0) rfl rfl rfl rfl rfl rfl rfl rfl hQ.s0 rfl ?_
          refine f_120 hQ hO hB (by omega) (fun r8 r8i => ?_)
          unfold InI at r8i
          refine Tx.iaddW hC te_119_35 (fun z11 z11i z11e => ?_)
          unfold InI at z11i z11e
          first | replace z11e := z11e (by omega) | clear z11e
          refine Tx.istore hC te_119_36 rfl ?_
          refine Tx.iincW hC te_119_38 rfl rfl (fun z12 z12i z12e => ?_)
          unfold InI at z12i z12e
          first | replace z12e := z12e (by omega) | clear z12e
          refine Tx.goto hC (t := 6) te_119_41 (by decide) ?_
          exact ih_6 z11 z12 (by omega) (by omega)
  refine Tx.iconst hC te_119_0 rfl ?_
  refine Tx.istore hC te_119_1 rfl ?_
  refine Tx.iconst hC te_119_3 rfl ?_
  refine Tx.istore hC te_119_4 rfl ?_
  exact l_6 _ 0 0 (by omega) (Nat.lt_succ_self _)
theorem f_208 {S : Nat × (Nat → Int32)} {n : Nat} {mem : MM} {K : Int → MM → Prop} {E : Nat → MM → Prop} {Q : Nat} (hQ : ChSh Q) (hO : ChtOK mem Q) (hB : BodyOK mem) {u s : Int} (H : ∀ r, K r mem) : CQI (Ex S (n + 3)) 208 [.inr Q, .inr 1, .inl u, .inl s] mem K E := by
  refine CY.of (k := 2) mt_208 rfl rfl (fun hv => ?_)
  have hC := Ex.mono S (n + 2)
  have ii_u : InI u := hv (.inl u) (by simp)
  unfold InI at ii_u
  have ii_s : InI s := hv (.inl s) (by simp)
  unfold InI at ii_s
  clear hv
  have hQ1 := hO.1
  show Tx (Ex S (n + 2)) S M_208 (kI K E) 0 0 0 [some (.inr Q), some (.inr 1), some (.inl u), some (.inl s), none, none] [] mem
  have l_6 : ∀ (N : Nat) (x4 x5 : Int), (0 ≤ x5) → ((8 - x5).toNat) < N → Tx (Ex S (n + 2)) S M_208 (kI K E) 0 0 6 [some (.inr Q), some (.inr 1), some (.inl u), some (.inl s), some (.inl x4), some (.inl x5)] [] mem := by
    intro N
    induction N with
    | zero => intros; omega
    | succ N ih_6 =>
      intro x4 x5 i6_0 hN_6 
      refine Tx.iload hC te_208_6 rfl ?_
      refine Tx.aload_n hC te_208_8 rfl ?_
      refine Tx.getI hC te_208_9 hQ.s0 rfl rfl (fun v1 v1e v1i => ?_)
      unfold InI at v1i
      refine Tx.icmp hC (t := 51) te_208_12 (by decide) (fun q2 => ?_) (fun q2 => ?_)
      · replace q2 : v1 ≤ (x5 : Int) := q2
        refine Tx.iload hC te_208_51 rfl ?_
        exact Tx.ireturn hC te_208_53 rfl (fun hr => show K x4 mem from H x4)
      · replace q2 : ¬ (v1 ≤ (x5 : Int)) := q2
        refine Tx.aload_n hC te_208_15 rfl ?_
        refine Tx.iload hC te_208_16 rfl ?_
        refine Tx.virtI hC te_208_18 mt_37 (args := [.inr 1, .inl x5]) (rest := []) (c' := 0) (s' := 0) rfl rfl rfl rfl rfl rfl rfl rfl rfl rfl ?_
        refine CWI.q hC (f_37 hB (by omega) (fun r3 r3a r3b r3i => ?_))
        unfold InI at r3i
        refine Tx.iload_n hC te_208_21 rfl ?_
        refine Tx.icmp hC (t := 45) te_208_22 (by decide) (fun q6 => ?_) (fun q6 => ?_)
        · replace q6 : ¬ (r3 : Int) = u := q6
          refine Tx.iincW hC te_208_45 rfl rfl (fun z7 z7i z7e => ?_)
          unfold InI at z7i z7e
          first | replace z7e := z7e (by omega) | clear z7e
          refine Tx.goto hC (t := 6) te_208_48 (by decide) ?_
          exact ih_6 x4 z7 (by omega) (by omega)
        · replace q6 : ¬ (¬ (r3 : Int) = u) := q6
          refine Tx.aload_n hC te_208_25 rfl ?_
          refine Tx.aload_n hC te_208_26 rfl ?_
          refine Tx.iload hC te_208_27 rfl ?_
          refine Tx.iload_n hC te_208_29 rfl ?_
          refine Tx.virtI hC te_208_30 mt_120 (args := [.inr Q, .inr 1, .inl x5, .inl s]) (rest := []) (c' := 0) (s' := 0) rfl rfl rfl rfl rfl rfl rfl rfl hQ.s0 rfl ?_
          refine f_120 hQ hO hB (by omega) (fun r8 r8i => ?_)
          unfold InI at r8i
          refine Tx.ifc hC (t := 45) te_208_33 (by decide) (fun q11 => ?_) (fun q11 => ?_)
          · replace q11 : (r8 : Int) ≤ 0 := q11
            refine Tx.iincW hC te_208_45 rfl rfl (fun z12 z12i z12e => ?_)
            unfold InI at z12i z12e
            first | replace z12e := z12e (by omega) | clear z12e
            refine Tx.goto hC (t := 6) te_208_48 (by decide) ?_
            exact ih_6 x4 z12 (by omega) (by omega)
          · replace q11 : ¬ ((r8 : Int) ≤ 0) := q11
            refine Tx.iload hC te_208_36 rfl ?_
            refine Tx.iconst hC te_208_38 rfl ?_
            refine Tx.iload hC te_208_39 rfl ?_
            refine Tx.bits hC (f := (fun (x y : Int32) => x <<< (y &&& 31))) te_208_41 (fun _ _ _ _ => Iff.rfl) (fun b13 b13e b13i => ?_)
            unfold InI at b13i
            refine Tx.bits hC (f := (fun (x y : Int32) => x ||| y)) te_208_42 (fun _ _ _ _ => Iff.rfl) (fun b14 b14e b14i => ?_)
            unfold InI at b14i
            refine Tx.istore hC te_208_43 rfl ?_
            refine Tx.iincW hC te_208_45 rfl rfl (fun z15 z15i z15e => ?_)
            unfold InI at z15i z15e
            first | replace z15e := z15e (by omega) | clear z15e
            refine Tx.goto hC (t := 6) te_208_48 (by decide) ?_
            exact ih_6 b14 z15 (by omega) (by omega)
  refine Tx.iconst hC te_208_0 rfl ?_
  refine Tx.istore hC te_208_1 rfl ?_
  refine Tx.iconst hC te_208_3 rfl ?_
  refine Tx.istore hC te_208_4 rfl ?_
  exact l_6 _ 0 0 (by omega) (Nat.lt_succ_self _)
theorem f_152 {S : Nat × (Nat → Int32)} {n : Nat} {mem : MM} {K : Int → MM → Prop} {E : Nat → MM → Prop} {Q : Nat} (hQ : ChSh Q) (hO : ChtOK mem Q) {o y t : Int} (ho : 0 ≤ o ∧ o < 8) (H : ∀ r, K r mem) : CQI (Ex S (n + 1)) 152 [.inr Q, .inl o, .inl y, .inl t] mem K E := by
  refine CY.of (k := 1) mt_152 rfl rfl (fun hv => ?_)
  have hC := Ex.mono S n
  have ii_o : InI o := hv (.inl o) (by simp)
  unfold InI at ii_o
  have ii_y : InI y := hv (.inl y) (by simp)
  unfold InI at ii_y
  have ii_t : InI t := hv (.inl t) (by simp)
  unfold InI at ii_t
  clear hv
  have hQ1 := hO.1
  show Tx (Ex S n) S M_152 (kI K E) 0 0 0 [some (.inr Q), some (.inl o), some (.inl y), some (.inl t), none] [] mem
  refine Tx.iload_n hC te_152_0 rfl ?_
  refine Tx.aload_n hC te_152_1 rfl ?_
  refine Tx.getR hC te_152_2 hQ.s0 rfl rfl ?_
  refine Tx.iload_n hC te_152_5 rfl ?_
  refine Tx.iald hC te_152_6 hQ.s2 (by omega) (fun v1 v1e v1i => ?_)
  unfold InI at v1i
  have f2 := hO.2 (Int.toNat o) (by omega)
  refine Tx.icmp hC (t := 25) te_152_7 (by decide) (fun q3 => ?_) (fun q3 => ?_)
  · replace q3 : (y : Int) < v1 := q3
    refine Tx.iconst hC te_152_25 rfl ?_
    exact Tx.ireturn hC te_152_26 rfl (fun hr => show K (-1) mem from H (-1))
  · replace q3 : ¬ ((y : Int) < v1) := q3
    refine Tx.iload_n hC te_152_10 rfl ?_
    refine Tx.aload_n hC te_152_11 rfl ?_
    refine Tx.getI hC te_152_12 hQ.s0 rfl rfl (fun v4 v4e v4i => ?_)
    unfold InI at v4i
    refine Tx.iremW hC te_152_15 (by omega) (fun z5 z5i z5e z5f => ?_)
    unfold InI at z5i
    refine Tx.aload_n hC te_152_16 rfl ?_
    refine Tx.getR hC te_152_17 hQ.s0 rfl rfl ?_
    refine Tx.iload_n hC te_152_20 rfl ?_
    refine Tx.iald hC te_152_21 hQ.s1 (by omega) (fun v6 v6e v6i => ?_)
    unfold InI at v6i
    have f7 := hO.2 (Int.toNat o) (by omega)
    refine Tx.icmp hC (t := 27) te_152_22 (by decide) (fun q8 => ?_) (fun q8 => ?_)
    · replace q8 : (z5 : Int) = v6 := q8
      refine Tx.iload_n hC te_152_27 rfl ?_
      refine Tx.aload_n hC te_152_28 rfl ?_
      refine Tx.getR hC te_152_29 hQ.s0 rfl rfl ?_
      refine Tx.iload_n hC te_152_32 rfl ?_
      refine Tx.iald hC te_152_33 hQ.s2 (by omega) (fun v9 v9e v9i => ?_)
      unfold InI at v9i
      have f10 := hO.2 (Int.toNat o) (by omega)
      refine Tx.isubW hC te_152_34 (fun z11 z11i z11e => ?_)
      unfold InI at z11i z11e
      first | replace z11e := z11e (by omega) | clear z11e
      refine Tx.aload_n hC te_152_35 rfl ?_
      refine Tx.getI hC te_152_36 hQ.s0 rfl rfl (fun v12 v12e v12i => ?_)
      unfold InI at v12i
      refine Tx.idivW hC te_152_39 (by omega) (fun z13 z13i z13e z13f => ?_)
      unfold InI at z13i
      refine Tx.istore hC te_152_40 rfl ?_
      refine Tx.iload hC te_152_42 rfl ?_
      refine Tx.iload_n hC te_152_44 rfl ?_
      refine Tx.icmp hC (t := 53) te_152_45 (by decide) (fun q14 => ?_) (fun q14 => ?_)
      · replace q14 : t ≤ (z13 : Int) := q14
        refine Tx.iconst hC te_152_53 rfl ?_
        exact Tx.ireturn hC te_152_54 rfl (fun hr => show K (-1) mem from H (-1))
      · replace q14 : ¬ (t ≤ (z13 : Int)) := q14
        refine Tx.iload hC te_152_48 rfl ?_
        refine Tx.goto hC (t := 54) te_152_50 (by decide) ?_
        exact Tx.ireturn hC te_152_54 rfl (fun hr => show K z13 mem from H z13)
    · replace q8 : ¬ ((z5 : Int) = v6) := q8
      refine Tx.iconst hC te_152_25 rfl ?_
      exact Tx.ireturn hC te_152_26 rfl (fun hr => show K (-1) mem from H (-1))
theorem f_155 {S : Nat × (Nat → Int32)} {n : Nat} {mem : MM} {K : Int → MM → Prop} {E : Nat → MM → Prop} {Q : Nat} (hQ : ChSh Q) {t : Int} (H : ∀ r, K r mem) : CQI (Ex S (n + 1)) 155 [.inr Q, .inl t] mem K E := by
  refine CY.of (k := 0) mt_155 rfl rfl (fun hv => ?_)
  have hC := Ex.mono S n
  have ii_t : InI t := hv (.inl t) (by simp)
  unfold InI at ii_t
  clear hv
  show Tx (Ex S n) S M_155 (kI K E) 0 0 0 [some (.inr Q), some (.inl t)] [] mem
  refine Tx.iload_n hC te_155_0 rfl ?_
  refine Tx.ifc hC (t := 8) te_155_1 (by decide) (fun q1 => ?_) (fun q1 => ?_)
  · replace q1 : 0 < (t : Int) := q1
    refine Tx.aload_n hC te_155_8 rfl ?_
    refine Tx.getI hC te_155_9 hQ.s0 rfl rfl (fun v2 v2e v2i => ?_)
    unfold InI at v2i
    refine Tx.iload_n hC te_155_12 rfl ?_
    refine Tx.iconst hC te_155_13 rfl ?_
    refine Tx.isubW hC te_155_14 (fun z3 z3i z3e => ?_)
    unfold InI at z3i z3e
    first | replace z3e := z3e (by omega) | clear z3e
    refine Tx.imulW hC te_155_15 (fun z4 z4i z4e => ?_)
    unfold InI at z4i z4e
    first | replace z4e := z4e (by omega) | clear z4e
    refine Tx.aload_n hC te_155_16 rfl ?_
    refine Tx.getI hC te_155_17 hQ.s0 rfl rfl (fun v5 v5e v5i => ?_)
    unfold InI at v5i
    refine Tx.iaddW hC te_155_20 (fun z6 z6i z6e => ?_)
    unfold InI at z6i z6e
    first | replace z6e := z6e (by omega) | clear z6e
    exact Tx.ireturn hC te_155_21 rfl (fun hr => show K z6 mem from H z6)
  · replace q1 : ¬ (0 < (t : Int)) := q1
    refine Tx.iconst hC te_155_4 rfl ?_
    refine Tx.goto hC (t := 21) te_155_5 (by decide) ?_
    exact Tx.ireturn hC te_155_21 rfl (fun hr => show K 0 mem from H 0)
theorem f_156 {S : Nat × (Nat → Int32)} {n : Nat} {mem : MM} {K : Int → MM → Prop} {E : Nat → MM → Prop} {Q : Nat} (hQ : ChSh Q) {t : Int} (H : ∀ r, K r mem) : CQI (Ex S (n + 2)) 156 [.inr Q, .inl t] mem K E := by
  refine CY.of (k := 1) mt_156 rfl rfl (fun hv => ?_)
  have hC := Ex.mono S (n + 1)
  have ii_t : InI t := hv (.inl t) (by simp)
  unfold InI at ii_t
  clear hv
  show Tx (Ex S (n + 1)) S M_156 (kI K E) 0 0 0 [some (.inr Q), some (.inl t), none] [] mem
  refine Tx.aload_n hC te_156_0 rfl ?_
  refine Tx.iload_n hC te_156_1 rfl ?_
  refine Tx.virtI hC te_156_2 mt_155 (args := [.inr Q, .inl t]) (rest := []) (c' := 0) (s' := 0) rfl rfl rfl rfl rfl rfl rfl rfl hQ.s0 rfl ?_
  refine f_155 hQ (fun r1 r1i => ?_)
  unfold InI at r1i
  refine Tx.istore_n hC te_156_5 rfl ?_
  refine Tx.iload_n hC te_156_6 rfl ?_
  refine Tx.aload_n hC te_156_7 rfl ?_
  refine Tx.getI hC te_156_8 hQ.s0 rfl rfl (fun v4 v4e v4i => ?_)
  unfold InI at v4i
  refine Tx.icmp hC (t := 18) te_156_11 (by decide) (fun q5 => ?_) (fun q5 => ?_)
  · replace q5 : v4 ≤ (t : Int) := q5
    refine Tx.iload_n hC te_156_18 rfl ?_
    refine Tx.aload_n hC te_156_19 rfl ?_
    refine Tx.getI hC te_156_20 hQ.s0 rfl rfl (fun v6 v6e v6i => ?_)
    unfold InI at v6i
    refine Tx.aload_n hC te_156_23 rfl ?_
    refine Tx.getI hC te_156_24 hQ.s0 rfl rfl (fun v7 v7e v7i => ?_)
    unfold InI at v7i
    refine Tx.iconst hC te_156_27 rfl ?_
    refine Tx.isubW hC te_156_28 (fun z8 z8i z8e => ?_)
    unfold InI at z8i z8e
    first | replace z8e := z8e (by omega) | clear z8e
    refine Tx.imulW hC te_156_29 (fun z9 z9i z9e => ?_)
    unfold InI at z9i z9e
    first | replace z9e := z9e (by omega) | clear z9e
    refine Tx.statI hC te_156_30 (by decide) mt_29 (args := [.inl r1, .inl z9]) (rest := []) (c' := 0) (s' := 0) rfl rfl rfl rfl rfl rfl rfl ?_
    refine f_29q (fun r10 r10a r10b r10c r10i => ?_)
    unfold InI at r10i
    exact Tx.ireturn hC te_156_33 rfl (fun hr => show K r10 mem from H r10)
  · replace q5 : ¬ (v4 ≤ (t : Int)) := q5
    refine Tx.iload_n hC te_156_14 rfl ?_
    refine Tx.goto hC (t := 33) te_156_15 (by decide) ?_
    exact Tx.ireturn hC te_156_33 rfl (fun hr => show K r1 mem from H r1)
theorem f_157 {S : Nat × (Nat → Int32)} {n : Nat} {mem : MM} {K : Int → MM → Prop} {E : Nat → MM → Prop} {Q : Nat} (hQ : ChSh Q) {t : Int} (H : ∀ r, K r mem) : CQI (Ex S (n + 3)) 157 [.inr Q, .inl t] mem K E := by
  refine CY.of (k := 0) mt_157 rfl rfl (fun hv => ?_)
  have hC := Ex.mono S (n + 2)
  have ii_t : InI t := hv (.inl t) (by simp)
  unfold InI at ii_t
  clear hv
  show Tx (Ex S (n + 2)) S M_157 (kI K E) 0 0 0 [some (.inr Q), some (.inl t)] [] mem
  refine Tx.iload_n hC te_157_0 rfl ?_
  refine Tx.aload_n hC te_157_1 rfl ?_
  refine Tx.getI hC te_157_2 hQ.s0 rfl rfl (fun v1 v1e v1i => ?_)
  unfold InI at v1i
  refine Tx.icmp hC (t := 10) te_157_5 (by decide) (fun q2 => ?_) (fun q2 => ?_)
  · replace q2 : v1 ≤ (t : Int) := q2
    refine Tx.aload_n hC te_157_10 rfl ?_
    refine Tx.getI hC te_157_11 hQ.s0 rfl rfl (fun v3 v3e v3i => ?_)
    unfold InI at v3i
    refine Tx.iload_n hC te_157_14 rfl ?_
    refine Tx.aload_n hC te_157_15 rfl ?_
    refine Tx.getI hC te_157_16 hQ.s0 rfl rfl (fun v4 v4e v4i => ?_)
    unfold InI at v4i
    refine Tx.isubW hC te_157_19 (fun z5 z5i z5e => ?_)
    unfold InI at z5i z5e
    first | replace z5e := z5e (by omega) | clear z5e
    refine Tx.iconst hC te_157_20 rfl ?_
    refine Tx.iaddW hC te_157_21 (fun z6 z6i z6e => ?_)
    unfold InI at z6i z6e
    first | replace z6e := z6e (by omega) | clear z6e
    refine Tx.imulW hC te_157_22 (fun z7 z7i z7e => ?_)
    unfold InI at z7i z7e
    first | replace z7e := z7e (by omega) | clear z7e
    refine Tx.aload_n hC te_157_23 rfl ?_
    refine Tx.iload_n hC te_157_24 rfl ?_
    refine Tx.virtI hC te_157_25 mt_155 (args := [.inr Q, .inl t]) (rest := [.inl z7]) (c' := 0) (s' := 0) rfl rfl rfl rfl rfl rfl rfl rfl hQ.s0 rfl ?_
    refine f_155 hQ (fun r8 r8i => ?_)
    unfold InI at r8i
    refine Tx.aload_n hC te_157_28 rfl ?_
    refine Tx.iload_n hC te_157_29 rfl ?_
    refine Tx.virtI hC te_157_30 mt_156 (args := [.inr Q, .inl t]) (rest := [.inl r8, .inl z7]) (c' := 0) (s' := 0) rfl rfl rfl rfl rfl rfl rfl rfl hQ.s0 rfl ?_
    refine f_156 hQ (fun r11 r11i => ?_)
    unfold InI at r11i
    refine Tx.isubW hC te_157_33 (fun z14 z14i z14e => ?_)
    unfold InI at z14i z14e
    first | replace z14e := z14e (by omega) | clear z14e
    refine Tx.statI hC te_157_34 (by decide) mt_29 (args := [.inl z7, .inl z14]) (rest := []) (c' := 0) (s' := 0) rfl rfl rfl rfl rfl rfl rfl ?_
    refine f_29q (fun r15 r15a r15b r15c r15i => ?_)
    unfold InI at r15i
    exact Tx.ireturn hC te_157_37 rfl (fun hr => show K r15 mem from H r15)
  · replace q2 : ¬ (v1 ≤ (t : Int)) := q2
    refine Tx.iconst hC te_157_8 rfl ?_
    exact Tx.ireturn hC te_157_9 rfl (fun hr => show K 0 mem from H 0)
theorem f_176 {S : Nat × (Nat → Int32)} {n : Nat} {mem : MM} {K : Int → MM → Prop} {E : Nat → MM → Prop} {Q : Nat} (hQ : ChSh Q) {t : Int} (H : ∀ r, K r mem) : CQI (Ex S (n + 1)) 176 [.inr Q, .inl t] mem K E := by
  refine CY.of (k := 0) mt_176 rfl rfl (fun hv => ?_)
  have hC := Ex.mono S n
  have ii_t : InI t := hv (.inl t) (by simp)
  unfold InI at ii_t
  clear hv
  show Tx (Ex S n) S M_176 (kI K E) 0 0 0 [some (.inr Q), some (.inl t)] [] mem
  refine Tx.iload_n hC te_176_0 rfl ?_
  refine Tx.aload_n hC te_176_1 rfl ?_
  refine Tx.getI hC te_176_2 hQ.s0 rfl rfl (fun v1 v1e v1i => ?_)
  unfold InI at v1i
  refine Tx.icmp hC (t := 15) te_176_5 (by decide) (fun q2 => ?_) (fun q2 => ?_)
  · replace q2 : (t : Int) < v1 := q2
    refine Tx.iload_n hC te_176_15 rfl ?_
    exact Tx.ireturn hC te_176_16 rfl (fun hr => show K t mem from H t)
  · replace q2 : ¬ ((t : Int) < v1) := q2
    refine Tx.aload_n hC te_176_8 rfl ?_
    refine Tx.getI hC te_176_9 hQ.s0 rfl rfl (fun v3 v3e v3i => ?_)
    unfold InI at v3i
    refine Tx.ifc hC (t := 17) te_176_12 (by decide) (fun q4 => ?_) (fun q4 => ?_)
    · replace q4 : 0 < (v3 : Int) := q4
      refine Tx.iload_n hC te_176_17 rfl ?_
      refine Tx.aload_n hC te_176_18 rfl ?_
      refine Tx.getI hC te_176_19 hQ.s0 rfl rfl (fun v5 v5e v5i => ?_)
      unfold InI at v5i
      refine Tx.isubW hC te_176_22 (fun z6 z6i z6e => ?_)
      unfold InI at z6i z6e
      first | replace z6e := z6e (by omega) | clear z6e
      refine Tx.iconst hC te_176_23 rfl ?_
      refine Tx.iaddW hC te_176_24 (fun z7 z7i z7e => ?_)
      unfold InI at z7i z7e
      first | replace z7e := z7e (by omega) | clear z7e
      refine Tx.aload_n hC te_176_25 rfl ?_
      refine Tx.getI hC te_176_26 hQ.s0 rfl rfl (fun v8 v8e v8i => ?_)
      unfold InI at v8i
      refine Tx.iremW hC te_176_29 (by omega) (fun z9 z9i z9e z9f => ?_)
      unfold InI at z9i
      exact Tx.ireturn hC te_176_30 rfl (fun hr => show K z9 mem from H z9)
    · replace q4 : ¬ (0 < (v3 : Int)) := q4
      refine Tx.iload_n hC te_176_15 rfl ?_
      exact Tx.ireturn hC te_176_16 rfl (fun hr => show K t mem from H t)
theorem f_212 {S : Nat × (Nat → Int32)} {n : Nat} {mem : MM} {K : Int → MM → Prop} {E : Nat → MM → Prop} {Q : Nat} (hQ : ChSh Q) (hO : ChtOK mem Q) {y t : Int} (H : ∀ r, r = 0 ∨ r = 1 → K r mem) : CQI (Ex S (n + 2)) 212 [.inr Q, .inl y, .inl t] mem K E := by
  refine CY.of (k := 1) mt_212 rfl rfl (fun hv => ?_)
  have hC := Ex.mono S (n + 1)
  have ii_y : InI y := hv (.inl y) (by simp)
  unfold InI at ii_y
  have ii_t : InI t := hv (.inl t) (by simp)
  unfold InI at ii_t
  clear hv
  have hQ1 := hO.1
  show Tx (Ex S (n + 1)) S M_212 (kI K E) 0 0 0 [some (.inr Q), some (.inl y), some (.inl t), none] [] mem
  have l_2 : ∀ (N : Nat) (x3 : Int), (0 ≤ x3) → ((8 - x3).toNat) < N → Tx (Ex S (n + 1)) S M_212 (kI K E) 0 0 2 [some (.inr Q), some (.inl y), some (.inl t), some (.inl x3)] [] mem := by
    intro N
    induction N with
    | zero => intros; omega
    | succ N ih_2 =>
      intro x3 i2_0 hN_2 
      refine Tx.iload_n hC te_212_2 rfl ?_
      refine Tx.aload_n hC te_212_3 rfl ?_
      refine Tx.getI hC te_212_4 hQ.s0 rfl rfl (fun v1 v1e v1i => ?_)
      unfold InI at v1i
      refine Tx.icmp hC (t := 29) te_212_7 (by decide) (fun q2 => ?_) (fun q2 => ?_)
      · replace q2 : v1 ≤ (x3 : Int) := q2
        refine Tx.iconst hC te_212_29 rfl ?_
        exact Tx.bret hC te_212_30 rfl (by omega) (show K 0 mem from H 0 (by omega))
      · replace q2 : ¬ (v1 ≤ (x3 : Int)) := q2
        refine Tx.aload_n hC te_212_10 rfl ?_
        refine Tx.iload_n hC te_212_11 rfl ?_
        refine Tx.iload_n hC te_212_12 rfl ?_
        refine Tx.iload_n hC te_212_13 rfl ?_
        refine Tx.virtI hC te_212_14 mt_152 (args := [.inr Q, .inl x3, .inl y, .inl t]) (rest := []) (c' := 0) (s' := 0) rfl rfl rfl rfl rfl rfl rfl rfl hQ.s0 rfl ?_
        refine f_152 hQ hO (by omega) (fun r3 r3i => ?_)
        unfold InI at r3i
        refine Tx.iconst hC te_212_17 rfl ?_
        refine Tx.icmp hC (t := 23) te_212_18 (by decide) (fun q6 => ?_) (fun q6 => ?_)
        · replace q6 : (r3 : Int) = (-1) := q6
          refine Tx.iincW hC te_212_23 rfl rfl (fun z7 z7i z7e => ?_)
          unfold InI at z7i z7e
          first | replace z7e := z7e (by omega) | clear z7e
          refine Tx.goto hC (t := 2) te_212_26 (by decide) ?_
          exact ih_2 z7 (by omega) (by omega)
        · replace q6 : ¬ ((r3 : Int) = (-1)) := q6
          refine Tx.iconst hC te_212_21 rfl ?_
          exact Tx.bret hC te_212_22 rfl (by omega) (show K 1 mem from H 1 (by omega))
  refine Tx.iconst hC te_212_0 rfl ?_
  refine Tx.istore_n hC te_212_1 rfl ?_
  exact l_2 _ 0 (by omega) (Nat.lt_succ_self _)
theorem f_211 {S : Nat × (Nat → Int32)} {n : Nat} {mem : MM} {K : Int → MM → Prop} {E : Nat → MM → Prop} {Q : Nat} (hQ : ChSh Q) (hO : ChtOK mem Q) {t : Int} (H : ∀ r, K r mem) : CQI (Ex S (n + 3)) 211 [.inr Q, .inl t] mem K E := by
  refine CY.of (k := 3) mt_211 rfl rfl (fun hv => ?_)
  have hC := Ex.mono S (n + 2)
  have ii_t : InI t := hv (.inl t) (by simp)
  unfold InI at ii_t
  clear hv
  have hQ1 := hO.1
  show Tx (Ex S (n + 2)) S M_211 (kI K E) 0 0 0 [some (.inr Q), some (.inl t), none, none, none] [] mem
  have l_11 : ∀ (N : Nat) (x2 x3 x4 : Int), (0 ≤ x4) → (x3 ≤ 2147483647) → ((x3 - x4).toNat) < N → Tx (Ex S (n + 2)) S M_211 (kI K E) 0 0 11 [some (.inr Q), some (.inl t), some (.inl x2), some (.inl x3), some (.inl x4)] [] mem := by
    intro N
    induction N with
    | zero => intros; omega
    | succ N ih_11 =>
      intro x2 x3 x4 i11_0 i11_1 hN_11 
      refine Tx.iload hC te_211_11 rfl ?_
      refine Tx.iload_n hC te_211_13 rfl ?_
      refine Tx.icmp hC (t := 36) te_211_14 (by decide) (fun q1 => ?_) (fun q1 => ?_)
      · replace q1 : x3 ≤ (x4 : Int) := q1
        refine Tx.iload_n hC te_211_36 rfl ?_
        exact Tx.ireturn hC te_211_37 rfl (fun hr => show K x2 mem from H x2)
      · replace q1 : ¬ (x3 ≤ (x4 : Int)) := q1
        refine Tx.aload_n hC te_211_17 rfl ?_
        refine Tx.iload hC te_211_18 rfl ?_
        refine Tx.iload_n hC te_211_20 rfl ?_
        refine Tx.virtI hC te_211_21 mt_212 (args := [.inr Q, .inl x4, .inl t]) (rest := []) (c' := 0) (s' := 0) rfl rfl rfl rfl rfl rfl rfl rfl hQ.s0 rfl ?_
        refine f_212 hQ hO (fun r2 r2b r2i => ?_)
        unfold InI at r2i
        refine Tx.ifc hC (t := 30) te_211_24 (by decide) (fun q5 => ?_) (fun q5 => ?_)
        · replace q5 : ¬ (r2 : Int) = 0 := q5
          refine Tx.iincW hC te_211_30 rfl rfl (fun z6 z6i z6e => ?_)
          unfold InI at z6i z6e
          first | replace z6e := z6e (by omega) | clear z6e
          refine Tx.goto hC (t := 11) te_211_33 (by decide) ?_
          exact ih_11 x2 x3 z6 (by omega) (by omega) (by omega)
        · replace q5 : ¬ (¬ (r2 : Int) = 0) := q5
          refine Tx.iincW hC te_211_27 rfl rfl (fun z7 z7i z7e => ?_)
          unfold InI at z7i z7e
          first | replace z7e := z7e (by omega) | clear z7e
          refine Tx.iincW hC te_211_30 rfl rfl (fun z8 z8i z8e => ?_)
          unfold InI at z8i z8e
          first | replace z8e := z8e (by omega) | clear z8e
          refine Tx.goto hC (t := 11) te_211_33 (by decide) ?_
          exact ih_11 z7 x3 z8 (by omega) (by omega) (by omega)
  refine Tx.iconst hC te_211_0 rfl ?_
  refine Tx.istore_n hC te_211_1 rfl ?_
  refine Tx.aload_n hC te_211_2 rfl ?_
  refine Tx.iload_n hC te_211_3 rfl ?_
  refine Tx.virtI hC te_211_4 mt_155 (args := [.inr Q, .inl t]) (rest := []) (c' := 0) (s' := 0) rfl rfl rfl rfl rfl rfl rfl rfl hQ.s0 rfl ?_
  refine f_155 hQ (fun r9 r9i => ?_)
  unfold InI at r9i
  refine Tx.istore_n hC te_211_7 rfl ?_
  refine Tx.iconst hC te_211_8 rfl ?_
  refine Tx.istore hC te_211_9 rfl ?_
  exact l_11 _ 0 r9 0 (by omega) (by omega) (Nat.lt_succ_self _)
theorem f_186 {S : Nat × (Nat → Int32)} {n : Nat} {mem : MM} {K : Int → MM → Prop} {E : Nat → MM → Prop} {Q : Nat} (hQ : ChSh Q) (hO : ChtOK mem Q) {o k y t : Int} (ho : 0 ≤ o ∧ o < 8) (hy : 0 ≤ y) (ht : 0 ≤ t ∧ t ≤ 40) (H : ∀ r, r ≤ 39 → K r mem) : CQI (Ex S (n + 2)) 186 [.inr Q, .inl o, .inl k, .inl y, .inl t] mem K E := by
  refine CY.of (k := 1) mt_186 rfl rfl (fun hv => ?_)
  have hC := Ex.mono S (n + 1)
  have ii_o : InI o := hv (.inl o) (by simp)
  unfold InI at ii_o
  have ii_k : InI k := hv (.inl k) (by simp)
  unfold InI at ii_k
  have ii_y : InI y := hv (.inl y) (by simp)
  unfold InI at ii_y
  have ii_t : InI t := hv (.inl t) (by simp)
  unfold InI at ii_t
  clear hv
  have hQ1 := hO.1
  show Tx (Ex S (n + 1)) S M_186 (kI K E) 0 0 0 [some (.inr Q), some (.inl o), some (.inl k), some (.inl y), some (.inl t), none] [] mem
  refine Tx.iload_n hC te_186_0 rfl ?_
  refine Tx.aload_n hC te_186_1 rfl ?_
  refine Tx.getR hC te_186_2 hQ.s0 rfl rfl ?_
  refine Tx.iload_n hC te_186_5 rfl ?_
  refine Tx.iald hC te_186_6 hQ.s3 (by omega) (fun v1 v1e v1i => ?_)
  unfold InI at v1i
  have f2 := hO.2 (Int.toNat o) (by omega)
  refine Tx.icmp hC (t := 19) te_186_7 (by decide) (fun q3 => ?_) (fun q3 => ?_)
  · replace q3 : (y : Int) < v1 := q3
    refine Tx.iconst hC te_186_19 rfl ?_
    exact Tx.ireturn hC te_186_20 rfl (fun hr => show K (-1) mem from H (-1) (by omega))
  · replace q3 : ¬ ((y : Int) < v1) := q3
    refine Tx.aload_n hC te_186_10 rfl ?_
    refine Tx.getR hC te_186_11 hQ.s0 rfl rfl ?_
    refine Tx.iload_n hC te_186_14 rfl ?_
    refine Tx.iald hC te_186_15 hQ.s6 (by omega) (fun v4 v4e v4i => ?_)
    unfold InI at v4i
    refine Tx.ifc hC (t := 21) te_186_16 (by decide) (fun q5 => ?_) (fun q5 => ?_)
    · replace q5 : 0 < (v4 : Int) := q5
      refine Tx.iload hC te_186_21 rfl ?_
      refine Tx.iconst hC te_186_23 rfl ?_
      refine Tx.isubW hC te_186_24 (fun z6 z6i z6e => ?_)
      unfold InI at z6i z6e
      first | replace z6e := z6e (by omega) | clear z6e
      refine Tx.iload_n hC te_186_25 rfl ?_
      refine Tx.aload_n hC te_186_26 rfl ?_
      refine Tx.getR hC te_186_27 hQ.s0 rfl rfl ?_
      refine Tx.iload_n hC te_186_30 rfl ?_
      refine Tx.iald hC te_186_31 hQ.s3 (by omega) (fun v7 v7e v7i => ?_)
      unfold InI at v7i
      have f8 := hO.2 (Int.toNat o) (by omega)
      refine Tx.isubW hC te_186_32 (fun z9 z9i z9e => ?_)
      unfold InI at z9i z9e
      first | replace z9e := z9e (by omega) | clear z9e
      refine Tx.aload_n hC te_186_33 rfl ?_
      refine Tx.getI hC te_186_34 hQ.s0 rfl rfl (fun v10 v10e v10i => ?_)
      unfold InI at v10i
      refine Tx.idivW hC te_186_37 (by omega) (fun z11 z11i z11e z11f => ?_)
      unfold InI at z11i
      refine Tx.statI hC te_186_38 (by decide) mt_29 (args := [.inl z6, .inl z11]) (rest := []) (c' := 0) (s' := 0) rfl rfl rfl rfl rfl rfl rfl ?_
      refine f_29q (fun r12 r12a r12b r12c r12i => ?_)
      unfold InI at r12i
      refine Tx.istore hC te_186_41 rfl ?_
      refine Tx.iload hC te_186_43 rfl ?_
      refine Tx.iload hC te_186_45 rfl ?_
      refine Tx.iload_n hC te_186_47 rfl ?_
      refine Tx.isubW hC te_186_48 (fun z15 z15i z15e => ?_)
      unfold InI at z15i z15e
      first | replace z15e := z15e (by omega) | clear z15e
      refine Tx.aload_n hC te_186_49 rfl ?_
      refine Tx.getR hC te_186_50 hQ.s0 rfl rfl ?_
      refine Tx.iload_n hC te_186_53 rfl ?_
      refine Tx.iald hC te_186_54 hQ.s6 (by omega) (fun v16 v16e v16i => ?_)
      unfold InI at v16i
      refine Tx.statI hC te_186_55 (by decide) mt_94 (args := [.inl z15, .inl v16]) (rest := [.inl r12]) (c' := 0) (s' := 0) rfl rfl rfl rfl rfl rfl rfl ?_
      refine f_94 (by omega) (fun r17 r17a r17b r17i => ?_)
      unfold InI at r17i
      refine Tx.isubW hC te_186_58 (fun z20 z20i z20e => ?_)
      unfold InI at z20i z20e
      first | replace z20e := z20e (by omega) | clear z20e
      refine Tx.istore hC te_186_59 rfl ?_
      refine Tx.iload hC te_186_61 rfl ?_
      refine Tx.ifc hC (t := 70) te_186_63 (by decide) (fun q21 => ?_) (fun q21 => ?_)
      · replace q21 : 0 ≤ (z20 : Int) := q21
        refine Tx.iload hC te_186_70 rfl ?_
        exact Tx.ireturn hC te_186_72 rfl (fun hr => show K z20 mem from H z20 (by omega))
      · replace q21 : ¬ (0 ≤ (z20 : Int)) := q21
        refine Tx.iconst hC te_186_66 rfl ?_
        refine Tx.goto hC (t := 72) te_186_67 (by decide) ?_
        exact Tx.ireturn hC te_186_72 rfl (fun hr => show K (-1) mem from H (-1) (by omega))
    · replace q5 : ¬ (0 < (v4 : Int)) := q5
      refine Tx.iconst hC te_186_19 rfl ?_
      exact Tx.ireturn hC te_186_20 rfl (fun hr => show K (-1) mem from H (-1) (by omega))
theorem f_205 {S : Nat × (Nat → Int32)} {n : Nat} {mem : MM} {K : Int → MM → Prop} {E : Nat → MM → Prop} (hR : 0 ≤ mem 19 0 ∧ mem 19 0 ≤ 8) {o : Int} (ho : 0 ≤ o ∧ o < 8) (H : ∀ r, K r mem) : CQI (Ex S (n + 2)) 205 [.inr 19, .inl o] mem K E := by
  refine CY.of (k := 2) mt_205 rfl rfl (fun hv => ?_)
  have hC := Ex.mono S (n + 1)
  have ii_o : InI o := hv (.inl o) (by simp)
  unfold InI at ii_o
  clear hv
  show Tx (Ex S (n + 1)) S M_205 (kI K E) 0 0 0 [some (.inr 19), some (.inl o), none, none] [] mem
  have l_4 : ∀ (N : Nat) (x2 x3 : Int), (0 ≤ x3) → ((8 - x3).toNat) < N → Tx (Ex S (n + 1)) S M_205 (kI K E) 0 0 4 [some (.inr 19), some (.inl o), some (.inl x2), some (.inl x3)] [] mem := by
    intro N
    induction N with
    | zero => intros; omega
    | succ N ih_4 =>
      intro x2 x3 i4_0 hN_4 
      refine Tx.iload_n hC te_205_4 rfl ?_
      refine Tx.aload_n hC te_205_5 rfl ?_
      refine Tx.getI hC te_205_6 rfl rfl rfl (fun v1 v1e v1i => ?_)
      unfold InI at v1i
      refine Tx.icmp hC (t := 34) te_205_9 (by decide) (fun q2 => ?_) (fun q2 => ?_)
      · replace q2 : v1 ≤ (x3 : Int) := q2
        refine Tx.iload_n hC te_205_34 rfl ?_
        exact Tx.ireturn hC te_205_35 rfl (fun hr => show K x2 mem from H x2)
      · replace q2 : ¬ (v1 ≤ (x3 : Int)) := q2
        refine Tx.iload_n hC te_205_12 rfl ?_
        refine Tx.aload_n hC te_205_13 rfl ?_
        refine Tx.getR hC te_205_14 rfl rfl rfl ?_
        refine Tx.iload_n hC te_205_17 rfl ?_
        refine Tx.bipush hC te_205_18 rfl rfl ?_
        refine Tx.imulW hC te_205_20 (fun z3 z3i z3e => ?_)
        unfold InI at z3i z3e
        first | replace z3e := z3e (by omega) | clear z3e
        refine Tx.iload_n hC te_205_21 rfl ?_
        refine Tx.iaddW hC te_205_22 (fun z4 z4i z4e => ?_)
        unfold InI at z4i z4e
        first | replace z4e := z4e (by omega) | clear z4e
        refine Tx.iald hC te_205_23 rfl (by omega) (fun v5 v5e v5i => ?_)
        unfold InI at v5i
        refine Tx.statI hC te_205_24 (by decide) mt_40 (args := [.inl x2, .inl v5]) (rest := []) (c' := 0) (s' := 0) rfl rfl rfl rfl rfl rfl rfl ?_
        refine f_40q (fun r6 r6a r6b r6c r6i => ?_)
        unfold InI at r6i
        refine Tx.istore_n hC te_205_27 rfl ?_
        refine Tx.iincW hC te_205_28 rfl rfl (fun z9 z9i z9e => ?_)
        unfold InI at z9i z9e
        first | replace z9e := z9e (by omega) | clear z9e
        refine Tx.goto hC (t := 4) te_205_31 (by decide) ?_
        exact ih_4 r6 z9 (by omega) (by omega)
  refine Tx.iconst hC te_205_0 rfl ?_
  refine Tx.istore_n hC te_205_1 rfl ?_
  refine Tx.iconst hC te_205_2 rfl ?_
  refine Tx.istore_n hC te_205_3 rfl ?_
  exact l_4 _ 0 0 (by omega) (Nat.lt_succ_self _)
theorem f_204 {S : Nat × (Nat → Int32)} {n : Nat} {mem : MM} {K : Int → MM → Prop} {E : Nat → MM → Prop} (hR : 0 ≤ mem 19 0 ∧ mem 19 0 ≤ 8) (hB : BodyOK mem) {o : Int} (ho : 0 ≤ o ∧ o < 8) (H : ∀ r, K r mem) : CQI (Ex S (n + 3)) 204 [.inr 19, .inr 1, .inl o] mem K E := by
  refine CY.of (k := 4) mt_204 rfl rfl (fun hv => ?_)
  have hC := Ex.mono S (n + 2)
  have ii_o : InI o := hv (.inl o) (by simp)
  unfold InI at ii_o
  clear hv
  show Tx (Ex S (n + 2)) S M_204 (kI K E) 0 0 0 [some (.inr 19), some (.inr 1), some (.inl o), none, none, none, none] [] mem
  have l_50 : ∀ (N : Nat) (x3 x4 x5 : Int), (0 ≤ x5) → ((8 - x5).toNat) < N → Tx (Ex S (n + 2)) S M_204 (kI K E) 0 0 50 [some (.inr 19), some (.inr 1), some (.inl o), some (.inl x3), some (.inl x4), some (.inl x5), none] [] mem := by
    intro N
    induction N with
    | zero => intros; omega
    | succ N ih_50 =>
      intro x3 x4 x5 i50_0 hN_50 
      refine Tx.iload hC te_204_50 rfl ?_
      refine Tx.aload_n hC te_204_52 rfl ?_
      refine Tx.getI hC te_204_53 rfl rfl rfl (fun v1 v1e v1i => ?_)
      unfold InI at v1i
      refine Tx.icmp hC (t := 104) te_204_56 (by decide) (fun q2 => ?_) (fun q2 => ?_)
      · replace q2 : v1 ≤ (x5 : Int) := q2
        refine Tx.iload hC te_204_104 rfl ?_
        exact Tx.ireturn hC te_204_106 rfl (fun hr => show K x4 mem from H x4)
      · replace q2 : ¬ (v1 ≤ (x5 : Int)) := q2
        refine Tx.aload_n hC te_204_59 rfl ?_
        refine Tx.getR hC te_204_60 rfl rfl rfl ?_
        refine Tx.iload_n hC te_204_63 rfl ?_
        refine Tx.bipush hC te_204_64 rfl rfl ?_
        refine Tx.imulW hC te_204_66 (fun z3 z3i z3e => ?_)
        unfold InI at z3i z3e
        first | replace z3e := z3e (by omega) | clear z3e
        refine Tx.iload hC te_204_67 rfl ?_
        refine Tx.iaddW hC te_204_69 (fun z4 z4i z4e => ?_)
        unfold InI at z4i z4e
        first | replace z4e := z4e (by omega) | clear z4e
        refine Tx.iald hC te_204_70 rfl (by omega) (fun v5 v5e v5i => ?_)
        unfold InI at v5i
        refine Tx.istore hC te_204_71 rfl ?_
        refine Tx.iload hC te_204_73 rfl ?_
        refine Tx.ldc hC (z := (-100000)) te_204_75 rfl rfl rfl rfl ?_
        refine Tx.icmp hC (t := 98) te_204_77 (by decide) (fun q6 => ?_) (fun q6 => ?_)
        · replace q6 : (v5 : Int) = (-100000) := q6
          refine Tx.iincW hC te_204_98 rfl rfl (fun z7 z7i z7e => ?_)
          unfold InI at z7i z7e
          first | replace z7e := z7e (by omega) | clear z7e
          refine Tx.goto hC (t := 50) te_204_101 (by decide) ?_
          exact Tx.weak (by repeat' (first | exact trivial | exact rfl | constructor)) (ih_50 x3 x4 z7 (by omega) (by omega))
        · replace q6 : ¬ ((v5 : Int) = (-100000)) := q6
          refine Tx.iload hC te_204_80 rfl ?_
          refine Tx.iload_n hC te_204_82 rfl ?_
          refine Tx.aload_n hC te_204_83 rfl ?_
          refine Tx.iload hC te_204_84 rfl ?_
          refine Tx.virtI hC te_204_86 mt_19 (args := [.inr 1, .inl x5]) (rest := [.inl x3, .inl x4]) (c' := 0) (s' := 0) rfl rfl rfl rfl rfl rfl rfl rfl rfl rfl ?_
          refine CWI.q hC (f_19 hB (by omega) (fun r8 r8a r8b r8i => ?_))
          unfold InI at r8i
          refine Tx.isubW hC te_204_89 (fun z11 z11i z11e => ?_)
          unfold InI at z11i z11e
          first | replace z11e := z11e (by omega) | clear z11e
          refine Tx.iload hC te_204_90 rfl ?_
          refine Tx.isubW hC te_204_92 (fun z12 z12i z12e => ?_)
          unfold InI at z12i z12e
          first | replace z12e := z12e (by omega) | clear z12e
          refine Tx.statI hC te_204_93 (by decide) mt_29 (args := [.inl x4, .inl z12]) (rest := []) (c' := 0) (s' := 0) rfl rfl rfl rfl rfl rfl rfl ?_
          refine f_29q (fun r13 r13a r13b r13c r13i => ?_)
          unfold InI at r13i
          refine Tx.istore hC te_204_96 rfl ?_
          refine Tx.iincW hC te_204_98 rfl rfl (fun z16 z16i z16e => ?_)
          unfold InI at z16i z16e
          first | replace z16e := z16e (by omega) | clear z16e
          refine Tx.goto hC (t := 50) te_204_101 (by decide) ?_
          exact Tx.weak (by repeat' (first | exact trivial | exact rfl | constructor)) (ih_50 x3 r13 z16 (by omega) (by omega))
  have l_5 : ∀ (N : Nat) (x3 x4 : Int), (0 ≤ x4) → ((8 - x4).toNat) < N → Tx (Ex S (n + 2)) S M_204 (kI K E) 0 0 5 [some (.inr 19), some (.inr 1), some (.inl o), some (.inl x3), some (.inl x4), none, none] [] mem := by
    intro N
    induction N with
    | zero => intros; omega
    | succ N ih_5 =>
      intro x3 x4 i5_0 hN_5 
      refine Tx.iload hC te_204_5 rfl ?_
      refine Tx.aload_n hC te_204_7 rfl ?_
      refine Tx.getI hC te_204_8 rfl rfl rfl (fun v17 v17e v17i => ?_)
      unfold InI at v17i
      refine Tx.icmp hC (t := 38) te_204_11 (by decide) (fun q18 => ?_) (fun q18 => ?_)
      · replace q18 : v17 ≤ (x4 : Int) := q18
        refine Tx.iload_n hC te_204_38 rfl ?_
        refine Tx.aload_n hC te_204_39 rfl ?_
        refine Tx.iload_n hC te_204_40 rfl ?_
        refine Tx.virtI hC te_204_41 mt_19 (args := [.inr 1, .inl o]) (rest := [.inl x3]) (c' := 0) (s' := 0) rfl rfl rfl rfl rfl rfl rfl rfl rfl rfl ?_
        refine CWI.q hC (f_19 hB (by omega) (fun r19 r19a r19b r19i => ?_))
        unfold InI at r19i
        refine Tx.isubW hC te_204_44 (fun z22 z22i z22e => ?_)
        unfold InI at z22i z22e
        first | replace z22e := z22e (by omega) | clear z22e
        refine Tx.istore hC te_204_45 rfl ?_
        refine Tx.iconst hC te_204_47 rfl ?_
        refine Tx.istore hC te_204_48 rfl ?_
        exact l_50 _ x3 z22 0 (by omega) (Nat.lt_succ_self _)
      · replace q18 : ¬ (v17 ≤ (x4 : Int)) := q18
        refine Tx.iload_n hC te_204_14 rfl ?_
        refine Tx.aload_n hC te_204_15 rfl ?_
        refine Tx.iload hC te_204_16 rfl ?_
        refine Tx.virtI hC te_204_18 mt_205 (args := [.inr 19, .inl x4]) (rest := [.inl x3]) (c' := 0) (s' := 0) rfl rfl rfl rfl rfl rfl rfl rfl rfl rfl ?_
        refine f_205 hR (by omega) (fun r23 r23i => ?_)
        unfold InI at r23i
        refine Tx.aload_n hC te_204_21 rfl ?_
        refine Tx.iload hC te_204_22 rfl ?_
        refine Tx.virtI hC te_204_24 mt_19 (args := [.inr 1, .inl x4]) (rest := [.inl r23, .inl x3]) (c' := 0) (s' := 0) rfl rfl rfl rfl rfl rfl rfl rfl rfl rfl ?_
        refine CWI.q hC (f_19 hB (by omega) (fun r26 r26a r26b r26i => ?_))
        unfold InI at r26i
        refine Tx.iaddW hC te_204_27 (fun z29 z29i z29e => ?_)
        unfold InI at z29i z29e
        first | replace z29e := z29e (by omega) | clear z29e
        refine Tx.statI hC te_204_28 (by decide) mt_40 (args := [.inl x3, .inl z29]) (rest := []) (c' := 0) (s' := 0) rfl rfl rfl rfl rfl rfl rfl ?_
        refine f_40q (fun r30 r30a r30b r30c r30i => ?_)
        unfold InI at r30i
        refine Tx.istore_n hC te_204_31 rfl ?_
        refine Tx.iincW hC te_204_32 rfl rfl (fun z33 z33i z33e => ?_)
        unfold InI at z33i z33e
        first | replace z33e := z33e (by omega) | clear z33e
        refine Tx.goto hC (t := 5) te_204_35 (by decide) ?_
        exact ih_5 r30 z33 (by omega) (by omega)
  refine Tx.iconst hC te_204_0 rfl ?_
  refine Tx.istore_n hC te_204_1 rfl ?_
  refine Tx.iconst hC te_204_2 rfl ?_
  refine Tx.istore hC te_204_3 rfl ?_
  exact l_5 _ 0 0 (by omega) (Nat.lt_succ_self _)
theorem f_217 {S : Nat × (Nat → Int32)} {n : Nat} {mem : MM} {K : Int → MM → Prop} {E : Nat → MM → Prop} {Q : Nat} (hQ : ChSh Q) (hO : ChtOK mem Q) (hB : BodyOK mem) {o t : Int} (ho : 0 ≤ o ∧ o < 8) (H : ∀ r, K r mem) : CQI (Ex S (n + 2)) 217 [.inr 141, .inr 1, .inr Q, .inl o, .inl t] mem K E := by
  refine CY.of (k := 3) mt_217 rfl rfl (fun hv => ?_)
  have hC := Ex.mono S (n + 1)
  have ii_o : InI o := hv (.inl o) (by simp)
  unfold InI at ii_o
  have ii_t : InI t := hv (.inl t) (by simp)
  unfold InI at ii_t
  clear hv
  have hQ1 := hO.1
  show Tx (Ex S (n + 1)) S M_217 (kI K E) 0 0 0 [some (.inr 141), some (.inr 1), some (.inr Q), some (.inl o), some (.inl t), none, none, none] [] mem
  refine Tx.aload_n hC te_217_0 rfl ?_
  refine Tx.getR hC te_217_1 hQ.s0 rfl rfl ?_
  refine Tx.iload_n hC te_217_4 rfl ?_
  refine Tx.iald hC te_217_5 hQ.s2 (by omega) (fun v1 v1e v1i => ?_)
  unfold InI at v1i
  have f2 := hO.2 (Int.toNat o) (by omega)
  refine Tx.aload_n hC te_217_6 rfl ?_
  refine Tx.getI hC te_217_7 hQ.s0 rfl rfl (fun v3 v3e v3i => ?_)
  unfold InI at v3i
  refine Tx.iload hC te_217_10 rfl ?_
  refine Tx.imulW hC te_217_12 (fun z4 z4i z4e => ?_)
  unfold InI at z4i z4e
  first | replace z4e := z4e (by omega) | clear z4e
  refine Tx.iaddW hC te_217_13 (fun z5 z5i z5e => ?_)
  unfold InI at z5i z5e
  first | replace z5e := z5e (by omega) | clear z5e
  refine Tx.istore hC te_217_14 rfl ?_
  refine Tx.iload hC te_217_16 rfl ?_
  refine Tx.ifc hC (t := 29) te_217_18 (by decide) (fun q6 => ?_) (fun q6 => ?_)
  · replace q6 : (z5 : Int) < 0 := q6
    refine Tx.iconst hC te_217_29 rfl ?_
    exact Tx.ireturn hC te_217_30 rfl (fun hr => show K 0 mem from H 0)
  · replace q6 : ¬ ((z5 : Int) < 0) := q6
    refine Tx.iload hC te_217_21 rfl ?_
    refine Tx.sipush hC te_217_23 rfl rfl ?_
    refine Tx.icmp hC (t := 31) te_217_26 (by decide) (fun q7 => ?_) (fun q7 => ?_)
    · replace q7 : (z5 : Int) < 1024 := q7
      refine Tx.iload hC te_217_31 rfl ?_
      refine Tx.aload_n hC te_217_33 rfl ?_
      refine Tx.getR hC te_217_34 rfl rfl rfl ?_
      refine Tx.iload hC te_217_37 rfl ?_
      refine Tx.iald hC te_217_39 rfl (by omega) (fun v8 v8e v8i => ?_)
      unfold InI at v8i
      refine Tx.iaddW hC te_217_40 (fun z9 z9i z9e => ?_)
      unfold InI at z9i z9e
      first | replace z9e := z9e (by omega) | clear z9e
      refine Tx.aload_n hC te_217_41 rfl ?_
      refine Tx.iload_n hC te_217_42 rfl ?_
      refine Tx.virtI hC te_217_43 mt_19 (args := [.inr 1, .inl o]) (rest := [.inl z9]) (c' := 0) (s' := 0) rfl rfl rfl rfl rfl rfl rfl rfl rfl rfl ?_
      refine CWI.q hC (f_19 hB (by omega) (fun r10 r10a r10b r10i => ?_))
      unfold InI at r10i
      refine Tx.iaddW hC te_217_46 (fun z13 z13i z13e => ?_)
      unfold InI at z13i z13e
      first | replace z13e := z13e (by omega) | clear z13e
      refine Tx.istore hC te_217_47 rfl ?_
      refine Tx.aload_n hC te_217_49 rfl ?_
      refine Tx.getR hC te_217_50 rfl rfl rfl ?_
      refine Tx.iload_n hC te_217_53 rfl ?_
      refine Tx.iald hC te_217_54 rfl (by omega) (fun v14 v14e v14i => ?_)
      unfold InI at v14i
      have f15 := hB.kd (o := (Int.toNat o)) (by omega)
      refine Tx.iconst hC te_217_55 rfl ?_
      refine Tx.icmp hC (t := 63) te_217_56 (by decide) (fun q16 => ?_) (fun q16 => ?_)
      · replace q16 : ¬ (v14 : Int) = 4 := q16
        refine Tx.iconst hC te_217_63 rfl ?_
        refine Tx.istore hC te_217_64 rfl ?_
        refine Tx.iload hC te_217_66 rfl ?_
        refine Tx.ifc hC (t := 103) te_217_68 (by decide) (fun q => ?_) (fun q => absurd (show (0 : Int) = 0 by decide) q)
        refine Tx.iload hC te_217_103 rfl ?_
        exact Tx.ireturn hC te_217_105 rfl (fun hr => show K z13 mem from H z13)
      · replace q16 : ¬ (¬ (v14 : Int) = 4) := q16
        refine Tx.iconst hC te_217_59 rfl ?_
        refine Tx.goto hC (t := 64) te_217_60 (by decide) ?_
        refine Tx.istore hC te_217_64 rfl ?_
        refine Tx.iload hC te_217_66 rfl ?_
        refine Tx.ifc hC (t := 103) te_217_68 (by decide) (fun q => absurd q (show ¬ ((1 : Int) = 0) by decide)) (fun q => ?_)
        refine Tx.aload_n hC te_217_71 rfl ?_
        refine Tx.getI hC te_217_72 rfl rfl rfl (fun v17 v17e v17i => ?_)
        unfold InI at v17i
        refine Tx.ifc hC (t := 103) te_217_75 (by decide) (fun q18 => ?_) (fun q18 => ?_)
        · replace q18 : (v17 : Int) ≤ 0 := q18
          refine Tx.iload hC te_217_103 rfl ?_
          exact Tx.ireturn hC te_217_105 rfl (fun hr => show K z13 mem from H z13)
        · replace q18 : ¬ ((v17 : Int) ≤ 0) := q18
          refine Tx.iload hC te_217_78 rfl ?_
          refine Tx.aload_n hC te_217_80 rfl ?_
          refine Tx.iload_n hC te_217_81 rfl ?_
          refine Tx.virtI hC te_217_82 mt_25 (args := [.inr 1, .inl o]) (rest := [.inl t]) (c' := 0) (s' := 0) rfl rfl rfl rfl rfl rfl rfl rfl rfl rfl ?_
          refine f_25q (by omega) (fun r19 r19e r19i => ?_)
          unfold InI at r19i
          refine Tx.iaddW hC te_217_85 (fun z22 z22i z22e => ?_)
          unfold InI at z22i z22e
          first | replace z22e := z22e (by omega) | clear z22e
          refine Tx.aload_n hC te_217_86 rfl ?_
          refine Tx.getI hC te_217_87 rfl rfl rfl (fun v23 v23e v23i => ?_)
          unfold InI at v23i
          refine Tx.iremW hC te_217_90 (by omega) (fun z24 z24i z24e z24f => ?_)
          unfold InI at z24i
          refine Tx.ifc hC (t := 103) te_217_91 (by decide) (fun q25 => ?_) (fun q25 => ?_)
          · replace q25 : ¬ (z24 : Int) = 0 := q25
            refine Tx.iload hC te_217_103 rfl ?_
            exact Tx.ireturn hC te_217_105 rfl (fun hr => show K z13 mem from H z13)
          · replace q25 : ¬ (¬ (z24 : Int) = 0) := q25
            refine Tx.iload hC te_217_94 rfl ?_
            refine Tx.aload_n hC te_217_96 rfl ?_
            refine Tx.getI hC te_217_97 rfl rfl rfl (fun v26 v26e v26i => ?_)
            unfold InI at v26i
            refine Tx.iaddW hC te_217_100 (fun z27 z27i z27e => ?_)
            unfold InI at z27i z27e
            first | replace z27e := z27e (by omega) | clear z27e
            refine Tx.istore hC te_217_101 rfl ?_
            refine Tx.iload hC te_217_103 rfl ?_
            exact Tx.ireturn hC te_217_105 rfl (fun hr => show K z27 mem from H z27)
    · replace q7 : ¬ ((z5 : Int) < 1024) := q7
      refine Tx.iconst hC te_217_29 rfl ?_
      exact Tx.ireturn hC te_217_30 rfl (fun hr => show K 0 mem from H 0)
theorem f_216 {S : Nat × (Nat → Int32)} {n : Nat} {mem : MM} {K : Int → MM → Prop} {E : Nat → MM → Prop} {Q : Nat} (hQ : ChSh Q) (hO : ChtOK mem Q) (hB : BodyOK mem) {o t : Int} (ho : 0 ≤ o ∧ o < 8) (H : ∀ r, K r mem) : CQI (Ex S (n + 3)) 216 [.inr 141, .inr 1, .inr Q, .inl o, .inl t] mem K E := by
  refine CY.of (k := 4) mt_216 rfl rfl (fun hv => ?_)
  have hC := Ex.mono S (n + 2)
  have ii_o : InI o := hv (.inl o) (by simp)
  unfold InI at ii_o
  have ii_t : InI t := hv (.inl t) (by simp)
  unfold InI at ii_t
  clear hv
  have hQ1 := hO.1
  show Tx (Ex S (n + 2)) S M_216 (kI K E) 0 0 0 [some (.inr 141), some (.inr 1), some (.inr Q), some (.inl o), some (.inl t), none, none, none, none] [] mem
  have l_6 : ∀ (N : Nat) (x5 x6 : Int), (0 ≤ x6) → ((3 - x6).toNat) < N → Tx (Ex S (n + 2)) S M_216 (kI K E) 0 0 6 [some (.inr 141), some (.inr 1), some (.inr Q), some (.inl o), some (.inl t), some (.inl x5), some (.inl x6), none, none] [] mem := by
    intro N
    induction N with
    | zero => intros; omega
    | succ N ih_6 =>
      intro x5 x6 i6_0 hN_6 
      refine Tx.iload hC te_216_6 rfl ?_
      refine Tx.aload_n hC te_216_8 rfl ?_
      refine Tx.iload_n hC te_216_9 rfl ?_
      refine Tx.virtI hC te_216_10 mt_13 (args := [.inr 1, .inl o]) (rest := [.inl x6]) (c' := 0) (s' := 0) rfl rfl rfl rfl rfl rfl rfl rfl rfl rfl ?_
      refine f_13q (by omega) (fun r1 r1e r1a r1b r1i => ?_)
      unfold InI at r1i
      refine Tx.icmp hC (t := 70) te_216_13 (by decide) (fun q4 => ?_) (fun q4 => ?_)
      · replace q4 : r1 ≤ (x6 : Int) := q4
        refine Tx.iload hC te_216_70 rfl ?_
        exact Tx.ireturn hC te_216_72 rfl (fun hr => show K x5 mem from H x5)
      · replace q4 : ¬ (r1 ≤ (x6 : Int)) := q4
        refine Tx.aload_n hC te_216_16 rfl ?_
        refine Tx.iload_n hC te_216_17 rfl ?_
        refine Tx.iload hC te_216_18 rfl ?_
        refine Tx.virtI hC te_216_20 mt_14 (args := [.inr 1, .inl o, .inl x6]) (rest := []) (c' := 0) (s' := 0) rfl rfl rfl rfl rfl rfl rfl rfl rfl rfl ?_
        refine f_14s hB (by omega) (by omega) (fun r5 r5e r5a r5b r5i => ?_)
        unfold InI at r5i
        refine Tx.istore hC te_216_23 rfl ?_
        refine Tx.iload hC te_216_25 rfl ?_
        refine Tx.aload_n hC te_216_27 rfl ?_
        refine Tx.iload_n hC te_216_28 rfl ?_
        refine Tx.iload hC te_216_29 rfl ?_
        refine Tx.virtI hC te_216_31 mt_15 (args := [.inr 1, .inl o, .inl x6]) (rest := [.inl t]) (c' := 0) (s' := 0) rfl rfl rfl rfl rfl rfl rfl rfl rfl rfl ?_
        refine f_15s hB (by omega) (by omega) (fun r8 r8e r8i => ?_)
        unfold InI at r8i
        refine Tx.isubW hC te_216_34 (fun z11 z11i z11e => ?_)
        unfold InI at z11i z11e
        first | replace z11e := z11e (by omega) | clear z11e
        refine Tx.istore hC te_216_35 rfl ?_
        refine Tx.iload hC te_216_37 rfl ?_
        refine Tx.ifc hC (t := 64) te_216_39 (by decide) (fun q12 => ?_) (fun q12 => ?_)
        · replace q12 : (r5 : Int) < 0 := q12
          refine Tx.iincW hC te_216_64 rfl rfl (fun z13 z13i z13e => ?_)
          unfold InI at z13i z13e
          first | replace z13e := z13e (by omega) | clear z13e
          refine Tx.goto hC (t := 6) te_216_67 (by decide) ?_
          exact Tx.weak (by repeat' (first | exact trivial | exact rfl | constructor)) (ih_6 x5 z13 (by omega) (by omega))
        · replace q12 : ¬ ((r5 : Int) < 0) := q12
          refine Tx.iload hC te_216_42 rfl ?_
          refine Tx.ifc hC (t := 64) te_216_44 (by decide) (fun q14 => ?_) (fun q14 => ?_)
          · replace q14 : (z11 : Int) < 0 := q14
            refine Tx.iincW hC te_216_64 rfl rfl (fun z15 z15i z15e => ?_)
            unfold InI at z15i z15e
            first | replace z15e := z15e (by omega) | clear z15e
            refine Tx.goto hC (t := 6) te_216_67 (by decide) ?_
            exact Tx.weak (by repeat' (first | exact trivial | exact rfl | constructor)) (ih_6 x5 z15 (by omega) (by omega))
          · replace q14 : ¬ ((z11 : Int) < 0) := q14
            refine Tx.iload hC te_216_47 rfl ?_
            refine Tx.aload_n hC te_216_49 rfl ?_
            refine Tx.aload_n hC te_216_50 rfl ?_
            refine Tx.aload_n hC te_216_51 rfl ?_
            refine Tx.iload hC te_216_52 rfl ?_
            refine Tx.iload hC te_216_54 rfl ?_
            refine Tx.virtI hC te_216_56 mt_217 (args := [.inr 141, .inr 1, .inr Q, .inl r5, .inl z11]) (rest := [.inl x5]) (c' := 0) (s' := 0) rfl rfl rfl rfl rfl rfl rfl rfl rfl rfl ?_
            refine f_217 hQ hO hB (by omega) (fun r16 r16i => ?_)
            unfold InI at r16i
            refine Tx.statI hC te_216_59 (by decide) mt_40 (args := [.inl x5, .inl r16]) (rest := []) (c' := 0) (s' := 0) rfl rfl rfl rfl rfl rfl rfl ?_
            refine f_40q (fun r19 r19a r19b r19c r19i => ?_)
            unfold InI at r19i
            refine Tx.istore hC te_216_62 rfl ?_
            refine Tx.iincW hC te_216_64 rfl rfl (fun z22 z22i z22e => ?_)
            unfold InI at z22i z22e
            first | replace z22e := z22e (by omega) | clear z22e
            refine Tx.goto hC (t := 6) te_216_67 (by decide) ?_
            exact Tx.weak (by repeat' (first | exact trivial | exact rfl | constructor)) (ih_6 r19 z22 (by omega) (by omega))
  refine Tx.iconst hC te_216_0 rfl ?_
  refine Tx.istore hC te_216_1 rfl ?_
  refine Tx.iconst hC te_216_3 rfl ?_
  refine Tx.istore hC te_216_4 rfl ?_
  exact l_6 _ 0 0 (by omega) (Nat.lt_succ_self _)
theorem f_164 {S : Nat × (Nat → Int32)} {n : Nat} {mem : MM} {K : Int → MM → Prop} {E : Nat → MM → Prop} {o t : Int} (ho : 0 ≤ o ∧ o < 8) (ht : t ≤ 39) (H : ∀ r, K r mem) : CQI (Ex S (n + 1)) 164 [.inr 134, .inr 1, .inl o, .inl t] mem K E := by
  refine CY.of (k := 0) mt_164 rfl rfl (fun hv => ?_)
  have hC := Ex.mono S n
  have ii_o : InI o := hv (.inl o) (by simp)
  unfold InI at ii_o
  have ii_t : InI t := hv (.inl t) (by simp)
  unfold InI at ii_t
  clear hv
  show Tx (Ex S n) S M_164 (kI K E) 0 0 0 [some (.inr 134), some (.inr 1), some (.inl o), some (.inl t)] [] mem
  refine Tx.iload_n hC te_164_0 rfl ?_
  refine Tx.ifc hC (t := 13) te_164_1 (by decide) (fun q1 => ?_) (fun q1 => ?_)
  · replace q1 : 0 ≤ (t : Int) := q1
    refine Tx.aload_n hC te_164_13 rfl ?_
    refine Tx.getR hC te_164_14 rfl rfl rfl ?_
    refine Tx.iload_n hC te_164_17 rfl ?_
    refine Tx.bipush hC te_164_18 rfl rfl ?_
    refine Tx.imulW hC te_164_20 (fun z2 z2i z2e => ?_)
    unfold InI at z2i z2e
    first | replace z2e := z2e (by omega) | clear z2e
    refine Tx.iload_n hC te_164_21 rfl ?_
    refine Tx.iaddW hC te_164_22 (fun z3 z3i z3e => ?_)
    unfold InI at z3i z3e
    first | replace z3e := z3e (by omega) | clear z3e
    refine Tx.iald hC te_164_23 rfl (by omega) (fun v4 v4e v4i => ?_)
    unfold InI at v4i
    exact Tx.ireturn hC te_164_24 rfl (fun hr => show K v4 mem from H v4)
  · replace q1 : ¬ (0 ≤ (t : Int)) := q1
    refine Tx.aload_n hC te_164_4 rfl ?_
    refine Tx.getR hC te_164_5 rfl rfl rfl ?_
    refine Tx.iload_n hC te_164_8 rfl ?_
    refine Tx.iald hC te_164_9 rfl (by omega) (fun v5 v5e v5i => ?_)
    unfold InI at v5i
    refine Tx.goto hC (t := 24) te_164_10 (by decide) ?_
    exact Tx.ireturn hC te_164_24 rfl (fun hr => show K v5 mem from H v5)
theorem f_163 {S : Nat × (Nat → Int32)} {n : Nat} {mem : MM} {K : Int → MM → Prop} {E : Nat → MM → Prop} (hB : BodyOK mem) {o w t : Int} (ho : 0 ≤ o ∧ o < 8) (hw : 0 ≤ w ∧ w < csN mem o.toNat) (ht : 0 ≤ t ∧ t ≤ 39) (H : ∀ r, K r mem) : CQI (Ex S (n + 2)) 163 [.inr 134, .inr 1, .inl o, .inl w, .inl t] mem K E := by
  refine CY.of (k := 2) mt_163 rfl rfl (fun hv => ?_)
  have hC := Ex.mono S (n + 1)
  have ii_o : InI o := hv (.inl o) (by simp)
  unfold InI at ii_o
  have ii_w : InI w := hv (.inl w) (by simp)
  unfold InI at ii_w
  have ii_t : InI t := hv (.inl t) (by simp)
  unfold InI at ii_t
  clear hv
  show Tx (Ex S (n + 1)) S M_163 (kI K E) 0 0 0 [some (.inr 134), some (.inr 1), some (.inl o), some (.inl w), some (.inl t), none, none] [] mem
  refine Tx.aload_n hC te_163_0 rfl ?_
  refine Tx.iload_n hC te_163_1 rfl ?_
  refine Tx.iload_n hC te_163_2 rfl ?_
  refine Tx.virtI hC te_163_3 mt_14 (args := [.inr 1, .inl o, .inl w]) (rest := []) (c' := 0) (s' := 0) rfl rfl rfl rfl rfl rfl rfl rfl rfl rfl ?_
  refine f_14s hB (by omega) (by omega) (fun r1 r1e r1a r1b r1i => ?_)
  unfold InI at r1i
  refine Tx.istore hC te_163_6 rfl ?_
  refine Tx.aload_n hC te_163_8 rfl ?_
  refine Tx.iload_n hC te_163_9 rfl ?_
  refine Tx.iload_n hC te_163_10 rfl ?_
  refine Tx.virtI hC te_163_11 mt_15 (args := [.inr 1, .inl o, .inl w]) (rest := []) (c' := 0) (s' := 0) rfl rfl rfl rfl rfl rfl rfl rfl rfl rfl ?_
  refine f_15s hB (by omega) (by omega) (fun r4 r4e r4i => ?_)
  unfold InI at r4i
  refine Tx.istore hC te_163_14 rfl ?_
  refine Tx.iload hC te_163_16 rfl ?_
  refine Tx.iconst hC te_163_18 rfl ?_
  refine Tx.icmp hC (t := 25) te_163_19 (by decide) (fun q7 => ?_) (fun q7 => ?_)
  · replace q7 : ¬ (r1 : Int) = (-1) := q7
    refine Tx.iload hC te_163_25 rfl ?_
    refine Tx.bipush hC te_163_27 rfl rfl ?_
    refine Tx.icmp hC (t := 35) te_163_29 (by decide) (fun q8 => ?_) (fun q8 => ?_)
    · replace q8 : ¬ (r1 : Int) = (-2) := q8
      refine Tx.aload_n hC te_163_35 rfl ?_
      refine Tx.aload_n hC te_163_36 rfl ?_
      refine Tx.iload hC te_163_37 rfl ?_
      refine Tx.iload hC te_163_39 rfl ?_
      refine Tx.iload hC te_163_41 rfl ?_
      refine Tx.isubW hC te_163_43 (fun z9 z9i z9e => ?_)
      unfold InI at z9i z9e
      first | replace z9e := z9e (by omega) | clear z9e
      refine Tx.virtI hC te_163_44 mt_164 (args := [.inr 134, .inr 1, .inl r1, .inl z9]) (rest := []) (c' := 0) (s' := 0) rfl rfl rfl rfl rfl rfl rfl rfl rfl rfl ?_
      refine f_164 (by omega) (by omega) (fun r10 r10i => ?_)
      unfold InI at r10i
      exact Tx.ireturn hC te_163_47 rfl (fun hr => show K r10 mem from H r10)
    · replace q8 : ¬ (¬ (r1 : Int) = (-2)) := q8
      refine Tx.iload hC te_163_32 rfl ?_
      exact Tx.ireturn hC te_163_34 rfl (fun hr => show K r4 mem from H r4)
  · replace q7 : ¬ (¬ (r1 : Int) = (-1)) := q7
    refine Tx.iload hC te_163_22 rfl ?_
    exact Tx.ireturn hC te_163_24 rfl (fun hr => show K t mem from H t)
theorem f_57 {S : Nat × (Nat → Int32)} {n : Nat} {mem : MM} {K : MM → Prop} {E : Nat → MM → Prop} {o : Int} (H : 0 ≤ o → o < mem 1 0 → K mem) (HE : E 2 mem) : CQV (Ex S (n + 1)) 57 [.inr 0, .inl o] mem K E := by
  refine CY.of (k := 0) mt_57 rfl rfl (fun hv => ?_)
  have hC := Ex.mono S n
  have ii_o : InI o := hv (.inl o) (by simp)
  unfold InI at ii_o
  clear hv
  show Tx (Ex S n) S M_57 (kV K E) 0 0 0 [some (.inr 0), some (.inl o)] [] mem
  refine Tx.iload_n hC te_57_0 rfl ?_
  refine Tx.ifc hC (t := 15) te_57_1 (by decide) (fun q1 => ?_) (fun q1 => ?_)
  · replace q1 : (o : Int) < 0 := q1
    exact Tx.thr hC te_57_15 rfl rfl rfl rfl rfl (show E 2 mem from HE)
  · replace q1 : ¬ ((o : Int) < 0) := q1
    refine Tx.iload_n hC te_57_4 rfl ?_
    refine Tx.aload_n hC te_57_5 rfl ?_
    refine Tx.getR hC te_57_6 rfl rfl rfl ?_
    refine Tx.getI hC te_57_9 rfl rfl rfl (fun v2 v2e v2i => ?_)
    unfold InI at v2i
    refine Tx.icmp hC (t := 26) te_57_12 (by decide) (fun q3 => ?_) (fun q3 => ?_)
    · replace q3 : (o : Int) < v2 := q3
      exact Tx.vret hC te_57_26 rfl (show K mem from H (by omega) (by omega))
    · replace q3 : ¬ ((o : Int) < v2) := q3
      exact Tx.thr hC te_57_15 rfl rfl rfl rfl rfl (show E 2 mem from HE)
theorem f_60 {S : Nat × (Nat → Int32)} {n : Nat} {mem : MM} {K : MM → Prop} {E : Nat → MM → Prop} {o : Int} (H : 0 ≤ o → o < 6 → K mem) (HE : E 2 mem) : CQV (Ex S (n + 1)) 60 [.inr 0, .inl o] mem K E := by
  refine CY.of (k := 0) mt_60 rfl rfl (fun hv => ?_)
  have hC := Ex.mono S n
  have ii_o : InI o := hv (.inl o) (by simp)
  unfold InI at ii_o
  clear hv
  show Tx (Ex S n) S M_60 (kV K E) 0 0 0 [some (.inr 0), some (.inl o)] [] mem
  refine Tx.iload_n hC te_60_0 rfl ?_
  refine Tx.ifc hC (t := 10) te_60_1 (by decide) (fun q1 => ?_) (fun q1 => ?_)
  · replace q1 : (o : Int) < 0 := q1
    exact Tx.thr hC te_60_10 rfl rfl rfl rfl rfl (show E 2 mem from HE)
  · replace q1 : ¬ ((o : Int) < 0) := q1
    refine Tx.iload_n hC te_60_4 rfl ?_
    refine Tx.bipush hC te_60_5 rfl rfl ?_
    refine Tx.icmp hC (t := 21) te_60_7 (by decide) (fun q2 => ?_) (fun q2 => ?_)
    · replace q2 : (o : Int) < 6 := q2
      exact Tx.vret hC te_60_21 rfl (show K mem from H (by omega) (by omega))
    · replace q2 : ¬ ((o : Int) < 6) := q2
      exact Tx.thr hC te_60_10 rfl rfl rfl rfl rfl (show E 2 mem from HE)
theorem f_63 {S : Nat × (Nat → Int32)} {n : Nat} {mem : MM} {K : MM → Prop} {E : Nat → MM → Prop} {o : Int} (H : 0 ≤ o → o < 3 → K mem) (HE : E 2 mem) : CQV (Ex S (n + 1)) 63 [.inr 0, .inl o] mem K E := by
  refine CY.of (k := 0) mt_63 rfl rfl (fun hv => ?_)
  have hC := Ex.mono S n
  have ii_o : InI o := hv (.inl o) (by simp)
  unfold InI at ii_o
  clear hv
  show Tx (Ex S n) S M_63 (kV K E) 0 0 0 [some (.inr 0), some (.inl o)] [] mem
  refine Tx.iload_n hC te_63_0 rfl ?_
  refine Tx.ifc hC (t := 9) te_63_1 (by decide) (fun q1 => ?_) (fun q1 => ?_)
  · replace q1 : (o : Int) < 0 := q1
    exact Tx.thr hC te_63_9 rfl rfl rfl rfl rfl (show E 2 mem from HE)
  · replace q1 : ¬ ((o : Int) < 0) := q1
    refine Tx.iload_n hC te_63_4 rfl ?_
    refine Tx.iconst hC te_63_5 rfl ?_
    refine Tx.icmp hC (t := 20) te_63_6 (by decide) (fun q2 => ?_) (fun q2 => ?_)
    · replace q2 : (o : Int) < 3 := q2
      exact Tx.vret hC te_63_20 rfl (show K mem from H (by omega) (by omega))
    · replace q2 : ¬ ((o : Int) < 3) := q2
      exact Tx.thr hC te_63_9 rfl rfl rfl rfl rfl (show E 2 mem from HE)
theorem f_66 {S : Nat × (Nat → Int32)} {n : Nat} {mem : MM} {K : MM → Prop} {E : Nat → MM → Prop} {o l : Int} (H : 0 ≤ o → o ≤ l → K mem) (HE : E 3 mem) : CQV (Ex S (n + 1)) 66 [.inl o, .inl l] mem K E := by
  refine CY.of (k := 0) mt_66 rfl rfl (fun hv => ?_)
  have hC := Ex.mono S n
  have ii_o : InI o := hv (.inl o) (by simp)
  unfold InI at ii_o
  have ii_l : InI l := hv (.inl l) (by simp)
  unfold InI at ii_l
  clear hv
  show Tx (Ex S n) S M_66 (kV K E) 0 0 0 [some (.inl o), some (.inl l)] [] mem
  refine Tx.iload_n hC te_66_0 rfl ?_
  refine Tx.ifc hC (t := 9) te_66_1 (by decide) (fun q1 => ?_) (fun q1 => ?_)
  · replace q1 : (o : Int) < 0 := q1
    exact Tx.thr hC te_66_9 rfl rfl rfl rfl rfl (show E 3 mem from HE)
  · replace q1 : ¬ ((o : Int) < 0) := q1
    refine Tx.iload_n hC te_66_4 rfl ?_
    refine Tx.iload_n hC te_66_5 rfl ?_
    refine Tx.icmp hC (t := 20) te_66_6 (by decide) (fun q2 => ?_) (fun q2 => ?_)
    · replace q2 : (o : Int) ≤ l := q2
      exact Tx.vret hC te_66_20 rfl (show K mem from H (by omega) (by omega))
    · replace q2 : ¬ ((o : Int) ≤ l) := q2
      exact Tx.thr hC te_66_9 rfl rfl rfl rfl rfl (show E 3 mem from HE)
theorem f_70 {S : Nat × (Nat → Int32)} {n : Nat} {mem : MM} {K : MM → Prop} {E : Nat → MM → Prop} {o : Int} (H : 0 ≤ o → o < mem 9 0 → K mem) (HE : E 2 mem) : CQV (Ex S (n + 1)) 70 [.inr 0, .inl o] mem K E := by
  refine CY.of (k := 0) mt_70 rfl rfl (fun hv => ?_)
  have hC := Ex.mono S n
  have ii_o : InI o := hv (.inl o) (by simp)
  unfold InI at ii_o
  clear hv
  show Tx (Ex S n) S M_70 (kV K E) 0 0 0 [some (.inr 0), some (.inl o)] [] mem
  refine Tx.iload_n hC te_70_0 rfl ?_
  refine Tx.ifc hC (t := 15) te_70_1 (by decide) (fun q1 => ?_) (fun q1 => ?_)
  · replace q1 : (o : Int) < 0 := q1
    exact Tx.thr hC te_70_15 rfl rfl rfl rfl rfl (show E 2 mem from HE)
  · replace q1 : ¬ ((o : Int) < 0) := q1
    refine Tx.iload_n hC te_70_4 rfl ?_
    refine Tx.aload_n hC te_70_5 rfl ?_
    refine Tx.getR hC te_70_6 rfl rfl rfl ?_
    refine Tx.getI hC te_70_9 rfl rfl rfl (fun v2 v2e v2i => ?_)
    unfold InI at v2i
    refine Tx.icmp hC (t := 26) te_70_12 (by decide) (fun q3 => ?_) (fun q3 => ?_)
    · replace q3 : (o : Int) < v2 := q3
      exact Tx.vret hC te_70_26 rfl (show K mem from H (by omega) (by omega))
    · replace q3 : ¬ ((o : Int) < v2) := q3
      exact Tx.thr hC te_70_15 rfl rfl rfl rfl rfl (show E 2 mem from HE)
theorem f_74 {S : Nat × (Nat → Int32)} {n : Nat} {mem : MM} {K : MM → Prop} {E : Nat → MM → Prop} {d : Int} (H : 1 ≤ d → d ≤ 12 → K mem) (HE : E 0 mem) : CQV (Ex S (n + 1)) 74 [.inl d] mem K E := by
  refine CY.of (k := 0) mt_74 rfl rfl (fun hv => ?_)
  have hC := Ex.mono S n
  have ii_d : InI d := hv (.inl d) (by simp)
  unfold InI at ii_d
  clear hv
  show Tx (Ex S n) S M_74 (kV K E) 0 0 0 [some (.inl d)] [] mem
  refine Tx.iload_n hC te_74_0 rfl ?_
  refine Tx.iconst hC te_74_1 rfl ?_
  refine Tx.icmp hC (t := 11) te_74_2 (by decide) (fun q1 => ?_) (fun q1 => ?_)
  · replace q1 : (d : Int) < 1 := q1
    exact Tx.thr hC te_74_11 rfl rfl rfl rfl rfl (show E 0 mem from HE)
  · replace q1 : ¬ ((d : Int) < 1) := q1
    refine Tx.iload_n hC te_74_5 rfl ?_
    refine Tx.bipush hC te_74_6 rfl rfl ?_
    refine Tx.icmp hC (t := 22) te_74_8 (by decide) (fun q2 => ?_) (fun q2 => ?_)
    · replace q2 : (d : Int) ≤ 12 := q2
      exact Tx.vret hC te_74_22 rfl (show K mem from H (by omega) (by omega))
    · replace q2 : ¬ ((d : Int) ≤ 12) := q2
      exact Tx.thr hC te_74_11 rfl rfl rfl rfl rfl (show E 0 mem from HE)
theorem f_118 {S : Nat × (Nat → Int32)} {n : Nat} {mem : MM} {K : MM → Prop} {E : Nat → MM → Prop} {o d : Int} (H : 0 ≤ o → o < d → K mem) (HE : E 0 mem) : CQV (Ex S (n + 1)) 118 [.inl o, .inl d] mem K E := by
  refine CY.of (k := 0) mt_118 rfl rfl (fun hv => ?_)
  have hC := Ex.mono S n
  have ii_o : InI o := hv (.inl o) (by simp)
  unfold InI at ii_o
  have ii_d : InI d := hv (.inl d) (by simp)
  unfold InI at ii_d
  clear hv
  show Tx (Ex S n) S M_118 (kV K E) 0 0 0 [some (.inl o), some (.inl d)] [] mem
  refine Tx.iload_n hC te_118_0 rfl ?_
  refine Tx.ifc hC (t := 9) te_118_1 (by decide) (fun q1 => ?_) (fun q1 => ?_)
  · replace q1 : (o : Int) < 0 := q1
    exact Tx.thr hC te_118_9 rfl rfl rfl rfl rfl (show E 0 mem from HE)
  · replace q1 : ¬ ((o : Int) < 0) := q1
    refine Tx.iload_n hC te_118_4 rfl ?_
    refine Tx.iload_n hC te_118_5 rfl ?_
    refine Tx.icmp hC (t := 20) te_118_6 (by decide) (fun q2 => ?_) (fun q2 => ?_)
    · replace q2 : (o : Int) < d := q2
      exact Tx.vret hC te_118_20 rfl (show K mem from H (by omega) (by omega))
    · replace q2 : ¬ ((o : Int) < d) := q2
      exact Tx.thr hC te_118_9 rfl rfl rfl rfl rfl (show E 0 mem from HE)
theorem f_151 {S : Nat × (Nat → Int32)} {n : Nat} {mem : MM} {K : MM → Prop} {E : Nat → MM → Prop} {t : Int} (H : 0 ≤ t → t ≤ 40 → K mem) (HE : E 0 mem) : CQV (Ex S (n + 1)) 151 [.inl t] mem K E := by
  refine CY.of (k := 0) mt_151 rfl rfl (fun hv => ?_)
  have hC := Ex.mono S n
  have ii_t : InI t := hv (.inl t) (by simp)
  unfold InI at ii_t
  clear hv
  show Tx (Ex S n) S M_151 (kV K E) 0 0 0 [some (.inl t)] [] mem
  refine Tx.iload_n hC te_151_0 rfl ?_
  refine Tx.ifc hC (t := 10) te_151_1 (by decide) (fun q1 => ?_) (fun q1 => ?_)
  · replace q1 : (t : Int) < 0 := q1
    exact Tx.thr hC te_151_10 rfl rfl rfl rfl rfl (show E 0 mem from HE)
  · replace q1 : ¬ ((t : Int) < 0) := q1
    refine Tx.iload_n hC te_151_4 rfl ?_
    refine Tx.bipush hC te_151_5 rfl rfl ?_
    refine Tx.icmp hC (t := 21) te_151_7 (by decide) (fun q2 => ?_) (fun q2 => ?_)
    · replace q2 : (t : Int) ≤ 40 := q2
      exact Tx.vret hC te_151_21 rfl (show K mem from H (by omega) (by omega))
    · replace q2 : ¬ ((t : Int) ≤ 40) := q2
      exact Tx.thr hC te_151_10 rfl rfl rfl rfl rfl (show E 0 mem from HE)
theorem f_160 {S : Nat × (Nat → Int32)} {n : Nat} {mem : MM} {K : MM → Prop} {E : Nat → MM → Prop} {r p : Int} (H : 0 ≤ r ∧ r ≤ 1 → 0 ≤ p ∧ p < 64 → K mem) (HE : E 0 mem) : CQV (Ex S (n + 1)) 160 [.inl r, .inl p] mem K E := by
  refine CY.of (k := 0) mt_160 rfl rfl (fun hv => ?_)
  have hC := Ex.mono S n
  have ii_r : InI r := hv (.inl r) (by simp)
  unfold InI at ii_r
  have ii_p : InI p := hv (.inl p) (by simp)
  unfold InI at ii_p
  clear hv
  show Tx (Ex S n) S M_160 (kV K E) 0 0 0 [some (.inl r), some (.inl p)] [] mem
  refine Tx.iload_n hC te_160_0 rfl ?_
  refine Tx.ifc hC (t := 19) te_160_1 (by decide) (fun q1 => ?_) (fun q1 => ?_)
  · replace q1 : (r : Int) < 0 := q1
    exact Tx.thr hC te_160_19 rfl rfl rfl rfl rfl (show E 0 mem from HE)
  · replace q1 : ¬ ((r : Int) < 0) := q1
    refine Tx.iload_n hC te_160_4 rfl ?_
    refine Tx.iconst hC te_160_5 rfl ?_
    refine Tx.icmp hC (t := 19) te_160_6 (by decide) (fun q2 => ?_) (fun q2 => ?_)
    · replace q2 : 1 < (r : Int) := q2
      exact Tx.thr hC te_160_19 rfl rfl rfl rfl rfl (show E 0 mem from HE)
    · replace q2 : ¬ (1 < (r : Int)) := q2
      refine Tx.iload_n hC te_160_9 rfl ?_
      refine Tx.ifc hC (t := 19) te_160_10 (by decide) (fun q3 => ?_) (fun q3 => ?_)
      · replace q3 : (p : Int) < 0 := q3
        exact Tx.thr hC te_160_19 rfl rfl rfl rfl rfl (show E 0 mem from HE)
      · replace q3 : ¬ ((p : Int) < 0) := q3
        refine Tx.iload_n hC te_160_13 rfl ?_
        refine Tx.bipush hC te_160_14 rfl rfl ?_
        refine Tx.icmp hC (t := 29) te_160_16 (by decide) (fun q4 => ?_) (fun q4 => ?_)
        · replace q4 : (p : Int) < 64 := q4
          exact Tx.vret hC te_160_29 rfl (show K mem from H (by omega) (by omega))
        · replace q4 : ¬ ((p : Int) < 64) := q4
          exact Tx.thr hC te_160_19 rfl rfl rfl rfl rfl (show E 0 mem from HE)
theorem f_167 {S : Nat × (Nat → Int32)} {n : Nat} {mem : MM} {K : MM → Prop} {E : Nat → MM → Prop} {o : Int} (ho : 0 ≤ o ∧ o < 8) (H : ¬ mem 2 o.toNat = 5 → K mem) (HE : E 0 mem) : CQV (Ex S (n + 1)) 167 [.inr 0, .inl o] mem K E := by
  refine CY.of (k := 0) mt_167 rfl rfl (fun hv => ?_)
  have hC := Ex.mono S n
  have ii_o : InI o := hv (.inl o) (by simp)
  unfold InI at ii_o
  clear hv
  show Tx (Ex S n) S M_167 (kV K E) 0 0 0 [some (.inr 0), some (.inl o)] [] mem
  refine Tx.aload_n hC te_167_0 rfl ?_
  refine Tx.getR hC te_167_1 rfl rfl rfl ?_
  refine Tx.getR hC te_167_4 rfl rfl rfl ?_
  refine Tx.iload_n hC te_167_7 rfl ?_
  refine Tx.iald hC te_167_8 rfl (by omega) (fun v1 v1e v1i => ?_)
  unfold InI at v1i
  refine Tx.iconst hC te_167_9 rfl ?_
  refine Tx.icmp hC (t := 24) te_167_10 (by decide) (fun q2 => ?_) (fun q2 => ?_)
  · replace q2 : ¬ (v1 : Int) = 5 := q2
    exact Tx.vret hC te_167_24 rfl (show K mem from H (by omega))
  · replace q2 : ¬ (¬ (v1 : Int) = 5) := q2
    exact Tx.thr hC te_167_13 rfl rfl rfl rfl rfl (show E 0 mem from HE)
theorem f_45 {S : Nat × (Nat → Int32)} {n : Nat} {mem : MM} {K : Int → MM → Prop} {E : Nat → MM → Prop} {a b : Int} (H : ∀ r, (r = 0 ∨ r = 1) → (r = 1 → srcOK a b) → K r mem) : CQI (Ex S (n + 1)) 45 [.inl a, .inl b] mem K E := by
  refine CY.of (k := 0) mt_45 rfl rfl (fun hv => ?_)
  have hC := Ex.mono S n
  have ii_a : InI a := hv (.inl a) (by simp)
  unfold InI at ii_a
  have ii_b : InI b := hv (.inl b) (by simp)
  unfold InI at ii_b
  clear hv
  show Tx (Ex S n) S M_45 (kI K E) 0 0 0 [some (.inl a), some (.inl b)] [] mem
  refine Tx.iload_n hC te_45_0 rfl ?_
  refine Tx.iconst hC te_45_1 rfl ?_
  refine Tx.icmp hC (t := 7) te_45_2 (by decide) (fun q1 => ?_) (fun q1 => ?_)
  · replace q1 : ¬ (a : Int) = (-1) := q1
    refine Tx.iload_n hC te_45_7 rfl ?_
    refine Tx.bipush hC te_45_8 rfl rfl ?_
    refine Tx.icmp hC (t := 31) te_45_10 (by decide) (fun q2 => ?_) (fun q2 => ?_)
    · replace q2 : ¬ (a : Int) = (-2) := q2
      refine Tx.iload_n hC te_45_31 rfl ?_
      refine Tx.ifc hC (t := 54) te_45_32 (by decide) (fun q3 => ?_) (fun q3 => ?_)
      · replace q3 : (a : Int) < 0 := q3
        refine Tx.iconst hC te_45_54 rfl ?_
        exact Tx.bret hC te_45_55 rfl (by omega) (show K 0 mem from H 0 (by omega) (by intro _; unfold srcOK; omega))
      · replace q3 : ¬ ((a : Int) < 0) := q3
        refine Tx.iload_n hC te_45_35 rfl ?_
        refine Tx.bipush hC te_45_36 rfl rfl ?_
        refine Tx.icmp hC (t := 54) te_45_38 (by decide) (fun q4 => ?_) (fun q4 => ?_)
        · replace q4 : 8 ≤ (a : Int) := q4
          refine Tx.iconst hC te_45_54 rfl ?_
          exact Tx.bret hC te_45_55 rfl (by omega) (show K 0 mem from H 0 (by omega) (by intro _; unfold srcOK; omega))
        · replace q4 : ¬ (8 ≤ (a : Int)) := q4
          refine Tx.iload_n hC te_45_41 rfl ?_
          refine Tx.ifc hC (t := 54) te_45_42 (by decide) (fun q5 => ?_) (fun q5 => ?_)
          · replace q5 : (b : Int) < 0 := q5
            refine Tx.iconst hC te_45_54 rfl ?_
            exact Tx.bret hC te_45_55 rfl (by omega) (show K 0 mem from H 0 (by omega) (by intro _; unfold srcOK; omega))
          · replace q5 : ¬ ((b : Int) < 0) := q5
            refine Tx.iload_n hC te_45_45 rfl ?_
            refine Tx.iconst hC te_45_46 rfl ?_
            refine Tx.icmp hC (t := 54) te_45_47 (by decide) (fun q6 => ?_) (fun q6 => ?_)
            · replace q6 : 3 < (b : Int) := q6
              refine Tx.iconst hC te_45_54 rfl ?_
              exact Tx.bret hC te_45_55 rfl (by omega) (show K 0 mem from H 0 (by omega) (by intro _; unfold srcOK; omega))
            · replace q6 : ¬ (3 < (b : Int)) := q6
              refine Tx.iconst hC te_45_50 rfl ?_
              refine Tx.goto hC (t := 55) te_45_51 (by decide) ?_
              exact Tx.bret hC te_45_55 rfl (by omega) (show K 1 mem from H 1 (by omega) (by intro _; unfold srcOK; omega))
    · replace q2 : ¬ (¬ (a : Int) = (-2)) := q2
      refine Tx.iload_n hC te_45_13 rfl ?_
      refine Tx.bipush hC te_45_14 rfl rfl ?_
      refine Tx.icmp hC (t := 29) te_45_16 (by decide) (fun q7 => ?_) (fun q7 => ?_)
      · replace q7 : (b : Int) < (-99) := q7
        refine Tx.iconst hC te_45_29 rfl ?_
        exact Tx.bret hC te_45_30 rfl (by omega) (show K 0 mem from H 0 (by omega) (by intro _; unfold srcOK; omega))
      · replace q7 : ¬ ((b : Int) < (-99)) := q7
        refine Tx.iload_n hC te_45_19 rfl ?_
        refine Tx.bipush hC te_45_20 rfl rfl ?_
        refine Tx.icmp hC (t := 29) te_45_22 (by decide) (fun q8 => ?_) (fun q8 => ?_)
        · replace q8 : 99 < (b : Int) := q8
          refine Tx.iconst hC te_45_29 rfl ?_
          exact Tx.bret hC te_45_30 rfl (by omega) (show K 0 mem from H 0 (by omega) (by intro _; unfold srcOK; omega))
        · replace q8 : ¬ (99 < (b : Int)) := q8
          refine Tx.iconst hC te_45_25 rfl ?_
          refine Tx.goto hC (t := 30) te_45_26 (by decide) ?_
          exact Tx.bret hC te_45_30 rfl (by omega) (show K 1 mem from H 1 (by omega) (by intro _; unfold srcOK; omega))
  · replace q1 : ¬ (¬ (a : Int) = (-1)) := q1
    refine Tx.iconst hC te_45_5 rfl ?_
    exact Tx.bret hC te_45_6 rfl (by omega) (show K 1 mem from H 1 (by omega) (by intro _; unfold srcOK; omega))
theorem f_50 {S : Nat × (Nat → Int32)} {n : Nat} {mem : MM} {K : Int → MM → Prop} {E : Nat → MM → Prop} {a b : Int} (H : ∀ r, (r = 0 ∨ r = 1) → (r = 1 → (0 ≤ a ∧ a ≤ 1) ∧ 0 ≤ b ∧ b ≤ 7) → K r mem) : CQI (Ex S (n + 1)) 50 [.inl a, .inl b] mem K E := by
  refine CY.of (k := 0) mt_50 rfl rfl (fun hv => ?_)
  have hC := Ex.mono S n
  have ii_a : InI a := hv (.inl a) (by simp)
  unfold InI at ii_a
  have ii_b : InI b := hv (.inl b) (by simp)
  unfold InI at ii_b
  clear hv
  show Tx (Ex S n) S M_50 (kI K E) 0 0 0 [some (.inl a), some (.inl b)] [] mem
  refine Tx.iload_n hC te_50_0 rfl ?_
  refine Tx.ifc hC (t := 23) te_50_1 (by decide) (fun q1 => ?_) (fun q1 => ?_)
  · replace q1 : (a : Int) < 0 := q1
    refine Tx.iconst hC te_50_23 rfl ?_
    exact Tx.bret hC te_50_24 rfl (by omega) (show K 0 mem from H 0 (by omega) (by omega))
  · replace q1 : ¬ ((a : Int) < 0) := q1
    refine Tx.iload_n hC te_50_4 rfl ?_
    refine Tx.iconst hC te_50_5 rfl ?_
    refine Tx.icmp hC (t := 23) te_50_6 (by decide) (fun q2 => ?_) (fun q2 => ?_)
    · replace q2 : 1 < (a : Int) := q2
      refine Tx.iconst hC te_50_23 rfl ?_
      exact Tx.bret hC te_50_24 rfl (by omega) (show K 0 mem from H 0 (by omega) (by omega))
    · replace q2 : ¬ (1 < (a : Int)) := q2
      refine Tx.iload_n hC te_50_9 rfl ?_
      refine Tx.ifc hC (t := 23) te_50_10 (by decide) (fun q3 => ?_) (fun q3 => ?_)
      · replace q3 : (b : Int) < 0 := q3
        refine Tx.iconst hC te_50_23 rfl ?_
        exact Tx.bret hC te_50_24 rfl (by omega) (show K 0 mem from H 0 (by omega) (by omega))
      · replace q3 : ¬ ((b : Int) < 0) := q3
        refine Tx.iload_n hC te_50_13 rfl ?_
        refine Tx.bipush hC te_50_14 rfl rfl ?_
        refine Tx.icmp hC (t := 23) te_50_16 (by decide) (fun q4 => ?_) (fun q4 => ?_)
        · replace q4 : 7 < (b : Int) := q4
          refine Tx.iconst hC te_50_23 rfl ?_
          exact Tx.bret hC te_50_24 rfl (by omega) (show K 0 mem from H 0 (by omega) (by omega))
        · replace q4 : ¬ (7 < (b : Int)) := q4
          refine Tx.iconst hC te_50_19 rfl ?_
          refine Tx.goto hC (t := 24) te_50_20 (by decide) ?_
          exact Tx.bret hC te_50_24 rfl (by omega) (show K 1 mem from H 1 (by omega) (by omega))
/-! the seeker of slots: what it keeps -/
theorem Frm.cp {P : Nat → Nat → Prop} {m m1 m2 : MM} {A1 : Nat} (h : Frm P m m1) (ha : ∀ A i, ¬ A = A1 → m2 A i = m1 A i) (q : ∀ i, P A1 i) : Frm P m m2 := fun A i e => (ha A i (fun w => e (by rw [w]; exact q i))).trans (h A i e)
def pSk (A i : Nat) : Prop := (A = 21 ∧ 2 ≤ i) ∨ A = 22 ∨ A = 23 ∨ (28 ≤ A ∧ A ≤ 36)
def FrS (m m' : MM) : Prop := Frm pSk m m' ∧ ∀ o, m' 22 o = m 22 o ∨ (0 ≤ m' 22 o ∧ m' 22 o ≤ 11)
theorem FrS.rf {m : MM} : FrS m m := ⟨Frm.rf, fun _ => Or.inl rfl⟩
theorem FrS.tr {a b c : MM} (h1 : FrS a b) (h2 : FrS b c) : FrS a c := ⟨h1.1.tr h2.1, fun o => by
  have := h1.2 o
  have := h2.2 o
  omega⟩
theorem FrS.up {m m1 : MM} {A i : Nat} {x : Int} (h : FrS m m1) (q : pSk A i) (w : A = 22 → 0 ≤ x ∧ x ≤ 11) : FrS m (upm m1 A i x) := ⟨h.1.up q, fun o => by
  by_cases e : 22 = A ∧ o = i
  · rw [e.1, e.2, upm_eq]; exact Or.inr (w e.1.symm)
  · rw [upm_ne e]; exact h.2 o⟩
theorem FrS.cp {m m1 m2 : MM} {A1 : Nat} (h : FrS m m1) (ha : ∀ A i, ¬ A = A1 → m2 A i = m1 A i) (q : ∀ i, pSk A1 i) (w : ¬ 22 = A1) : FrS m m2 := ⟨h.1.cp ha q, fun o => by rw [ha 22 o w]; exact h.2 o⟩
theorem FrS.at {m m' : MM} (h : FrS m m') (A i : Nat) (q : ¬ pSk A i) : m' A i = m A i := h.1 A i q
def SkO (m : MM) (d : Int) : Prop := (0 ≤ m 21 0 ∧ m 21 0 ≤ 8) ∧ (m 21 1 = d ∧ 1 ≤ d ∧ d ≤ 12) ∧ (∀ o, o < 8 → 0 ≤ m 24 o ∧ m 24 o ≤ 2) ∧ (∀ u, u < 3 → 1 ≤ m 25 u ∧ m 25 u ≤ 3) ∧ ∀ o r : Nat, (o : Int) < m 21 0 → r < 4 → 0 ≤ m 27 (4 * o + r) ∧ m 27 (4 * o + r) ≤ m 25 (m 24 o).toNat
theorem FrS.sk {m m' : MM} {d : Int} (e : FrS m m') (h : SkO m d) : SkO m' d := by
  obtain ⟨h1, h2, h3, h4, h5⟩ := h
  refine ⟨by rw [e.at 21 0 (by unfold pSk; omega)]; exact h1, by rw [e.at 21 1 (by unfold pSk; omega)]; exact h2, fun o ho => by rw [e.at 24 o (by unfold pSk; omega)]; exact h3 o ho, fun o ho => by rw [e.at 25 o (by unfold pSk; omega)]; exact h4 o ho, fun o r ho hr => ?_⟩
  rw [e.at 21 0 (by unfold pSk; omega)] at ho
  rw [e.at 27 _ (by unfold pSk; omega), e.at 24 o (by unfold pSk; omega), e.at 25 _ (by unfold pSk; omega)]
  exact h5 o r ho hr
/-! laid by wip/hand/tg.py: the seeker: sk -/
set_option maxRecDepth 100000 in
theorem mt_89 : MT[89]? = some M_89 := rfl
set_option maxRecDepth 100000 in
theorem mt_90 : MT[90]? = some M_90 := rfl
set_option maxRecDepth 100000 in
theorem mt_91 : MT[91]? = some M_91 := rfl
set_option maxRecDepth 100000 in
theorem mt_92 : MT[92]? = some M_92 := rfl
set_option maxRecDepth 100000 in
theorem mt_93 : MT[93]? = some M_93 := rfl
set_option maxRecDepth 100000 in
theorem mt_95 : MT[95]? = some M_95 := rfl
set_option maxRecDepth 100000 in
theorem mt_97 : MT[97]? = some M_97 := rfl
set_option maxRecDepth 100000 in
theorem mt_98 : MT[98]? = some M_98 := rfl
set_option maxRecDepth 100000 in
theorem mt_99 : MT[99]? = some M_99 := rfl
set_option maxRecDepth 100000 in
theorem mt_100 : MT[100]? = some M_100 := rfl
set_option maxRecDepth 100000 in
theorem mt_101 : MT[101]? = some M_101 := rfl
set_option maxRecDepth 100000 in
theorem mt_102 : MT[102]? = some M_102 := rfl
set_option maxRecDepth 100000 in
theorem mt_104 : MT[104]? = some M_104 := rfl
set_option maxRecDepth 100000 in
theorem mt_105 : MT[105]? = some M_105 := rfl
theorem te_89_0 : (pT M_89).find? (fun e => e.1 == 0) = some (0, .iconst 0, 0, 0) := rfl
theorem te_89_1 : (pT M_89).find? (fun e => e.1 == 1) = some (1, .istore_n 1, 0, 0) := rfl
theorem te_89_2 : (pT M_89).find? (fun e => e.1 == 2) = some (2, .iload_n 1, 0, 0) := rfl
theorem te_89_3 : (pT M_89).find? (fun e => e.1 == 3) = some (3, .aload_n 0, 0, 0) := rfl
theorem te_89_4 : (pT M_89).find? (fun e => e.1 == 4) = some (4, .getfield 70, 6, 0) := rfl
theorem te_89_7 : (pT M_89).find? (fun e => e.1 == 7) = some (7, .if_icmp .ge 58, 0, 0) := rfl
theorem te_89_10 : (pT M_89).find? (fun e => e.1 == 10) = some (10, .aload_n 0, 0, 0) := rfl
theorem te_89_11 : (pT M_89).find? (fun e => e.1 == 11) = some (11, .getfield 51, 6, 18) := rfl
theorem te_89_14 : (pT M_89).find? (fun e => e.1 == 14) = some (14, .iload_n 1, 0, 0) := rfl
theorem te_89_15 : (pT M_89).find? (fun e => e.1 == 15) = some (15, .iconst 0, 0, 0) := rfl
theorem te_89_16 : (pT M_89).find? (fun e => e.1 == 16) = some (16, .iastore, 0, 0) := rfl
theorem te_89_17 : (pT M_89).find? (fun e => e.1 == 17) = some (17, .iconst 0, 0, 0) := rfl
theorem te_89_18 : (pT M_89).find? (fun e => e.1 == 18) = some (18, .istore_n 2, 0, 0) := rfl
theorem te_89_19 : (pT M_89).find? (fun e => e.1 == 19) = some (19, .iload_n 2, 0, 0) := rfl
theorem te_89_20 : (pT M_89).find? (fun e => e.1 == 20) = some (20, .aload_n 0, 0, 0) := rfl
theorem te_89_21 : (pT M_89).find? (fun e => e.1 == 21) = some (21, .getfield 70, 6, 0) := rfl
theorem te_89_24 : (pT M_89).find? (fun e => e.1 == 24) = some (24, .if_icmp .ge 35, 0, 0) := rfl
theorem te_89_27 : (pT M_89).find? (fun e => e.1 == 27) = some (27, .iload_n 2, 0, 0) := rfl
theorem te_89_28 : (pT M_89).find? (fun e => e.1 == 28) = some (28, .iload_n 1, 0, 0) := rfl
theorem te_89_29 : (pT M_89).find? (fun e => e.1 == 29) = some (29, .if_icmp .eq 24, 0, 0) := rfl
theorem te_89_32 : (pT M_89).find? (fun e => e.1 == 32) = some (32, .aload_n 0, 0, 0) := rfl
theorem te_89_33 : (pT M_89).find? (fun e => e.1 == 33) = some (33, .iload_n 1, 0, 0) := rfl
theorem te_89_34 : (pT M_89).find? (fun e => e.1 == 34) = some (34, .iload_n 2, 0, 0) := rfl
theorem te_89_35 : (pT M_89).find? (fun e => e.1 == 35) = some (35, .invokevirtual 132, 90, 0) := rfl
theorem te_89_38 : (pT M_89).find? (fun e => e.1 == 38) = some (38, .ifCond .eq 15, 0, 0) := rfl
theorem te_89_41 : (pT M_89).find? (fun e => e.1 == 41) = some (41, .aload_n 0, 0, 0) := rfl
theorem te_89_42 : (pT M_89).find? (fun e => e.1 == 42) = some (42, .getfield 51, 6, 18) := rfl
theorem te_89_45 : (pT M_89).find? (fun e => e.1 == 45) = some (45, .iload_n 1, 0, 0) := rfl
theorem te_89_46 : (pT M_89).find? (fun e => e.1 == 46) = some (46, .dup2, 0, 0) := rfl
theorem te_89_47 : (pT M_89).find? (fun e => e.1 == 47) = some (47, .iaload, 0, 0) := rfl
theorem te_89_48 : (pT M_89).find? (fun e => e.1 == 48) = some (48, .iconst 1, 0, 0) := rfl
theorem te_89_49 : (pT M_89).find? (fun e => e.1 == 49) = some (49, .iload_n 2, 0, 0) := rfl
theorem te_89_50 : (pT M_89).find? (fun e => e.1 == 50) = some (50, .ishl, 0, 0) := rfl
theorem te_89_51 : (pT M_89).find? (fun e => e.1 == 51) = some (51, .ior, 0, 0) := rfl
theorem te_89_52 : (pT M_89).find? (fun e => e.1 == 52) = some (52, .iastore, 0, 0) := rfl
theorem te_89_53 : (pT M_89).find? (fun e => e.1 == 53) = some (53, .iinc 2 1, 0, 0) := rfl
theorem te_89_56 : (pT M_89).find? (fun e => e.1 == 56) = some (56, .goto (-37), 0, 0) := rfl
theorem te_89_59 : (pT M_89).find? (fun e => e.1 == 59) = some (59, .iinc 1 1, 0, 0) := rfl
theorem te_89_62 : (pT M_89).find? (fun e => e.1 == 62) = some (62, .goto (-60), 0, 0) := rfl
theorem te_89_65 : (pT M_89).find? (fun e => e.1 == 65) = some (65, .return_, 0, 0) := rfl
theorem te_90_0 : (pT M_90).find? (fun e => e.1 == 0) = some (0, .aload_n 0, 0, 0) := rfl
theorem te_90_1 : (pT M_90).find? (fun e => e.1 == 1) = some (1, .getfield 48, 6, 17) := rfl
theorem te_90_4 : (pT M_90).find? (fun e => e.1 == 4) = some (4, .iload_n 1, 0, 0) := rfl
theorem te_90_5 : (pT M_90).find? (fun e => e.1 == 5) = some (5, .iaload, 0, 0) := rfl
theorem te_90_6 : (pT M_90).find? (fun e => e.1 == 6) = some (6, .ifCond .ne 27, 0, 0) := rfl
theorem te_90_9 : (pT M_90).find? (fun e => e.1 == 9) = some (9, .aload_n 0, 0, 0) := rfl
theorem te_90_10 : (pT M_90).find? (fun e => e.1 == 10) = some (10, .getfield 48, 6, 17) := rfl
theorem te_90_13 : (pT M_90).find? (fun e => e.1 == 13) = some (13, .iload_n 2, 0, 0) := rfl
theorem te_90_14 : (pT M_90).find? (fun e => e.1 == 14) = some (14, .iaload, 0, 0) := rfl
theorem te_90_15 : (pT M_90).find? (fun e => e.1 == 15) = some (15, .ifCond .ne 18, 0, 0) := rfl
theorem te_90_18 : (pT M_90).find? (fun e => e.1 == 18) = some (18, .aload_n 0, 0, 0) := rfl
theorem te_90_19 : (pT M_90).find? (fun e => e.1 == 19) = some (19, .getfield 18, 6, 7) := rfl
theorem te_90_22 : (pT M_90).find? (fun e => e.1 == 22) = some (22, .iload_n 1, 0, 0) := rfl
theorem te_90_23 : (pT M_90).find? (fun e => e.1 == 23) = some (23, .iaload, 0, 0) := rfl
theorem te_90_24 : (pT M_90).find? (fun e => e.1 == 24) = some (24, .aload_n 0, 0, 0) := rfl
theorem te_90_25 : (pT M_90).find? (fun e => e.1 == 25) = some (25, .getfield 18, 6, 7) := rfl
theorem te_90_28 : (pT M_90).find? (fun e => e.1 == 28) = some (28, .iload_n 2, 0, 0) := rfl
theorem te_90_29 : (pT M_90).find? (fun e => e.1 == 29) = some (29, .iaload, 0, 0) := rfl
theorem te_90_30 : (pT M_90).find? (fun e => e.1 == 30) = some (30, .if_icmp .eq 5, 0, 0) := rfl
theorem te_90_33 : (pT M_90).find? (fun e => e.1 == 33) = some (33, .iconst 0, 0, 0) := rfl
theorem te_90_34 : (pT M_90).find? (fun e => e.1 == 34) = some (34, .ireturn, 0, 0) := rfl
theorem te_90_35 : (pT M_90).find? (fun e => e.1 == 35) = some (35, .iconst 0, 0, 0) := rfl
theorem te_90_36 : (pT M_90).find? (fun e => e.1 == 36) = some (36, .istore_n 3, 0, 0) := rfl
theorem te_90_37 : (pT M_90).find? (fun e => e.1 == 37) = some (37, .iload_n 3, 0, 0) := rfl
theorem te_90_38 : (pT M_90).find? (fun e => e.1 == 38) = some (38, .iconst 4, 0, 0) := rfl
theorem te_90_39 : (pT M_90).find? (fun e => e.1 == 39) = some (39, .if_icmp .ge 34, 0, 0) := rfl
theorem te_90_42 : (pT M_90).find? (fun e => e.1 == 42) = some (42, .aload_n 0, 0, 0) := rfl
theorem te_90_43 : (pT M_90).find? (fun e => e.1 == 43) = some (43, .getfield 27, 6, 10) := rfl
theorem te_90_46 : (pT M_90).find? (fun e => e.1 == 46) = some (46, .iload_n 1, 0, 0) := rfl
theorem te_90_47 : (pT M_90).find? (fun e => e.1 == 47) = some (47, .iconst 4, 0, 0) := rfl
theorem te_90_48 : (pT M_90).find? (fun e => e.1 == 48) = some (48, .imul, 0, 0) := rfl
theorem te_90_49 : (pT M_90).find? (fun e => e.1 == 49) = some (49, .iload_n 3, 0, 0) := rfl
theorem te_90_50 : (pT M_90).find? (fun e => e.1 == 50) = some (50, .iadd, 0, 0) := rfl
theorem te_90_51 : (pT M_90).find? (fun e => e.1 == 51) = some (51, .iaload, 0, 0) := rfl
theorem te_90_52 : (pT M_90).find? (fun e => e.1 == 52) = some (52, .aload_n 0, 0, 0) := rfl
theorem te_90_53 : (pT M_90).find? (fun e => e.1 == 53) = some (53, .getfield 27, 6, 10) := rfl
theorem te_90_56 : (pT M_90).find? (fun e => e.1 == 56) = some (56, .iload_n 2, 0, 0) := rfl
theorem te_90_57 : (pT M_90).find? (fun e => e.1 == 57) = some (57, .iconst 4, 0, 0) := rfl
theorem te_90_58 : (pT M_90).find? (fun e => e.1 == 58) = some (58, .imul, 0, 0) := rfl
theorem te_90_59 : (pT M_90).find? (fun e => e.1 == 59) = some (59, .iload_n 3, 0, 0) := rfl
theorem te_90_60 : (pT M_90).find? (fun e => e.1 == 60) = some (60, .iadd, 0, 0) := rfl
theorem te_90_61 : (pT M_90).find? (fun e => e.1 == 61) = some (61, .iaload, 0, 0) := rfl
theorem te_90_62 : (pT M_90).find? (fun e => e.1 == 62) = some (62, .if_icmp .eq 5, 0, 0) := rfl
theorem te_90_65 : (pT M_90).find? (fun e => e.1 == 65) = some (65, .iconst 0, 0, 0) := rfl
theorem te_90_66 : (pT M_90).find? (fun e => e.1 == 66) = some (66, .ireturn, 0, 0) := rfl
theorem te_90_67 : (pT M_90).find? (fun e => e.1 == 67) = some (67, .iinc 3 1, 0, 0) := rfl
theorem te_90_70 : (pT M_90).find? (fun e => e.1 == 70) = some (70, .goto (-33), 0, 0) := rfl
theorem te_90_73 : (pT M_90).find? (fun e => e.1 == 73) = some (73, .iconst 1, 0, 0) := rfl
theorem te_90_74 : (pT M_90).find? (fun e => e.1 == 74) = some (74, .ireturn, 0, 0) := rfl
theorem te_91_0 : (pT M_91).find? (fun e => e.1 == 0) = some (0, .aload_n 0, 0, 0) := rfl
theorem te_91_1 : (pT M_91).find? (fun e => e.1 == 1) = some (1, .getfield 18, 6, 7) := rfl
theorem te_91_4 : (pT M_91).find? (fun e => e.1 == 4) = some (4, .iload_n 1, 0, 0) := rfl
theorem te_91_5 : (pT M_91).find? (fun e => e.1 == 5) = some (5, .iaload, 0, 0) := rfl
theorem te_91_6 : (pT M_91).find? (fun e => e.1 == 6) = some (6, .iconst 4, 0, 0) := rfl
theorem te_91_7 : (pT M_91).find? (fun e => e.1 == 7) = some (7, .imul, 0, 0) := rfl
theorem te_91_8 : (pT M_91).find? (fun e => e.1 == 8) = some (8, .istore_n 3, 0, 0) := rfl
theorem te_91_9 : (pT M_91).find? (fun e => e.1 == 9) = some (9, .aload_n 0, 0, 0) := rfl
theorem te_91_10 : (pT M_91).find? (fun e => e.1 == 10) = some (10, .getfield 30, 6, 11) := rfl
theorem te_91_13 : (pT M_91).find? (fun e => e.1 == 13) = some (13, .iload_n 3, 0, 0) := rfl
theorem te_91_14 : (pT M_91).find? (fun e => e.1 == 14) = some (14, .aload_n 0, 0, 0) := rfl
theorem te_91_15 : (pT M_91).find? (fun e => e.1 == 15) = some (15, .getfield 33, 6, 12) := rfl
theorem te_91_18 : (pT M_91).find? (fun e => e.1 == 18) = some (18, .iload_n 1, 0, 0) := rfl
theorem te_91_19 : (pT M_91).find? (fun e => e.1 == 19) = some (19, .iconst 4, 0, 0) := rfl
theorem te_91_20 : (pT M_91).find? (fun e => e.1 == 20) = some (20, .imul, 0, 0) := rfl
theorem te_91_21 : (pT M_91).find? (fun e => e.1 == 21) = some (21, .iconst 4, 0, 0) := rfl
theorem te_91_22 : (pT M_91).find? (fun e => e.1 == 22) = some (22, .invokestatic 125, 0, 7) := rfl
theorem te_91_25 : (pT M_91).find? (fun e => e.1 == 25) = some (25, .aload_n 0, 0, 0) := rfl
theorem te_91_26 : (pT M_91).find? (fun e => e.1 == 26) = some (26, .getfield 9, 6, 5) := rfl
theorem te_91_29 : (pT M_91).find? (fun e => e.1 == 29) = some (29, .iload_n 1, 0, 0) := rfl
theorem te_91_30 : (pT M_91).find? (fun e => e.1 == 30) = some (30, .iload_n 2, 0, 0) := rfl
theorem te_91_31 : (pT M_91).find? (fun e => e.1 == 31) = some (31, .iastore, 0, 0) := rfl
theorem te_91_32 : (pT M_91).find? (fun e => e.1 == 32) = some (32, .aload_n 0, 0, 0) := rfl
theorem te_91_33 : (pT M_91).find? (fun e => e.1 == 33) = some (33, .dup, 0, 0) := rfl
theorem te_91_34 : (pT M_91).find? (fun e => e.1 == 34) = some (34, .getfield 97, 6, 4) := rfl
theorem te_91_37 : (pT M_91).find? (fun e => e.1 == 37) = some (37, .iconst 1, 0, 0) := rfl
theorem te_91_38 : (pT M_91).find? (fun e => e.1 == 38) = some (38, .iload_n 1, 0, 0) := rfl
theorem te_91_39 : (pT M_91).find? (fun e => e.1 == 39) = some (39, .ishl, 0, 0) := rfl
theorem te_91_40 : (pT M_91).find? (fun e => e.1 == 40) = some (40, .ior, 0, 0) := rfl
theorem te_91_41 : (pT M_91).find? (fun e => e.1 == 41) = some (41, .putfield 97, 6, 4) := rfl
theorem te_91_44 : (pT M_91).find? (fun e => e.1 == 44) = some (44, .iconst 0, 0, 0) := rfl
theorem te_91_45 : (pT M_91).find? (fun e => e.1 == 45) = some (45, .istore 4, 0, 0) := rfl
theorem te_91_47 : (pT M_91).find? (fun e => e.1 == 47) = some (47, .iload 4, 0, 0) := rfl
theorem te_91_49 : (pT M_91).find? (fun e => e.1 == 49) = some (49, .iconst 4, 0, 0) := rfl
theorem te_91_50 : (pT M_91).find? (fun e => e.1 == 50) = some (50, .if_icmp .ge 103, 0, 0) := rfl
theorem te_91_53 : (pT M_91).find? (fun e => e.1 == 53) = some (53, .aload_n 0, 0, 0) := rfl
theorem te_91_54 : (pT M_91).find? (fun e => e.1 == 54) = some (54, .getfield 27, 6, 10) := rfl
theorem te_91_57 : (pT M_91).find? (fun e => e.1 == 57) = some (57, .iload_n 1, 0, 0) := rfl
theorem te_91_58 : (pT M_91).find? (fun e => e.1 == 58) = some (58, .iconst 4, 0, 0) := rfl
theorem te_91_59 : (pT M_91).find? (fun e => e.1 == 59) = some (59, .imul, 0, 0) := rfl
theorem te_91_60 : (pT M_91).find? (fun e => e.1 == 60) = some (60, .iload 4, 0, 0) := rfl
theorem te_91_62 : (pT M_91).find? (fun e => e.1 == 62) = some (62, .iadd, 0, 0) := rfl
theorem te_91_63 : (pT M_91).find? (fun e => e.1 == 63) = some (63, .iaload, 0, 0) := rfl
theorem te_91_64 : (pT M_91).find? (fun e => e.1 == 64) = some (64, .istore 5, 0, 0) := rfl
theorem te_91_66 : (pT M_91).find? (fun e => e.1 == 66) = some (66, .iload 5, 0, 0) := rfl
theorem te_91_68 : (pT M_91).find? (fun e => e.1 == 68) = some (68, .ifCond .le 79, 0, 0) := rfl
theorem te_91_71 : (pT M_91).find? (fun e => e.1 == 71) = some (71, .iconst 1, 0, 0) := rfl
theorem te_91_72 : (pT M_91).find? (fun e => e.1 == 72) = some (72, .iload_n 2, 0, 0) := rfl
theorem te_91_73 : (pT M_91).find? (fun e => e.1 == 73) = some (73, .iload 4, 0, 0) := rfl
theorem te_91_75 : (pT M_91).find? (fun e => e.1 == 75) = some (75, .iadd, 0, 0) := rfl
theorem te_91_76 : (pT M_91).find? (fun e => e.1 == 76) = some (76, .aload_n 0, 0, 0) := rfl
theorem te_91_77 : (pT M_91).find? (fun e => e.1 == 77) = some (77, .getfield 103, 6, 1) := rfl
theorem te_91_80 : (pT M_91).find? (fun e => e.1 == 80) = some (80, .irem, 0, 0) := rfl
theorem te_91_81 : (pT M_91).find? (fun e => e.1 == 81) = some (81, .ishl, 0, 0) := rfl
theorem te_91_82 : (pT M_91).find? (fun e => e.1 == 82) = some (82, .istore 6, 0, 0) := rfl
theorem te_91_84 : (pT M_91).find? (fun e => e.1 == 84) = some (84, .aload_n 0, 0, 0) := rfl
theorem te_91_85 : (pT M_91).find? (fun e => e.1 == 85) = some (85, .getfield 30, 6, 11) := rfl
theorem te_91_88 : (pT M_91).find? (fun e => e.1 == 88) = some (88, .iload_n 3, 0, 0) := rfl
theorem te_91_89 : (pT M_91).find? (fun e => e.1 == 89) = some (89, .iconst 3, 0, 0) := rfl
theorem te_91_90 : (pT M_91).find? (fun e => e.1 == 90) = some (90, .iadd, 0, 0) := rfl
theorem te_91_91 : (pT M_91).find? (fun e => e.1 == 91) = some (91, .dup2, 0, 0) := rfl
theorem te_91_92 : (pT M_91).find? (fun e => e.1 == 92) = some (92, .iaload, 0, 0) := rfl
theorem te_91_93 : (pT M_91).find? (fun e => e.1 == 93) = some (93, .aload_n 0, 0, 0) := rfl
theorem te_91_94 : (pT M_91).find? (fun e => e.1 == 94) = some (94, .getfield 30, 6, 11) := rfl
theorem te_91_97 : (pT M_91).find? (fun e => e.1 == 97) = some (97, .iload_n 3, 0, 0) := rfl
theorem te_91_98 : (pT M_91).find? (fun e => e.1 == 98) = some (98, .iconst 2, 0, 0) := rfl
theorem te_91_99 : (pT M_91).find? (fun e => e.1 == 99) = some (99, .iadd, 0, 0) := rfl
theorem te_91_100 : (pT M_91).find? (fun e => e.1 == 100) = some (100, .iaload, 0, 0) := rfl
theorem te_91_101 : (pT M_91).find? (fun e => e.1 == 101) = some (101, .iload 6, 0, 0) := rfl
theorem te_91_103 : (pT M_91).find? (fun e => e.1 == 103) = some (103, .iand, 0, 0) := rfl
theorem te_91_104 : (pT M_91).find? (fun e => e.1 == 104) = some (104, .ior, 0, 0) := rfl
theorem te_91_105 : (pT M_91).find? (fun e => e.1 == 105) = some (105, .iastore, 0, 0) := rfl
theorem te_91_106 : (pT M_91).find? (fun e => e.1 == 106) = some (106, .aload_n 0, 0, 0) := rfl
theorem te_91_107 : (pT M_91).find? (fun e => e.1 == 107) = some (107, .getfield 30, 6, 11) := rfl
theorem te_91_110 : (pT M_91).find? (fun e => e.1 == 110) = some (110, .iload_n 3, 0, 0) := rfl
theorem te_91_111 : (pT M_91).find? (fun e => e.1 == 111) = some (111, .iconst 2, 0, 0) := rfl
theorem te_91_112 : (pT M_91).find? (fun e => e.1 == 112) = some (112, .iadd, 0, 0) := rfl
theorem te_91_113 : (pT M_91).find? (fun e => e.1 == 113) = some (113, .dup2, 0, 0) := rfl
theorem te_91_114 : (pT M_91).find? (fun e => e.1 == 114) = some (114, .iaload, 0, 0) := rfl
theorem te_91_115 : (pT M_91).find? (fun e => e.1 == 115) = some (115, .aload_n 0, 0, 0) := rfl
theorem te_91_116 : (pT M_91).find? (fun e => e.1 == 116) = some (116, .getfield 30, 6, 11) := rfl
theorem te_91_119 : (pT M_91).find? (fun e => e.1 == 119) = some (119, .iload_n 3, 0, 0) := rfl
theorem te_91_120 : (pT M_91).find? (fun e => e.1 == 120) = some (120, .iconst 1, 0, 0) := rfl
theorem te_91_121 : (pT M_91).find? (fun e => e.1 == 121) = some (121, .iadd, 0, 0) := rfl
theorem te_91_122 : (pT M_91).find? (fun e => e.1 == 122) = some (122, .iaload, 0, 0) := rfl
theorem te_91_123 : (pT M_91).find? (fun e => e.1 == 123) = some (123, .iload 6, 0, 0) := rfl
theorem te_91_125 : (pT M_91).find? (fun e => e.1 == 125) = some (125, .iand, 0, 0) := rfl
theorem te_91_126 : (pT M_91).find? (fun e => e.1 == 126) = some (126, .ior, 0, 0) := rfl
theorem te_91_127 : (pT M_91).find? (fun e => e.1 == 127) = some (127, .iastore, 0, 0) := rfl
theorem te_91_128 : (pT M_91).find? (fun e => e.1 == 128) = some (128, .aload_n 0, 0, 0) := rfl
theorem te_91_129 : (pT M_91).find? (fun e => e.1 == 129) = some (129, .getfield 30, 6, 11) := rfl
theorem te_91_132 : (pT M_91).find? (fun e => e.1 == 132) = some (132, .iload_n 3, 0, 0) := rfl
theorem te_91_133 : (pT M_91).find? (fun e => e.1 == 133) = some (133, .iconst 1, 0, 0) := rfl
theorem te_91_134 : (pT M_91).find? (fun e => e.1 == 134) = some (134, .iadd, 0, 0) := rfl
theorem te_91_135 : (pT M_91).find? (fun e => e.1 == 135) = some (135, .dup2, 0, 0) := rfl
theorem te_91_136 : (pT M_91).find? (fun e => e.1 == 136) = some (136, .iaload, 0, 0) := rfl
theorem te_91_137 : (pT M_91).find? (fun e => e.1 == 137) = some (137, .iload 6, 0, 0) := rfl
theorem te_91_139 : (pT M_91).find? (fun e => e.1 == 139) = some (139, .ior, 0, 0) := rfl
theorem te_91_140 : (pT M_91).find? (fun e => e.1 == 140) = some (140, .iastore, 0, 0) := rfl
theorem te_91_141 : (pT M_91).find? (fun e => e.1 == 141) = some (141, .iinc 5 (-1), 0, 0) := rfl
theorem te_91_144 : (pT M_91).find? (fun e => e.1 == 144) = some (144, .goto (-78), 0, 0) := rfl
theorem te_91_147 : (pT M_91).find? (fun e => e.1 == 147) = some (147, .iinc 4 1, 0, 0) := rfl
theorem te_91_150 : (pT M_91).find? (fun e => e.1 == 150) = some (150, .goto (-103), 0, 0) := rfl
theorem te_91_153 : (pT M_91).find? (fun e => e.1 == 153) = some (153, .aload_n 0, 0, 0) := rfl
theorem te_91_154 : (pT M_91).find? (fun e => e.1 == 154) = some (154, .iload_n 1, 0, 0) := rfl
theorem te_91_155 : (pT M_91).find? (fun e => e.1 == 155) = some (155, .invokevirtual 159, 92, 0) := rfl
theorem te_91_158 : (pT M_91).find? (fun e => e.1 == 158) = some (158, .ifCond .ne 5, 0, 0) := rfl
theorem te_91_161 : (pT M_91).find? (fun e => e.1 == 161) = some (161, .iconst 1, 0, 0) := rfl
theorem te_91_162 : (pT M_91).find? (fun e => e.1 == 162) = some (162, .ireturn, 0, 0) := rfl
theorem te_91_163 : (pT M_91).find? (fun e => e.1 == 163) = some (163, .aload_n 0, 0, 0) := rfl
theorem te_91_164 : (pT M_91).find? (fun e => e.1 == 164) = some (164, .getfield 36, 6, 13) := rfl
theorem te_91_167 : (pT M_91).find? (fun e => e.1 == 167) = some (167, .iconst 0, 0, 0) := rfl
theorem te_91_168 : (pT M_91).find? (fun e => e.1 == 168) = some (168, .aload_n 0, 0, 0) := rfl
theorem te_91_169 : (pT M_91).find? (fun e => e.1 == 169) = some (169, .getfield 39, 6, 14) := rfl
theorem te_91_172 : (pT M_91).find? (fun e => e.1 == 172) = some (172, .iload_n 1, 0, 0) := rfl
theorem te_91_173 : (pT M_91).find? (fun e => e.1 == 173) = some (173, .bipush 64, 0, 0) := rfl
theorem te_91_175 : (pT M_91).find? (fun e => e.1 == 175) = some (175, .imul, 0, 0) := rfl
theorem te_91_176 : (pT M_91).find? (fun e => e.1 == 176) = some (176, .bipush 64, 0, 0) := rfl
theorem te_91_178 : (pT M_91).find? (fun e => e.1 == 178) = some (178, .invokestatic 125, 0, 7) := rfl
theorem te_91_181 : (pT M_91).find? (fun e => e.1 == 181) = some (181, .aload_n 0, 0, 0) := rfl
theorem te_91_182 : (pT M_91).find? (fun e => e.1 == 182) = some (182, .iload_n 1, 0, 0) := rfl
theorem te_91_183 : (pT M_91).find? (fun e => e.1 == 183) = some (183, .invokevirtual 162, 93, 0) := rfl
theorem te_91_186 : (pT M_91).find? (fun e => e.1 == 186) = some (186, .ifCond .ne 5, 0, 0) := rfl
theorem te_91_189 : (pT M_91).find? (fun e => e.1 == 189) = some (189, .iconst 0, 0, 0) := rfl
theorem te_91_190 : (pT M_91).find? (fun e => e.1 == 190) = some (190, .ireturn, 0, 0) := rfl
theorem te_91_191 : (pT M_91).find? (fun e => e.1 == 191) = some (191, .aload_n 0, 0, 0) := rfl
theorem te_91_192 : (pT M_91).find? (fun e => e.1 == 192) = some (192, .iload_n 1, 0, 0) := rfl
theorem te_91_193 : (pT M_91).find? (fun e => e.1 == 193) = some (193, .invokevirtual 165, 95, 0) := rfl
theorem te_91_196 : (pT M_91).find? (fun e => e.1 == 196) = some (196, .iconst 1, 0, 0) := rfl
theorem te_91_197 : (pT M_91).find? (fun e => e.1 == 197) = some (197, .ireturn, 0, 0) := rfl
theorem te_92_0 : (pT M_92).find? (fun e => e.1 == 0) = some (0, .aload_n 0, 0, 0) := rfl
theorem te_92_1 : (pT M_92).find? (fun e => e.1 == 1) = some (1, .getfield 48, 6, 17) := rfl
theorem te_92_4 : (pT M_92).find? (fun e => e.1 == 4) = some (4, .iload_n 1, 0, 0) := rfl
theorem te_92_5 : (pT M_92).find? (fun e => e.1 == 5) = some (5, .iaload, 0, 0) := rfl
theorem te_92_6 : (pT M_92).find? (fun e => e.1 == 6) = some (6, .invokestatic 142, 39, 2) := rfl
theorem te_92_9 : (pT M_92).find? (fun e => e.1 == 9) = some (9, .iconst 2, 0, 0) := rfl
theorem te_92_10 : (pT M_92).find? (fun e => e.1 == 10) = some (10, .if_icmp .lt 7, 0, 0) := rfl
theorem te_92_13 : (pT M_92).find? (fun e => e.1 == 13) = some (13, .iconst 1, 0, 0) := rfl
theorem te_92_14 : (pT M_92).find? (fun e => e.1 == 14) = some (14, .goto 4, 0, 0) := rfl
theorem te_92_17 : (pT M_92).find? (fun e => e.1 == 17) = some (17, .iconst 0, 0, 0) := rfl
theorem te_92_18 : (pT M_92).find? (fun e => e.1 == 18) = some (18, .ireturn, 0, 0) := rfl
theorem te_93_0 : (pT M_93).find? (fun e => e.1 == 0) = some (0, .aload_n 0, 0, 0) := rfl
theorem te_93_1 : (pT M_93).find? (fun e => e.1 == 1) = some (1, .getfield 48, 6, 17) := rfl
theorem te_93_4 : (pT M_93).find? (fun e => e.1 == 4) = some (4, .iload_n 1, 0, 0) := rfl
theorem te_93_5 : (pT M_93).find? (fun e => e.1 == 5) = some (5, .iaload, 0, 0) := rfl
theorem te_93_6 : (pT M_93).find? (fun e => e.1 == 6) = some (6, .aload_n 0, 0, 0) := rfl
theorem te_93_7 : (pT M_93).find? (fun e => e.1 == 7) = some (7, .getfield 97, 6, 4) := rfl
theorem te_93_10 : (pT M_93).find? (fun e => e.1 == 10) = some (10, .iand, 0, 0) := rfl
theorem te_93_11 : (pT M_93).find? (fun e => e.1 == 11) = some (11, .istore_n 2, 0, 0) := rfl
theorem te_93_12 : (pT M_93).find? (fun e => e.1 == 12) = some (12, .iconst 0, 0, 0) := rfl
theorem te_93_13 : (pT M_93).find? (fun e => e.1 == 13) = some (13, .istore_n 3, 0, 0) := rfl
theorem te_93_14 : (pT M_93).find? (fun e => e.1 == 14) = some (14, .iload_n 3, 0, 0) := rfl
theorem te_93_15 : (pT M_93).find? (fun e => e.1 == 15) = some (15, .aload_n 0, 0, 0) := rfl
theorem te_93_16 : (pT M_93).find? (fun e => e.1 == 16) = some (16, .getfield 70, 6, 0) := rfl
theorem te_93_19 : (pT M_93).find? (fun e => e.1 == 19) = some (19, .if_icmp .ge 123, 0, 0) := rfl
theorem te_93_22 : (pT M_93).find? (fun e => e.1 == 22) = some (22, .aload_n 0, 0, 0) := rfl
theorem te_93_23 : (pT M_93).find? (fun e => e.1 == 23) = some (23, .getfield 42, 6, 15) := rfl
theorem te_93_26 : (pT M_93).find? (fun e => e.1 == 26) = some (26, .iload_n 3, 0, 0) := rfl
theorem te_93_27 : (pT M_93).find? (fun e => e.1 == 27) = some (27, .aload_n 0, 0, 0) := rfl
theorem te_93_28 : (pT M_93).find? (fun e => e.1 == 28) = some (28, .getfield 36, 6, 13) := rfl
theorem te_93_31 : (pT M_93).find? (fun e => e.1 == 31) = some (31, .iload_n 3, 0, 0) := rfl
theorem te_93_32 : (pT M_93).find? (fun e => e.1 == 32) = some (32, .bipush 8, 0, 0) := rfl
theorem te_93_34 : (pT M_93).find? (fun e => e.1 == 34) = some (34, .imul, 0, 0) := rfl
theorem te_93_35 : (pT M_93).find? (fun e => e.1 == 35) = some (35, .iload_n 1, 0, 0) := rfl
theorem te_93_36 : (pT M_93).find? (fun e => e.1 == 36) = some (36, .iadd, 0, 0) := rfl
theorem te_93_37 : (pT M_93).find? (fun e => e.1 == 37) = some (37, .iaload, 0, 0) := rfl
theorem te_93_38 : (pT M_93).find? (fun e => e.1 == 38) = some (38, .iastore, 0, 0) := rfl
theorem te_93_39 : (pT M_93).find? (fun e => e.1 == 39) = some (39, .aload_n 0, 0, 0) := rfl
theorem te_93_40 : (pT M_93).find? (fun e => e.1 == 40) = some (40, .getfield 45, 6, 16) := rfl
theorem te_93_43 : (pT M_93).find? (fun e => e.1 == 43) = some (43, .iload_n 3, 0, 0) := rfl
theorem te_93_44 : (pT M_93).find? (fun e => e.1 == 44) = some (44, .aload_n 0, 0, 0) := rfl
theorem te_93_45 : (pT M_93).find? (fun e => e.1 == 45) = some (45, .getfield 36, 6, 13) := rfl
theorem te_93_48 : (pT M_93).find? (fun e => e.1 == 48) = some (48, .iload_n 1, 0, 0) := rfl
theorem te_93_49 : (pT M_93).find? (fun e => e.1 == 49) = some (49, .bipush 8, 0, 0) := rfl
theorem te_93_51 : (pT M_93).find? (fun e => e.1 == 51) = some (51, .imul, 0, 0) := rfl
theorem te_93_52 : (pT M_93).find? (fun e => e.1 == 52) = some (52, .iload_n 3, 0, 0) := rfl
theorem te_93_53 : (pT M_93).find? (fun e => e.1 == 53) = some (53, .iadd, 0, 0) := rfl
theorem te_93_54 : (pT M_93).find? (fun e => e.1 == 54) = some (54, .iaload, 0, 0) := rfl
theorem te_93_55 : (pT M_93).find? (fun e => e.1 == 55) = some (55, .iastore, 0, 0) := rfl
theorem te_93_56 : (pT M_93).find? (fun e => e.1 == 56) = some (56, .iload_n 2, 0, 0) := rfl
theorem te_93_57 : (pT M_93).find? (fun e => e.1 == 57) = some (57, .iconst 1, 0, 0) := rfl
theorem te_93_58 : (pT M_93).find? (fun e => e.1 == 58) = some (58, .iload_n 3, 0, 0) := rfl
theorem te_93_59 : (pT M_93).find? (fun e => e.1 == 59) = some (59, .ishl, 0, 0) := rfl
theorem te_93_60 : (pT M_93).find? (fun e => e.1 == 60) = some (60, .iand, 0, 0) := rfl
theorem te_93_61 : (pT M_93).find? (fun e => e.1 == 61) = some (61, .ifCond .eq 75, 0, 0) := rfl
theorem te_93_64 : (pT M_93).find? (fun e => e.1 == 64) = some (64, .aload_n 0, 0, 0) := rfl
theorem te_93_65 : (pT M_93).find? (fun e => e.1 == 65) = some (65, .getfield 42, 6, 15) := rfl
theorem te_93_68 : (pT M_93).find? (fun e => e.1 == 68) = some (68, .iload_n 3, 0, 0) := rfl
theorem te_93_69 : (pT M_93).find? (fun e => e.1 == 69) = some (69, .dup2, 0, 0) := rfl
theorem te_93_70 : (pT M_93).find? (fun e => e.1 == 70) = some (70, .iaload, 0, 0) := rfl
theorem te_93_71 : (pT M_93).find? (fun e => e.1 == 71) = some (71, .aload_n 0, 0, 0) := rfl
theorem te_93_72 : (pT M_93).find? (fun e => e.1 == 72) = some (72, .getfield 9, 6, 5) := rfl
theorem te_93_75 : (pT M_93).find? (fun e => e.1 == 75) = some (75, .iload_n 1, 0, 0) := rfl
theorem te_93_76 : (pT M_93).find? (fun e => e.1 == 76) = some (76, .iaload, 0, 0) := rfl
theorem te_93_77 : (pT M_93).find? (fun e => e.1 == 77) = some (77, .aload_n 0, 0, 0) := rfl
theorem te_93_78 : (pT M_93).find? (fun e => e.1 == 78) = some (78, .getfield 9, 6, 5) := rfl
theorem te_93_81 : (pT M_93).find? (fun e => e.1 == 81) = some (81, .iload_n 3, 0, 0) := rfl
theorem te_93_82 : (pT M_93).find? (fun e => e.1 == 82) = some (82, .iaload, 0, 0) := rfl
theorem te_93_83 : (pT M_93).find? (fun e => e.1 == 83) = some (83, .isub, 0, 0) := rfl
theorem te_93_84 : (pT M_93).find? (fun e => e.1 == 84) = some (84, .aload_n 0, 0, 0) := rfl
theorem te_93_85 : (pT M_93).find? (fun e => e.1 == 85) = some (85, .getfield 42, 6, 15) := rfl
theorem te_93_88 : (pT M_93).find? (fun e => e.1 == 88) = some (88, .iload_n 3, 0, 0) := rfl
theorem te_93_89 : (pT M_93).find? (fun e => e.1 == 89) = some (89, .iaload, 0, 0) := rfl
theorem te_93_90 : (pT M_93).find? (fun e => e.1 == 90) = some (90, .isub, 0, 0) := rfl
theorem te_93_91 : (pT M_93).find? (fun e => e.1 == 91) = some (91, .aload_n 0, 0, 0) := rfl
theorem te_93_92 : (pT M_93).find? (fun e => e.1 == 92) = some (92, .getfield 103, 6, 1) := rfl
theorem te_93_95 : (pT M_93).find? (fun e => e.1 == 95) = some (95, .invokestatic 154, 94, 2) := rfl
theorem te_93_98 : (pT M_93).find? (fun e => e.1 == 98) = some (98, .iadd, 0, 0) := rfl
theorem te_93_99 : (pT M_93).find? (fun e => e.1 == 99) = some (99, .iastore, 0, 0) := rfl
theorem te_93_100 : (pT M_93).find? (fun e => e.1 == 100) = some (100, .aload_n 0, 0, 0) := rfl
theorem te_93_101 : (pT M_93).find? (fun e => e.1 == 101) = some (101, .getfield 45, 6, 16) := rfl
theorem te_93_104 : (pT M_93).find? (fun e => e.1 == 104) = some (104, .iload_n 3, 0, 0) := rfl
theorem te_93_105 : (pT M_93).find? (fun e => e.1 == 105) = some (105, .dup2, 0, 0) := rfl
theorem te_93_106 : (pT M_93).find? (fun e => e.1 == 106) = some (106, .iaload, 0, 0) := rfl
theorem te_93_107 : (pT M_93).find? (fun e => e.1 == 107) = some (107, .aload_n 0, 0, 0) := rfl
theorem te_93_108 : (pT M_93).find? (fun e => e.1 == 108) = some (108, .getfield 9, 6, 5) := rfl
theorem te_93_111 : (pT M_93).find? (fun e => e.1 == 111) = some (111, .iload_n 3, 0, 0) := rfl
theorem te_93_112 : (pT M_93).find? (fun e => e.1 == 112) = some (112, .iaload, 0, 0) := rfl
theorem te_93_113 : (pT M_93).find? (fun e => e.1 == 113) = some (113, .aload_n 0, 0, 0) := rfl
theorem te_93_114 : (pT M_93).find? (fun e => e.1 == 114) = some (114, .getfield 9, 6, 5) := rfl
theorem te_93_117 : (pT M_93).find? (fun e => e.1 == 117) = some (117, .iload_n 1, 0, 0) := rfl
theorem te_93_118 : (pT M_93).find? (fun e => e.1 == 118) = some (118, .iaload, 0, 0) := rfl
theorem te_93_119 : (pT M_93).find? (fun e => e.1 == 119) = some (119, .isub, 0, 0) := rfl
theorem te_93_120 : (pT M_93).find? (fun e => e.1 == 120) = some (120, .aload_n 0, 0, 0) := rfl
theorem te_93_121 : (pT M_93).find? (fun e => e.1 == 121) = some (121, .getfield 45, 6, 16) := rfl
theorem te_93_124 : (pT M_93).find? (fun e => e.1 == 124) = some (124, .iload_n 3, 0, 0) := rfl
theorem te_93_125 : (pT M_93).find? (fun e => e.1 == 125) = some (125, .iaload, 0, 0) := rfl
theorem te_93_126 : (pT M_93).find? (fun e => e.1 == 126) = some (126, .isub, 0, 0) := rfl
theorem te_93_127 : (pT M_93).find? (fun e => e.1 == 127) = some (127, .aload_n 0, 0, 0) := rfl
theorem te_93_128 : (pT M_93).find? (fun e => e.1 == 128) = some (128, .getfield 103, 6, 1) := rfl
theorem te_93_131 : (pT M_93).find? (fun e => e.1 == 131) = some (131, .invokestatic 154, 94, 2) := rfl
theorem te_93_134 : (pT M_93).find? (fun e => e.1 == 134) = some (134, .iadd, 0, 0) := rfl
theorem te_93_135 : (pT M_93).find? (fun e => e.1 == 135) = some (135, .iastore, 0, 0) := rfl
theorem te_93_136 : (pT M_93).find? (fun e => e.1 == 136) = some (136, .iinc 3 1, 0, 0) := rfl
theorem te_93_139 : (pT M_93).find? (fun e => e.1 == 139) = some (139, .goto (-125), 0, 0) := rfl
theorem te_93_142 : (pT M_93).find? (fun e => e.1 == 142) = some (142, .iconst 0, 0, 0) := rfl
theorem te_93_143 : (pT M_93).find? (fun e => e.1 == 143) = some (143, .istore_n 3, 0, 0) := rfl
theorem te_93_144 : (pT M_93).find? (fun e => e.1 == 144) = some (144, .iload_n 3, 0, 0) := rfl
theorem te_93_145 : (pT M_93).find? (fun e => e.1 == 145) = some (145, .aload_n 0, 0, 0) := rfl
theorem te_93_146 : (pT M_93).find? (fun e => e.1 == 146) = some (146, .getfield 70, 6, 0) := rfl
theorem te_93_149 : (pT M_93).find? (fun e => e.1 == 149) = some (149, .if_icmp .ge 140, 0, 0) := rfl
theorem te_93_152 : (pT M_93).find? (fun e => e.1 == 152) = some (152, .aload_n 0, 0, 0) := rfl
theorem te_93_153 : (pT M_93).find? (fun e => e.1 == 153) = some (153, .getfield 48, 6, 17) := rfl
theorem te_93_156 : (pT M_93).find? (fun e => e.1 == 156) = some (156, .iload_n 1, 0, 0) := rfl
theorem te_93_157 : (pT M_93).find? (fun e => e.1 == 157) = some (157, .iaload, 0, 0) := rfl
theorem te_93_158 : (pT M_93).find? (fun e => e.1 == 158) = some (158, .iconst 1, 0, 0) := rfl
theorem te_93_159 : (pT M_93).find? (fun e => e.1 == 159) = some (159, .iload_n 3, 0, 0) := rfl
theorem te_93_160 : (pT M_93).find? (fun e => e.1 == 160) = some (160, .ishl, 0, 0) := rfl
theorem te_93_161 : (pT M_93).find? (fun e => e.1 == 161) = some (161, .iand, 0, 0) := rfl
theorem te_93_162 : (pT M_93).find? (fun e => e.1 == 162) = some (162, .ifCond .ne 6, 0, 0) := rfl
theorem te_93_165 : (pT M_93).find? (fun e => e.1 == 165) = some (165, .goto 118, 0, 0) := rfl
theorem te_93_168 : (pT M_93).find? (fun e => e.1 == 168) = some (168, .iconst 0, 0, 0) := rfl
theorem te_93_169 : (pT M_93).find? (fun e => e.1 == 169) = some (169, .istore 4, 0, 0) := rfl
theorem te_93_171 : (pT M_93).find? (fun e => e.1 == 171) = some (171, .iload 4, 0, 0) := rfl
theorem te_93_173 : (pT M_93).find? (fun e => e.1 == 173) = some (173, .aload_n 0, 0, 0) := rfl
theorem te_93_174 : (pT M_93).find? (fun e => e.1 == 174) = some (174, .getfield 70, 6, 0) := rfl
theorem te_93_177 : (pT M_93).find? (fun e => e.1 == 177) = some (177, .if_icmp .ge 88, 0, 0) := rfl
theorem te_93_180 : (pT M_93).find? (fun e => e.1 == 180) = some (180, .iload_n 2, 0, 0) := rfl
theorem te_93_181 : (pT M_93).find? (fun e => e.1 == 181) = some (181, .iconst 1, 0, 0) := rfl
theorem te_93_182 : (pT M_93).find? (fun e => e.1 == 182) = some (182, .iload 4, 0, 0) := rfl
theorem te_93_184 : (pT M_93).find? (fun e => e.1 == 184) = some (184, .ishl, 0, 0) := rfl
theorem te_93_185 : (pT M_93).find? (fun e => e.1 == 185) = some (185, .iand, 0, 0) := rfl
theorem te_93_186 : (pT M_93).find? (fun e => e.1 == 186) = some (186, .ifCond .eq 73, 0, 0) := rfl
theorem te_93_189 : (pT M_93).find? (fun e => e.1 == 189) = some (189, .aload_n 0, 0, 0) := rfl
theorem te_93_190 : (pT M_93).find? (fun e => e.1 == 190) = some (190, .getfield 42, 6, 15) := rfl
theorem te_93_193 : (pT M_93).find? (fun e => e.1 == 193) = some (193, .iload_n 3, 0, 0) := rfl
theorem te_93_194 : (pT M_93).find? (fun e => e.1 == 194) = some (194, .aload_n 0, 0, 0) := rfl
theorem te_93_195 : (pT M_93).find? (fun e => e.1 == 195) = some (195, .getfield 42, 6, 15) := rfl
theorem te_93_198 : (pT M_93).find? (fun e => e.1 == 198) = some (198, .iload_n 3, 0, 0) := rfl
theorem te_93_199 : (pT M_93).find? (fun e => e.1 == 199) = some (199, .iaload, 0, 0) := rfl
theorem te_93_200 : (pT M_93).find? (fun e => e.1 == 200) = some (200, .aload_n 0, 0, 0) := rfl
theorem te_93_201 : (pT M_93).find? (fun e => e.1 == 201) = some (201, .getfield 36, 6, 13) := rfl
theorem te_93_204 : (pT M_93).find? (fun e => e.1 == 204) = some (204, .iload_n 3, 0, 0) := rfl
theorem te_93_205 : (pT M_93).find? (fun e => e.1 == 205) = some (205, .bipush 8, 0, 0) := rfl
theorem te_93_207 : (pT M_93).find? (fun e => e.1 == 207) = some (207, .imul, 0, 0) := rfl
theorem te_93_208 : (pT M_93).find? (fun e => e.1 == 208) = some (208, .iload 4, 0, 0) := rfl
theorem te_93_210 : (pT M_93).find? (fun e => e.1 == 210) = some (210, .iadd, 0, 0) := rfl
theorem te_93_211 : (pT M_93).find? (fun e => e.1 == 211) = some (211, .iaload, 0, 0) := rfl
theorem te_93_212 : (pT M_93).find? (fun e => e.1 == 212) = some (212, .aload_n 0, 0, 0) := rfl
theorem te_93_213 : (pT M_93).find? (fun e => e.1 == 213) = some (213, .getfield 42, 6, 15) := rfl
theorem te_93_216 : (pT M_93).find? (fun e => e.1 == 216) = some (216, .iload 4, 0, 0) := rfl
theorem te_93_218 : (pT M_93).find? (fun e => e.1 == 218) = some (218, .iaload, 0, 0) := rfl
theorem te_93_219 : (pT M_93).find? (fun e => e.1 == 219) = some (219, .iadd, 0, 0) := rfl
theorem te_93_220 : (pT M_93).find? (fun e => e.1 == 220) = some (220, .invokestatic 168, 40, 2) := rfl
theorem te_93_223 : (pT M_93).find? (fun e => e.1 == 223) = some (223, .iastore, 0, 0) := rfl
theorem te_93_224 : (pT M_93).find? (fun e => e.1 == 224) = some (224, .aload_n 0, 0, 0) := rfl
theorem te_93_225 : (pT M_93).find? (fun e => e.1 == 225) = some (225, .getfield 45, 6, 16) := rfl
theorem te_93_228 : (pT M_93).find? (fun e => e.1 == 228) = some (228, .iload_n 3, 0, 0) := rfl
theorem te_93_229 : (pT M_93).find? (fun e => e.1 == 229) = some (229, .aload_n 0, 0, 0) := rfl
theorem te_93_230 : (pT M_93).find? (fun e => e.1 == 230) = some (230, .getfield 45, 6, 16) := rfl
theorem te_93_233 : (pT M_93).find? (fun e => e.1 == 233) = some (233, .iload_n 3, 0, 0) := rfl
theorem te_93_234 : (pT M_93).find? (fun e => e.1 == 234) = some (234, .iaload, 0, 0) := rfl
theorem te_93_235 : (pT M_93).find? (fun e => e.1 == 235) = some (235, .aload_n 0, 0, 0) := rfl
theorem te_93_236 : (pT M_93).find? (fun e => e.1 == 236) = some (236, .getfield 45, 6, 16) := rfl
theorem te_93_239 : (pT M_93).find? (fun e => e.1 == 239) = some (239, .iload 4, 0, 0) := rfl
theorem te_93_241 : (pT M_93).find? (fun e => e.1 == 241) = some (241, .iaload, 0, 0) := rfl
theorem te_93_242 : (pT M_93).find? (fun e => e.1 == 242) = some (242, .aload_n 0, 0, 0) := rfl
theorem te_93_243 : (pT M_93).find? (fun e => e.1 == 243) = some (243, .getfield 36, 6, 13) := rfl
theorem te_93_246 : (pT M_93).find? (fun e => e.1 == 246) = some (246, .iload 4, 0, 0) := rfl
theorem te_93_248 : (pT M_93).find? (fun e => e.1 == 248) = some (248, .bipush 8, 0, 0) := rfl
theorem te_93_250 : (pT M_93).find? (fun e => e.1 == 250) = some (250, .imul, 0, 0) := rfl
theorem te_93_251 : (pT M_93).find? (fun e => e.1 == 251) = some (251, .iload_n 3, 0, 0) := rfl
theorem te_93_252 : (pT M_93).find? (fun e => e.1 == 252) = some (252, .iadd, 0, 0) := rfl
theorem te_93_253 : (pT M_93).find? (fun e => e.1 == 253) = some (253, .iaload, 0, 0) := rfl
theorem te_93_254 : (pT M_93).find? (fun e => e.1 == 254) = some (254, .iadd, 0, 0) := rfl
theorem te_93_255 : (pT M_93).find? (fun e => e.1 == 255) = some (255, .invokestatic 168, 40, 2) := rfl
theorem te_93_258 : (pT M_93).find? (fun e => e.1 == 258) = some (258, .iastore, 0, 0) := rfl
theorem te_93_259 : (pT M_93).find? (fun e => e.1 == 259) = some (259, .iinc 4 1, 0, 0) := rfl
theorem te_93_262 : (pT M_93).find? (fun e => e.1 == 262) = some (262, .goto (-91), 0, 0) := rfl
theorem te_93_265 : (pT M_93).find? (fun e => e.1 == 265) = some (265, .aload_n 0, 0, 0) := rfl
theorem te_93_266 : (pT M_93).find? (fun e => e.1 == 266) = some (266, .getfield 42, 6, 15) := rfl
theorem te_93_269 : (pT M_93).find? (fun e => e.1 == 269) = some (269, .iload_n 3, 0, 0) := rfl
theorem te_93_270 : (pT M_93).find? (fun e => e.1 == 270) = some (270, .iaload, 0, 0) := rfl
theorem te_93_271 : (pT M_93).find? (fun e => e.1 == 271) = some (271, .aload_n 0, 0, 0) := rfl
theorem te_93_272 : (pT M_93).find? (fun e => e.1 == 272) = some (272, .getfield 45, 6, 16) := rfl
theorem te_93_275 : (pT M_93).find? (fun e => e.1 == 275) = some (275, .iload_n 3, 0, 0) := rfl
theorem te_93_276 : (pT M_93).find? (fun e => e.1 == 276) = some (276, .iaload, 0, 0) := rfl
theorem te_93_277 : (pT M_93).find? (fun e => e.1 == 277) = some (277, .iadd, 0, 0) := rfl
theorem te_93_278 : (pT M_93).find? (fun e => e.1 == 278) = some (278, .ifCond .le 5, 0, 0) := rfl
theorem te_93_281 : (pT M_93).find? (fun e => e.1 == 281) = some (281, .iconst 0, 0, 0) := rfl
theorem te_93_282 : (pT M_93).find? (fun e => e.1 == 282) = some (282, .ireturn, 0, 0) := rfl
theorem te_93_283 : (pT M_93).find? (fun e => e.1 == 283) = some (283, .iinc 3 1, 0, 0) := rfl
theorem te_93_286 : (pT M_93).find? (fun e => e.1 == 286) = some (286, .goto (-142), 0, 0) := rfl
theorem te_93_289 : (pT M_93).find? (fun e => e.1 == 289) = some (289, .iconst 1, 0, 0) := rfl
theorem te_93_290 : (pT M_93).find? (fun e => e.1 == 290) = some (290, .ireturn, 0, 0) := rfl
theorem te_95_0 : (pT M_95).find? (fun e => e.1 == 0) = some (0, .iconst 0, 0, 0) := rfl
theorem te_95_1 : (pT M_95).find? (fun e => e.1 == 1) = some (1, .istore_n 2, 0, 0) := rfl
theorem te_95_2 : (pT M_95).find? (fun e => e.1 == 2) = some (2, .iload_n 2, 0, 0) := rfl
theorem te_95_3 : (pT M_95).find? (fun e => e.1 == 3) = some (3, .aload_n 0, 0, 0) := rfl
theorem te_95_4 : (pT M_95).find? (fun e => e.1 == 4) = some (4, .getfield 70, 6, 0) := rfl
theorem te_95_7 : (pT M_95).find? (fun e => e.1 == 7) = some (7, .if_icmp .ge 131, 0, 0) := rfl
theorem te_95_10 : (pT M_95).find? (fun e => e.1 == 10) = some (10, .aload_n 0, 0, 0) := rfl
theorem te_95_11 : (pT M_95).find? (fun e => e.1 == 11) = some (11, .getfield 48, 6, 17) := rfl
theorem te_95_14 : (pT M_95).find? (fun e => e.1 == 14) = some (14, .iload_n 1, 0, 0) := rfl
theorem te_95_15 : (pT M_95).find? (fun e => e.1 == 15) = some (15, .iaload, 0, 0) := rfl
theorem te_95_16 : (pT M_95).find? (fun e => e.1 == 16) = some (16, .iconst 1, 0, 0) := rfl
theorem te_95_17 : (pT M_95).find? (fun e => e.1 == 17) = some (17, .iload_n 2, 0, 0) := rfl
theorem te_95_18 : (pT M_95).find? (fun e => e.1 == 18) = some (18, .ishl, 0, 0) := rfl
theorem te_95_19 : (pT M_95).find? (fun e => e.1 == 19) = some (19, .iand, 0, 0) := rfl
theorem te_95_20 : (pT M_95).find? (fun e => e.1 == 20) = some (20, .ifCond .ne 6, 0, 0) := rfl
theorem te_95_23 : (pT M_95).find? (fun e => e.1 == 23) = some (23, .goto 109, 0, 0) := rfl
theorem te_95_26 : (pT M_95).find? (fun e => e.1 == 26) = some (26, .aload_n 0, 0, 0) := rfl
theorem te_95_27 : (pT M_95).find? (fun e => e.1 == 27) = some (27, .getfield 36, 6, 13) := rfl
theorem te_95_30 : (pT M_95).find? (fun e => e.1 == 30) = some (30, .iload_n 2, 0, 0) := rfl
theorem te_95_31 : (pT M_95).find? (fun e => e.1 == 31) = some (31, .bipush 8, 0, 0) := rfl
theorem te_95_33 : (pT M_95).find? (fun e => e.1 == 33) = some (33, .imul, 0, 0) := rfl
theorem te_95_34 : (pT M_95).find? (fun e => e.1 == 34) = some (34, .iload_n 1, 0, 0) := rfl
theorem te_95_35 : (pT M_95).find? (fun e => e.1 == 35) = some (35, .iadd, 0, 0) := rfl
theorem te_95_36 : (pT M_95).find? (fun e => e.1 == 36) = some (36, .aload_n 0, 0, 0) := rfl
theorem te_95_37 : (pT M_95).find? (fun e => e.1 == 37) = some (37, .getfield 42, 6, 15) := rfl
theorem te_95_40 : (pT M_95).find? (fun e => e.1 == 40) = some (40, .iload_n 2, 0, 0) := rfl
theorem te_95_41 : (pT M_95).find? (fun e => e.1 == 41) = some (41, .iaload, 0, 0) := rfl
theorem te_95_42 : (pT M_95).find? (fun e => e.1 == 42) = some (42, .iastore, 0, 0) := rfl
theorem te_95_43 : (pT M_95).find? (fun e => e.1 == 43) = some (43, .aload_n 0, 0, 0) := rfl
theorem te_95_44 : (pT M_95).find? (fun e => e.1 == 44) = some (44, .getfield 36, 6, 13) := rfl
theorem te_95_47 : (pT M_95).find? (fun e => e.1 == 47) = some (47, .iload_n 1, 0, 0) := rfl
theorem te_95_48 : (pT M_95).find? (fun e => e.1 == 48) = some (48, .bipush 8, 0, 0) := rfl
theorem te_95_50 : (pT M_95).find? (fun e => e.1 == 50) = some (50, .imul, 0, 0) := rfl
theorem te_95_51 : (pT M_95).find? (fun e => e.1 == 51) = some (51, .iload_n 2, 0, 0) := rfl
theorem te_95_52 : (pT M_95).find? (fun e => e.1 == 52) = some (52, .iadd, 0, 0) := rfl
theorem te_95_53 : (pT M_95).find? (fun e => e.1 == 53) = some (53, .aload_n 0, 0, 0) := rfl
theorem te_95_54 : (pT M_95).find? (fun e => e.1 == 54) = some (54, .getfield 45, 6, 16) := rfl
theorem te_95_57 : (pT M_95).find? (fun e => e.1 == 57) = some (57, .iload_n 2, 0, 0) := rfl
theorem te_95_58 : (pT M_95).find? (fun e => e.1 == 58) = some (58, .iaload, 0, 0) := rfl
theorem te_95_59 : (pT M_95).find? (fun e => e.1 == 59) = some (59, .iastore, 0, 0) := rfl
theorem te_95_60 : (pT M_95).find? (fun e => e.1 == 60) = some (60, .iconst 0, 0, 0) := rfl
theorem te_95_61 : (pT M_95).find? (fun e => e.1 == 61) = some (61, .istore_n 3, 0, 0) := rfl
theorem te_95_62 : (pT M_95).find? (fun e => e.1 == 62) = some (62, .iload_n 3, 0, 0) := rfl
theorem te_95_63 : (pT M_95).find? (fun e => e.1 == 63) = some (63, .aload_n 0, 0, 0) := rfl
theorem te_95_64 : (pT M_95).find? (fun e => e.1 == 64) = some (64, .getfield 70, 6, 0) := rfl
theorem te_95_67 : (pT M_95).find? (fun e => e.1 == 67) = some (67, .if_icmp .ge 65, 0, 0) := rfl
theorem te_95_70 : (pT M_95).find? (fun e => e.1 == 70) = some (70, .iload_n 3, 0, 0) := rfl
theorem te_95_71 : (pT M_95).find? (fun e => e.1 == 71) = some (71, .iload_n 2, 0, 0) := rfl
theorem te_95_72 : (pT M_95).find? (fun e => e.1 == 72) = some (72, .if_icmp .eq 54, 0, 0) := rfl
theorem te_95_75 : (pT M_95).find? (fun e => e.1 == 75) = some (75, .aload_n 0, 0, 0) := rfl
theorem te_95_76 : (pT M_95).find? (fun e => e.1 == 76) = some (76, .getfield 48, 6, 17) := rfl
theorem te_95_79 : (pT M_95).find? (fun e => e.1 == 79) = some (79, .iload_n 1, 0, 0) := rfl
theorem te_95_80 : (pT M_95).find? (fun e => e.1 == 80) = some (80, .iaload, 0, 0) := rfl
theorem te_95_81 : (pT M_95).find? (fun e => e.1 == 81) = some (81, .iconst 1, 0, 0) := rfl
theorem te_95_82 : (pT M_95).find? (fun e => e.1 == 82) = some (82, .iload_n 3, 0, 0) := rfl
theorem te_95_83 : (pT M_95).find? (fun e => e.1 == 83) = some (83, .ishl, 0, 0) := rfl
theorem te_95_84 : (pT M_95).find? (fun e => e.1 == 84) = some (84, .iand, 0, 0) := rfl
theorem te_95_85 : (pT M_95).find? (fun e => e.1 == 85) = some (85, .ifCond .eq 41, 0, 0) := rfl
theorem te_95_88 : (pT M_95).find? (fun e => e.1 == 88) = some (88, .iload_n 2, 0, 0) := rfl
theorem te_95_89 : (pT M_95).find? (fun e => e.1 == 89) = some (89, .bipush 8, 0, 0) := rfl
theorem te_95_91 : (pT M_95).find? (fun e => e.1 == 91) = some (91, .imul, 0, 0) := rfl
theorem te_95_92 : (pT M_95).find? (fun e => e.1 == 92) = some (92, .iload_n 3, 0, 0) := rfl
theorem te_95_93 : (pT M_95).find? (fun e => e.1 == 93) = some (93, .iadd, 0, 0) := rfl
theorem te_95_94 : (pT M_95).find? (fun e => e.1 == 94) = some (94, .istore 4, 0, 0) := rfl
theorem te_95_96 : (pT M_95).find? (fun e => e.1 == 96) = some (96, .aload_n 0, 0, 0) := rfl
theorem te_95_97 : (pT M_95).find? (fun e => e.1 == 97) = some (97, .getfield 36, 6, 13) := rfl
theorem te_95_100 : (pT M_95).find? (fun e => e.1 == 100) = some (100, .iload 4, 0, 0) := rfl
theorem te_95_102 : (pT M_95).find? (fun e => e.1 == 102) = some (102, .aload_n 0, 0, 0) := rfl
theorem te_95_103 : (pT M_95).find? (fun e => e.1 == 103) = some (103, .getfield 36, 6, 13) := rfl
theorem te_95_106 : (pT M_95).find? (fun e => e.1 == 106) = some (106, .iload 4, 0, 0) := rfl
theorem te_95_108 : (pT M_95).find? (fun e => e.1 == 108) = some (108, .iaload, 0, 0) := rfl
theorem te_95_109 : (pT M_95).find? (fun e => e.1 == 109) = some (109, .aload_n 0, 0, 0) := rfl
theorem te_95_110 : (pT M_95).find? (fun e => e.1 == 110) = some (110, .getfield 42, 6, 15) := rfl
theorem te_95_113 : (pT M_95).find? (fun e => e.1 == 113) = some (113, .iload_n 2, 0, 0) := rfl
theorem te_95_114 : (pT M_95).find? (fun e => e.1 == 114) = some (114, .iaload, 0, 0) := rfl
theorem te_95_115 : (pT M_95).find? (fun e => e.1 == 115) = some (115, .aload_n 0, 0, 0) := rfl
theorem te_95_116 : (pT M_95).find? (fun e => e.1 == 116) = some (116, .getfield 45, 6, 16) := rfl
theorem te_95_119 : (pT M_95).find? (fun e => e.1 == 119) = some (119, .iload_n 3, 0, 0) := rfl
theorem te_95_120 : (pT M_95).find? (fun e => e.1 == 120) = some (120, .iaload, 0, 0) := rfl
theorem te_95_121 : (pT M_95).find? (fun e => e.1 == 121) = some (121, .iadd, 0, 0) := rfl
theorem te_95_122 : (pT M_95).find? (fun e => e.1 == 122) = some (122, .invokestatic 168, 40, 2) := rfl
theorem te_95_125 : (pT M_95).find? (fun e => e.1 == 125) = some (125, .iastore, 0, 0) := rfl
theorem te_95_126 : (pT M_95).find? (fun e => e.1 == 126) = some (126, .iinc 3 1, 0, 0) := rfl
theorem te_95_129 : (pT M_95).find? (fun e => e.1 == 129) = some (129, .goto (-67), 0, 0) := rfl
theorem te_95_132 : (pT M_95).find? (fun e => e.1 == 132) = some (132, .iinc 2 1, 0, 0) := rfl
theorem te_95_135 : (pT M_95).find? (fun e => e.1 == 135) = some (135, .goto (-133), 0, 0) := rfl
theorem te_95_138 : (pT M_95).find? (fun e => e.1 == 138) = some (138, .return_, 0, 0) := rfl
theorem te_97_0 : (pT M_97).find? (fun e => e.1 == 0) = some (0, .aload_n 0, 0, 0) := rfl
theorem te_97_1 : (pT M_97).find? (fun e => e.1 == 1) = some (1, .getfield 109, 6, 2) := rfl
theorem te_97_4 : (pT M_97).find? (fun e => e.1 == 4) = some (4, .istore_n 2, 0, 0) := rfl
theorem te_97_5 : (pT M_97).find? (fun e => e.1 == 5) = some (5, .aload_n 0, 0, 0) := rfl
theorem te_97_6 : (pT M_97).find? (fun e => e.1 == 6) = some (6, .getfield 18, 6, 7) := rfl
theorem te_97_9 : (pT M_97).find? (fun e => e.1 == 9) = some (9, .iload_n 1, 0, 0) := rfl
theorem te_97_10 : (pT M_97).find? (fun e => e.1 == 10) = some (10, .iaload, 0, 0) := rfl
theorem te_97_11 : (pT M_97).find? (fun e => e.1 == 11) = some (11, .istore_n 3, 0, 0) := rfl
theorem te_97_12 : (pT M_97).find? (fun e => e.1 == 12) = some (12, .iconst 0, 0, 0) := rfl
theorem te_97_13 : (pT M_97).find? (fun e => e.1 == 13) = some (13, .istore 4, 0, 0) := rfl
theorem te_97_15 : (pT M_97).find? (fun e => e.1 == 15) = some (15, .iload 4, 0, 0) := rfl
theorem te_97_17 : (pT M_97).find? (fun e => e.1 == 17) = some (17, .iconst 4, 0, 0) := rfl
theorem te_97_18 : (pT M_97).find? (fun e => e.1 == 18) = some (18, .if_icmp .ge 63, 0, 0) := rfl
theorem te_97_21 : (pT M_97).find? (fun e => e.1 == 21) = some (21, .aload_n 0, 0, 0) := rfl
theorem te_97_22 : (pT M_97).find? (fun e => e.1 == 22) = some (22, .getfield 27, 6, 10) := rfl
theorem te_97_25 : (pT M_97).find? (fun e => e.1 == 25) = some (25, .iload_n 1, 0, 0) := rfl
theorem te_97_26 : (pT M_97).find? (fun e => e.1 == 26) = some (26, .iconst 4, 0, 0) := rfl
theorem te_97_27 : (pT M_97).find? (fun e => e.1 == 27) = some (27, .imul, 0, 0) := rfl
theorem te_97_28 : (pT M_97).find? (fun e => e.1 == 28) = some (28, .iload 4, 0, 0) := rfl
theorem te_97_30 : (pT M_97).find? (fun e => e.1 == 30) = some (30, .iadd, 0, 0) := rfl
theorem te_97_31 : (pT M_97).find? (fun e => e.1 == 31) = some (31, .iaload, 0, 0) := rfl
theorem te_97_32 : (pT M_97).find? (fun e => e.1 == 32) = some (32, .istore 5, 0, 0) := rfl
theorem te_97_34 : (pT M_97).find? (fun e => e.1 == 34) = some (34, .iload 5, 0, 0) := rfl
theorem te_97_36 : (pT M_97).find? (fun e => e.1 == 36) = some (36, .ifCond .le 39, 0, 0) := rfl
theorem te_97_39 : (pT M_97).find? (fun e => e.1 == 39) = some (39, .iload_n 2, 0, 0) := rfl
theorem te_97_40 : (pT M_97).find? (fun e => e.1 == 40) = some (40, .aload_n 0, 0, 0) := rfl
theorem te_97_41 : (pT M_97).find? (fun e => e.1 == 41) = some (41, .aload_n 0, 0, 0) := rfl
theorem te_97_42 : (pT M_97).find? (fun e => e.1 == 42) = some (42, .getfield 30, 6, 11) := rfl
theorem te_97_45 : (pT M_97).find? (fun e => e.1 == 45) = some (45, .iload_n 3, 0, 0) := rfl
theorem te_97_46 : (pT M_97).find? (fun e => e.1 == 46) = some (46, .iconst 4, 0, 0) := rfl
theorem te_97_47 : (pT M_97).find? (fun e => e.1 == 47) = some (47, .imul, 0, 0) := rfl
theorem te_97_48 : (pT M_97).find? (fun e => e.1 == 48) = some (48, .aload_n 0, 0, 0) := rfl
theorem te_97_49 : (pT M_97).find? (fun e => e.1 == 49) = some (49, .getfield 21, 6, 8) := rfl
theorem te_97_52 : (pT M_97).find? (fun e => e.1 == 52) = some (52, .iload_n 3, 0, 0) := rfl
theorem te_97_53 : (pT M_97).find? (fun e => e.1 == 53) = some (53, .iaload, 0, 0) := rfl
theorem te_97_54 : (pT M_97).find? (fun e => e.1 == 54) = some (54, .iadd, 0, 0) := rfl
theorem te_97_55 : (pT M_97).find? (fun e => e.1 == 55) = some (55, .iload 5, 0, 0) := rfl
theorem te_97_57 : (pT M_97).find? (fun e => e.1 == 57) = some (57, .isub, 0, 0) := rfl
theorem te_97_58 : (pT M_97).find? (fun e => e.1 == 58) = some (58, .iconst 1, 0, 0) := rfl
theorem te_97_59 : (pT M_97).find? (fun e => e.1 == 59) = some (59, .iadd, 0, 0) := rfl
theorem te_97_60 : (pT M_97).find? (fun e => e.1 == 60) = some (60, .iaload, 0, 0) := rfl
theorem te_97_61 : (pT M_97).find? (fun e => e.1 == 61) = some (61, .aload_n 0, 0, 0) := rfl
theorem te_97_62 : (pT M_97).find? (fun e => e.1 == 62) = some (62, .getfield 103, 6, 1) := rfl
theorem te_97_65 : (pT M_97).find? (fun e => e.1 == 65) = some (65, .iload 4, 0, 0) := rfl
theorem te_97_67 : (pT M_97).find? (fun e => e.1 == 67) = some (67, .isub, 0, 0) := rfl
theorem te_97_68 : (pT M_97).find? (fun e => e.1 == 68) = some (68, .invokevirtual 147, 98, 0) := rfl
theorem te_97_71 : (pT M_97).find? (fun e => e.1 == 71) = some (71, .iconst (-1), 0, 0) := rfl
theorem te_97_72 : (pT M_97).find? (fun e => e.1 == 72) = some (72, .ixor, 0, 0) := rfl
theorem te_97_73 : (pT M_97).find? (fun e => e.1 == 73) = some (73, .iand, 0, 0) := rfl
theorem te_97_74 : (pT M_97).find? (fun e => e.1 == 74) = some (74, .istore_n 2, 0, 0) := rfl
theorem te_97_75 : (pT M_97).find? (fun e => e.1 == 75) = some (75, .iinc 4 1, 0, 0) := rfl
theorem te_97_78 : (pT M_97).find? (fun e => e.1 == 78) = some (78, .goto (-63), 0, 0) := rfl
theorem te_97_81 : (pT M_97).find? (fun e => e.1 == 81) = some (81, .aload_n 0, 0, 0) := rfl
theorem te_97_82 : (pT M_97).find? (fun e => e.1 == 82) = some (82, .getfield 48, 6, 17) := rfl
theorem te_97_85 : (pT M_97).find? (fun e => e.1 == 85) = some (85, .iload_n 1, 0, 0) := rfl
theorem te_97_86 : (pT M_97).find? (fun e => e.1 == 86) = some (86, .iaload, 0, 0) := rfl
theorem te_97_87 : (pT M_97).find? (fun e => e.1 == 87) = some (87, .aload_n 0, 0, 0) := rfl
theorem te_97_88 : (pT M_97).find? (fun e => e.1 == 88) = some (88, .getfield 51, 6, 18) := rfl
theorem te_97_91 : (pT M_97).find? (fun e => e.1 == 91) = some (91, .iload_n 1, 0, 0) := rfl
theorem te_97_92 : (pT M_97).find? (fun e => e.1 == 92) = some (92, .iaload, 0, 0) := rfl
theorem te_97_93 : (pT M_97).find? (fun e => e.1 == 93) = some (93, .ior, 0, 0) := rfl
theorem te_97_94 : (pT M_97).find? (fun e => e.1 == 94) = some (94, .aload_n 0, 0, 0) := rfl
theorem te_97_95 : (pT M_97).find? (fun e => e.1 == 95) = some (95, .getfield 97, 6, 4) := rfl
theorem te_97_98 : (pT M_97).find? (fun e => e.1 == 98) = some (98, .iand, 0, 0) := rfl
theorem te_97_99 : (pT M_97).find? (fun e => e.1 == 99) = some (99, .istore 4, 0, 0) := rfl
theorem te_97_101 : (pT M_97).find? (fun e => e.1 == 101) = some (101, .iconst 0, 0, 0) := rfl
theorem te_97_102 : (pT M_97).find? (fun e => e.1 == 102) = some (102, .istore 5, 0, 0) := rfl
theorem te_97_104 : (pT M_97).find? (fun e => e.1 == 104) = some (104, .iload 5, 0, 0) := rfl
theorem te_97_106 : (pT M_97).find? (fun e => e.1 == 106) = some (106, .aload_n 0, 0, 0) := rfl
theorem te_97_107 : (pT M_97).find? (fun e => e.1 == 107) = some (107, .getfield 70, 6, 0) := rfl
theorem te_97_110 : (pT M_97).find? (fun e => e.1 == 110) = some (110, .if_icmp .ge 96, 0, 0) := rfl
theorem te_97_113 : (pT M_97).find? (fun e => e.1 == 113) = some (113, .iload 4, 0, 0) := rfl
theorem te_97_115 : (pT M_97).find? (fun e => e.1 == 115) = some (115, .ifCond .eq 91, 0, 0) := rfl
theorem te_97_118 : (pT M_97).find? (fun e => e.1 == 118) = some (118, .iload_n 2, 0, 0) := rfl
theorem te_97_119 : (pT M_97).find? (fun e => e.1 == 119) = some (119, .ifCond .eq 87, 0, 0) := rfl
theorem te_97_122 : (pT M_97).find? (fun e => e.1 == 122) = some (122, .iload 4, 0, 0) := rfl
theorem te_97_124 : (pT M_97).find? (fun e => e.1 == 124) = some (124, .iconst 1, 0, 0) := rfl
theorem te_97_125 : (pT M_97).find? (fun e => e.1 == 125) = some (125, .iload 5, 0, 0) := rfl
theorem te_97_127 : (pT M_97).find? (fun e => e.1 == 127) = some (127, .ishl, 0, 0) := rfl
theorem te_97_128 : (pT M_97).find? (fun e => e.1 == 128) = some (128, .iand, 0, 0) := rfl
theorem te_97_129 : (pT M_97).find? (fun e => e.1 == 129) = some (129, .ifCond .ne 6, 0, 0) := rfl
theorem te_97_132 : (pT M_97).find? (fun e => e.1 == 132) = some (132, .goto 68, 0, 0) := rfl
theorem te_97_135 : (pT M_97).find? (fun e => e.1 == 135) = some (135, .aload_n 0, 0, 0) := rfl
theorem te_97_136 : (pT M_97).find? (fun e => e.1 == 136) = some (136, .getfield 48, 6, 17) := rfl
theorem te_97_139 : (pT M_97).find? (fun e => e.1 == 139) = some (139, .iload_n 1, 0, 0) := rfl
theorem te_97_140 : (pT M_97).find? (fun e => e.1 == 140) = some (140, .iaload, 0, 0) := rfl
theorem te_97_141 : (pT M_97).find? (fun e => e.1 == 141) = some (141, .iconst 1, 0, 0) := rfl
theorem te_97_142 : (pT M_97).find? (fun e => e.1 == 142) = some (142, .iload 5, 0, 0) := rfl
theorem te_97_144 : (pT M_97).find? (fun e => e.1 == 144) = some (144, .ishl, 0, 0) := rfl
theorem te_97_145 : (pT M_97).find? (fun e => e.1 == 145) = some (145, .iand, 0, 0) := rfl
theorem te_97_146 : (pT M_97).find? (fun e => e.1 == 146) = some (146, .ifCond .eq 16, 0, 0) := rfl
theorem te_97_149 : (pT M_97).find? (fun e => e.1 == 149) = some (149, .iload_n 2, 0, 0) := rfl
theorem te_97_150 : (pT M_97).find? (fun e => e.1 == 150) = some (150, .aload_n 0, 0, 0) := rfl
theorem te_97_151 : (pT M_97).find? (fun e => e.1 == 151) = some (151, .iload_n 1, 0, 0) := rfl
theorem te_97_152 : (pT M_97).find? (fun e => e.1 == 152) = some (152, .iload 5, 0, 0) := rfl
theorem te_97_154 : (pT M_97).find? (fun e => e.1 == 154) = some (154, .invokevirtual 151, 99, 0) := rfl
theorem te_97_157 : (pT M_97).find? (fun e => e.1 == 157) = some (157, .iand, 0, 0) := rfl
theorem te_97_158 : (pT M_97).find? (fun e => e.1 == 158) = some (158, .istore_n 2, 0, 0) := rfl
theorem te_97_159 : (pT M_97).find? (fun e => e.1 == 159) = some (159, .goto 41, 0, 0) := rfl
theorem te_97_162 : (pT M_97).find? (fun e => e.1 == 162) = some (162, .iload 5, 0, 0) := rfl
theorem te_97_164 : (pT M_97).find? (fun e => e.1 == 164) = some (164, .iload_n 1, 0, 0) := rfl
theorem te_97_165 : (pT M_97).find? (fun e => e.1 == 165) = some (165, .if_icmp .ge 21, 0, 0) := rfl
theorem te_97_168 : (pT M_97).find? (fun e => e.1 == 168) = some (168, .iload_n 2, 0, 0) := rfl
theorem te_97_169 : (pT M_97).find? (fun e => e.1 == 169) = some (169, .aload_n 0, 0, 0) := rfl
theorem te_97_170 : (pT M_97).find? (fun e => e.1 == 170) = some (170, .getfield 109, 6, 2) := rfl
theorem te_97_173 : (pT M_97).find? (fun e => e.1 == 173) = some (173, .aload_n 0, 0, 0) := rfl
theorem te_97_174 : (pT M_97).find? (fun e => e.1 == 174) = some (174, .getfield 9, 6, 5) := rfl
theorem te_97_177 : (pT M_97).find? (fun e => e.1 == 177) = some (177, .iload 5, 0, 0) := rfl
theorem te_97_179 : (pT M_97).find? (fun e => e.1 == 179) = some (179, .iaload, 0, 0) := rfl
theorem te_97_180 : (pT M_97).find? (fun e => e.1 == 180) = some (180, .ishl, 0, 0) := rfl
theorem te_97_181 : (pT M_97).find? (fun e => e.1 == 181) = some (181, .iand, 0, 0) := rfl
theorem te_97_182 : (pT M_97).find? (fun e => e.1 == 182) = some (182, .istore_n 2, 0, 0) := rfl
theorem te_97_183 : (pT M_97).find? (fun e => e.1 == 183) = some (183, .goto 17, 0, 0) := rfl
theorem te_97_186 : (pT M_97).find? (fun e => e.1 == 186) = some (186, .iload_n 2, 0, 0) := rfl
theorem te_97_187 : (pT M_97).find? (fun e => e.1 == 187) = some (187, .iconst 2, 0, 0) := rfl
theorem te_97_188 : (pT M_97).find? (fun e => e.1 == 188) = some (188, .aload_n 0, 0, 0) := rfl
theorem te_97_189 : (pT M_97).find? (fun e => e.1 == 189) = some (189, .getfield 9, 6, 5) := rfl
theorem te_97_192 : (pT M_97).find? (fun e => e.1 == 192) = some (192, .iload 5, 0, 0) := rfl
theorem te_97_194 : (pT M_97).find? (fun e => e.1 == 194) = some (194, .iaload, 0, 0) := rfl
theorem te_97_195 : (pT M_97).find? (fun e => e.1 == 195) = some (195, .ishl, 0, 0) := rfl
theorem te_97_196 : (pT M_97).find? (fun e => e.1 == 196) = some (196, .iconst 1, 0, 0) := rfl
theorem te_97_197 : (pT M_97).find? (fun e => e.1 == 197) = some (197, .isub, 0, 0) := rfl
theorem te_97_198 : (pT M_97).find? (fun e => e.1 == 198) = some (198, .iand, 0, 0) := rfl
theorem te_97_199 : (pT M_97).find? (fun e => e.1 == 199) = some (199, .istore_n 2, 0, 0) := rfl
theorem te_97_200 : (pT M_97).find? (fun e => e.1 == 200) = some (200, .iinc 5 1, 0, 0) := rfl
theorem te_97_203 : (pT M_97).find? (fun e => e.1 == 203) = some (203, .goto (-99), 0, 0) := rfl
theorem te_97_206 : (pT M_97).find? (fun e => e.1 == 206) = some (206, .iload_n 2, 0, 0) := rfl
theorem te_97_207 : (pT M_97).find? (fun e => e.1 == 207) = some (207, .ireturn, 0, 0) := rfl
theorem te_98_0 : (pT M_98).find? (fun e => e.1 == 0) = some (0, .iload_n 1, 0, 0) := rfl
theorem te_98_1 : (pT M_98).find? (fun e => e.1 == 1) = some (1, .iload_n 2, 0, 0) := rfl
theorem te_98_2 : (pT M_98).find? (fun e => e.1 == 2) = some (2, .ishl, 0, 0) := rfl
theorem te_98_3 : (pT M_98).find? (fun e => e.1 == 3) = some (3, .iload_n 1, 0, 0) := rfl
theorem te_98_4 : (pT M_98).find? (fun e => e.1 == 4) = some (4, .aload_n 0, 0, 0) := rfl
theorem te_98_5 : (pT M_98).find? (fun e => e.1 == 5) = some (5, .getfield 103, 6, 1) := rfl
theorem te_98_8 : (pT M_98).find? (fun e => e.1 == 8) = some (8, .iload_n 2, 0, 0) := rfl
theorem te_98_9 : (pT M_98).find? (fun e => e.1 == 9) = some (9, .isub, 0, 0) := rfl
theorem te_98_10 : (pT M_98).find? (fun e => e.1 == 10) = some (10, .ishr, 0, 0) := rfl
theorem te_98_11 : (pT M_98).find? (fun e => e.1 == 11) = some (11, .ior, 0, 0) := rfl
theorem te_98_12 : (pT M_98).find? (fun e => e.1 == 12) = some (12, .aload_n 0, 0, 0) := rfl
theorem te_98_13 : (pT M_98).find? (fun e => e.1 == 13) = some (13, .getfield 109, 6, 2) := rfl
theorem te_98_16 : (pT M_98).find? (fun e => e.1 == 16) = some (16, .iand, 0, 0) := rfl
theorem te_98_17 : (pT M_98).find? (fun e => e.1 == 17) = some (17, .ireturn, 0, 0) := rfl
theorem te_99_0 : (pT M_99).find? (fun e => e.1 == 0) = some (0, .aload_n 0, 0, 0) := rfl
theorem te_99_1 : (pT M_99).find? (fun e => e.1 == 1) = some (1, .getfield 36, 6, 13) := rfl
theorem te_99_4 : (pT M_99).find? (fun e => e.1 == 4) = some (4, .iload_n 2, 0, 0) := rfl
theorem te_99_5 : (pT M_99).find? (fun e => e.1 == 5) = some (5, .bipush 8, 0, 0) := rfl
theorem te_99_7 : (pT M_99).find? (fun e => e.1 == 7) = some (7, .imul, 0, 0) := rfl
theorem te_99_8 : (pT M_99).find? (fun e => e.1 == 8) = some (8, .iload_n 1, 0, 0) := rfl
theorem te_99_9 : (pT M_99).find? (fun e => e.1 == 9) = some (9, .iadd, 0, 0) := rfl
theorem te_99_10 : (pT M_99).find? (fun e => e.1 == 10) = some (10, .iaload, 0, 0) := rfl
theorem te_99_11 : (pT M_99).find? (fun e => e.1 == 11) = some (11, .istore_n 3, 0, 0) := rfl
theorem te_99_12 : (pT M_99).find? (fun e => e.1 == 12) = some (12, .iconst 1, 0, 0) := rfl
theorem te_99_13 : (pT M_99).find? (fun e => e.1 == 13) = some (13, .aload_n 0, 0, 0) := rfl
theorem te_99_14 : (pT M_99).find? (fun e => e.1 == 14) = some (14, .getfield 36, 6, 13) := rfl
theorem te_99_17 : (pT M_99).find? (fun e => e.1 == 17) = some (17, .iload_n 1, 0, 0) := rfl
theorem te_99_18 : (pT M_99).find? (fun e => e.1 == 18) = some (18, .bipush 8, 0, 0) := rfl
theorem te_99_20 : (pT M_99).find? (fun e => e.1 == 20) = some (20, .imul, 0, 0) := rfl
theorem te_99_21 : (pT M_99).find? (fun e => e.1 == 21) = some (21, .iload_n 2, 0, 0) := rfl
theorem te_99_22 : (pT M_99).find? (fun e => e.1 == 22) = some (22, .iadd, 0, 0) := rfl
theorem te_99_23 : (pT M_99).find? (fun e => e.1 == 23) = some (23, .iaload, 0, 0) := rfl
theorem te_99_24 : (pT M_99).find? (fun e => e.1 == 24) = some (24, .isub, 0, 0) := rfl
theorem te_99_25 : (pT M_99).find? (fun e => e.1 == 25) = some (25, .iload_n 3, 0, 0) := rfl
theorem te_99_26 : (pT M_99).find? (fun e => e.1 == 26) = some (26, .isub, 0, 0) := rfl
theorem te_99_27 : (pT M_99).find? (fun e => e.1 == 27) = some (27, .istore 4, 0, 0) := rfl
theorem te_99_29 : (pT M_99).find? (fun e => e.1 == 29) = some (29, .iload 4, 0, 0) := rfl
theorem te_99_31 : (pT M_99).find? (fun e => e.1 == 31) = some (31, .aload_n 0, 0, 0) := rfl
theorem te_99_32 : (pT M_99).find? (fun e => e.1 == 32) = some (32, .getfield 103, 6, 1) := rfl
theorem te_99_35 : (pT M_99).find? (fun e => e.1 == 35) = some (35, .if_icmp .lt 8, 0, 0) := rfl
theorem te_99_38 : (pT M_99).find? (fun e => e.1 == 38) = some (38, .aload_n 0, 0, 0) := rfl
theorem te_99_39 : (pT M_99).find? (fun e => e.1 == 39) = some (39, .getfield 109, 6, 2) := rfl
theorem te_99_42 : (pT M_99).find? (fun e => e.1 == 42) = some (42, .ireturn, 0, 0) := rfl
theorem te_99_43 : (pT M_99).find? (fun e => e.1 == 43) = some (43, .aload_n 0, 0, 0) := rfl
theorem te_99_44 : (pT M_99).find? (fun e => e.1 == 44) = some (44, .getfield 9, 6, 5) := rfl
theorem te_99_47 : (pT M_99).find? (fun e => e.1 == 47) = some (47, .iload_n 2, 0, 0) := rfl
theorem te_99_48 : (pT M_99).find? (fun e => e.1 == 48) = some (48, .iaload, 0, 0) := rfl
theorem te_99_49 : (pT M_99).find? (fun e => e.1 == 49) = some (49, .iload_n 3, 0, 0) := rfl
theorem te_99_50 : (pT M_99).find? (fun e => e.1 == 50) = some (50, .iadd, 0, 0) := rfl
theorem te_99_51 : (pT M_99).find? (fun e => e.1 == 51) = some (51, .aload_n 0, 0, 0) := rfl
theorem te_99_52 : (pT M_99).find? (fun e => e.1 == 52) = some (52, .getfield 103, 6, 1) := rfl
theorem te_99_55 : (pT M_99).find? (fun e => e.1 == 55) = some (55, .invokestatic 154, 94, 2) := rfl
theorem te_99_58 : (pT M_99).find? (fun e => e.1 == 58) = some (58, .istore 5, 0, 0) := rfl
theorem te_99_60 : (pT M_99).find? (fun e => e.1 == 60) = some (60, .iload 4, 0, 0) := rfl
theorem te_99_62 : (pT M_99).find? (fun e => e.1 == 62) = some (62, .ifCond .gt 7, 0, 0) := rfl
theorem te_99_65 : (pT M_99).find? (fun e => e.1 == 65) = some (65, .iconst 0, 0, 0) := rfl
theorem te_99_66 : (pT M_99).find? (fun e => e.1 == 66) = some (66, .goto 9, 0, 0) := rfl
theorem te_99_69 : (pT M_99).find? (fun e => e.1 == 69) = some (69, .iconst 1, 0, 0) := rfl
theorem te_99_70 : (pT M_99).find? (fun e => e.1 == 70) = some (70, .iload 4, 0, 0) := rfl
theorem te_99_72 : (pT M_99).find? (fun e => e.1 == 72) = some (72, .ishl, 0, 0) := rfl
theorem te_99_73 : (pT M_99).find? (fun e => e.1 == 73) = some (73, .iconst 1, 0, 0) := rfl
theorem te_99_74 : (pT M_99).find? (fun e => e.1 == 74) = some (74, .isub, 0, 0) := rfl
theorem te_99_75 : (pT M_99).find? (fun e => e.1 == 75) = some (75, .istore 6, 0, 0) := rfl
theorem te_99_77 : (pT M_99).find? (fun e => e.1 == 77) = some (77, .iload 6, 0, 0) := rfl
theorem te_99_79 : (pT M_99).find? (fun e => e.1 == 79) = some (79, .iload 5, 0, 0) := rfl
theorem te_99_81 : (pT M_99).find? (fun e => e.1 == 81) = some (81, .ishl, 0, 0) := rfl
theorem te_99_82 : (pT M_99).find? (fun e => e.1 == 82) = some (82, .iload 6, 0, 0) := rfl
theorem te_99_84 : (pT M_99).find? (fun e => e.1 == 84) = some (84, .aload_n 0, 0, 0) := rfl
theorem te_99_85 : (pT M_99).find? (fun e => e.1 == 85) = some (85, .getfield 103, 6, 1) := rfl
theorem te_99_88 : (pT M_99).find? (fun e => e.1 == 88) = some (88, .iload 5, 0, 0) := rfl
theorem te_99_90 : (pT M_99).find? (fun e => e.1 == 90) = some (90, .isub, 0, 0) := rfl
theorem te_99_91 : (pT M_99).find? (fun e => e.1 == 91) = some (91, .ishr, 0, 0) := rfl
theorem te_99_92 : (pT M_99).find? (fun e => e.1 == 92) = some (92, .ior, 0, 0) := rfl
theorem te_99_93 : (pT M_99).find? (fun e => e.1 == 93) = some (93, .aload_n 0, 0, 0) := rfl
theorem te_99_94 : (pT M_99).find? (fun e => e.1 == 94) = some (94, .getfield 109, 6, 2) := rfl
theorem te_99_97 : (pT M_99).find? (fun e => e.1 == 97) = some (97, .iand, 0, 0) := rfl
theorem te_99_98 : (pT M_99).find? (fun e => e.1 == 98) = some (98, .ireturn, 0, 0) := rfl
theorem te_100_0 : (pT M_100).find? (fun e => e.1 == 0) = some (0, .iload_n 2, 0, 0) := rfl
theorem te_100_1 : (pT M_100).find? (fun e => e.1 == 1) = some (1, .invokestatic 142, 39, 2) := rfl
theorem te_100_4 : (pT M_100).find? (fun e => e.1 == 4) = some (4, .aload_n 0, 0, 0) := rfl
theorem te_100_5 : (pT M_100).find? (fun e => e.1 == 5) = some (5, .getfield 54, 6, 19) := rfl
theorem te_100_8 : (pT M_100).find? (fun e => e.1 == 8) = some (8, .iload_n 3, 0, 0) := rfl
theorem te_100_9 : (pT M_100).find? (fun e => e.1 == 9) = some (9, .iaload, 0, 0) := rfl
theorem te_100_10 : (pT M_100).find? (fun e => e.1 == 10) = some (10, .imul, 0, 0) := rfl
theorem te_100_11 : (pT M_100).find? (fun e => e.1 == 11) = some (11, .iload 4, 0, 0) := rfl
theorem te_100_13 : (pT M_100).find? (fun e => e.1 == 13) = some (13, .invokestatic 142, 39, 2) := rfl
theorem te_100_16 : (pT M_100).find? (fun e => e.1 == 16) = some (16, .aload_n 0, 0, 0) := rfl
theorem te_100_17 : (pT M_100).find? (fun e => e.1 == 17) = some (17, .getfield 54, 6, 19) := rfl
theorem te_100_20 : (pT M_100).find? (fun e => e.1 == 20) = some (20, .iload_n 1, 0, 0) := rfl
theorem te_100_21 : (pT M_100).find? (fun e => e.1 == 21) = some (21, .iaload, 0, 0) := rfl
theorem te_100_22 : (pT M_100).find? (fun e => e.1 == 22) = some (22, .imul, 0, 0) := rfl
theorem te_100_23 : (pT M_100).find? (fun e => e.1 == 23) = some (23, .if_icmp .ge 7, 0, 0) := rfl
theorem te_100_26 : (pT M_100).find? (fun e => e.1 == 26) = some (26, .iconst 1, 0, 0) := rfl
theorem te_100_27 : (pT M_100).find? (fun e => e.1 == 27) = some (27, .goto 4, 0, 0) := rfl
theorem te_100_30 : (pT M_100).find? (fun e => e.1 == 30) = some (30, .iconst 0, 0, 0) := rfl
theorem te_100_31 : (pT M_100).find? (fun e => e.1 == 31) = some (31, .ireturn, 0, 0) := rfl
theorem te_101_0 : (pT M_101).find? (fun e => e.1 == 0) = some (0, .iconst 0, 0, 0) := rfl
theorem te_101_1 : (pT M_101).find? (fun e => e.1 == 1) = some (1, .istore_n 1, 0, 0) := rfl
theorem te_101_2 : (pT M_101).find? (fun e => e.1 == 2) = some (2, .iload_n 1, 0, 0) := rfl
theorem te_101_3 : (pT M_101).find? (fun e => e.1 == 3) = some (3, .aload_n 0, 0, 0) := rfl
theorem te_101_4 : (pT M_101).find? (fun e => e.1 == 4) = some (4, .getfield 70, 6, 0) := rfl
theorem te_101_7 : (pT M_101).find? (fun e => e.1 == 7) = some (7, .if_icmp .ge 32, 0, 0) := rfl
theorem te_101_10 : (pT M_101).find? (fun e => e.1 == 10) = some (10, .aload_n 0, 0, 0) := rfl
theorem te_101_11 : (pT M_101).find? (fun e => e.1 == 11) = some (11, .getfield 74, 6, 3) := rfl
theorem te_101_14 : (pT M_101).find? (fun e => e.1 == 14) = some (14, .iconst 1, 0, 0) := rfl
theorem te_101_15 : (pT M_101).find? (fun e => e.1 == 15) = some (15, .iload_n 1, 0, 0) := rfl
theorem te_101_16 : (pT M_101).find? (fun e => e.1 == 16) = some (16, .ishl, 0, 0) := rfl
theorem te_101_17 : (pT M_101).find? (fun e => e.1 == 17) = some (17, .iand, 0, 0) := rfl
theorem te_101_18 : (pT M_101).find? (fun e => e.1 == 18) = some (18, .ifCond .eq 15, 0, 0) := rfl
theorem te_101_21 : (pT M_101).find? (fun e => e.1 == 21) = some (21, .aload_n 0, 0, 0) := rfl
theorem te_101_22 : (pT M_101).find? (fun e => e.1 == 22) = some (22, .getfield 15, 6, 6) := rfl
theorem te_101_25 : (pT M_101).find? (fun e => e.1 == 25) = some (25, .iload_n 1, 0, 0) := rfl
theorem te_101_26 : (pT M_101).find? (fun e => e.1 == 26) = some (26, .aload_n 0, 0, 0) := rfl
theorem te_101_27 : (pT M_101).find? (fun e => e.1 == 27) = some (27, .getfield 9, 6, 5) := rfl
theorem te_101_30 : (pT M_101).find? (fun e => e.1 == 30) = some (30, .iload_n 1, 0, 0) := rfl
theorem te_101_31 : (pT M_101).find? (fun e => e.1 == 31) = some (31, .iaload, 0, 0) := rfl
theorem te_101_32 : (pT M_101).find? (fun e => e.1 == 32) = some (32, .iastore, 0, 0) := rfl
theorem te_101_33 : (pT M_101).find? (fun e => e.1 == 33) = some (33, .iinc 1 1, 0, 0) := rfl
theorem te_101_36 : (pT M_101).find? (fun e => e.1 == 36) = some (36, .goto (-34), 0, 0) := rfl
theorem te_101_39 : (pT M_101).find? (fun e => e.1 == 39) = some (39, .return_, 0, 0) := rfl
theorem te_102_0 : (pT M_102).find? (fun e => e.1 == 0) = some (0, .aload_n 0, 0, 0) := rfl
theorem te_102_1 : (pT M_102).find? (fun e => e.1 == 1) = some (1, .getfield 33, 6, 12) := rfl
theorem te_102_4 : (pT M_102).find? (fun e => e.1 == 4) = some (4, .iload_n 1, 0, 0) := rfl
theorem te_102_5 : (pT M_102).find? (fun e => e.1 == 5) = some (5, .iconst 4, 0, 0) := rfl
theorem te_102_6 : (pT M_102).find? (fun e => e.1 == 6) = some (6, .imul, 0, 0) := rfl
theorem te_102_7 : (pT M_102).find? (fun e => e.1 == 7) = some (7, .aload_n 0, 0, 0) := rfl
theorem te_102_8 : (pT M_102).find? (fun e => e.1 == 8) = some (8, .getfield 30, 6, 11) := rfl
theorem te_102_11 : (pT M_102).find? (fun e => e.1 == 11) = some (11, .aload_n 0, 0, 0) := rfl
theorem te_102_12 : (pT M_102).find? (fun e => e.1 == 12) = some (12, .getfield 18, 6, 7) := rfl
theorem te_102_15 : (pT M_102).find? (fun e => e.1 == 15) = some (15, .iload_n 1, 0, 0) := rfl
theorem te_102_16 : (pT M_102).find? (fun e => e.1 == 16) = some (16, .iaload, 0, 0) := rfl
theorem te_102_17 : (pT M_102).find? (fun e => e.1 == 17) = some (17, .iconst 4, 0, 0) := rfl
theorem te_102_18 : (pT M_102).find? (fun e => e.1 == 18) = some (18, .imul, 0, 0) := rfl
theorem te_102_19 : (pT M_102).find? (fun e => e.1 == 19) = some (19, .iconst 4, 0, 0) := rfl
theorem te_102_20 : (pT M_102).find? (fun e => e.1 == 20) = some (20, .invokestatic 125, 0, 7) := rfl
theorem te_102_23 : (pT M_102).find? (fun e => e.1 == 23) = some (23, .aload_n 0, 0, 0) := rfl
theorem te_102_24 : (pT M_102).find? (fun e => e.1 == 24) = some (24, .dup, 0, 0) := rfl
theorem te_102_25 : (pT M_102).find? (fun e => e.1 == 25) = some (25, .getfield 97, 6, 4) := rfl
theorem te_102_28 : (pT M_102).find? (fun e => e.1 == 28) = some (28, .iconst 1, 0, 0) := rfl
theorem te_102_29 : (pT M_102).find? (fun e => e.1 == 29) = some (29, .iload_n 1, 0, 0) := rfl
theorem te_102_30 : (pT M_102).find? (fun e => e.1 == 30) = some (30, .ishl, 0, 0) := rfl
theorem te_102_31 : (pT M_102).find? (fun e => e.1 == 31) = some (31, .iconst (-1), 0, 0) := rfl
theorem te_102_32 : (pT M_102).find? (fun e => e.1 == 32) = some (32, .ixor, 0, 0) := rfl
theorem te_102_33 : (pT M_102).find? (fun e => e.1 == 33) = some (33, .iand, 0, 0) := rfl
theorem te_102_34 : (pT M_102).find? (fun e => e.1 == 34) = some (34, .putfield 97, 6, 4) := rfl
theorem te_102_37 : (pT M_102).find? (fun e => e.1 == 37) = some (37, .aload_n 0, 0, 0) := rfl
theorem te_102_38 : (pT M_102).find? (fun e => e.1 == 38) = some (38, .iload_n 1, 0, 0) := rfl
theorem te_102_39 : (pT M_102).find? (fun e => e.1 == 39) = some (39, .invokevirtual 159, 92, 0) := rfl
theorem te_102_42 : (pT M_102).find? (fun e => e.1 == 42) = some (42, .ifCond .eq 21, 0, 0) := rfl
theorem te_102_45 : (pT M_102).find? (fun e => e.1 == 45) = some (45, .aload_n 0, 0, 0) := rfl
theorem te_102_46 : (pT M_102).find? (fun e => e.1 == 46) = some (46, .getfield 39, 6, 14) := rfl
theorem te_102_49 : (pT M_102).find? (fun e => e.1 == 49) = some (49, .iload_n 1, 0, 0) := rfl
theorem te_102_50 : (pT M_102).find? (fun e => e.1 == 50) = some (50, .bipush 64, 0, 0) := rfl
theorem te_102_52 : (pT M_102).find? (fun e => e.1 == 52) = some (52, .imul, 0, 0) := rfl
theorem te_102_53 : (pT M_102).find? (fun e => e.1 == 53) = some (53, .aload_n 0, 0, 0) := rfl
theorem te_102_54 : (pT M_102).find? (fun e => e.1 == 54) = some (54, .getfield 36, 6, 13) := rfl
theorem te_102_57 : (pT M_102).find? (fun e => e.1 == 57) = some (57, .iconst 0, 0, 0) := rfl
theorem te_102_58 : (pT M_102).find? (fun e => e.1 == 58) = some (58, .bipush 64, 0, 0) := rfl
theorem te_102_60 : (pT M_102).find? (fun e => e.1 == 60) = some (60, .invokestatic 125, 0, 7) := rfl
theorem te_102_63 : (pT M_102).find? (fun e => e.1 == 63) = some (63, .return_, 0, 0) := rfl
theorem te_104_0 : (pT M_104).find? (fun e => e.1 == 0) = some (0, .aload_n 1, 0, 0) := rfl
theorem te_104_1 : (pT M_104).find? (fun e => e.1 == 1) = some (1, .iconst 0, 0, 0) := rfl
theorem te_104_2 : (pT M_104).find? (fun e => e.1 == 2) = some (2, .aload_n 0, 0, 0) := rfl
theorem te_104_3 : (pT M_104).find? (fun e => e.1 == 3) = some (3, .getfield 36, 6, 13) := rfl
theorem te_104_6 : (pT M_104).find? (fun e => e.1 == 6) = some (6, .iconst 0, 0, 0) := rfl
theorem te_104_7 : (pT M_104).find? (fun e => e.1 == 7) = some (7, .bipush 64, 0, 0) := rfl
theorem te_104_9 : (pT M_104).find? (fun e => e.1 == 9) = some (9, .invokestatic 125, 0, 7) := rfl
theorem te_104_12 : (pT M_104).find? (fun e => e.1 == 12) = some (12, .iconst 0, 0, 0) := rfl
theorem te_104_13 : (pT M_104).find? (fun e => e.1 == 13) = some (13, .istore_n 2, 0, 0) := rfl
theorem te_104_14 : (pT M_104).find? (fun e => e.1 == 14) = some (14, .iload_n 2, 0, 0) := rfl
theorem te_104_15 : (pT M_104).find? (fun e => e.1 == 15) = some (15, .aload_n 0, 0, 0) := rfl
theorem te_104_16 : (pT M_104).find? (fun e => e.1 == 16) = some (16, .getfield 70, 6, 0) := rfl
theorem te_104_19 : (pT M_104).find? (fun e => e.1 == 19) = some (19, .if_icmp .ge 93, 0, 0) := rfl
theorem te_104_22 : (pT M_104).find? (fun e => e.1 == 22) = some (22, .aload_n 0, 0, 0) := rfl
theorem te_104_23 : (pT M_104).find? (fun e => e.1 == 23) = some (23, .getfield 48, 6, 17) := rfl
theorem te_104_26 : (pT M_104).find? (fun e => e.1 == 26) = some (26, .iload_n 2, 0, 0) := rfl
theorem te_104_27 : (pT M_104).find? (fun e => e.1 == 27) = some (27, .iconst 0, 0, 0) := rfl
theorem te_104_28 : (pT M_104).find? (fun e => e.1 == 28) = some (28, .iastore, 0, 0) := rfl
theorem te_104_29 : (pT M_104).find? (fun e => e.1 == 29) = some (29, .iconst 0, 0, 0) := rfl
theorem te_104_30 : (pT M_104).find? (fun e => e.1 == 30) = some (30, .istore_n 3, 0, 0) := rfl
theorem te_104_31 : (pT M_104).find? (fun e => e.1 == 31) = some (31, .iload_n 3, 0, 0) := rfl
theorem te_104_32 : (pT M_104).find? (fun e => e.1 == 32) = some (32, .aload_n 0, 0, 0) := rfl
theorem te_104_33 : (pT M_104).find? (fun e => e.1 == 33) = some (33, .getfield 70, 6, 0) := rfl
theorem te_104_36 : (pT M_104).find? (fun e => e.1 == 36) = some (36, .if_icmp .ge 70, 0, 0) := rfl
theorem te_104_39 : (pT M_104).find? (fun e => e.1 == 39) = some (39, .aload_n 0, 0, 0) := rfl
theorem te_104_40 : (pT M_104).find? (fun e => e.1 == 40) = some (40, .getfield 36, 6, 13) := rfl
theorem te_104_43 : (pT M_104).find? (fun e => e.1 == 43) = some (43, .iload_n 2, 0, 0) := rfl
theorem te_104_44 : (pT M_104).find? (fun e => e.1 == 44) = some (44, .bipush 8, 0, 0) := rfl
theorem te_104_46 : (pT M_104).find? (fun e => e.1 == 46) = some (46, .imul, 0, 0) := rfl
theorem te_104_47 : (pT M_104).find? (fun e => e.1 == 47) = some (47, .iload_n 3, 0, 0) := rfl
theorem te_104_48 : (pT M_104).find? (fun e => e.1 == 48) = some (48, .iadd, 0, 0) := rfl
theorem te_104_49 : (pT M_104).find? (fun e => e.1 == 49) = some (49, .iaload, 0, 0) := rfl
theorem te_104_50 : (pT M_104).find? (fun e => e.1 == 50) = some (50, .ldc 131, 5, 0) := rfl
theorem te_104_52 : (pT M_104).find? (fun e => e.1 == 52) = some (52, .if_icmp .eq 7, 0, 0) := rfl
theorem te_104_55 : (pT M_104).find? (fun e => e.1 == 55) = some (55, .iconst 1, 0, 0) := rfl
theorem te_104_56 : (pT M_104).find? (fun e => e.1 == 56) = some (56, .goto 4, 0, 0) := rfl
theorem te_104_59 : (pT M_104).find? (fun e => e.1 == 59) = some (59, .iconst 0, 0, 0) := rfl
theorem te_104_60 : (pT M_104).find? (fun e => e.1 == 60) = some (60, .istore 4, 0, 0) := rfl
theorem te_104_62 : (pT M_104).find? (fun e => e.1 == 62) = some (62, .iload_n 3, 0, 0) := rfl
theorem te_104_63 : (pT M_104).find? (fun e => e.1 == 63) = some (63, .iload_n 2, 0, 0) := rfl
theorem te_104_64 : (pT M_104).find? (fun e => e.1 == 64) = some (64, .if_icmp .eq 36, 0, 0) := rfl
theorem te_104_67 : (pT M_104).find? (fun e => e.1 == 67) = some (67, .iload 4, 0, 0) := rfl
theorem te_104_69 : (pT M_104).find? (fun e => e.1 == 69) = some (69, .ifCond .eq 31, 0, 0) := rfl
theorem te_104_72 : (pT M_104).find? (fun e => e.1 == 72) = some (72, .aload_n 0, 0, 0) := rfl
theorem te_104_73 : (pT M_104).find? (fun e => e.1 == 73) = some (73, .getfield 36, 6, 13) := rfl
theorem te_104_76 : (pT M_104).find? (fun e => e.1 == 76) = some (76, .iload_n 3, 0, 0) := rfl
theorem te_104_77 : (pT M_104).find? (fun e => e.1 == 77) = some (77, .bipush 8, 0, 0) := rfl
theorem te_104_79 : (pT M_104).find? (fun e => e.1 == 79) = some (79, .imul, 0, 0) := rfl
theorem te_104_80 : (pT M_104).find? (fun e => e.1 == 80) = some (80, .iload_n 2, 0, 0) := rfl
theorem te_104_81 : (pT M_104).find? (fun e => e.1 == 81) = some (81, .iadd, 0, 0) := rfl
theorem te_104_82 : (pT M_104).find? (fun e => e.1 == 82) = some (82, .iaload, 0, 0) := rfl
theorem te_104_83 : (pT M_104).find? (fun e => e.1 == 83) = some (83, .ldc 131, 5, 0) := rfl
theorem te_104_85 : (pT M_104).find? (fun e => e.1 == 85) = some (85, .if_icmp .eq 15, 0, 0) := rfl
theorem te_104_88 : (pT M_104).find? (fun e => e.1 == 88) = some (88, .aload_n 0, 0, 0) := rfl
theorem te_104_89 : (pT M_104).find? (fun e => e.1 == 89) = some (89, .getfield 48, 6, 17) := rfl
theorem te_104_92 : (pT M_104).find? (fun e => e.1 == 92) = some (92, .iload_n 2, 0, 0) := rfl
theorem te_104_93 : (pT M_104).find? (fun e => e.1 == 93) = some (93, .dup2, 0, 0) := rfl
theorem te_104_94 : (pT M_104).find? (fun e => e.1 == 94) = some (94, .iaload, 0, 0) := rfl
theorem te_104_95 : (pT M_104).find? (fun e => e.1 == 95) = some (95, .iconst 1, 0, 0) := rfl
theorem te_104_96 : (pT M_104).find? (fun e => e.1 == 96) = some (96, .iload_n 3, 0, 0) := rfl
theorem te_104_97 : (pT M_104).find? (fun e => e.1 == 97) = some (97, .ishl, 0, 0) := rfl
theorem te_104_98 : (pT M_104).find? (fun e => e.1 == 98) = some (98, .ior, 0, 0) := rfl
theorem te_104_99 : (pT M_104).find? (fun e => e.1 == 99) = some (99, .iastore, 0, 0) := rfl
theorem te_104_100 : (pT M_104).find? (fun e => e.1 == 100) = some (100, .iinc 3 1, 0, 0) := rfl
theorem te_104_103 : (pT M_104).find? (fun e => e.1 == 103) = some (103, .goto (-72), 0, 0) := rfl
theorem te_104_106 : (pT M_104).find? (fun e => e.1 == 106) = some (106, .iinc 2 1, 0, 0) := rfl
theorem te_104_109 : (pT M_104).find? (fun e => e.1 == 109) = some (109, .goto (-95), 0, 0) := rfl
theorem te_104_112 : (pT M_104).find? (fun e => e.1 == 112) = some (112, .return_, 0, 0) := rfl
theorem te_105_0 : (pT M_105).find? (fun e => e.1 == 0) = some (0, .iconst 1, 0, 0) := rfl
theorem te_105_1 : (pT M_105).find? (fun e => e.1 == 1) = some (1, .iload_n 1, 0, 0) := rfl
theorem te_105_2 : (pT M_105).find? (fun e => e.1 == 2) = some (2, .ishl, 0, 0) := rfl
theorem te_105_3 : (pT M_105).find? (fun e => e.1 == 3) = some (3, .istore_n 2, 0, 0) := rfl
theorem te_105_4 : (pT M_105).find? (fun e => e.1 == 4) = some (4, .iconst 0, 0, 0) := rfl
theorem te_105_5 : (pT M_105).find? (fun e => e.1 == 5) = some (5, .istore_n 3, 0, 0) := rfl
theorem te_105_6 : (pT M_105).find? (fun e => e.1 == 6) = some (6, .iconst 0, 0, 0) := rfl
theorem te_105_7 : (pT M_105).find? (fun e => e.1 == 7) = some (7, .istore 4, 0, 0) := rfl
theorem te_105_9 : (pT M_105).find? (fun e => e.1 == 9) = some (9, .iload 4, 0, 0) := rfl
theorem te_105_11 : (pT M_105).find? (fun e => e.1 == 11) = some (11, .bipush 8, 0, 0) := rfl
theorem te_105_13 : (pT M_105).find? (fun e => e.1 == 13) = some (13, .if_icmp .ge 66, 0, 0) := rfl
theorem te_105_16 : (pT M_105).find? (fun e => e.1 == 16) = some (16, .iload_n 2, 0, 0) := rfl
theorem te_105_17 : (pT M_105).find? (fun e => e.1 == 17) = some (17, .iload_n 3, 0, 0) := rfl
theorem te_105_18 : (pT M_105).find? (fun e => e.1 == 18) = some (18, .if_icmp .eq 61, 0, 0) := rfl
theorem te_105_21 : (pT M_105).find? (fun e => e.1 == 21) = some (21, .iload_n 2, 0, 0) := rfl
theorem te_105_22 : (pT M_105).find? (fun e => e.1 == 22) = some (22, .istore_n 3, 0, 0) := rfl
theorem te_105_23 : (pT M_105).find? (fun e => e.1 == 23) = some (23, .iconst 0, 0, 0) := rfl
theorem te_105_24 : (pT M_105).find? (fun e => e.1 == 24) = some (24, .istore 5, 0, 0) := rfl
theorem te_105_26 : (pT M_105).find? (fun e => e.1 == 26) = some (26, .iload 5, 0, 0) := rfl
theorem te_105_28 : (pT M_105).find? (fun e => e.1 == 28) = some (28, .aload_n 0, 0, 0) := rfl
theorem te_105_29 : (pT M_105).find? (fun e => e.1 == 29) = some (29, .getfield 70, 6, 0) := rfl
theorem te_105_32 : (pT M_105).find? (fun e => e.1 == 32) = some (32, .if_icmp .ge 41, 0, 0) := rfl
theorem te_105_35 : (pT M_105).find? (fun e => e.1 == 35) = some (35, .iload_n 2, 0, 0) := rfl
theorem te_105_36 : (pT M_105).find? (fun e => e.1 == 36) = some (36, .iconst 1, 0, 0) := rfl
theorem te_105_37 : (pT M_105).find? (fun e => e.1 == 37) = some (37, .iload 5, 0, 0) := rfl
theorem te_105_39 : (pT M_105).find? (fun e => e.1 == 39) = some (39, .ishl, 0, 0) := rfl
theorem te_105_40 : (pT M_105).find? (fun e => e.1 == 40) = some (40, .iand, 0, 0) := rfl
theorem te_105_41 : (pT M_105).find? (fun e => e.1 == 41) = some (41, .ifCond .eq 26, 0, 0) := rfl
theorem te_105_44 : (pT M_105).find? (fun e => e.1 == 44) = some (44, .iload_n 2, 0, 0) := rfl
theorem te_105_45 : (pT M_105).find? (fun e => e.1 == 45) = some (45, .aload_n 0, 0, 0) := rfl
theorem te_105_46 : (pT M_105).find? (fun e => e.1 == 46) = some (46, .getfield 48, 6, 17) := rfl
theorem te_105_49 : (pT M_105).find? (fun e => e.1 == 49) = some (49, .iload 5, 0, 0) := rfl
theorem te_105_51 : (pT M_105).find? (fun e => e.1 == 51) = some (51, .iaload, 0, 0) := rfl
theorem te_105_52 : (pT M_105).find? (fun e => e.1 == 52) = some (52, .aload_n 0, 0, 0) := rfl
theorem te_105_53 : (pT M_105).find? (fun e => e.1 == 53) = some (53, .getfield 24, 6, 9) := rfl
theorem te_105_56 : (pT M_105).find? (fun e => e.1 == 56) = some (56, .aload_n 0, 0, 0) := rfl
theorem te_105_57 : (pT M_105).find? (fun e => e.1 == 57) = some (57, .getfield 18, 6, 7) := rfl
theorem te_105_60 : (pT M_105).find? (fun e => e.1 == 60) = some (60, .iload 5, 0, 0) := rfl
theorem te_105_62 : (pT M_105).find? (fun e => e.1 == 62) = some (62, .iaload, 0, 0) := rfl
theorem te_105_63 : (pT M_105).find? (fun e => e.1 == 63) = some (63, .iaload, 0, 0) := rfl
theorem te_105_64 : (pT M_105).find? (fun e => e.1 == 64) = some (64, .ior, 0, 0) := rfl
theorem te_105_65 : (pT M_105).find? (fun e => e.1 == 65) = some (65, .ior, 0, 0) := rfl
theorem te_105_66 : (pT M_105).find? (fun e => e.1 == 66) = some (66, .istore_n 2, 0, 0) := rfl
theorem te_105_67 : (pT M_105).find? (fun e => e.1 == 67) = some (67, .iinc 5 1, 0, 0) := rfl
theorem te_105_70 : (pT M_105).find? (fun e => e.1 == 70) = some (70, .goto (-44), 0, 0) := rfl
theorem te_105_73 : (pT M_105).find? (fun e => e.1 == 73) = some (73, .iinc 4 1, 0, 0) := rfl
theorem te_105_76 : (pT M_105).find? (fun e => e.1 == 76) = some (76, .goto (-67), 0, 0) := rfl
theorem te_105_79 : (pT M_105).find? (fun e => e.1 == 79) = some (79, .iload_n 2, 0, 0) := rfl
theorem te_105_80 : (pT M_105).find? (fun e => e.1 == 80) = some (80, .ireturn, 0, 0) := rfl
theorem f_90 {S : Nat × (Nat → Int32)} {n : Nat} {mem : MM} {K : Int → MM → Prop} {E : Nat → MM → Prop} {d : Int} (hS : SkO mem d) {a b : Int} (ha : 0 ≤ a ∧ a < 8) (hb : 0 ≤ b ∧ b < 8) (H : ∀ r, r = 0 ∨ r = 1 → K r mem) : CQI (Ex S (n + 1)) 90 [.inr 21, .inl a, .inl b] mem K E := by
  refine CY.of (k := 1) mt_90 rfl rfl (fun hv => ?_)
  have hC := Ex.mono S n
  have ii_a : InI a := hv (.inl a) (by simp)
  unfold InI at ii_a
  have ii_b : InI b := hv (.inl b) (by simp)
  unfold InI at ii_b
  clear hv
  have hs0 := hS.1
  have hs1 := hS.2.1
  show Tx (Ex S n) S M_90 (kI K E) 0 0 0 [some (.inr 21), some (.inl a), some (.inl b), none] [] mem
  have l_37 : ∀ (N : Nat) (x3 : Int), (0 ≤ x3) → ((4 - x3).toNat) < N → Tx (Ex S n) S M_90 (kI K E) 0 0 37 [some (.inr 21), some (.inl a), some (.inl b), some (.inl x3)] [] mem := by
    intro N
    induction N with
    | zero => intros; omega
    | succ N ih_37 =>
      intro x3 i37_0 hN_37 
      refine Tx.iload_n hC te_90_37 rfl ?_
      refine Tx.iconst hC te_90_38 rfl ?_
      refine Tx.icmp hC (t := 73) te_90_39 (by decide) (fun q1 => ?_) (fun q1 => ?_)
      · replace q1 : 4 ≤ (x3 : Int) := q1
        refine Tx.iconst hC te_90_73 rfl ?_
        exact Tx.bret hC te_90_74 rfl (by omega) (show K 1 mem from H _ (by omega))
      · replace q1 : ¬ (4 ≤ (x3 : Int)) := q1
        refine Tx.aload_n hC te_90_42 rfl ?_
        refine Tx.getR hC te_90_43 rfl rfl rfl ?_
        refine Tx.iload_n hC te_90_46 rfl ?_
        refine Tx.iconst hC te_90_47 rfl ?_
        refine Tx.imulW hC te_90_48 (fun z2 z2i z2e => ?_)
        unfold InI at z2i z2e
        first | replace z2e := z2e (by omega) | clear z2e
        refine Tx.iload_n hC te_90_49 rfl ?_
        refine Tx.iaddW hC te_90_50 (fun z3 z3i z3e => ?_)
        unfold InI at z3i z3e
        first | replace z3e := z3e (by omega) | clear z3e
        refine Tx.iald hC te_90_51 rfl (by omega) (fun v4 v4e v4i => ?_)
        unfold InI at v4i
        refine Tx.aload_n hC te_90_52 rfl ?_
        refine Tx.getR hC te_90_53 rfl rfl rfl ?_
        refine Tx.iload_n hC te_90_56 rfl ?_
        refine Tx.iconst hC te_90_57 rfl ?_
        refine Tx.imulW hC te_90_58 (fun z5 z5i z5e => ?_)
        unfold InI at z5i z5e
        first | replace z5e := z5e (by omega) | clear z5e
        refine Tx.iload_n hC te_90_59 rfl ?_
        refine Tx.iaddW hC te_90_60 (fun z6 z6i z6e => ?_)
        unfold InI at z6i z6e
        first | replace z6e := z6e (by omega) | clear z6e
        refine Tx.iald hC te_90_61 rfl (by omega) (fun v7 v7e v7i => ?_)
        unfold InI at v7i
        refine Tx.icmp hC (t := 67) te_90_62 (by decide) (fun q8 => ?_) (fun q8 => ?_)
        · replace q8 : (v4 : Int) = v7 := q8
          refine Tx.iincW hC te_90_67 rfl rfl (fun z9 z9i z9e => ?_)
          unfold InI at z9i z9e
          first | replace z9e := z9e (by omega) | clear z9e
          refine Tx.goto hC (t := 37) te_90_70 (by decide) ?_
          exact ih_37 z9 (by omega) (by omega)
        · replace q8 : ¬ ((v4 : Int) = v7) := q8
          refine Tx.iconst hC te_90_65 rfl ?_
          exact Tx.bret hC te_90_66 rfl (by omega) (show K 0 mem from H _ (by omega))
  refine Tx.aload_n hC te_90_0 rfl ?_
  refine Tx.getR hC te_90_1 rfl rfl rfl ?_
  refine Tx.iload_n hC te_90_4 rfl ?_
  refine Tx.iald hC te_90_5 rfl (by omega) (fun v10 v10e v10i => ?_)
  unfold InI at v10i
  refine Tx.ifc hC (t := 33) te_90_6 (by decide) (fun q11 => ?_) (fun q11 => ?_)
  · replace q11 : ¬ (v10 : Int) = 0 := q11
    refine Tx.iconst hC te_90_33 rfl ?_
    exact Tx.bret hC te_90_34 rfl (by omega) (show K 0 mem from H _ (by omega))
  · replace q11 : ¬ (¬ (v10 : Int) = 0) := q11
    refine Tx.aload_n hC te_90_9 rfl ?_
    refine Tx.getR hC te_90_10 rfl rfl rfl ?_
    refine Tx.iload_n hC te_90_13 rfl ?_
    refine Tx.iald hC te_90_14 rfl (by omega) (fun v12 v12e v12i => ?_)
    unfold InI at v12i
    refine Tx.ifc hC (t := 33) te_90_15 (by decide) (fun q13 => ?_) (fun q13 => ?_)
    · replace q13 : ¬ (v12 : Int) = 0 := q13
      refine Tx.iconst hC te_90_33 rfl ?_
      exact Tx.bret hC te_90_34 rfl (by omega) (show K 0 mem from H _ (by omega))
    · replace q13 : ¬ (¬ (v12 : Int) = 0) := q13
      refine Tx.aload_n hC te_90_18 rfl ?_
      refine Tx.getR hC te_90_19 rfl rfl rfl ?_
      refine Tx.iload_n hC te_90_22 rfl ?_
      refine Tx.iald hC te_90_23 rfl (by omega) (fun v14 v14e v14i => ?_)
      unfold InI at v14i
      have f15 := hS.2.2.1 (Int.toNat a) (by omega)
      refine Tx.aload_n hC te_90_24 rfl ?_
      refine Tx.getR hC te_90_25 rfl rfl rfl ?_
      refine Tx.iload_n hC te_90_28 rfl ?_
      refine Tx.iald hC te_90_29 rfl (by omega) (fun v16 v16e v16i => ?_)
      unfold InI at v16i
      have f17 := hS.2.2.1 (Int.toNat b) (by omega)
      refine Tx.icmp hC (t := 35) te_90_30 (by decide) (fun q18 => ?_) (fun q18 => ?_)
      · replace q18 : (v14 : Int) = v16 := q18
        refine Tx.iconst hC te_90_35 rfl ?_
        refine Tx.istore_n hC te_90_36 rfl ?_
        exact l_37 _ 0 (by omega) (Nat.lt_succ_self _)
      · replace q18 : ¬ ((v14 : Int) = v16) := q18
        refine Tx.iconst hC te_90_33 rfl ?_
        exact Tx.bret hC te_90_34 rfl (by omega) (show K 0 mem from H _ (by omega))
theorem f_92 {S : Nat × (Nat → Int32)} {n : Nat} {mem : MM} {K : Int → MM → Prop} {E : Nat → MM → Prop}  {o : Int} (ho : 0 ≤ o ∧ o < 8) (H : ∀ r, r = 0 ∨ r = 1 → K r mem) : CQI (Ex S (n + 2)) 92 [.inr 21, .inl o] mem K E := by
  refine CY.of (k := 0) mt_92 rfl rfl (fun hv => ?_)
  have hC := Ex.mono S (n + 1)
  have ii_o : InI o := hv (.inl o) (by simp)
  unfold InI at ii_o
  clear hv
  show Tx (Ex S (n + 1)) S M_92 (kI K E) 0 0 0 [some (.inr 21), some (.inl o)] [] mem
  refine Tx.aload_n hC te_92_0 rfl ?_
  refine Tx.getR hC te_92_1 rfl rfl rfl ?_
  refine Tx.iload_n hC te_92_4 rfl ?_
  refine Tx.iald hC te_92_5 rfl (by omega) (fun v1 v1e v1i => ?_)
  unfold InI at v1i
  refine Tx.statI hC te_92_6 (by decide) mt_39 (args := [.inl v1]) (rest := []) (c' := 0) (s' := 0) rfl rfl rfl rfl rfl rfl rfl ?_
  refine f_39 (fun r2 r2i => ?_)
  unfold InI at r2i
  refine Tx.iconst hC te_92_9 rfl ?_
  refine Tx.icmp hC (t := 17) te_92_10 (by decide) (fun q5 => ?_) (fun q5 => ?_)
  · replace q5 : (r2 : Int) < 2 := q5
    refine Tx.iconst hC te_92_17 rfl ?_
    exact Tx.bret hC te_92_18 rfl (by omega) (show K 0 mem from H _ (by omega))
  · replace q5 : ¬ ((r2 : Int) < 2) := q5
    refine Tx.iconst hC te_92_13 rfl ?_
    refine Tx.goto hC (t := 18) te_92_14 (by decide) ?_
    exact Tx.bret hC te_92_18 rfl (by omega) (show K 1 mem from H _ (by omega))
theorem f_98 {S : Nat × (Nat → Int32)} {n : Nat} {mem : MM} {K : Int → MM → Prop} {E : Nat → MM → Prop} {b y : Int} (H : ∀ r, K r mem) : CQI (Ex S (n + 1)) 98 [.inr 21, .inl b, .inl y] mem K E := by
  refine CY.of (k := 0) mt_98 rfl rfl (fun hv => ?_)
  have hC := Ex.mono S n
  have ii_b : InI b := hv (.inl b) (by simp)
  unfold InI at ii_b
  have ii_y : InI y := hv (.inl y) (by simp)
  unfold InI at ii_y
  clear hv
  show Tx (Ex S n) S M_98 (kI K E) 0 0 0 [some (.inr 21), some (.inl b), some (.inl y)] [] mem
  refine Tx.iload_n hC te_98_0 rfl ?_
  refine Tx.iload_n hC te_98_1 rfl ?_
  refine Tx.bits hC (f := (fun (x y : Int32) => x <<< (y &&& 31))) te_98_2 (fun _ _ _ _ => Iff.rfl) (fun b1 b1e b1i => ?_)
  unfold InI at b1i
  refine Tx.iload_n hC te_98_3 rfl ?_
  refine Tx.aload_n hC te_98_4 rfl ?_
  refine Tx.getI hC te_98_5 rfl rfl rfl (fun v2 v2e v2i => ?_)
  unfold InI at v2i
  refine Tx.iload_n hC te_98_8 rfl ?_
  refine Tx.isubW hC te_98_9 (fun z3 z3i z3e => ?_)
  unfold InI at z3i z3e
  first | replace z3e := z3e (by omega) | clear z3e
  refine Tx.bits hC (f := (fun (x y : Int32) => x >>> (y &&& 31))) te_98_10 (fun _ _ _ _ => Iff.rfl) (fun b4 b4e b4i => ?_)
  unfold InI at b4i
  refine Tx.bits hC (f := (fun (x y : Int32) => x ||| y)) te_98_11 (fun _ _ _ _ => Iff.rfl) (fun b5 b5e b5i => ?_)
  unfold InI at b5i
  refine Tx.aload_n hC te_98_12 rfl ?_
  refine Tx.getI hC te_98_13 rfl rfl rfl (fun v6 v6e v6i => ?_)
  unfold InI at v6i
  refine Tx.bits hC (f := (fun (x y : Int32) => x &&& y)) te_98_16 (fun _ _ _ _ => Iff.rfl) (fun b7 b7e b7i => ?_)
  unfold InI at b7i
  exact Tx.ireturn hC te_98_17 rfl (fun hr => show K b7 mem from H b7)
theorem f_99 {S : Nat × (Nat → Int32)} {n : Nat} {mem : MM} {K : Int → MM → Prop} {E : Nat → MM → Prop} {d : Int} (hS : SkO mem d) {o : Int} (ho : 0 ≤ o ∧ o < 8) {p : Int} (hp : 0 ≤ p ∧ p < 8) (H : ∀ r, K r mem) : CQI (Ex S (n + 2)) 99 [.inr 21, .inl o, .inl p] mem K E := by
  refine CY.of (k := 4) mt_99 rfl rfl (fun hv => ?_)
  have hC := Ex.mono S (n + 1)
  have ii_o : InI o := hv (.inl o) (by simp)
  unfold InI at ii_o
  have ii_p : InI p := hv (.inl p) (by simp)
  unfold InI at ii_p
  clear hv
  have hs0 := hS.1
  have hs1 := hS.2.1
  show Tx (Ex S (n + 1)) S M_99 (kI K E) 0 0 0 [some (.inr 21), some (.inl o), some (.inl p), none, none, none, none] [] mem
  refine Tx.aload_n hC te_99_0 rfl ?_
  refine Tx.getR hC te_99_1 rfl rfl rfl ?_
  refine Tx.iload_n hC te_99_4 rfl ?_
  refine Tx.bipush hC te_99_5 rfl rfl ?_
  refine Tx.imulW hC te_99_7 (fun z1 z1i z1e => ?_)
  unfold InI at z1i z1e
  first | replace z1e := z1e (by omega) | clear z1e
  refine Tx.iload_n hC te_99_8 rfl ?_
  refine Tx.iaddW hC te_99_9 (fun z2 z2i z2e => ?_)
  unfold InI at z2i z2e
  first | replace z2e := z2e (by omega) | clear z2e
  refine Tx.iald hC te_99_10 rfl (by omega) (fun v3 v3e v3i => ?_)
  unfold InI at v3i
  refine Tx.istore_n hC te_99_11 rfl ?_
  refine Tx.iconst hC te_99_12 rfl ?_
  refine Tx.aload_n hC te_99_13 rfl ?_
  refine Tx.getR hC te_99_14 rfl rfl rfl ?_
  refine Tx.iload_n hC te_99_17 rfl ?_
  refine Tx.bipush hC te_99_18 rfl rfl ?_
  refine Tx.imulW hC te_99_20 (fun z4 z4i z4e => ?_)
  unfold InI at z4i z4e
  first | replace z4e := z4e (by omega) | clear z4e
  refine Tx.iload_n hC te_99_21 rfl ?_
  refine Tx.iaddW hC te_99_22 (fun z5 z5i z5e => ?_)
  unfold InI at z5i z5e
  first | replace z5e := z5e (by omega) | clear z5e
  refine Tx.iald hC te_99_23 rfl (by omega) (fun v6 v6e v6i => ?_)
  unfold InI at v6i
  refine Tx.isubW hC te_99_24 (fun z7 z7i z7e => ?_)
  unfold InI at z7i z7e
  first | replace z7e := z7e (by omega) | clear z7e
  refine Tx.iload_n hC te_99_25 rfl ?_
  refine Tx.isubW hC te_99_26 (fun z8 z8i z8e => ?_)
  unfold InI at z8i z8e
  first | replace z8e := z8e (by omega) | clear z8e
  refine Tx.istore hC te_99_27 rfl ?_
  refine Tx.iload hC te_99_29 rfl ?_
  refine Tx.aload_n hC te_99_31 rfl ?_
  refine Tx.getI hC te_99_32 rfl rfl rfl (fun v9 v9e v9i => ?_)
  unfold InI at v9i
  refine Tx.icmp hC (t := 43) te_99_35 (by decide) (fun q10 => ?_) (fun q10 => ?_)
  · replace q10 : (z8 : Int) < v9 := q10
    refine Tx.aload_n hC te_99_43 rfl ?_
    refine Tx.getR hC te_99_44 rfl rfl rfl ?_
    refine Tx.iload_n hC te_99_47 rfl ?_
    refine Tx.iald hC te_99_48 rfl (by omega) (fun v11 v11e v11i => ?_)
    unfold InI at v11i
    refine Tx.iload_n hC te_99_49 rfl ?_
    refine Tx.iaddW hC te_99_50 (fun z12 z12i z12e => ?_)
    unfold InI at z12i z12e
    first | replace z12e := z12e (by omega) | clear z12e
    refine Tx.aload_n hC te_99_51 rfl ?_
    refine Tx.getI hC te_99_52 rfl rfl rfl (fun v13 v13e v13i => ?_)
    unfold InI at v13i
    refine Tx.statI hC te_99_55 (by decide) mt_94 (args := [.inl z12, .inl v13]) (rest := []) (c' := 0) (s' := 0) rfl rfl rfl rfl rfl rfl rfl ?_
    refine f_94 (by omega) (fun r14 r14a r14b r14i => ?_)
    unfold InI at r14i
    refine Tx.istore hC te_99_58 rfl ?_
    refine Tx.iload hC te_99_60 rfl ?_
    refine Tx.ifc hC (t := 69) te_99_62 (by decide) (fun q17 => ?_) (fun q17 => ?_)
    · replace q17 : 0 < (z8 : Int) := q17
      refine Tx.iconst hC te_99_69 rfl ?_
      refine Tx.iload hC te_99_70 rfl ?_
      refine Tx.bits hC (f := (fun (x y : Int32) => x <<< (y &&& 31))) te_99_72 (fun _ _ _ _ => Iff.rfl) (fun b18 b18e b18i => ?_)
      unfold InI at b18i
      refine Tx.iconst hC te_99_73 rfl ?_
      refine Tx.isubW hC te_99_74 (fun z19 z19i z19e => ?_)
      unfold InI at z19i z19e
      first | replace z19e := z19e (by omega) | clear z19e
      refine Tx.istore hC te_99_75 rfl ?_
      refine Tx.iload hC te_99_77 rfl ?_
      refine Tx.iload hC te_99_79 rfl ?_
      refine Tx.bits hC (f := (fun (x y : Int32) => x <<< (y &&& 31))) te_99_81 (fun _ _ _ _ => Iff.rfl) (fun b20 b20e b20i => ?_)
      unfold InI at b20i
      refine Tx.iload hC te_99_82 rfl ?_
      refine Tx.aload_n hC te_99_84 rfl ?_
      refine Tx.getI hC te_99_85 rfl rfl rfl (fun v21 v21e v21i => ?_)
      unfold InI at v21i
      refine Tx.iload hC te_99_88 rfl ?_
      refine Tx.isubW hC te_99_90 (fun z22 z22i z22e => ?_)
      unfold InI at z22i z22e
      first | replace z22e := z22e (by omega) | clear z22e
      refine Tx.bits hC (f := (fun (x y : Int32) => x >>> (y &&& 31))) te_99_91 (fun _ _ _ _ => Iff.rfl) (fun b23 b23e b23i => ?_)
      unfold InI at b23i
      refine Tx.bits hC (f := (fun (x y : Int32) => x ||| y)) te_99_92 (fun _ _ _ _ => Iff.rfl) (fun b24 b24e b24i => ?_)
      unfold InI at b24i
      refine Tx.aload_n hC te_99_93 rfl ?_
      refine Tx.getI hC te_99_94 rfl rfl rfl (fun v25 v25e v25i => ?_)
      unfold InI at v25i
      refine Tx.bits hC (f := (fun (x y : Int32) => x &&& y)) te_99_97 (fun _ _ _ _ => Iff.rfl) (fun b26 b26e b26i => ?_)
      unfold InI at b26i
      exact Tx.ireturn hC te_99_98 rfl (fun hr => show K b26 mem from H b26)
    · replace q17 : ¬ (0 < (z8 : Int)) := q17
      refine Tx.iconst hC te_99_65 rfl ?_
      refine Tx.goto hC (t := 75) te_99_66 (by decide) ?_
      refine Tx.istore hC te_99_75 rfl ?_
      refine Tx.iload hC te_99_77 rfl ?_
      refine Tx.iload hC te_99_79 rfl ?_
      refine Tx.bits hC (f := (fun (x y : Int32) => x <<< (y &&& 31))) te_99_81 (fun _ _ _ _ => Iff.rfl) (fun b27 b27e b27i => ?_)
      unfold InI at b27i
      refine Tx.iload hC te_99_82 rfl ?_
      refine Tx.aload_n hC te_99_84 rfl ?_
      refine Tx.getI hC te_99_85 rfl rfl rfl (fun v28 v28e v28i => ?_)
      unfold InI at v28i
      refine Tx.iload hC te_99_88 rfl ?_
      refine Tx.isubW hC te_99_90 (fun z29 z29i z29e => ?_)
      unfold InI at z29i z29e
      first | replace z29e := z29e (by omega) | clear z29e
      refine Tx.bits hC (f := (fun (x y : Int32) => x >>> (y &&& 31))) te_99_91 (fun _ _ _ _ => Iff.rfl) (fun b30 b30e b30i => ?_)
      unfold InI at b30i
      refine Tx.bits hC (f := (fun (x y : Int32) => x ||| y)) te_99_92 (fun _ _ _ _ => Iff.rfl) (fun b31 b31e b31i => ?_)
      unfold InI at b31i
      refine Tx.aload_n hC te_99_93 rfl ?_
      refine Tx.getI hC te_99_94 rfl rfl rfl (fun v32 v32e v32i => ?_)
      unfold InI at v32i
      refine Tx.bits hC (f := (fun (x y : Int32) => x &&& y)) te_99_97 (fun _ _ _ _ => Iff.rfl) (fun b33 b33e b33i => ?_)
      unfold InI at b33i
      exact Tx.ireturn hC te_99_98 rfl (fun hr => show K b33 mem from H b33)
  · replace q10 : ¬ ((z8 : Int) < v9) := q10
    refine Tx.aload_n hC te_99_38 rfl ?_
    refine Tx.getI hC te_99_39 rfl rfl rfl (fun v34 v34e v34i => ?_)
    unfold InI at v34i
    exact Tx.ireturn hC te_99_42 rfl (fun hr => show K v34 mem from H v34)
theorem f_97 {S : Nat × (Nat → Int32)} {n : Nat} {mem : MM} {K : Int → MM → Prop} {E : Nat → MM → Prop} {d : Int} (hS : SkO mem d) {o : Int} (ho : 0 ≤ o ∧ o < mem 21 0) (H : ∀ r, K r mem) : CQI (Ex S (n + 3)) 97 [.inr 21, .inl o] mem K E := by
  refine CY.of (k := 4) mt_97 rfl rfl (fun hv => ?_)
  have hC := Ex.mono S (n + 2)
  have ii_o : InI o := hv (.inl o) (by simp)
  unfold InI at ii_o
  clear hv
  have hs0 := hS.1
  have hs1 := hS.2.1
  show Tx (Ex S (n + 2)) S M_97 (kI K E) 0 0 0 [some (.inr 21), some (.inl o), none, none, none, none] [] mem
  have l_104 : ∀ (N : Nat) (x2 x3 x4 x5 : Int), (0 ≤ x5) → ((8 - x5).toNat) < N → Tx (Ex S (n + 2)) S M_97 (kI K E) 0 0 104 [some (.inr 21), some (.inl o), some (.inl x2), some (.inl x3), some (.inl x4), some (.inl x5)] [] mem := by
    intro N
    induction N with
    | zero => intros; omega
    | succ N ih_104 =>
      intro x2 x3 x4 x5 i104_0 hN_104 
      refine Tx.iload hC te_97_104 rfl ?_
      refine Tx.aload_n hC te_97_106 rfl ?_
      refine Tx.getI hC te_97_107 rfl rfl rfl (fun v1 v1e v1i => ?_)
      unfold InI at v1i
      refine Tx.icmp hC (t := 206) te_97_110 (by decide) (fun q2 => ?_) (fun q2 => ?_)
      · replace q2 : v1 ≤ (x5 : Int) := q2
        refine Tx.iload_n hC te_97_206 rfl ?_
        exact Tx.ireturn hC te_97_207 rfl (fun hr => show K x2 mem from H x2)
      · replace q2 : ¬ (v1 ≤ (x5 : Int)) := q2
        refine Tx.iload hC te_97_113 rfl ?_
        refine Tx.ifc hC (t := 206) te_97_115 (by decide) (fun q3 => ?_) (fun q3 => ?_)
        · replace q3 : (x4 : Int) = 0 := q3
          refine Tx.iload_n hC te_97_206 rfl ?_
          exact Tx.ireturn hC te_97_207 rfl (fun hr => show K x2 mem from H x2)
        · replace q3 : ¬ ((x4 : Int) = 0) := q3
          refine Tx.iload_n hC te_97_118 rfl ?_
          refine Tx.ifc hC (t := 206) te_97_119 (by decide) (fun q4 => ?_) (fun q4 => ?_)
          · replace q4 : (x2 : Int) = 0 := q4
            refine Tx.iload_n hC te_97_206 rfl ?_
            exact Tx.ireturn hC te_97_207 rfl (fun hr => show K x2 mem from H x2)
          · replace q4 : ¬ ((x2 : Int) = 0) := q4
            refine Tx.iload hC te_97_122 rfl ?_
            refine Tx.iconst hC te_97_124 rfl ?_
            refine Tx.iload hC te_97_125 rfl ?_
            refine Tx.bits hC (f := (fun (x y : Int32) => x <<< (y &&& 31))) te_97_127 (fun _ _ _ _ => Iff.rfl) (fun b5 b5e b5i => ?_)
            unfold InI at b5i
            refine Tx.bits hC (f := (fun (x y : Int32) => x &&& y)) te_97_128 (fun _ _ _ _ => Iff.rfl) (fun b6 b6e b6i => ?_)
            unfold InI at b6i
            refine Tx.ifc hC (t := 135) te_97_129 (by decide) (fun q7 => ?_) (fun q7 => ?_)
            · replace q7 : ¬ (b6 : Int) = 0 := q7
              refine Tx.aload_n hC te_97_135 rfl ?_
              refine Tx.getR hC te_97_136 rfl rfl rfl ?_
              refine Tx.iload_n hC te_97_139 rfl ?_
              refine Tx.iald hC te_97_140 rfl (by omega) (fun v8 v8e v8i => ?_)
              unfold InI at v8i
              refine Tx.iconst hC te_97_141 rfl ?_
              refine Tx.iload hC te_97_142 rfl ?_
              refine Tx.bits hC (f := (fun (x y : Int32) => x <<< (y &&& 31))) te_97_144 (fun _ _ _ _ => Iff.rfl) (fun b9 b9e b9i => ?_)
              unfold InI at b9i
              refine Tx.bits hC (f := (fun (x y : Int32) => x &&& y)) te_97_145 (fun _ _ _ _ => Iff.rfl) (fun b10 b10e b10i => ?_)
              unfold InI at b10i
              refine Tx.ifc hC (t := 162) te_97_146 (by decide) (fun q11 => ?_) (fun q11 => ?_)
              · replace q11 : (b10 : Int) = 0 := q11
                refine Tx.iload hC te_97_162 rfl ?_
                refine Tx.iload_n hC te_97_164 rfl ?_
                refine Tx.icmp hC (t := 186) te_97_165 (by decide) (fun q12 => ?_) (fun q12 => ?_)
                · replace q12 : o ≤ (x5 : Int) := q12
                  refine Tx.iload_n hC te_97_186 rfl ?_
                  refine Tx.iconst hC te_97_187 rfl ?_
                  refine Tx.aload_n hC te_97_188 rfl ?_
                  refine Tx.getR hC te_97_189 rfl rfl rfl ?_
                  refine Tx.iload hC te_97_192 rfl ?_
                  refine Tx.iald hC te_97_194 rfl (by omega) (fun v13 v13e v13i => ?_)
                  unfold InI at v13i
                  refine Tx.bits hC (f := (fun (x y : Int32) => x <<< (y &&& 31))) te_97_195 (fun _ _ _ _ => Iff.rfl) (fun b14 b14e b14i => ?_)
                  unfold InI at b14i
                  refine Tx.iconst hC te_97_196 rfl ?_
                  refine Tx.isubW hC te_97_197 (fun z15 z15i z15e => ?_)
                  unfold InI at z15i z15e
                  first | replace z15e := z15e (by omega) | clear z15e
                  refine Tx.bits hC (f := (fun (x y : Int32) => x &&& y)) te_97_198 (fun _ _ _ _ => Iff.rfl) (fun b16 b16e b16i => ?_)
                  unfold InI at b16i
                  refine Tx.istore_n hC te_97_199 rfl ?_
                  refine Tx.iincW hC te_97_200 rfl rfl (fun z17 z17i z17e => ?_)
                  unfold InI at z17i z17e
                  first | replace z17e := z17e (by omega) | clear z17e
                  refine Tx.goto hC (t := 104) te_97_203 (by decide) ?_
                  exact ih_104 b16 x3 x4 z17 (by omega) (by omega)
                · replace q12 : ¬ (o ≤ (x5 : Int)) := q12
                  refine Tx.iload_n hC te_97_168 rfl ?_
                  refine Tx.aload_n hC te_97_169 rfl ?_
                  refine Tx.getI hC te_97_170 rfl rfl rfl (fun v18 v18e v18i => ?_)
                  unfold InI at v18i
                  refine Tx.aload_n hC te_97_173 rfl ?_
                  refine Tx.getR hC te_97_174 rfl rfl rfl ?_
                  refine Tx.iload hC te_97_177 rfl ?_
                  refine Tx.iald hC te_97_179 rfl (by omega) (fun v19 v19e v19i => ?_)
                  unfold InI at v19i
                  refine Tx.bits hC (f := (fun (x y : Int32) => x <<< (y &&& 31))) te_97_180 (fun _ _ _ _ => Iff.rfl) (fun b20 b20e b20i => ?_)
                  unfold InI at b20i
                  refine Tx.bits hC (f := (fun (x y : Int32) => x &&& y)) te_97_181 (fun _ _ _ _ => Iff.rfl) (fun b21 b21e b21i => ?_)
                  unfold InI at b21i
                  refine Tx.istore_n hC te_97_182 rfl ?_
                  refine Tx.goto hC (t := 200) te_97_183 (by decide) ?_
                  refine Tx.iincW hC te_97_200 rfl rfl (fun z22 z22i z22e => ?_)
                  unfold InI at z22i z22e
                  first | replace z22e := z22e (by omega) | clear z22e
                  refine Tx.goto hC (t := 104) te_97_203 (by decide) ?_
                  exact ih_104 b21 x3 x4 z22 (by omega) (by omega)
              · replace q11 : ¬ ((b10 : Int) = 0) := q11
                refine Tx.iload_n hC te_97_149 rfl ?_
                refine Tx.aload_n hC te_97_150 rfl ?_
                refine Tx.iload_n hC te_97_151 rfl ?_
                refine Tx.iload hC te_97_152 rfl ?_
                refine Tx.virtI hC te_97_154 mt_99 (args := [.inr 21, .inl o, .inl x5]) (rest := [.inl x2]) (c' := 0) (s' := 0) rfl rfl rfl rfl rfl rfl rfl rfl rfl rfl ?_
                refine f_99 hS (by omega) (by omega) (fun r23 r23i => ?_)
                unfold InI at r23i
                refine Tx.bits hC (f := (fun (x y : Int32) => x &&& y)) te_97_157 (fun _ _ _ _ => Iff.rfl) (fun b26 b26e b26i => ?_)
                unfold InI at b26i
                refine Tx.istore_n hC te_97_158 rfl ?_
                refine Tx.goto hC (t := 200) te_97_159 (by decide) ?_
                refine Tx.iincW hC te_97_200 rfl rfl (fun z27 z27i z27e => ?_)
                unfold InI at z27i z27e
                first | replace z27e := z27e (by omega) | clear z27e
                refine Tx.goto hC (t := 104) te_97_203 (by decide) ?_
                exact ih_104 b26 x3 x4 z27 (by omega) (by omega)
            · replace q7 : ¬ (¬ (b6 : Int) = 0) := q7
              refine Tx.goto hC (t := 200) te_97_132 (by decide) ?_
              refine Tx.iincW hC te_97_200 rfl rfl (fun z28 z28i z28e => ?_)
              unfold InI at z28i z28e
              first | replace z28e := z28e (by omega) | clear z28e
              refine Tx.goto hC (t := 104) te_97_203 (by decide) ?_
              exact ih_104 x2 x3 x4 z28 (by omega) (by omega)
  have l_15 : ∀ (N : Nat) (x2 x3 x4 : Int), (0 ≤ x4) → (x3 = mem 24 (Int.toNat o)) → (0 ≤ x3 ∧ x3 ≤ 2) → ((4 - x4).toNat) < N → Tx (Ex S (n + 2)) S M_97 (kI K E) 0 0 15 [some (.inr 21), some (.inl o), some (.inl x2), some (.inl x3), some (.inl x4), none] [] mem := by
    intro N
    induction N with
    | zero => intros; omega
    | succ N ih_15 =>
      intro x2 x3 x4 i15_0 i15_1 i15_2 hN_15 
      refine Tx.iload hC te_97_15 rfl ?_
      refine Tx.iconst hC te_97_17 rfl ?_
      refine Tx.icmp hC (t := 81) te_97_18 (by decide) (fun q29 => ?_) (fun q29 => ?_)
      · replace q29 : 4 ≤ (x4 : Int) := q29
        refine Tx.aload_n hC te_97_81 rfl ?_
        refine Tx.getR hC te_97_82 rfl rfl rfl ?_
        refine Tx.iload_n hC te_97_85 rfl ?_
        refine Tx.iald hC te_97_86 rfl (by omega) (fun v30 v30e v30i => ?_)
        unfold InI at v30i
        refine Tx.aload_n hC te_97_87 rfl ?_
        refine Tx.getR hC te_97_88 rfl rfl rfl ?_
        refine Tx.iload_n hC te_97_91 rfl ?_
        refine Tx.iald hC te_97_92 rfl (by omega) (fun v31 v31e v31i => ?_)
        unfold InI at v31i
        refine Tx.bits hC (f := (fun (x y : Int32) => x ||| y)) te_97_93 (fun _ _ _ _ => Iff.rfl) (fun b32 b32e b32i => ?_)
        unfold InI at b32i
        refine Tx.aload_n hC te_97_94 rfl ?_
        refine Tx.getI hC te_97_95 rfl rfl rfl (fun v33 v33e v33i => ?_)
        unfold InI at v33i
        refine Tx.bits hC (f := (fun (x y : Int32) => x &&& y)) te_97_98 (fun _ _ _ _ => Iff.rfl) (fun b34 b34e b34i => ?_)
        unfold InI at b34i
        refine Tx.istore hC te_97_99 rfl ?_
        refine Tx.iconst hC te_97_101 rfl ?_
        refine Tx.istore hC te_97_102 rfl ?_
        exact l_104 _ x2 x3 b34 0 (by omega) (Nat.lt_succ_self _)
      · replace q29 : ¬ (4 ≤ (x4 : Int)) := q29
        refine Tx.aload_n hC te_97_21 rfl ?_
        refine Tx.getR hC te_97_22 rfl rfl rfl ?_
        refine Tx.iload_n hC te_97_25 rfl ?_
        refine Tx.iconst hC te_97_26 rfl ?_
        refine Tx.imulW hC te_97_27 (fun z35 z35i z35e => ?_)
        unfold InI at z35i z35e
        first | replace z35e := z35e (by omega) | clear z35e
        refine Tx.iload hC te_97_28 rfl ?_
        refine Tx.iaddW hC te_97_30 (fun z36 z36i z36e => ?_)
        unfold InI at z36i z36e
        first | replace z36e := z36e (by omega) | clear z36e
        refine Tx.iald hC te_97_31 rfl (by omega) (fun v37 v37e v37i => ?_)
        unfold InI at v37i
        rw [show (Int.toNat z36) = 4 * Int.toNat o + Int.toNat x4 by omega] at v37e
        have f38 := hS.2.2.2.2 (Int.toNat o) (Int.toNat x4) (by omega) (by omega)
        refine Tx.istore hC te_97_32 rfl ?_
        refine Tx.iload hC te_97_34 rfl ?_
        refine Tx.ifc hC (t := 75) te_97_36 (by decide) (fun q39 => ?_) (fun q39 => ?_)
        · replace q39 : (v37 : Int) ≤ 0 := q39
          refine Tx.iincW hC te_97_75 rfl rfl (fun z40 z40i z40e => ?_)
          unfold InI at z40i z40e
          first | replace z40e := z40e (by omega) | clear z40e
          refine Tx.goto hC (t := 15) te_97_78 (by decide) ?_
          exact Tx.weak (by repeat' (first | exact trivial | exact rfl | constructor)) (ih_15 x2 x3 z40 (by omega) (by omega) (by omega) (by omega))
        · replace q39 : ¬ ((v37 : Int) ≤ 0) := q39
          refine Tx.iload_n hC te_97_39 rfl ?_
          refine Tx.aload_n hC te_97_40 rfl ?_
          refine Tx.aload_n hC te_97_41 rfl ?_
          refine Tx.getR hC te_97_42 rfl rfl rfl ?_
          refine Tx.iload_n hC te_97_45 rfl ?_
          refine Tx.iconst hC te_97_46 rfl ?_
          refine Tx.imulW hC te_97_47 (fun z41 z41i z41e => ?_)
          unfold InI at z41i z41e
          first | replace z41e := z41e (by omega) | clear z41e
          refine Tx.aload_n hC te_97_48 rfl ?_
          refine Tx.getR hC te_97_49 rfl rfl rfl ?_
          refine Tx.iload_n hC te_97_52 rfl ?_
          refine Tx.iald hC te_97_53 rfl (by omega) (fun v42 v42e v42i => ?_)
          unfold InI at v42i
          have f43 := hS.2.2.2.1 (Int.toNat x3) (by omega)
          rw [i15_1] at v42e f43
          refine Tx.iaddW hC te_97_54 (fun z44 z44i z44e => ?_)
          unfold InI at z44i z44e
          first | replace z44e := z44e (by omega) | clear z44e
          refine Tx.iload hC te_97_55 rfl ?_
          refine Tx.isubW hC te_97_57 (fun z45 z45i z45e => ?_)
          unfold InI at z45i z45e
          first | replace z45e := z45e (by omega) | clear z45e
          refine Tx.iconst hC te_97_58 rfl ?_
          refine Tx.iaddW hC te_97_59 (fun z46 z46i z46e => ?_)
          unfold InI at z46i z46e
          first | replace z46e := z46e (by omega) | clear z46e
          refine Tx.iald hC te_97_60 rfl (by omega) (fun v47 v47e v47i => ?_)
          unfold InI at v47i
          refine Tx.aload_n hC te_97_61 rfl ?_
          refine Tx.getI hC te_97_62 rfl rfl rfl (fun v48 v48e v48i => ?_)
          unfold InI at v48i
          refine Tx.iload hC te_97_65 rfl ?_
          refine Tx.isubW hC te_97_67 (fun z49 z49i z49e => ?_)
          unfold InI at z49i z49e
          first | replace z49e := z49e (by omega) | clear z49e
          refine Tx.virtI hC te_97_68 mt_98 (args := [.inr 21, .inl v47, .inl z49]) (rest := [.inl x2]) (c' := 0) (s' := 0) rfl rfl rfl rfl rfl rfl rfl rfl rfl rfl ?_
          refine f_98 (fun r50 r50i => ?_)
          unfold InI at r50i
          refine Tx.iconst hC te_97_71 rfl ?_
          refine Tx.bits hC (f := (fun (x y : Int32) => x ^^^ y)) te_97_72 (fun _ _ _ _ => Iff.rfl) (fun b53 b53e b53i => ?_)
          unfold InI at b53i
          refine Tx.bits hC (f := (fun (x y : Int32) => x &&& y)) te_97_73 (fun _ _ _ _ => Iff.rfl) (fun b54 b54e b54i => ?_)
          unfold InI at b54i
          refine Tx.istore_n hC te_97_74 rfl ?_
          refine Tx.iincW hC te_97_75 rfl rfl (fun z55 z55i z55e => ?_)
          unfold InI at z55i z55e
          first | replace z55e := z55e (by omega) | clear z55e
          refine Tx.goto hC (t := 15) te_97_78 (by decide) ?_
          exact Tx.weak (by repeat' (first | exact trivial | exact rfl | constructor)) (ih_15 b54 x3 z55 (by omega) (by omega) (by omega) (by omega))
  refine Tx.aload_n hC te_97_0 rfl ?_
  refine Tx.getI hC te_97_1 rfl rfl rfl (fun v56 v56e v56i => ?_)
  unfold InI at v56i
  refine Tx.istore_n hC te_97_4 rfl ?_
  refine Tx.aload_n hC te_97_5 rfl ?_
  refine Tx.getR hC te_97_6 rfl rfl rfl ?_
  refine Tx.iload_n hC te_97_9 rfl ?_
  refine Tx.iald hC te_97_10 rfl (by omega) (fun v57 v57e v57i => ?_)
  unfold InI at v57i
  have f58 := hS.2.2.1 (Int.toNat o) (by omega)
  refine Tx.istore_n hC te_97_11 rfl ?_
  refine Tx.iconst hC te_97_12 rfl ?_
  refine Tx.istore hC te_97_13 rfl ?_
  exact l_15 _ v56 v57 0 (by omega) (by omega) (by omega) (Nat.lt_succ_self _)
theorem f_100 {S : Nat × (Nat → Int32)} {n : Nat} {mem : MM} {K : Int → MM → Prop} {E : Nat → MM → Prop} {a x b y : Int} (ha : 0 ≤ a ∧ a < 8) (hb : 0 ≤ b ∧ b < 8) (H : ∀ r, r = 0 ∨ r = 1 → K r mem) : CQI (Ex S (n + 2)) 100 [.inr 21, .inl a, .inl x, .inl b, .inl y] mem K E := by
  refine CY.of (k := 0) mt_100 rfl rfl (fun hv => ?_)
  have hC := Ex.mono S (n + 1)
  have ii_a : InI a := hv (.inl a) (by simp)
  unfold InI at ii_a
  have ii_x : InI x := hv (.inl x) (by simp)
  unfold InI at ii_x
  have ii_b : InI b := hv (.inl b) (by simp)
  unfold InI at ii_b
  have ii_y : InI y := hv (.inl y) (by simp)
  unfold InI at ii_y
  clear hv
  show Tx (Ex S (n + 1)) S M_100 (kI K E) 0 0 0 [some (.inr 21), some (.inl a), some (.inl x), some (.inl b), some (.inl y)] [] mem
  refine Tx.iload_n hC te_100_0 rfl ?_
  refine Tx.statI hC te_100_1 (by decide) mt_39 (args := [.inl x]) (rest := []) (c' := 0) (s' := 0) rfl rfl rfl rfl rfl rfl rfl ?_
  refine f_39 (fun r1 r1i => ?_)
  unfold InI at r1i
  refine Tx.aload_n hC te_100_4 rfl ?_
  refine Tx.getR hC te_100_5 rfl rfl rfl ?_
  refine Tx.iload_n hC te_100_8 rfl ?_
  refine Tx.iald hC te_100_9 rfl (by omega) (fun v4 v4e v4i => ?_)
  unfold InI at v4i
  refine Tx.imulW hC te_100_10 (fun z5 z5i z5e => ?_)
  unfold InI at z5i z5e
  first | replace z5e := z5e (by omega) | clear z5e
  refine Tx.iload hC te_100_11 rfl ?_
  refine Tx.statI hC te_100_13 (by decide) mt_39 (args := [.inl y]) (rest := [.inl z5]) (c' := 0) (s' := 0) rfl rfl rfl rfl rfl rfl rfl ?_
  refine f_39 (fun r6 r6i => ?_)
  unfold InI at r6i
  refine Tx.aload_n hC te_100_16 rfl ?_
  refine Tx.getR hC te_100_17 rfl rfl rfl ?_
  refine Tx.iload_n hC te_100_20 rfl ?_
  refine Tx.iald hC te_100_21 rfl (by omega) (fun v9 v9e v9i => ?_)
  unfold InI at v9i
  refine Tx.imulW hC te_100_22 (fun z10 z10i z10e => ?_)
  unfold InI at z10i z10e
  first | replace z10e := z10e (by omega) | clear z10e
  refine Tx.icmp hC (t := 30) te_100_23 (by decide) (fun q11 => ?_) (fun q11 => ?_)
  · replace q11 : z10 ≤ (z5 : Int) := q11
    refine Tx.iconst hC te_100_30 rfl ?_
    exact Tx.bret hC te_100_31 rfl (by omega) (show K 0 mem from H _ (by omega))
  · replace q11 : ¬ (z10 ≤ (z5 : Int)) := q11
    refine Tx.iconst hC te_100_26 rfl ?_
    refine Tx.goto hC (t := 31) te_100_27 (by decide) ?_
    exact Tx.bret hC te_100_31 rfl (by omega) (show K 1 mem from H _ (by omega))
theorem f_105 {S : Nat × (Nat → Int32)} {n : Nat} {mem : MM} {K : Int → MM → Prop} {E : Nat → MM → Prop} {d : Int} (hS : SkO mem d) {o : Int} (H : ∀ r, K r mem) : CQI (Ex S (n + 1)) 105 [.inr 21, .inl o] mem K E := by
  refine CY.of (k := 4) mt_105 rfl rfl (fun hv => ?_)
  have hC := Ex.mono S n
  have ii_o : InI o := hv (.inl o) (by simp)
  unfold InI at ii_o
  clear hv
  have hs0 := hS.1
  have hs1 := hS.2.1
  show Tx (Ex S n) S M_105 (kI K E) 0 0 0 [some (.inr 21), some (.inl o), none, none, none, none] [] mem
  have l_9 : ∀ (N : Nat) (x2 x3 x4 : Int), (0 ≤ x4) → ((8 - x4).toNat) < N → Tx (Ex S n) S M_105 (kI K E) 0 0 9 [some (.inr 21), some (.inl o), some (.inl x2), some (.inl x3), some (.inl x4), none] [] mem := by
    intro N
    induction N with
    | zero => intros; omega
    | succ N ih_9 =>
      intro x2 x3 x4 i9_0 hN_9 
      have l_26 : ∀ (N : Nat) (x2 x3 x5 : Int), (0 ≤ x5) → (0 ≤ x4 ∧ x4 < 8) → ((8 - x5).toNat) < N → Tx (Ex S n) S M_105 (kI K E) 0 0 26 [some (.inr 21), some (.inl o), some (.inl x2), some (.inl x3), some (.inl x4), some (.inl x5)] [] mem := by
        intro N
        induction N with
        | zero => intros; omega
        | succ N ih_26 =>
          intro x2 x3 x5 i26_0 i26_1 hN_26 
          refine Tx.iload hC te_105_26 rfl ?_
          refine Tx.aload_n hC te_105_28 rfl ?_
          refine Tx.getI hC te_105_29 rfl rfl rfl (fun v1 v1e v1i => ?_)
          unfold InI at v1i
          refine Tx.icmp hC (t := 73) te_105_32 (by decide) (fun q2 => ?_) (fun q2 => ?_)
          · replace q2 : v1 ≤ (x5 : Int) := q2
            refine Tx.iincW hC te_105_73 rfl rfl (fun z3 z3i z3e => ?_)
            unfold InI at z3i z3e
            first | replace z3e := z3e (by omega) | clear z3e
            refine Tx.goto hC (t := 9) te_105_76 (by decide) ?_
            exact Tx.weak (by repeat' (first | exact trivial | exact rfl | constructor)) (ih_9 x2 x3 z3 (by omega) (by omega))
          · replace q2 : ¬ (v1 ≤ (x5 : Int)) := q2
            refine Tx.iload_n hC te_105_35 rfl ?_
            refine Tx.iconst hC te_105_36 rfl ?_
            refine Tx.iload hC te_105_37 rfl ?_
            refine Tx.bits hC (f := (fun (x y : Int32) => x <<< (y &&& 31))) te_105_39 (fun _ _ _ _ => Iff.rfl) (fun b4 b4e b4i => ?_)
            unfold InI at b4i
            refine Tx.bits hC (f := (fun (x y : Int32) => x &&& y)) te_105_40 (fun _ _ _ _ => Iff.rfl) (fun b5 b5e b5i => ?_)
            unfold InI at b5i
            refine Tx.ifc hC (t := 67) te_105_41 (by decide) (fun q6 => ?_) (fun q6 => ?_)
            · replace q6 : (b5 : Int) = 0 := q6
              refine Tx.iincW hC te_105_67 rfl rfl (fun z7 z7i z7e => ?_)
              unfold InI at z7i z7e
              first | replace z7e := z7e (by omega) | clear z7e
              refine Tx.goto hC (t := 26) te_105_70 (by decide) ?_
              exact ih_26 x2 x3 z7 (by omega) (by omega) (by omega)
            · replace q6 : ¬ ((b5 : Int) = 0) := q6
              refine Tx.iload_n hC te_105_44 rfl ?_
              refine Tx.aload_n hC te_105_45 rfl ?_
              refine Tx.getR hC te_105_46 rfl rfl rfl ?_
              refine Tx.iload hC te_105_49 rfl ?_
              refine Tx.iald hC te_105_51 rfl (by omega) (fun v8 v8e v8i => ?_)
              unfold InI at v8i
              refine Tx.aload_n hC te_105_52 rfl ?_
              refine Tx.getR hC te_105_53 rfl rfl rfl ?_
              refine Tx.aload_n hC te_105_56 rfl ?_
              refine Tx.getR hC te_105_57 rfl rfl rfl ?_
              refine Tx.iload hC te_105_60 rfl ?_
              refine Tx.iald hC te_105_62 rfl (by omega) (fun v9 v9e v9i => ?_)
              unfold InI at v9i
              have f10 := hS.2.2.1 (Int.toNat x5) (by omega)
              refine Tx.iald hC te_105_63 rfl (by omega) (fun v11 v11e v11i => ?_)
              unfold InI at v11i
              refine Tx.bits hC (f := (fun (x y : Int32) => x ||| y)) te_105_64 (fun _ _ _ _ => Iff.rfl) (fun b12 b12e b12i => ?_)
              unfold InI at b12i
              refine Tx.bits hC (f := (fun (x y : Int32) => x ||| y)) te_105_65 (fun _ _ _ _ => Iff.rfl) (fun b13 b13e b13i => ?_)
              unfold InI at b13i
              refine Tx.istore_n hC te_105_66 rfl ?_
              refine Tx.iincW hC te_105_67 rfl rfl (fun z14 z14i z14e => ?_)
              unfold InI at z14i z14e
              first | replace z14e := z14e (by omega) | clear z14e
              refine Tx.goto hC (t := 26) te_105_70 (by decide) ?_
              exact ih_26 b13 x3 z14 (by omega) (by omega) (by omega)
      refine Tx.iload hC te_105_9 rfl ?_
      refine Tx.bipush hC te_105_11 rfl rfl ?_
      refine Tx.icmp hC (t := 79) te_105_13 (by decide) (fun q15 => ?_) (fun q15 => ?_)
      · replace q15 : 8 ≤ (x4 : Int) := q15
        refine Tx.iload_n hC te_105_79 rfl ?_
        exact Tx.ireturn hC te_105_80 rfl (fun hr => show K x2 mem from H x2)
      · replace q15 : ¬ (8 ≤ (x4 : Int)) := q15
        refine Tx.iload_n hC te_105_16 rfl ?_
        refine Tx.iload_n hC te_105_17 rfl ?_
        refine Tx.icmp hC (t := 79) te_105_18 (by decide) (fun q16 => ?_) (fun q16 => ?_)
        · replace q16 : (x2 : Int) = x3 := q16
          refine Tx.iload_n hC te_105_79 rfl ?_
          exact Tx.ireturn hC te_105_80 rfl (fun hr => show K x2 mem from H x2)
        · replace q16 : ¬ ((x2 : Int) = x3) := q16
          refine Tx.iload_n hC te_105_21 rfl ?_
          refine Tx.istore_n hC te_105_22 rfl ?_
          refine Tx.iconst hC te_105_23 rfl ?_
          refine Tx.istore hC te_105_24 rfl ?_
          exact l_26 _ x2 x2 0 (by omega) (by omega) (Nat.lt_succ_self _)
  refine Tx.iconst hC te_105_0 rfl ?_
  refine Tx.iload_n hC te_105_1 rfl ?_
  refine Tx.bits hC (f := (fun (x y : Int32) => x <<< (y &&& 31))) te_105_2 (fun _ _ _ _ => Iff.rfl) (fun b17 b17e b17i => ?_)
  unfold InI at b17i
  refine Tx.istore_n hC te_105_3 rfl ?_
  refine Tx.iconst hC te_105_4 rfl ?_
  refine Tx.istore_n hC te_105_5 rfl ?_
  refine Tx.iconst hC te_105_6 rfl ?_
  refine Tx.istore hC te_105_7 rfl ?_
  exact l_9 _ b17 0 0 (by omega) (Nat.lt_succ_self _)
theorem f_101 {S : Nat × (Nat → Int32)} {n : Nat} {mem : MM} {K : MM → Prop} {E : Nat → MM → Prop} {d : Int} (hS : SkO mem d) (H : ∀ m', FrS mem m' → K m') : CQV (Ex S (n + 1)) 101 [.inr 21] mem K E := by
  refine CY.of (k := 1) mt_101 rfl rfl (fun hv => ?_)
  have hC := Ex.mono S n
  clear hv
  have hs0 := hS.1
  have hs1 := hS.2.1
  show Tx (Ex S n) S M_101 (kV K E) 0 0 0 [some (.inr 21), none] [] mem
  have l_2 : ∀ (N : Nat) (x1 : Int) (m_2 : MM), (0 ≤ x1) → ((8 - x1).toNat) < N → FrS mem m_2 → Tx (Ex S n) S M_101 (kV K E) 0 0 2 [some (.inr 21), some (.inl x1)] [] m_2 := by
    intro N
    induction N with
    | zero => intros; omega
    | succ N ih_2 =>
      intro x1 m_2 i2_0 hN_2 hF_2
      refine Tx.iload_n hC te_101_2 rfl ?_
      refine Tx.aload_n hC te_101_3 rfl ?_
      refine Tx.getI hC te_101_4 rfl rfl rfl (fun v1 v1e v1i => ?_)
      unfold InI at v1i
      rw [FrS.at hF_2 21 _ (by unfold pSk; omega)] at v1e
      refine Tx.icmp hC (t := 39) te_101_7 (by decide) (fun q2 => ?_) (fun q2 => ?_)
      · replace q2 : v1 ≤ (x1 : Int) := q2
        exact Tx.vret hC te_101_39 rfl (show K m_2 from H _ hF_2)
      · replace q2 : ¬ (v1 ≤ (x1 : Int)) := q2
        refine Tx.aload_n hC te_101_10 rfl ?_
        refine Tx.getI hC te_101_11 rfl rfl rfl (fun v3 v3e v3i => ?_)
        unfold InI at v3i
        refine Tx.iconst hC te_101_14 rfl ?_
        refine Tx.iload_n hC te_101_15 rfl ?_
        refine Tx.bits hC (f := (fun (x y : Int32) => x <<< (y &&& 31))) te_101_16 (fun _ _ _ _ => Iff.rfl) (fun b4 b4e b4i => ?_)
        unfold InI at b4i
        refine Tx.bits hC (f := (fun (x y : Int32) => x &&& y)) te_101_17 (fun _ _ _ _ => Iff.rfl) (fun b5 b5e b5i => ?_)
        unfold InI at b5i
        refine Tx.ifc hC (t := 33) te_101_18 (by decide) (fun q6 => ?_) (fun q6 => ?_)
        · replace q6 : (b5 : Int) = 0 := q6
          refine Tx.iincW hC te_101_33 rfl rfl (fun z7 z7i z7e => ?_)
          unfold InI at z7i z7e
          first | replace z7e := z7e (by omega) | clear z7e
          refine Tx.goto hC (t := 2) te_101_36 (by decide) ?_
          exact ih_2 z7 m_2 (by omega) (by omega) hF_2
        · replace q6 : ¬ ((b5 : Int) = 0) := q6
          refine Tx.aload_n hC te_101_21 rfl ?_
          refine Tx.getR hC te_101_22 rfl rfl rfl ?_
          refine Tx.iload_n hC te_101_25 rfl ?_
          refine Tx.aload_n hC te_101_26 rfl ?_
          refine Tx.getR hC te_101_27 rfl rfl rfl ?_
          refine Tx.iload_n hC te_101_30 rfl ?_
          refine Tx.iald hC te_101_31 rfl (by omega) (fun v8 v8e v8i => ?_)
          unfold InI at v8i
          refine Tx.iast hC te_101_32 rfl (by omega) ?_
          have hF10 : FrS mem (upm m_2 23 (Int.toNat x1) v8) := FrS.up hF_2 (by unfold pSk; omega) (by omega)
          generalize upm m_2 23 (Int.toNat x1) v8 = m9 at hF10 ⊢
          refine Tx.iincW hC te_101_33 rfl rfl (fun z11 z11i z11e => ?_)
          unfold InI at z11i z11e
          first | replace z11e := z11e (by omega) | clear z11e
          refine Tx.goto hC (t := 2) te_101_36 (by decide) ?_
          exact ih_2 z11 m9 (by omega) (by omega) hF10
  refine Tx.iconst hC te_101_0 rfl ?_
  refine Tx.istore_n hC te_101_1 rfl ?_
  exact l_2 _ 0 mem (by omega) (Nat.lt_succ_self _) FrS.rf
theorem f_104 {S : Nat × (Nat → Int32)} {n : Nat} {mem : MM} {K : MM → Prop} {E : Nat → MM → Prop} {d : Int} (hS : SkO mem d) (H : ∀ m', FrS mem m' → K m') : CQV (Ex S (n + 1)) 104 [.inr 21, .inr 20] mem K E := by
  refine CY.of (k := 3) mt_104 rfl rfl (fun hv => ?_)
  have hC := Ex.mono S n
  clear hv
  have hs0 := hS.1
  have hs1 := hS.2.1
  show Tx (Ex S n) S M_104 (kV K E) 0 0 0 [some (.inr 21), some (.inr 20), none, none, none] [] mem
  have l_14 : ∀ (N : Nat) (x2 : Int) (m_14 : MM), (0 ≤ x2) → ((8 - x2).toNat) < N → FrS mem m_14 → Tx (Ex S n) S M_104 (kV K E) 0 0 14 [some (.inr 21), some (.inr 20), some (.inl x2), none, none] [] m_14 := by
    intro N
    induction N with
    | zero => intros; omega
    | succ N ih_14 =>
      intro x2 m_14 i14_0 hN_14 hF_14
      have l_31 : ∀ (N : Nat) (x3 : Int) (m_31 : MM), (0 ≤ x3) → (0 ≤ x2 ∧ x2 < 8) → ((8 - x3).toNat) < N → FrS mem m_31 → Tx (Ex S n) S M_104 (kV K E) 0 0 31 [some (.inr 21), some (.inr 20), some (.inl x2), some (.inl x3), none] [] m_31 := by
        intro N
        induction N with
        | zero => intros; omega
        | succ N ih_31 =>
          intro x3 m_31 i31_0 i31_1 hN_31 hF_31
          refine Tx.iload_n hC te_104_31 rfl ?_
          refine Tx.aload_n hC te_104_32 rfl ?_
          refine Tx.getI hC te_104_33 rfl rfl rfl (fun v1 v1e v1i => ?_)
          unfold InI at v1i
          rw [FrS.at hF_31 21 _ (by unfold pSk; omega)] at v1e
          refine Tx.icmp hC (t := 106) te_104_36 (by decide) (fun q2 => ?_) (fun q2 => ?_)
          · replace q2 : v1 ≤ (x3 : Int) := q2
            refine Tx.iincW hC te_104_106 rfl rfl (fun z3 z3i z3e => ?_)
            unfold InI at z3i z3e
            first | replace z3e := z3e (by omega) | clear z3e
            refine Tx.goto hC (t := 14) te_104_109 (by decide) ?_
            exact Tx.weak (by repeat' (first | exact trivial | exact rfl | constructor)) (ih_14 z3 m_31 (by omega) (by omega) hF_31)
          · replace q2 : ¬ (v1 ≤ (x3 : Int)) := q2
            refine Tx.aload_n hC te_104_39 rfl ?_
            refine Tx.getR hC te_104_40 rfl rfl rfl ?_
            refine Tx.iload_n hC te_104_43 rfl ?_
            refine Tx.bipush hC te_104_44 rfl rfl ?_
            refine Tx.imulW hC te_104_46 (fun z4 z4i z4e => ?_)
            unfold InI at z4i z4e
            first | replace z4e := z4e (by omega) | clear z4e
            refine Tx.iload_n hC te_104_47 rfl ?_
            refine Tx.iaddW hC te_104_48 (fun z5 z5i z5e => ?_)
            unfold InI at z5i z5e
            first | replace z5e := z5e (by omega) | clear z5e
            refine Tx.iald hC te_104_49 rfl (by omega) (fun v6 v6e v6i => ?_)
            unfold InI at v6i
            refine Tx.ldc hC (z := (-100000)) te_104_50 rfl rfl rfl rfl ?_
            refine Tx.icmp hC (t := 59) te_104_52 (by decide) (fun q7 => ?_) (fun q7 => ?_)
            · replace q7 : (v6 : Int) = (-100000) := q7
              refine Tx.iconst hC te_104_59 rfl ?_
              refine Tx.istore hC te_104_60 rfl ?_
              refine Tx.iload_n hC te_104_62 rfl ?_
              refine Tx.iload_n hC te_104_63 rfl ?_
              refine Tx.icmp hC (t := 100) te_104_64 (by decide) (fun q8 => ?_) (fun q8 => ?_)
              · replace q8 : (x3 : Int) = x2 := q8
                refine Tx.iincW hC te_104_100 rfl rfl (fun z9 z9i z9e => ?_)
                unfold InI at z9i z9e
                first | replace z9e := z9e (by omega) | clear z9e
                refine Tx.goto hC (t := 31) te_104_103 (by decide) ?_
                exact Tx.weak (by repeat' (first | exact trivial | exact rfl | constructor)) (ih_31 z9 m_31 (by omega) (by omega) (by omega) hF_31)
              · replace q8 : ¬ ((x3 : Int) = x2) := q8
                refine Tx.iload hC te_104_67 rfl ?_
                refine Tx.ifc hC (t := 100) te_104_69 (by decide) (fun q => ?_) (fun q => absurd (show (0 : Int) = 0 by decide) q)
                refine Tx.iincW hC te_104_100 rfl rfl (fun z10 z10i z10e => ?_)
                unfold InI at z10i z10e
                first | replace z10e := z10e (by omega) | clear z10e
                refine Tx.goto hC (t := 31) te_104_103 (by decide) ?_
                exact Tx.weak (by repeat' (first | exact trivial | exact rfl | constructor)) (ih_31 z10 m_31 (by omega) (by omega) (by omega) hF_31)
            · replace q7 : ¬ ((v6 : Int) = (-100000)) := q7
              refine Tx.iconst hC te_104_55 rfl ?_
              refine Tx.goto hC (t := 60) te_104_56 (by decide) ?_
              refine Tx.istore hC te_104_60 rfl ?_
              refine Tx.iload_n hC te_104_62 rfl ?_
              refine Tx.iload_n hC te_104_63 rfl ?_
              refine Tx.icmp hC (t := 100) te_104_64 (by decide) (fun q11 => ?_) (fun q11 => ?_)
              · replace q11 : (x3 : Int) = x2 := q11
                refine Tx.iincW hC te_104_100 rfl rfl (fun z12 z12i z12e => ?_)
                unfold InI at z12i z12e
                first | replace z12e := z12e (by omega) | clear z12e
                refine Tx.goto hC (t := 31) te_104_103 (by decide) ?_
                exact Tx.weak (by repeat' (first | exact trivial | exact rfl | constructor)) (ih_31 z12 m_31 (by omega) (by omega) (by omega) hF_31)
              · replace q11 : ¬ ((x3 : Int) = x2) := q11
                refine Tx.iload hC te_104_67 rfl ?_
                refine Tx.ifc hC (t := 100) te_104_69 (by decide) (fun q => absurd q (show ¬ ((1 : Int) = 0) by decide)) (fun q => ?_)
                refine Tx.aload_n hC te_104_72 rfl ?_
                refine Tx.getR hC te_104_73 rfl rfl rfl ?_
                refine Tx.iload_n hC te_104_76 rfl ?_
                refine Tx.bipush hC te_104_77 rfl rfl ?_
                refine Tx.imulW hC te_104_79 (fun z13 z13i z13e => ?_)
                unfold InI at z13i z13e
                first | replace z13e := z13e (by omega) | clear z13e
                refine Tx.iload_n hC te_104_80 rfl ?_
                refine Tx.iaddW hC te_104_81 (fun z14 z14i z14e => ?_)
                unfold InI at z14i z14e
                first | replace z14e := z14e (by omega) | clear z14e
                refine Tx.iald hC te_104_82 rfl (by omega) (fun v15 v15e v15i => ?_)
                unfold InI at v15i
                refine Tx.ldc hC (z := (-100000)) te_104_83 rfl rfl rfl rfl ?_
                refine Tx.icmp hC (t := 100) te_104_85 (by decide) (fun q16 => ?_) (fun q16 => ?_)
                · replace q16 : (v15 : Int) = (-100000) := q16
                  refine Tx.iincW hC te_104_100 rfl rfl (fun z17 z17i z17e => ?_)
                  unfold InI at z17i z17e
                  first | replace z17e := z17e (by omega) | clear z17e
                  refine Tx.goto hC (t := 31) te_104_103 (by decide) ?_
                  exact Tx.weak (by repeat' (first | exact trivial | exact rfl | constructor)) (ih_31 z17 m_31 (by omega) (by omega) (by omega) hF_31)
                · replace q16 : ¬ ((v15 : Int) = (-100000)) := q16
                  refine Tx.aload_n hC te_104_88 rfl ?_
                  refine Tx.getR hC te_104_89 rfl rfl rfl ?_
                  refine Tx.iload_n hC te_104_92 rfl ?_
                  refine Tx.dup2 hC te_104_93 ?_
                  refine Tx.iald hC te_104_94 rfl (by omega) (fun v18 v18e v18i => ?_)
                  unfold InI at v18i
                  refine Tx.iconst hC te_104_95 rfl ?_
                  refine Tx.iload_n hC te_104_96 rfl ?_
                  refine Tx.bits hC (f := (fun (x y : Int32) => x <<< (y &&& 31))) te_104_97 (fun _ _ _ _ => Iff.rfl) (fun b19 b19e b19i => ?_)
                  unfold InI at b19i
                  refine Tx.bits hC (f := (fun (x y : Int32) => x ||| y)) te_104_98 (fun _ _ _ _ => Iff.rfl) (fun b20 b20e b20i => ?_)
                  unfold InI at b20i
                  refine Tx.iast hC te_104_99 rfl (by omega) ?_
                  have hF22 : FrS mem (upm m_31 34 (Int.toNat x2) b20) := FrS.up hF_31 (by unfold pSk; omega) (by omega)
                  generalize upm m_31 34 (Int.toNat x2) b20 = m21 at hF22 ⊢
                  refine Tx.iincW hC te_104_100 rfl rfl (fun z23 z23i z23e => ?_)
                  unfold InI at z23i z23e
                  first | replace z23e := z23e (by omega) | clear z23e
                  refine Tx.goto hC (t := 31) te_104_103 (by decide) ?_
                  exact Tx.weak (by repeat' (first | exact trivial | exact rfl | constructor)) (ih_31 z23 m21 (by omega) (by omega) (by omega) hF22)
      refine Tx.iload_n hC te_104_14 rfl ?_
      refine Tx.aload_n hC te_104_15 rfl ?_
      refine Tx.getI hC te_104_16 rfl rfl rfl (fun v24 v24e v24i => ?_)
      unfold InI at v24i
      rw [FrS.at hF_14 21 _ (by unfold pSk; omega)] at v24e
      refine Tx.icmp hC (t := 112) te_104_19 (by decide) (fun q25 => ?_) (fun q25 => ?_)
      · replace q25 : v24 ≤ (x2 : Int) := q25
        exact Tx.vret hC te_104_112 rfl (show K m_14 from H _ hF_14)
      · replace q25 : ¬ (v24 ≤ (x2 : Int)) := q25
        refine Tx.aload_n hC te_104_22 rfl ?_
        refine Tx.getR hC te_104_23 rfl rfl rfl ?_
        refine Tx.iload_n hC te_104_26 rfl ?_
        refine Tx.iconst hC te_104_27 rfl ?_
        refine Tx.iast hC te_104_28 rfl (by omega) ?_
        have hF27 : FrS mem (upm m_14 34 (Int.toNat x2) 0) := FrS.up hF_14 (by unfold pSk; omega) (by omega)
        generalize upm m_14 34 (Int.toNat x2) 0 = m26 at hF27 ⊢
        refine Tx.iconst hC te_104_29 rfl ?_
        refine Tx.istore_n hC te_104_30 rfl ?_
        exact l_31 _ 0 m26 (by omega) (by omega) (Nat.lt_succ_self _) hF27
  refine Tx.aload_n hC te_104_0 rfl ?_
  refine Tx.iconst hC te_104_1 rfl ?_
  refine Tx.aload_n hC te_104_2 rfl ?_
  refine Tx.getR hC te_104_3 rfl rfl rfl ?_
  refine Tx.iconst hC te_104_6 rfl ?_
  refine Tx.bipush hC te_104_7 rfl rfl ?_
  refine Tx.copy hC te_104_9 rfl rfl (by omega) rfl (fun m28 m28a m28b => ?_)
  have hF29 : FrS mem m28 := FrS.cp FrS.rf m28a (fun i => by unfold pSk; omega) (by omega)
  refine Tx.iconst hC te_104_12 rfl ?_
  refine Tx.istore_n hC te_104_13 rfl ?_
  exact l_14 _ 0 m28 (by omega) (Nat.lt_succ_self _) hF29
theorem f_89 {S : Nat × (Nat → Int32)} {n : Nat} {mem : MM} {K : MM → Prop} {E : Nat → MM → Prop} {d : Int} (hS : SkO mem d) (H : ∀ m', FrS mem m' → K m') : CQV (Ex S (n + 2)) 89 [.inr 21] mem K E := by
  refine CY.of (k := 2) mt_89 rfl rfl (fun hv => ?_)
  have hC := Ex.mono S (n + 1)
  clear hv
  have hs0 := hS.1
  have hs1 := hS.2.1
  show Tx (Ex S (n + 1)) S M_89 (kV K E) 0 0 0 [some (.inr 21), none, none] [] mem
  have l_2 : ∀ (N : Nat) (x1 : Int) (m_2 : MM), (0 ≤ x1) → ((8 - x1).toNat) < N → FrS mem m_2 → Tx (Ex S (n + 1)) S M_89 (kV K E) 0 0 2 [some (.inr 21), some (.inl x1), none] [] m_2 := by
    intro N
    induction N with
    | zero => intros; omega
    | succ N ih_2 =>
      intro x1 m_2 i2_0 hN_2 hF_2
      have l_19 : ∀ (N : Nat) (x2 : Int) (m_19 : MM), (0 ≤ x2) → (0 ≤ x1 ∧ x1 < 8) → ((8 - x2).toNat) < N → FrS mem m_19 → Tx (Ex S (n + 1)) S M_89 (kV K E) 0 0 19 [some (.inr 21), some (.inl x1), some (.inl x2)] [] m_19 := by
        intro N
        induction N with
        | zero => intros; omega
        | succ N ih_19 =>
          intro x2 m_19 i19_0 i19_1 hN_19 hF_19
          refine Tx.iload_n hC te_89_19 rfl ?_
          refine Tx.aload_n hC te_89_20 rfl ?_
          refine Tx.getI hC te_89_21 rfl rfl rfl (fun v1 v1e v1i => ?_)
          unfold InI at v1i
          rw [FrS.at hF_19 21 _ (by unfold pSk; omega)] at v1e
          refine Tx.icmp hC (t := 59) te_89_24 (by decide) (fun q2 => ?_) (fun q2 => ?_)
          · replace q2 : v1 ≤ (x2 : Int) := q2
            refine Tx.iincW hC te_89_59 rfl rfl (fun z3 z3i z3e => ?_)
            unfold InI at z3i z3e
            first | replace z3e := z3e (by omega) | clear z3e
            refine Tx.goto hC (t := 2) te_89_62 (by decide) ?_
            exact Tx.weak (by repeat' (first | exact trivial | exact rfl | constructor)) (ih_2 z3 m_19 (by omega) (by omega) hF_19)
          · replace q2 : ¬ (v1 ≤ (x2 : Int)) := q2
            refine Tx.iload_n hC te_89_27 rfl ?_
            refine Tx.iload_n hC te_89_28 rfl ?_
            refine Tx.icmp hC (t := 53) te_89_29 (by decide) (fun q4 => ?_) (fun q4 => ?_)
            · replace q4 : (x2 : Int) = x1 := q4
              refine Tx.iincW hC te_89_53 rfl rfl (fun z5 z5i z5e => ?_)
              unfold InI at z5i z5e
              first | replace z5e := z5e (by omega) | clear z5e
              refine Tx.goto hC (t := 19) te_89_56 (by decide) ?_
              exact ih_19 z5 m_19 (by omega) (by omega) (by omega) hF_19
            · replace q4 : ¬ ((x2 : Int) = x1) := q4
              refine Tx.aload_n hC te_89_32 rfl ?_
              refine Tx.iload_n hC te_89_33 rfl ?_
              refine Tx.iload_n hC te_89_34 rfl ?_
              refine Tx.virtI hC te_89_35 mt_90 (args := [.inr 21, .inl x1, .inl x2]) (rest := []) (c' := 0) (s' := 0) rfl rfl rfl rfl rfl rfl rfl rfl rfl rfl ?_
              refine f_90 (FrS.sk hF_19 hS) (by omega) (by omega) (fun r6 r6b r6i => ?_)
              unfold InI at r6i
              refine Tx.ifc hC (t := 53) te_89_38 (by decide) (fun q9 => ?_) (fun q9 => ?_)
              · replace q9 : (r6 : Int) = 0 := q9
                refine Tx.iincW hC te_89_53 rfl rfl (fun z10 z10i z10e => ?_)
                unfold InI at z10i z10e
                first | replace z10e := z10e (by omega) | clear z10e
                refine Tx.goto hC (t := 19) te_89_56 (by decide) ?_
                exact ih_19 z10 m_19 (by omega) (by omega) (by omega) hF_19
              · replace q9 : ¬ ((r6 : Int) = 0) := q9
                refine Tx.aload_n hC te_89_41 rfl ?_
                refine Tx.getR hC te_89_42 rfl rfl rfl ?_
                refine Tx.iload_n hC te_89_45 rfl ?_
                refine Tx.dup2 hC te_89_46 ?_
                refine Tx.iald hC te_89_47 rfl (by omega) (fun v11 v11e v11i => ?_)
                unfold InI at v11i
                refine Tx.iconst hC te_89_48 rfl ?_
                refine Tx.iload_n hC te_89_49 rfl ?_
                refine Tx.bits hC (f := (fun (x y : Int32) => x <<< (y &&& 31))) te_89_50 (fun _ _ _ _ => Iff.rfl) (fun b12 b12e b12i => ?_)
                unfold InI at b12i
                refine Tx.bits hC (f := (fun (x y : Int32) => x ||| y)) te_89_51 (fun _ _ _ _ => Iff.rfl) (fun b13 b13e b13i => ?_)
                unfold InI at b13i
                refine Tx.iast hC te_89_52 rfl (by omega) ?_
                have hF15 : FrS mem (upm m_19 35 (Int.toNat x1) b13) := FrS.up hF_19 (by unfold pSk; omega) (by omega)
                generalize upm m_19 35 (Int.toNat x1) b13 = m14 at hF15 ⊢
                refine Tx.iincW hC te_89_53 rfl rfl (fun z16 z16i z16e => ?_)
                unfold InI at z16i z16e
                first | replace z16e := z16e (by omega) | clear z16e
                refine Tx.goto hC (t := 19) te_89_56 (by decide) ?_
                exact ih_19 z16 m14 (by omega) (by omega) (by omega) hF15
      refine Tx.iload_n hC te_89_2 rfl ?_
      refine Tx.aload_n hC te_89_3 rfl ?_
      refine Tx.getI hC te_89_4 rfl rfl rfl (fun v17 v17e v17i => ?_)
      unfold InI at v17i
      rw [FrS.at hF_2 21 _ (by unfold pSk; omega)] at v17e
      refine Tx.icmp hC (t := 65) te_89_7 (by decide) (fun q18 => ?_) (fun q18 => ?_)
      · replace q18 : v17 ≤ (x1 : Int) := q18
        exact Tx.vret hC te_89_65 rfl (show K m_2 from H _ hF_2)
      · replace q18 : ¬ (v17 ≤ (x1 : Int)) := q18
        refine Tx.aload_n hC te_89_10 rfl ?_
        refine Tx.getR hC te_89_11 rfl rfl rfl ?_
        refine Tx.iload_n hC te_89_14 rfl ?_
        refine Tx.iconst hC te_89_15 rfl ?_
        refine Tx.iast hC te_89_16 rfl (by omega) ?_
        have hF20 : FrS mem (upm m_2 35 (Int.toNat x1) 0) := FrS.up hF_2 (by unfold pSk; omega) (by omega)
        generalize upm m_2 35 (Int.toNat x1) 0 = m19 at hF20 ⊢
        refine Tx.iconst hC te_89_17 rfl ?_
        refine Tx.istore_n hC te_89_18 rfl ?_
        exact l_19 _ 0 m19 (by omega) (by omega) (Nat.lt_succ_self _) hF20
  refine Tx.iconst hC te_89_0 rfl ?_
  refine Tx.istore_n hC te_89_1 rfl ?_
  exact l_2 _ 0 mem (by omega) (Nat.lt_succ_self _) FrS.rf
theorem f_93 {S : Nat × (Nat → Int32)} {n : Nat} {mem : MM} {K : Int → MM → Prop} {E : Nat → MM → Prop} {d : Int} (hS : SkO mem d) {o : Int} (ho : 0 ≤ o ∧ o < 8) (H : ∀ r m', r = 0 ∨ r = 1 → FrS mem m' → K r m') : CQI (Ex S (n + 2)) 93 [.inr 21, .inl o] mem K E := by
  refine CY.of (k := 3) mt_93 rfl rfl (fun hv => ?_)
  have hC := Ex.mono S (n + 1)
  have ii_o : InI o := hv (.inl o) (by simp)
  unfold InI at ii_o
  clear hv
  have hs0 := hS.1
  have hs1 := hS.2.1
  show Tx (Ex S (n + 1)) S M_93 (kI K E) 0 0 0 [some (.inr 21), some (.inl o), none, none, none] [] mem
  have l_144 : ∀ (N : Nat) (x2 x3 : Int) (m_144 : MM), (0 ≤ x3) → ((8 - x3).toNat) < N → FrS mem m_144 → Tx (Ex S (n + 1)) S M_93 (kI K E) 0 0 144 [some (.inr 21), some (.inl o), some (.inl x2), some (.inl x3), none] [] m_144 := by
    intro N
    induction N with
    | zero => intros; omega
    | succ N ih_144 =>
      intro x2 x3 m_144 i144_0 hN_144 hF_144
      have l_171 : ∀ (N : Nat) (x4 : Int) (m_171 : MM), (0 ≤ x4) → (0 ≤ x3 ∧ x3 < 8) → ((8 - x4).toNat) < N → FrS mem m_171 → Tx (Ex S (n + 1)) S M_93 (kI K E) 0 0 171 [some (.inr 21), some (.inl o), some (.inl x2), some (.inl x3), some (.inl x4)] [] m_171 := by
        intro N
        induction N with
        | zero => intros; omega
        | succ N ih_171 =>
          intro x4 m_171 i171_0 i171_1 hN_171 hF_171
          refine Tx.iload hC te_93_171 rfl ?_
          refine Tx.aload_n hC te_93_173 rfl ?_
          refine Tx.getI hC te_93_174 rfl rfl rfl (fun v1 v1e v1i => ?_)
          unfold InI at v1i
          rw [FrS.at hF_171 21 _ (by unfold pSk; omega)] at v1e
          refine Tx.icmp hC (t := 265) te_93_177 (by decide) (fun q2 => ?_) (fun q2 => ?_)
          · replace q2 : v1 ≤ (x4 : Int) := q2
            refine Tx.aload_n hC te_93_265 rfl ?_
            refine Tx.getR hC te_93_266 rfl rfl rfl ?_
            refine Tx.iload_n hC te_93_269 rfl ?_
            refine Tx.iald hC te_93_270 rfl (by omega) (fun v3 v3e v3i => ?_)
            unfold InI at v3i
            refine Tx.aload_n hC te_93_271 rfl ?_
            refine Tx.getR hC te_93_272 rfl rfl rfl ?_
            refine Tx.iload_n hC te_93_275 rfl ?_
            refine Tx.iald hC te_93_276 rfl (by omega) (fun v4 v4e v4i => ?_)
            unfold InI at v4i
            refine Tx.iaddW hC te_93_277 (fun z5 z5i z5e => ?_)
            unfold InI at z5i z5e
            first | replace z5e := z5e (by omega) | clear z5e
            refine Tx.ifc hC (t := 283) te_93_278 (by decide) (fun q6 => ?_) (fun q6 => ?_)
            · replace q6 : (z5 : Int) ≤ 0 := q6
              refine Tx.iincW hC te_93_283 rfl rfl (fun z7 z7i z7e => ?_)
              unfold InI at z7i z7e
              first | replace z7e := z7e (by omega) | clear z7e
              refine Tx.goto hC (t := 144) te_93_286 (by decide) ?_
              exact Tx.weak (by repeat' (first | exact trivial | exact rfl | constructor)) (ih_144 x2 z7 m_171 (by omega) (by omega) hF_171)
            · replace q6 : ¬ ((z5 : Int) ≤ 0) := q6
              refine Tx.iconst hC te_93_281 rfl ?_
              exact Tx.bret hC te_93_282 rfl (by omega) (show K 0 m_171 from H _ _ (by omega) hF_171)
          · replace q2 : ¬ (v1 ≤ (x4 : Int)) := q2
            refine Tx.iload_n hC te_93_180 rfl ?_
            refine Tx.iconst hC te_93_181 rfl ?_
            refine Tx.iload hC te_93_182 rfl ?_
            refine Tx.bits hC (f := (fun (x y : Int32) => x <<< (y &&& 31))) te_93_184 (fun _ _ _ _ => Iff.rfl) (fun b8 b8e b8i => ?_)
            unfold InI at b8i
            refine Tx.bits hC (f := (fun (x y : Int32) => x &&& y)) te_93_185 (fun _ _ _ _ => Iff.rfl) (fun b9 b9e b9i => ?_)
            unfold InI at b9i
            refine Tx.ifc hC (t := 259) te_93_186 (by decide) (fun q10 => ?_) (fun q10 => ?_)
            · replace q10 : (b9 : Int) = 0 := q10
              refine Tx.iincW hC te_93_259 rfl rfl (fun z11 z11i z11e => ?_)
              unfold InI at z11i z11e
              first | replace z11e := z11e (by omega) | clear z11e
              refine Tx.goto hC (t := 171) te_93_262 (by decide) ?_
              exact ih_171 z11 m_171 (by omega) (by omega) (by omega) hF_171
            · replace q10 : ¬ ((b9 : Int) = 0) := q10
              refine Tx.aload_n hC te_93_189 rfl ?_
              refine Tx.getR hC te_93_190 rfl rfl rfl ?_
              refine Tx.iload_n hC te_93_193 rfl ?_
              refine Tx.aload_n hC te_93_194 rfl ?_
              refine Tx.getR hC te_93_195 rfl rfl rfl ?_
              refine Tx.iload_n hC te_93_198 rfl ?_
              refine Tx.iald hC te_93_199 rfl (by omega) (fun v12 v12e v12i => ?_)
              unfold InI at v12i
              refine Tx.aload_n hC te_93_200 rfl ?_
              refine Tx.getR hC te_93_201 rfl rfl rfl ?_
              refine Tx.iload_n hC te_93_204 rfl ?_
              refine Tx.bipush hC te_93_205 rfl rfl ?_
              refine Tx.imulW hC te_93_207 (fun z13 z13i z13e => ?_)
              unfold InI at z13i z13e
              first | replace z13e := z13e (by omega) | clear z13e
              refine Tx.iload hC te_93_208 rfl ?_
              refine Tx.iaddW hC te_93_210 (fun z14 z14i z14e => ?_)
              unfold InI at z14i z14e
              first | replace z14e := z14e (by omega) | clear z14e
              refine Tx.iald hC te_93_211 rfl (by omega) (fun v15 v15e v15i => ?_)
              unfold InI at v15i
              refine Tx.aload_n hC te_93_212 rfl ?_
              refine Tx.getR hC te_93_213 rfl rfl rfl ?_
              refine Tx.iload hC te_93_216 rfl ?_
              refine Tx.iald hC te_93_218 rfl (by omega) (fun v16 v16e v16i => ?_)
              unfold InI at v16i
              refine Tx.iaddW hC te_93_219 (fun z17 z17i z17e => ?_)
              unfold InI at z17i z17e
              first | replace z17e := z17e (by omega) | clear z17e
              refine Tx.statI hC te_93_220 (by decide) mt_40 (args := [.inl v12, .inl z17]) (rest := [.inl x3, .inr 32]) (c' := 0) (s' := 0) rfl rfl rfl rfl rfl rfl rfl ?_
              refine f_40q (fun r18 r18a r18b r18c r18i => ?_)
              unfold InI at r18i
              refine Tx.iast hC te_93_223 rfl (by omega) ?_
              have hF22 : FrS mem (upm m_171 32 (Int.toNat x3) r18) := FrS.up hF_171 (by unfold pSk; omega) (by omega)
              generalize upm m_171 32 (Int.toNat x3) r18 = m21 at hF22 ⊢
              refine Tx.aload_n hC te_93_224 rfl ?_
              refine Tx.getR hC te_93_225 rfl rfl rfl ?_
              refine Tx.iload_n hC te_93_228 rfl ?_
              refine Tx.aload_n hC te_93_229 rfl ?_
              refine Tx.getR hC te_93_230 rfl rfl rfl ?_
              refine Tx.iload_n hC te_93_233 rfl ?_
              refine Tx.iald hC te_93_234 rfl (by omega) (fun v23 v23e v23i => ?_)
              unfold InI at v23i
              refine Tx.aload_n hC te_93_235 rfl ?_
              refine Tx.getR hC te_93_236 rfl rfl rfl ?_
              refine Tx.iload hC te_93_239 rfl ?_
              refine Tx.iald hC te_93_241 rfl (by omega) (fun v24 v24e v24i => ?_)
              unfold InI at v24i
              refine Tx.aload_n hC te_93_242 rfl ?_
              refine Tx.getR hC te_93_243 rfl rfl rfl ?_
              refine Tx.iload hC te_93_246 rfl ?_
              refine Tx.bipush hC te_93_248 rfl rfl ?_
              refine Tx.imulW hC te_93_250 (fun z25 z25i z25e => ?_)
              unfold InI at z25i z25e
              first | replace z25e := z25e (by omega) | clear z25e
              refine Tx.iload_n hC te_93_251 rfl ?_
              refine Tx.iaddW hC te_93_252 (fun z26 z26i z26e => ?_)
              unfold InI at z26i z26e
              first | replace z26e := z26e (by omega) | clear z26e
              refine Tx.iald hC te_93_253 rfl (by omega) (fun v27 v27e v27i => ?_)
              unfold InI at v27i
              refine Tx.iaddW hC te_93_254 (fun z28 z28i z28e => ?_)
              unfold InI at z28i z28e
              first | replace z28e := z28e (by omega) | clear z28e
              refine Tx.statI hC te_93_255 (by decide) mt_40 (args := [.inl v23, .inl z28]) (rest := [.inl x3, .inr 33]) (c' := 0) (s' := 0) rfl rfl rfl rfl rfl rfl rfl ?_
              refine f_40q (fun r29 r29a r29b r29c r29i => ?_)
              unfold InI at r29i
              refine Tx.iast hC te_93_258 rfl (by omega) ?_
              have hF33 : FrS mem (upm m21 33 (Int.toNat x3) r29) := FrS.up hF22 (by unfold pSk; omega) (by omega)
              generalize upm m21 33 (Int.toNat x3) r29 = m32 at hF33 ⊢
              refine Tx.iincW hC te_93_259 rfl rfl (fun z34 z34i z34e => ?_)
              unfold InI at z34i z34e
              first | replace z34e := z34e (by omega) | clear z34e
              refine Tx.goto hC (t := 171) te_93_262 (by decide) ?_
              exact ih_171 z34 m32 (by omega) (by omega) (by omega) hF33
      refine Tx.iload_n hC te_93_144 rfl ?_
      refine Tx.aload_n hC te_93_145 rfl ?_
      refine Tx.getI hC te_93_146 rfl rfl rfl (fun v35 v35e v35i => ?_)
      unfold InI at v35i
      rw [FrS.at hF_144 21 _ (by unfold pSk; omega)] at v35e
      refine Tx.icmp hC (t := 289) te_93_149 (by decide) (fun q36 => ?_) (fun q36 => ?_)
      · replace q36 : v35 ≤ (x3 : Int) := q36
        refine Tx.iconst hC te_93_289 rfl ?_
        exact Tx.bret hC te_93_290 rfl (by omega) (show K 1 m_144 from H _ _ (by omega) hF_144)
      · replace q36 : ¬ (v35 ≤ (x3 : Int)) := q36
        refine Tx.aload_n hC te_93_152 rfl ?_
        refine Tx.getR hC te_93_153 rfl rfl rfl ?_
        refine Tx.iload_n hC te_93_156 rfl ?_
        refine Tx.iald hC te_93_157 rfl (by omega) (fun v37 v37e v37i => ?_)
        unfold InI at v37i
        refine Tx.iconst hC te_93_158 rfl ?_
        refine Tx.iload_n hC te_93_159 rfl ?_
        refine Tx.bits hC (f := (fun (x y : Int32) => x <<< (y &&& 31))) te_93_160 (fun _ _ _ _ => Iff.rfl) (fun b38 b38e b38i => ?_)
        unfold InI at b38i
        refine Tx.bits hC (f := (fun (x y : Int32) => x &&& y)) te_93_161 (fun _ _ _ _ => Iff.rfl) (fun b39 b39e b39i => ?_)
        unfold InI at b39i
        refine Tx.ifc hC (t := 168) te_93_162 (by decide) (fun q40 => ?_) (fun q40 => ?_)
        · replace q40 : ¬ (b39 : Int) = 0 := q40
          refine Tx.iconst hC te_93_168 rfl ?_
          refine Tx.istore hC te_93_169 rfl ?_
          exact l_171 _ 0 m_144 (by omega) (by omega) (Nat.lt_succ_self _) hF_144
        · replace q40 : ¬ (¬ (b39 : Int) = 0) := q40
          refine Tx.goto hC (t := 283) te_93_165 (by decide) ?_
          refine Tx.iincW hC te_93_283 rfl rfl (fun z41 z41i z41e => ?_)
          unfold InI at z41i z41e
          first | replace z41e := z41e (by omega) | clear z41e
          refine Tx.goto hC (t := 144) te_93_286 (by decide) ?_
          exact ih_144 x2 z41 m_144 (by omega) (by omega) hF_144
  have l_14 : ∀ (N : Nat) (x2 x3 : Int) (m_14 : MM), (0 ≤ x3) → ((8 - x3).toNat) < N → FrS mem m_14 → Tx (Ex S (n + 1)) S M_93 (kI K E) 0 0 14 [some (.inr 21), some (.inl o), some (.inl x2), some (.inl x3), none] [] m_14 := by
    intro N
    induction N with
    | zero => intros; omega
    | succ N ih_14 =>
      intro x2 x3 m_14 i14_0 hN_14 hF_14
      refine Tx.iload_n hC te_93_14 rfl ?_
      refine Tx.aload_n hC te_93_15 rfl ?_
      refine Tx.getI hC te_93_16 rfl rfl rfl (fun v42 v42e v42i => ?_)
      unfold InI at v42i
      rw [FrS.at hF_14 21 _ (by unfold pSk; omega)] at v42e
      refine Tx.icmp hC (t := 142) te_93_19 (by decide) (fun q43 => ?_) (fun q43 => ?_)
      · replace q43 : v42 ≤ (x3 : Int) := q43
        refine Tx.iconst hC te_93_142 rfl ?_
        refine Tx.istore_n hC te_93_143 rfl ?_
        exact l_144 _ x2 0 m_14 (by omega) (Nat.lt_succ_self _) hF_14
      · replace q43 : ¬ (v42 ≤ (x3 : Int)) := q43
        refine Tx.aload_n hC te_93_22 rfl ?_
        refine Tx.getR hC te_93_23 rfl rfl rfl ?_
        refine Tx.iload_n hC te_93_26 rfl ?_
        refine Tx.aload_n hC te_93_27 rfl ?_
        refine Tx.getR hC te_93_28 rfl rfl rfl ?_
        refine Tx.iload_n hC te_93_31 rfl ?_
        refine Tx.bipush hC te_93_32 rfl rfl ?_
        refine Tx.imulW hC te_93_34 (fun z44 z44i z44e => ?_)
        unfold InI at z44i z44e
        first | replace z44e := z44e (by omega) | clear z44e
        refine Tx.iload_n hC te_93_35 rfl ?_
        refine Tx.iaddW hC te_93_36 (fun z45 z45i z45e => ?_)
        unfold InI at z45i z45e
        first | replace z45e := z45e (by omega) | clear z45e
        refine Tx.iald hC te_93_37 rfl (by omega) (fun v46 v46e v46i => ?_)
        unfold InI at v46i
        refine Tx.iast hC te_93_38 rfl (by omega) ?_
        have hF48 : FrS mem (upm m_14 32 (Int.toNat x3) v46) := FrS.up hF_14 (by unfold pSk; omega) (by omega)
        generalize upm m_14 32 (Int.toNat x3) v46 = m47 at hF48 ⊢
        refine Tx.aload_n hC te_93_39 rfl ?_
        refine Tx.getR hC te_93_40 rfl rfl rfl ?_
        refine Tx.iload_n hC te_93_43 rfl ?_
        refine Tx.aload_n hC te_93_44 rfl ?_
        refine Tx.getR hC te_93_45 rfl rfl rfl ?_
        refine Tx.iload_n hC te_93_48 rfl ?_
        refine Tx.bipush hC te_93_49 rfl rfl ?_
        refine Tx.imulW hC te_93_51 (fun z49 z49i z49e => ?_)
        unfold InI at z49i z49e
        first | replace z49e := z49e (by omega) | clear z49e
        refine Tx.iload_n hC te_93_52 rfl ?_
        refine Tx.iaddW hC te_93_53 (fun z50 z50i z50e => ?_)
        unfold InI at z50i z50e
        first | replace z50e := z50e (by omega) | clear z50e
        refine Tx.iald hC te_93_54 rfl (by omega) (fun v51 v51e v51i => ?_)
        unfold InI at v51i
        refine Tx.iast hC te_93_55 rfl (by omega) ?_
        have hF53 : FrS mem (upm m47 33 (Int.toNat x3) v51) := FrS.up hF48 (by unfold pSk; omega) (by omega)
        generalize upm m47 33 (Int.toNat x3) v51 = m52 at hF53 ⊢
        refine Tx.iload_n hC te_93_56 rfl ?_
        refine Tx.iconst hC te_93_57 rfl ?_
        refine Tx.iload_n hC te_93_58 rfl ?_
        refine Tx.bits hC (f := (fun (x y : Int32) => x <<< (y &&& 31))) te_93_59 (fun _ _ _ _ => Iff.rfl) (fun b54 b54e b54i => ?_)
        unfold InI at b54i
        refine Tx.bits hC (f := (fun (x y : Int32) => x &&& y)) te_93_60 (fun _ _ _ _ => Iff.rfl) (fun b55 b55e b55i => ?_)
        unfold InI at b55i
        refine Tx.ifc hC (t := 136) te_93_61 (by decide) (fun q56 => ?_) (fun q56 => ?_)
        · replace q56 : (b55 : Int) = 0 := q56
          refine Tx.iincW hC te_93_136 rfl rfl (fun z57 z57i z57e => ?_)
          unfold InI at z57i z57e
          first | replace z57e := z57e (by omega) | clear z57e
          refine Tx.goto hC (t := 14) te_93_139 (by decide) ?_
          exact ih_14 x2 z57 m52 (by omega) (by omega) hF53
        · replace q56 : ¬ ((b55 : Int) = 0) := q56
          refine Tx.aload_n hC te_93_64 rfl ?_
          refine Tx.getR hC te_93_65 rfl rfl rfl ?_
          refine Tx.iload_n hC te_93_68 rfl ?_
          refine Tx.dup2 hC te_93_69 ?_
          refine Tx.iald hC te_93_70 rfl (by omega) (fun v58 v58e v58i => ?_)
          unfold InI at v58i
          refine Tx.aload_n hC te_93_71 rfl ?_
          refine Tx.getR hC te_93_72 rfl rfl rfl ?_
          refine Tx.iload_n hC te_93_75 rfl ?_
          refine Tx.iald hC te_93_76 rfl (by omega) (fun v59 v59e v59i => ?_)
          unfold InI at v59i
          refine Tx.aload_n hC te_93_77 rfl ?_
          refine Tx.getR hC te_93_78 rfl rfl rfl ?_
          refine Tx.iload_n hC te_93_81 rfl ?_
          refine Tx.iald hC te_93_82 rfl (by omega) (fun v60 v60e v60i => ?_)
          unfold InI at v60i
          refine Tx.isubW hC te_93_83 (fun z61 z61i z61e => ?_)
          unfold InI at z61i z61e
          first | replace z61e := z61e (by omega) | clear z61e
          refine Tx.aload_n hC te_93_84 rfl ?_
          refine Tx.getR hC te_93_85 rfl rfl rfl ?_
          refine Tx.iload_n hC te_93_88 rfl ?_
          refine Tx.iald hC te_93_89 rfl (by omega) (fun v62 v62e v62i => ?_)
          unfold InI at v62i
          refine Tx.isubW hC te_93_90 (fun z63 z63i z63e => ?_)
          unfold InI at z63i z63e
          first | replace z63e := z63e (by omega) | clear z63e
          refine Tx.aload_n hC te_93_91 rfl ?_
          refine Tx.getI hC te_93_92 rfl rfl rfl (fun v64 v64e v64i => ?_)
          unfold InI at v64i
          rw [FrS.at hF53 21 _ (by unfold pSk; omega)] at v64e
          refine Tx.statI hC te_93_95 (by decide) mt_94 (args := [.inl z63, .inl v64]) (rest := [.inl v58, .inl x3, .inr 32]) (c' := 0) (s' := 0) rfl rfl rfl rfl rfl rfl rfl ?_
          refine f_94 (by omega) (fun r65 r65a r65b r65i => ?_)
          unfold InI at r65i
          refine Tx.iaddW hC te_93_98 (fun z68 z68i z68e => ?_)
          unfold InI at z68i z68e
          first | replace z68e := z68e (by omega) | clear z68e
          refine Tx.iast hC te_93_99 rfl (by omega) ?_
          have hF70 : FrS mem (upm m52 32 (Int.toNat x3) z68) := FrS.up hF53 (by unfold pSk; omega) (by omega)
          generalize upm m52 32 (Int.toNat x3) z68 = m69 at hF70 ⊢
          refine Tx.aload_n hC te_93_100 rfl ?_
          refine Tx.getR hC te_93_101 rfl rfl rfl ?_
          refine Tx.iload_n hC te_93_104 rfl ?_
          refine Tx.dup2 hC te_93_105 ?_
          refine Tx.iald hC te_93_106 rfl (by omega) (fun v71 v71e v71i => ?_)
          unfold InI at v71i
          refine Tx.aload_n hC te_93_107 rfl ?_
          refine Tx.getR hC te_93_108 rfl rfl rfl ?_
          refine Tx.iload_n hC te_93_111 rfl ?_
          refine Tx.iald hC te_93_112 rfl (by omega) (fun v72 v72e v72i => ?_)
          unfold InI at v72i
          refine Tx.aload_n hC te_93_113 rfl ?_
          refine Tx.getR hC te_93_114 rfl rfl rfl ?_
          refine Tx.iload_n hC te_93_117 rfl ?_
          refine Tx.iald hC te_93_118 rfl (by omega) (fun v73 v73e v73i => ?_)
          unfold InI at v73i
          refine Tx.isubW hC te_93_119 (fun z74 z74i z74e => ?_)
          unfold InI at z74i z74e
          first | replace z74e := z74e (by omega) | clear z74e
          refine Tx.aload_n hC te_93_120 rfl ?_
          refine Tx.getR hC te_93_121 rfl rfl rfl ?_
          refine Tx.iload_n hC te_93_124 rfl ?_
          refine Tx.iald hC te_93_125 rfl (by omega) (fun v75 v75e v75i => ?_)
          unfold InI at v75i
          refine Tx.isubW hC te_93_126 (fun z76 z76i z76e => ?_)
          unfold InI at z76i z76e
          first | replace z76e := z76e (by omega) | clear z76e
          refine Tx.aload_n hC te_93_127 rfl ?_
          refine Tx.getI hC te_93_128 rfl rfl rfl (fun v77 v77e v77i => ?_)
          unfold InI at v77i
          rw [FrS.at hF70 21 _ (by unfold pSk; omega)] at v77e
          refine Tx.statI hC te_93_131 (by decide) mt_94 (args := [.inl z76, .inl v77]) (rest := [.inl v71, .inl x3, .inr 33]) (c' := 0) (s' := 0) rfl rfl rfl rfl rfl rfl rfl ?_
          refine f_94 (by omega) (fun r78 r78a r78b r78i => ?_)
          unfold InI at r78i
          refine Tx.iaddW hC te_93_134 (fun z81 z81i z81e => ?_)
          unfold InI at z81i z81e
          first | replace z81e := z81e (by omega) | clear z81e
          refine Tx.iast hC te_93_135 rfl (by omega) ?_
          have hF83 : FrS mem (upm m69 33 (Int.toNat x3) z81) := FrS.up hF70 (by unfold pSk; omega) (by omega)
          generalize upm m69 33 (Int.toNat x3) z81 = m82 at hF83 ⊢
          refine Tx.iincW hC te_93_136 rfl rfl (fun z84 z84i z84e => ?_)
          unfold InI at z84i z84e
          first | replace z84e := z84e (by omega) | clear z84e
          refine Tx.goto hC (t := 14) te_93_139 (by decide) ?_
          exact ih_14 x2 z84 m82 (by omega) (by omega) hF83
  refine Tx.aload_n hC te_93_0 rfl ?_
  refine Tx.getR hC te_93_1 rfl rfl rfl ?_
  refine Tx.iload_n hC te_93_4 rfl ?_
  refine Tx.iald hC te_93_5 rfl (by omega) (fun v85 v85e v85i => ?_)
  unfold InI at v85i
  refine Tx.aload_n hC te_93_6 rfl ?_
  refine Tx.getI hC te_93_7 rfl rfl rfl (fun v86 v86e v86i => ?_)
  unfold InI at v86i
  refine Tx.bits hC (f := (fun (x y : Int32) => x &&& y)) te_93_10 (fun _ _ _ _ => Iff.rfl) (fun b87 b87e b87i => ?_)
  unfold InI at b87i
  refine Tx.istore_n hC te_93_11 rfl ?_
  refine Tx.iconst hC te_93_12 rfl ?_
  refine Tx.istore_n hC te_93_13 rfl ?_
  exact l_14 _ b87 0 mem (by omega) (Nat.lt_succ_self _) FrS.rf
theorem f_95 {S : Nat × (Nat → Int32)} {n : Nat} {mem : MM} {K : MM → Prop} {E : Nat → MM → Prop} {d : Int} (hS : SkO mem d) {o : Int} (ho : 0 ≤ o ∧ o < 8) (H : ∀ m', FrS mem m' → K m') : CQV (Ex S (n + 2)) 95 [.inr 21, .inl o] mem K E := by
  refine CY.of (k := 3) mt_95 rfl rfl (fun hv => ?_)
  have hC := Ex.mono S (n + 1)
  have ii_o : InI o := hv (.inl o) (by simp)
  unfold InI at ii_o
  clear hv
  have hs0 := hS.1
  have hs1 := hS.2.1
  show Tx (Ex S (n + 1)) S M_95 (kV K E) 0 0 0 [some (.inr 21), some (.inl o), none, none, none] [] mem
  have l_2 : ∀ (N : Nat) (x2 : Int) (m_2 : MM), (0 ≤ x2) → ((8 - x2).toNat) < N → FrS mem m_2 → Tx (Ex S (n + 1)) S M_95 (kV K E) 0 0 2 [some (.inr 21), some (.inl o), some (.inl x2), none, none] [] m_2 := by
    intro N
    induction N with
    | zero => intros; omega
    | succ N ih_2 =>
      intro x2 m_2 i2_0 hN_2 hF_2
      have l_62 : ∀ (N : Nat) (x3 : Int) (m_62 : MM), (0 ≤ x3) → (0 ≤ x2 ∧ x2 < 8) → ((8 - x3).toNat) < N → FrS mem m_62 → Tx (Ex S (n + 1)) S M_95 (kV K E) 0 0 62 [some (.inr 21), some (.inl o), some (.inl x2), some (.inl x3), none] [] m_62 := by
        intro N
        induction N with
        | zero => intros; omega
        | succ N ih_62 =>
          intro x3 m_62 i62_0 i62_1 hN_62 hF_62
          refine Tx.iload_n hC te_95_62 rfl ?_
          refine Tx.aload_n hC te_95_63 rfl ?_
          refine Tx.getI hC te_95_64 rfl rfl rfl (fun v1 v1e v1i => ?_)
          unfold InI at v1i
          rw [FrS.at hF_62 21 _ (by unfold pSk; omega)] at v1e
          refine Tx.icmp hC (t := 132) te_95_67 (by decide) (fun q2 => ?_) (fun q2 => ?_)
          · replace q2 : v1 ≤ (x3 : Int) := q2
            refine Tx.iincW hC te_95_132 rfl rfl (fun z3 z3i z3e => ?_)
            unfold InI at z3i z3e
            first | replace z3e := z3e (by omega) | clear z3e
            refine Tx.goto hC (t := 2) te_95_135 (by decide) ?_
            exact Tx.weak (by repeat' (first | exact trivial | exact rfl | constructor)) (ih_2 z3 m_62 (by omega) (by omega) hF_62)
          · replace q2 : ¬ (v1 ≤ (x3 : Int)) := q2
            refine Tx.iload_n hC te_95_70 rfl ?_
            refine Tx.iload_n hC te_95_71 rfl ?_
            refine Tx.icmp hC (t := 126) te_95_72 (by decide) (fun q4 => ?_) (fun q4 => ?_)
            · replace q4 : (x3 : Int) = x2 := q4
              refine Tx.iincW hC te_95_126 rfl rfl (fun z5 z5i z5e => ?_)
              unfold InI at z5i z5e
              first | replace z5e := z5e (by omega) | clear z5e
              refine Tx.goto hC (t := 62) te_95_129 (by decide) ?_
              exact ih_62 z5 m_62 (by omega) (by omega) (by omega) hF_62
            · replace q4 : ¬ ((x3 : Int) = x2) := q4
              refine Tx.aload_n hC te_95_75 rfl ?_
              refine Tx.getR hC te_95_76 rfl rfl rfl ?_
              refine Tx.iload_n hC te_95_79 rfl ?_
              refine Tx.iald hC te_95_80 rfl (by omega) (fun v6 v6e v6i => ?_)
              unfold InI at v6i
              refine Tx.iconst hC te_95_81 rfl ?_
              refine Tx.iload_n hC te_95_82 rfl ?_
              refine Tx.bits hC (f := (fun (x y : Int32) => x <<< (y &&& 31))) te_95_83 (fun _ _ _ _ => Iff.rfl) (fun b7 b7e b7i => ?_)
              unfold InI at b7i
              refine Tx.bits hC (f := (fun (x y : Int32) => x &&& y)) te_95_84 (fun _ _ _ _ => Iff.rfl) (fun b8 b8e b8i => ?_)
              unfold InI at b8i
              refine Tx.ifc hC (t := 126) te_95_85 (by decide) (fun q9 => ?_) (fun q9 => ?_)
              · replace q9 : (b8 : Int) = 0 := q9
                refine Tx.iincW hC te_95_126 rfl rfl (fun z10 z10i z10e => ?_)
                unfold InI at z10i z10e
                first | replace z10e := z10e (by omega) | clear z10e
                refine Tx.goto hC (t := 62) te_95_129 (by decide) ?_
                exact ih_62 z10 m_62 (by omega) (by omega) (by omega) hF_62
              · replace q9 : ¬ ((b8 : Int) = 0) := q9
                refine Tx.iload_n hC te_95_88 rfl ?_
                refine Tx.bipush hC te_95_89 rfl rfl ?_
                refine Tx.imulW hC te_95_91 (fun z11 z11i z11e => ?_)
                unfold InI at z11i z11e
                first | replace z11e := z11e (by omega) | clear z11e
                refine Tx.iload_n hC te_95_92 rfl ?_
                refine Tx.iaddW hC te_95_93 (fun z12 z12i z12e => ?_)
                unfold InI at z12i z12e
                first | replace z12e := z12e (by omega) | clear z12e
                refine Tx.istore hC te_95_94 rfl ?_
                refine Tx.aload_n hC te_95_96 rfl ?_
                refine Tx.getR hC te_95_97 rfl rfl rfl ?_
                refine Tx.iload hC te_95_100 rfl ?_
                refine Tx.aload_n hC te_95_102 rfl ?_
                refine Tx.getR hC te_95_103 rfl rfl rfl ?_
                refine Tx.iload hC te_95_106 rfl ?_
                refine Tx.iald hC te_95_108 rfl (by omega) (fun v13 v13e v13i => ?_)
                unfold InI at v13i
                refine Tx.aload_n hC te_95_109 rfl ?_
                refine Tx.getR hC te_95_110 rfl rfl rfl ?_
                refine Tx.iload_n hC te_95_113 rfl ?_
                refine Tx.iald hC te_95_114 rfl (by omega) (fun v14 v14e v14i => ?_)
                unfold InI at v14i
                refine Tx.aload_n hC te_95_115 rfl ?_
                refine Tx.getR hC te_95_116 rfl rfl rfl ?_
                refine Tx.iload_n hC te_95_119 rfl ?_
                refine Tx.iald hC te_95_120 rfl (by omega) (fun v15 v15e v15i => ?_)
                unfold InI at v15i
                refine Tx.iaddW hC te_95_121 (fun z16 z16i z16e => ?_)
                unfold InI at z16i z16e
                first | replace z16e := z16e (by omega) | clear z16e
                refine Tx.statI hC te_95_122 (by decide) mt_40 (args := [.inl v13, .inl z16]) (rest := [.inl z12, .inr 30]) (c' := 0) (s' := 0) rfl rfl rfl rfl rfl rfl rfl ?_
                refine f_40q (fun r17 r17a r17b r17c r17i => ?_)
                unfold InI at r17i
                refine Tx.iast hC te_95_125 rfl (by omega) ?_
                have hF21 : FrS mem (upm m_62 30 (Int.toNat z12) r17) := FrS.up hF_62 (by unfold pSk; omega) (by omega)
                generalize upm m_62 30 (Int.toNat z12) r17 = m20 at hF21 ⊢
                refine Tx.iincW hC te_95_126 rfl rfl (fun z22 z22i z22e => ?_)
                unfold InI at z22i z22e
                first | replace z22e := z22e (by omega) | clear z22e
                refine Tx.goto hC (t := 62) te_95_129 (by decide) ?_
                exact Tx.weak (by repeat' (first | exact trivial | exact rfl | constructor)) (ih_62 z22 m20 (by omega) (by omega) (by omega) hF21)
      refine Tx.iload_n hC te_95_2 rfl ?_
      refine Tx.aload_n hC te_95_3 rfl ?_
      refine Tx.getI hC te_95_4 rfl rfl rfl (fun v23 v23e v23i => ?_)
      unfold InI at v23i
      rw [FrS.at hF_2 21 _ (by unfold pSk; omega)] at v23e
      refine Tx.icmp hC (t := 138) te_95_7 (by decide) (fun q24 => ?_) (fun q24 => ?_)
      · replace q24 : v23 ≤ (x2 : Int) := q24
        exact Tx.vret hC te_95_138 rfl (show K m_2 from H _ hF_2)
      · replace q24 : ¬ (v23 ≤ (x2 : Int)) := q24
        refine Tx.aload_n hC te_95_10 rfl ?_
        refine Tx.getR hC te_95_11 rfl rfl rfl ?_
        refine Tx.iload_n hC te_95_14 rfl ?_
        refine Tx.iald hC te_95_15 rfl (by omega) (fun v25 v25e v25i => ?_)
        unfold InI at v25i
        refine Tx.iconst hC te_95_16 rfl ?_
        refine Tx.iload_n hC te_95_17 rfl ?_
        refine Tx.bits hC (f := (fun (x y : Int32) => x <<< (y &&& 31))) te_95_18 (fun _ _ _ _ => Iff.rfl) (fun b26 b26e b26i => ?_)
        unfold InI at b26i
        refine Tx.bits hC (f := (fun (x y : Int32) => x &&& y)) te_95_19 (fun _ _ _ _ => Iff.rfl) (fun b27 b27e b27i => ?_)
        unfold InI at b27i
        refine Tx.ifc hC (t := 26) te_95_20 (by decide) (fun q28 => ?_) (fun q28 => ?_)
        · replace q28 : ¬ (b27 : Int) = 0 := q28
          refine Tx.aload_n hC te_95_26 rfl ?_
          refine Tx.getR hC te_95_27 rfl rfl rfl ?_
          refine Tx.iload_n hC te_95_30 rfl ?_
          refine Tx.bipush hC te_95_31 rfl rfl ?_
          refine Tx.imulW hC te_95_33 (fun z29 z29i z29e => ?_)
          unfold InI at z29i z29e
          first | replace z29e := z29e (by omega) | clear z29e
          refine Tx.iload_n hC te_95_34 rfl ?_
          refine Tx.iaddW hC te_95_35 (fun z30 z30i z30e => ?_)
          unfold InI at z30i z30e
          first | replace z30e := z30e (by omega) | clear z30e
          refine Tx.aload_n hC te_95_36 rfl ?_
          refine Tx.getR hC te_95_37 rfl rfl rfl ?_
          refine Tx.iload_n hC te_95_40 rfl ?_
          refine Tx.iald hC te_95_41 rfl (by omega) (fun v31 v31e v31i => ?_)
          unfold InI at v31i
          refine Tx.iast hC te_95_42 rfl (by omega) ?_
          have hF33 : FrS mem (upm m_2 30 (Int.toNat z30) v31) := FrS.up hF_2 (by unfold pSk; omega) (by omega)
          generalize upm m_2 30 (Int.toNat z30) v31 = m32 at hF33 ⊢
          refine Tx.aload_n hC te_95_43 rfl ?_
          refine Tx.getR hC te_95_44 rfl rfl rfl ?_
          refine Tx.iload_n hC te_95_47 rfl ?_
          refine Tx.bipush hC te_95_48 rfl rfl ?_
          refine Tx.imulW hC te_95_50 (fun z34 z34i z34e => ?_)
          unfold InI at z34i z34e
          first | replace z34e := z34e (by omega) | clear z34e
          refine Tx.iload_n hC te_95_51 rfl ?_
          refine Tx.iaddW hC te_95_52 (fun z35 z35i z35e => ?_)
          unfold InI at z35i z35e
          first | replace z35e := z35e (by omega) | clear z35e
          refine Tx.aload_n hC te_95_53 rfl ?_
          refine Tx.getR hC te_95_54 rfl rfl rfl ?_
          refine Tx.iload_n hC te_95_57 rfl ?_
          refine Tx.iald hC te_95_58 rfl (by omega) (fun v36 v36e v36i => ?_)
          unfold InI at v36i
          refine Tx.iast hC te_95_59 rfl (by omega) ?_
          have hF38 : FrS mem (upm m32 30 (Int.toNat z35) v36) := FrS.up hF33 (by unfold pSk; omega) (by omega)
          generalize upm m32 30 (Int.toNat z35) v36 = m37 at hF38 ⊢
          refine Tx.iconst hC te_95_60 rfl ?_
          refine Tx.istore_n hC te_95_61 rfl ?_
          exact l_62 _ 0 m37 (by omega) (by omega) (Nat.lt_succ_self _) hF38
        · replace q28 : ¬ (¬ (b27 : Int) = 0) := q28
          refine Tx.goto hC (t := 132) te_95_23 (by decide) ?_
          refine Tx.iincW hC te_95_132 rfl rfl (fun z39 z39i z39e => ?_)
          unfold InI at z39i z39e
          first | replace z39e := z39e (by omega) | clear z39e
          refine Tx.goto hC (t := 2) te_95_135 (by decide) ?_
          exact ih_2 z39 m_2 (by omega) (by omega) hF_2
  refine Tx.iconst hC te_95_0 rfl ?_
  refine Tx.istore_n hC te_95_1 rfl ?_
  exact l_2 _ 0 mem (by omega) (Nat.lt_succ_self _) FrS.rf
theorem f_91 {S : Nat × (Nat → Int32)} {n : Nat} {mem : MM} {K : Int → MM → Prop} {E : Nat → MM → Prop} {d : Int} (hS : SkO mem d) {o : Int} (ho : 0 ≤ o ∧ o < 8) {s : Int} (hs : 0 ≤ s ∧ s < 12) (H : ∀ r m', r = 0 ∨ r = 1 → FrS mem m' → K r m') : CQI (Ex S (n + 3)) 91 [.inr 21, .inl o, .inl s] mem K E := by
  refine CY.of (k := 4) mt_91 rfl rfl (fun hv => ?_)
  have hC := Ex.mono S (n + 2)
  have ii_o : InI o := hv (.inl o) (by simp)
  unfold InI at ii_o
  have ii_s : InI s := hv (.inl s) (by simp)
  unfold InI at ii_s
  clear hv
  have hs0 := hS.1
  have hs1 := hS.2.1
  show Tx (Ex S (n + 2)) S M_91 (kI K E) 0 0 0 [some (.inr 21), some (.inl o), some (.inl s), none, none, none, none] [] mem
  have l_47 : ∀ (N : Nat) (x3 x4 : Int) (m_47 : MM), (0 ≤ x4) → (0 ≤ x3 ∧ x3 ≤ 8) → ((4 - x4).toNat) < N → FrS mem m_47 → Tx (Ex S (n + 2)) S M_91 (kI K E) 0 0 47 [some (.inr 21), some (.inl o), some (.inl s), some (.inl x3), some (.inl x4), none, none] [] m_47 := by
    intro N
    induction N with
    | zero => intros; omega
    | succ N ih_47 =>
      intro x3 x4 m_47 i47_0 i47_1 hN_47 hF_47
      have l_66 : ∀ (N : Nat) (x5 : Int) (m_66 : MM), (0 ≤ x4 ∧ x4 < 4) → (0 ≤ x3 ∧ x3 ≤ 8) → (x5 ≤ 2147483647) → (x5.toNat) < N → FrS mem m_66 → Tx (Ex S (n + 2)) S M_91 (kI K E) 0 0 66 [some (.inr 21), some (.inl o), some (.inl s), some (.inl x3), some (.inl x4), some (.inl x5), none] [] m_66 := by
        intro N
        induction N with
        | zero => intros; omega
        | succ N ih_66 =>
          intro x5 m_66 i66_0 i66_1 i66_2 hN_66 hF_66
          refine Tx.iload hC te_91_66 rfl ?_
          refine Tx.ifc hC (t := 147) te_91_68 (by decide) (fun q1 => ?_) (fun q1 => ?_)
          · replace q1 : (x5 : Int) ≤ 0 := q1
            refine Tx.iincW hC te_91_147 rfl rfl (fun z2 z2i z2e => ?_)
            unfold InI at z2i z2e
            first | replace z2e := z2e (by omega) | clear z2e
            refine Tx.goto hC (t := 47) te_91_150 (by decide) ?_
            exact Tx.weak (by repeat' (first | exact trivial | exact rfl | constructor)) (ih_47 x3 z2 m_66 (by omega) (by omega) (by omega) hF_66)
          · replace q1 : ¬ ((x5 : Int) ≤ 0) := q1
            refine Tx.iconst hC te_91_71 rfl ?_
            refine Tx.iload_n hC te_91_72 rfl ?_
            refine Tx.iload hC te_91_73 rfl ?_
            refine Tx.iaddW hC te_91_75 (fun z3 z3i z3e => ?_)
            unfold InI at z3i z3e
            first | replace z3e := z3e (by omega) | clear z3e
            refine Tx.aload_n hC te_91_76 rfl ?_
            refine Tx.getI hC te_91_77 rfl rfl rfl (fun v4 v4e v4i => ?_)
            unfold InI at v4i
            rw [FrS.at hF_66 21 _ (by unfold pSk; omega)] at v4e
            refine Tx.iremW hC te_91_80 (by omega) (fun z5 z5i z5e z5f => ?_)
            unfold InI at z5i
            refine Tx.bits hC (f := (fun (x y : Int32) => x <<< (y &&& 31))) te_91_81 (fun _ _ _ _ => Iff.rfl) (fun b6 b6e b6i => ?_)
            unfold InI at b6i
            refine Tx.istore hC te_91_82 rfl ?_
            refine Tx.aload_n hC te_91_84 rfl ?_
            refine Tx.getR hC te_91_85 rfl rfl rfl ?_
            refine Tx.iload_n hC te_91_88 rfl ?_
            refine Tx.iconst hC te_91_89 rfl ?_
            refine Tx.iaddW hC te_91_90 (fun z7 z7i z7e => ?_)
            unfold InI at z7i z7e
            first | replace z7e := z7e (by omega) | clear z7e
            refine Tx.dup2 hC te_91_91 ?_
            refine Tx.iald hC te_91_92 rfl (by omega) (fun v8 v8e v8i => ?_)
            unfold InI at v8i
            refine Tx.aload_n hC te_91_93 rfl ?_
            refine Tx.getR hC te_91_94 rfl rfl rfl ?_
            refine Tx.iload_n hC te_91_97 rfl ?_
            refine Tx.iconst hC te_91_98 rfl ?_
            refine Tx.iaddW hC te_91_99 (fun z9 z9i z9e => ?_)
            unfold InI at z9i z9e
            first | replace z9e := z9e (by omega) | clear z9e
            refine Tx.iald hC te_91_100 rfl (by omega) (fun v10 v10e v10i => ?_)
            unfold InI at v10i
            refine Tx.iload hC te_91_101 rfl ?_
            refine Tx.bits hC (f := (fun (x y : Int32) => x &&& y)) te_91_103 (fun _ _ _ _ => Iff.rfl) (fun b11 b11e b11i => ?_)
            unfold InI at b11i
            refine Tx.bits hC (f := (fun (x y : Int32) => x ||| y)) te_91_104 (fun _ _ _ _ => Iff.rfl) (fun b12 b12e b12i => ?_)
            unfold InI at b12i
            refine Tx.iast hC te_91_105 rfl (by omega) ?_
            have hF14 : FrS mem (upm m_66 28 (Int.toNat z7) b12) := FrS.up hF_66 (by unfold pSk; omega) (by omega)
            generalize upm m_66 28 (Int.toNat z7) b12 = m13 at hF14 ⊢
            refine Tx.aload_n hC te_91_106 rfl ?_
            refine Tx.getR hC te_91_107 rfl rfl rfl ?_
            refine Tx.iload_n hC te_91_110 rfl ?_
            refine Tx.iconst hC te_91_111 rfl ?_
            refine Tx.iaddW hC te_91_112 (fun z15 z15i z15e => ?_)
            unfold InI at z15i z15e
            first | replace z15e := z15e (by omega) | clear z15e
            refine Tx.dup2 hC te_91_113 ?_
            refine Tx.iald hC te_91_114 rfl (by omega) (fun v16 v16e v16i => ?_)
            unfold InI at v16i
            refine Tx.aload_n hC te_91_115 rfl ?_
            refine Tx.getR hC te_91_116 rfl rfl rfl ?_
            refine Tx.iload_n hC te_91_119 rfl ?_
            refine Tx.iconst hC te_91_120 rfl ?_
            refine Tx.iaddW hC te_91_121 (fun z17 z17i z17e => ?_)
            unfold InI at z17i z17e
            first | replace z17e := z17e (by omega) | clear z17e
            refine Tx.iald hC te_91_122 rfl (by omega) (fun v18 v18e v18i => ?_)
            unfold InI at v18i
            refine Tx.iload hC te_91_123 rfl ?_
            refine Tx.bits hC (f := (fun (x y : Int32) => x &&& y)) te_91_125 (fun _ _ _ _ => Iff.rfl) (fun b19 b19e b19i => ?_)
            unfold InI at b19i
            refine Tx.bits hC (f := (fun (x y : Int32) => x ||| y)) te_91_126 (fun _ _ _ _ => Iff.rfl) (fun b20 b20e b20i => ?_)
            unfold InI at b20i
            refine Tx.iast hC te_91_127 rfl (by omega) ?_
            have hF22 : FrS mem (upm m13 28 (Int.toNat z15) b20) := FrS.up hF14 (by unfold pSk; omega) (by omega)
            generalize upm m13 28 (Int.toNat z15) b20 = m21 at hF22 ⊢
            refine Tx.aload_n hC te_91_128 rfl ?_
            refine Tx.getR hC te_91_129 rfl rfl rfl ?_
            refine Tx.iload_n hC te_91_132 rfl ?_
            refine Tx.iconst hC te_91_133 rfl ?_
            refine Tx.iaddW hC te_91_134 (fun z23 z23i z23e => ?_)
            unfold InI at z23i z23e
            first | replace z23e := z23e (by omega) | clear z23e
            refine Tx.dup2 hC te_91_135 ?_
            refine Tx.iald hC te_91_136 rfl (by omega) (fun v24 v24e v24i => ?_)
            unfold InI at v24i
            refine Tx.iload hC te_91_137 rfl ?_
            refine Tx.bits hC (f := (fun (x y : Int32) => x ||| y)) te_91_139 (fun _ _ _ _ => Iff.rfl) (fun b25 b25e b25i => ?_)
            unfold InI at b25i
            refine Tx.iast hC te_91_140 rfl (by omega) ?_
            have hF27 : FrS mem (upm m21 28 (Int.toNat z23) b25) := FrS.up hF22 (by unfold pSk; omega) (by omega)
            generalize upm m21 28 (Int.toNat z23) b25 = m26 at hF27 ⊢
            refine Tx.iincW hC te_91_141 rfl rfl (fun z28 z28i z28e => ?_)
            unfold InI at z28i z28e
            first | replace z28e := z28e (by omega) | clear z28e
            refine Tx.goto hC (t := 66) te_91_144 (by decide) ?_
            exact Tx.weak (by repeat' (first | exact trivial | exact rfl | constructor)) (ih_66 z28 m26 (by omega) (by omega) (by omega) (by omega) hF27)
      refine Tx.iload hC te_91_47 rfl ?_
      refine Tx.iconst hC te_91_49 rfl ?_
      refine Tx.icmp hC (t := 153) te_91_50 (by decide) (fun q29 => ?_) (fun q29 => ?_)
      · replace q29 : 4 ≤ (x4 : Int) := q29
        refine Tx.aload_n hC te_91_153 rfl ?_
        refine Tx.iload_n hC te_91_154 rfl ?_
        refine Tx.virtI hC te_91_155 mt_92 (args := [.inr 21, .inl o]) (rest := []) (c' := 0) (s' := 0) rfl rfl rfl rfl rfl rfl rfl rfl rfl rfl ?_
        refine f_92 (by omega) (fun r30 r30b r30i => ?_)
        unfold InI at r30i
        refine Tx.ifc hC (t := 163) te_91_158 (by decide) (fun q33 => ?_) (fun q33 => ?_)
        · replace q33 : ¬ (r30 : Int) = 0 := q33
          refine Tx.aload_n hC te_91_163 rfl ?_
          refine Tx.getR hC te_91_164 rfl rfl rfl ?_
          refine Tx.iconst hC te_91_167 rfl ?_
          refine Tx.aload_n hC te_91_168 rfl ?_
          refine Tx.getR hC te_91_169 rfl rfl rfl ?_
          refine Tx.iload_n hC te_91_172 rfl ?_
          refine Tx.bipush hC te_91_173 rfl rfl ?_
          refine Tx.imulW hC te_91_175 (fun z34 z34i z34e => ?_)
          unfold InI at z34i z34e
          first | replace z34e := z34e (by omega) | clear z34e
          refine Tx.bipush hC te_91_176 rfl rfl ?_
          refine Tx.copy hC te_91_178 rfl rfl (by omega) rfl (fun m35 m35a m35b => ?_)
          have hF36 : FrS mem m35 := FrS.cp hF_47 m35a (fun i => by unfold pSk; omega) (by omega)
          refine Tx.aload_n hC te_91_181 rfl ?_
          refine Tx.iload_n hC te_91_182 rfl ?_
          refine Tx.virtI hC te_91_183 mt_93 (args := [.inr 21, .inl o]) (rest := []) (c' := 0) (s' := 0) rfl rfl rfl rfl rfl rfl rfl rfl rfl rfl ?_
          refine f_93 (FrS.sk hF36 hS) (by omega) (fun r37 m38 r37b hF39 r37i => ?_)
          have hF39n : FrS mem m38 := FrS.tr hF36 hF39
          unfold InI at r37i
          refine Tx.ifc hC (t := 191) te_91_186 (by decide) (fun q40 => ?_) (fun q40 => ?_)
          · replace q40 : ¬ (r37 : Int) = 0 := q40
            refine Tx.aload_n hC te_91_191 rfl ?_
            refine Tx.iload_n hC te_91_192 rfl ?_
            refine Tx.virtV hC te_91_193 mt_95 (args := [.inr 21, .inl o]) (rest := []) (c' := 0) (s' := 0) rfl rfl rfl rfl rfl rfl rfl rfl rfl rfl ?_
            refine f_95 (FrS.sk hF39n hS) (by omega) (fun m42 hF43 => ?_)
            have hF43n : FrS mem m42 := FrS.tr hF39n hF43
            refine Tx.iconst hC te_91_196 rfl ?_
            exact Tx.bret hC te_91_197 rfl (by omega) (show K 1 m42 from H _ _ (by omega) hF43n)
          · replace q40 : ¬ (¬ (r37 : Int) = 0) := q40
            refine Tx.iconst hC te_91_189 rfl ?_
            exact Tx.bret hC te_91_190 rfl (by omega) (show K 0 m38 from H _ _ (by omega) hF39n)
        · replace q33 : ¬ (¬ (r30 : Int) = 0) := q33
          refine Tx.iconst hC te_91_161 rfl ?_
          exact Tx.bret hC te_91_162 rfl (by omega) (show K 1 m_47 from H _ _ (by omega) hF_47)
      · replace q29 : ¬ (4 ≤ (x4 : Int)) := q29
        refine Tx.aload_n hC te_91_53 rfl ?_
        refine Tx.getR hC te_91_54 rfl rfl rfl ?_
        refine Tx.iload_n hC te_91_57 rfl ?_
        refine Tx.iconst hC te_91_58 rfl ?_
        refine Tx.imulW hC te_91_59 (fun z44 z44i z44e => ?_)
        unfold InI at z44i z44e
        first | replace z44e := z44e (by omega) | clear z44e
        refine Tx.iload hC te_91_60 rfl ?_
        refine Tx.iaddW hC te_91_62 (fun z45 z45i z45e => ?_)
        unfold InI at z45i z45e
        first | replace z45e := z45e (by omega) | clear z45e
        refine Tx.iald hC te_91_63 rfl (by omega) (fun v46 v46e v46i => ?_)
        unfold InI at v46i
        rw [FrS.at hF_47 27 _ (by unfold pSk; omega)] at v46e
        refine Tx.istore hC te_91_64 rfl ?_
        exact l_66 _ v46 m_47 (by omega) (by omega) (by omega) (Nat.lt_succ_self _) hF_47
  refine Tx.aload_n hC te_91_0 rfl ?_
  refine Tx.getR hC te_91_1 rfl rfl rfl ?_
  refine Tx.iload_n hC te_91_4 rfl ?_
  refine Tx.iald hC te_91_5 rfl (by omega) (fun v47 v47e v47i => ?_)
  unfold InI at v47i
  have f48 := hS.2.2.1 (Int.toNat o) (by omega)
  refine Tx.iconst hC te_91_6 rfl ?_
  refine Tx.imulW hC te_91_7 (fun z49 z49i z49e => ?_)
  unfold InI at z49i z49e
  first | replace z49e := z49e (by omega) | clear z49e
  refine Tx.istore_n hC te_91_8 rfl ?_
  refine Tx.aload_n hC te_91_9 rfl ?_
  refine Tx.getR hC te_91_10 rfl rfl rfl ?_
  refine Tx.iload_n hC te_91_13 rfl ?_
  refine Tx.aload_n hC te_91_14 rfl ?_
  refine Tx.getR hC te_91_15 rfl rfl rfl ?_
  refine Tx.iload_n hC te_91_18 rfl ?_
  refine Tx.iconst hC te_91_19 rfl ?_
  refine Tx.imulW hC te_91_20 (fun z50 z50i z50e => ?_)
  unfold InI at z50i z50e
  first | replace z50e := z50e (by omega) | clear z50e
  refine Tx.iconst hC te_91_21 rfl ?_
  refine Tx.copy hC te_91_22 rfl rfl (by omega) rfl (fun m51 m51a m51b => ?_)
  have hF52 : FrS mem m51 := FrS.cp FrS.rf m51a (fun i => by unfold pSk; omega) (by omega)
  refine Tx.aload_n hC te_91_25 rfl ?_
  refine Tx.getR hC te_91_26 rfl rfl rfl ?_
  refine Tx.iload_n hC te_91_29 rfl ?_
  refine Tx.iload_n hC te_91_30 rfl ?_
  refine Tx.iast hC te_91_31 rfl (by omega) ?_
  have hF54 : FrS mem (upm m51 22 (Int.toNat o) s) := FrS.up hF52 (by unfold pSk; omega) (by omega)
  generalize upm m51 22 (Int.toNat o) s = m53 at hF54 ⊢
  refine Tx.aload_n hC te_91_32 rfl ?_
  refine Tx.dup hC te_91_33 ?_
  refine Tx.getI hC te_91_34 rfl rfl rfl (fun v55 v55e v55i => ?_)
  unfold InI at v55i
  refine Tx.iconst hC te_91_37 rfl ?_
  refine Tx.iload_n hC te_91_38 rfl ?_
  refine Tx.bits hC (f := (fun (x y : Int32) => x <<< (y &&& 31))) te_91_39 (fun _ _ _ _ => Iff.rfl) (fun b56 b56e b56i => ?_)
  unfold InI at b56i
  refine Tx.bits hC (f := (fun (x y : Int32) => x ||| y)) te_91_40 (fun _ _ _ _ => Iff.rfl) (fun b57 b57e b57i => ?_)
  unfold InI at b57i
  refine Tx.putI hC te_91_41 rfl rfl rfl rfl ?_
  have hF59 : FrS mem (upm m53 21 4 b57) := FrS.up hF54 (by unfold pSk; omega) (by omega)
  generalize upm m53 21 4 b57 = m58 at hF59 ⊢
  refine Tx.iconst hC te_91_44 rfl ?_
  refine Tx.istore hC te_91_45 rfl ?_
  exact l_47 _ z49 0 m58 (by omega) (by omega) (Nat.lt_succ_self _) hF59
theorem f_102 {S : Nat × (Nat → Int32)} {n : Nat} {mem : MM} {K : MM → Prop} {E : Nat → MM → Prop} {d : Int} (hS : SkO mem d) {o : Int} (ho : 0 ≤ o ∧ o < 8) (H : ∀ m', FrS mem m' → K m') : CQV (Ex S (n + 3)) 102 [.inr 21, .inl o] mem K E := by
  refine CY.of (k := 0) mt_102 rfl rfl (fun hv => ?_)
  have hC := Ex.mono S (n + 2)
  have ii_o : InI o := hv (.inl o) (by simp)
  unfold InI at ii_o
  clear hv
  have hs0 := hS.1
  have hs1 := hS.2.1
  show Tx (Ex S (n + 2)) S M_102 (kV K E) 0 0 0 [some (.inr 21), some (.inl o)] [] mem
  refine Tx.aload_n hC te_102_0 rfl ?_
  refine Tx.getR hC te_102_1 rfl rfl rfl ?_
  refine Tx.iload_n hC te_102_4 rfl ?_
  refine Tx.iconst hC te_102_5 rfl ?_
  refine Tx.imulW hC te_102_6 (fun z1 z1i z1e => ?_)
  unfold InI at z1i z1e
  first | replace z1e := z1e (by omega) | clear z1e
  refine Tx.aload_n hC te_102_7 rfl ?_
  refine Tx.getR hC te_102_8 rfl rfl rfl ?_
  refine Tx.aload_n hC te_102_11 rfl ?_
  refine Tx.getR hC te_102_12 rfl rfl rfl ?_
  refine Tx.iload_n hC te_102_15 rfl ?_
  refine Tx.iald hC te_102_16 rfl (by omega) (fun v2 v2e v2i => ?_)
  unfold InI at v2i
  have f3 := hS.2.2.1 (Int.toNat o) (by omega)
  refine Tx.iconst hC te_102_17 rfl ?_
  refine Tx.imulW hC te_102_18 (fun z4 z4i z4e => ?_)
  unfold InI at z4i z4e
  first | replace z4e := z4e (by omega) | clear z4e
  refine Tx.iconst hC te_102_19 rfl ?_
  refine Tx.copy hC te_102_20 rfl rfl (by omega) rfl (fun m5 m5a m5b => ?_)
  have hF6 : FrS mem m5 := FrS.cp FrS.rf m5a (fun i => by unfold pSk; omega) (by omega)
  refine Tx.aload_n hC te_102_23 rfl ?_
  refine Tx.dup hC te_102_24 ?_
  refine Tx.getI hC te_102_25 rfl rfl rfl (fun v7 v7e v7i => ?_)
  unfold InI at v7i
  refine Tx.iconst hC te_102_28 rfl ?_
  refine Tx.iload_n hC te_102_29 rfl ?_
  refine Tx.bits hC (f := (fun (x y : Int32) => x <<< (y &&& 31))) te_102_30 (fun _ _ _ _ => Iff.rfl) (fun b8 b8e b8i => ?_)
  unfold InI at b8i
  refine Tx.iconst hC te_102_31 rfl ?_
  refine Tx.bits hC (f := (fun (x y : Int32) => x ^^^ y)) te_102_32 (fun _ _ _ _ => Iff.rfl) (fun b9 b9e b9i => ?_)
  unfold InI at b9i
  refine Tx.bits hC (f := (fun (x y : Int32) => x &&& y)) te_102_33 (fun _ _ _ _ => Iff.rfl) (fun b10 b10e b10i => ?_)
  unfold InI at b10i
  refine Tx.putI hC te_102_34 rfl rfl rfl rfl ?_
  have hF12 : FrS mem (upm m5 21 4 b10) := FrS.up hF6 (by unfold pSk; omega) (by omega)
  generalize upm m5 21 4 b10 = m11 at hF12 ⊢
  refine Tx.aload_n hC te_102_37 rfl ?_
  refine Tx.iload_n hC te_102_38 rfl ?_
  refine Tx.virtI hC te_102_39 mt_92 (args := [.inr 21, .inl o]) (rest := []) (c' := 0) (s' := 0) rfl rfl rfl rfl rfl rfl rfl rfl rfl rfl ?_
  refine f_92 (by omega) (fun r13 r13b r13i => ?_)
  unfold InI at r13i
  refine Tx.ifc hC (t := 63) te_102_42 (by decide) (fun q16 => ?_) (fun q16 => ?_)
  · replace q16 : (r13 : Int) = 0 := q16
    exact Tx.vret hC te_102_63 rfl (show K m11 from H _ hF12)
  · replace q16 : ¬ ((r13 : Int) = 0) := q16
    refine Tx.aload_n hC te_102_45 rfl ?_
    refine Tx.getR hC te_102_46 rfl rfl rfl ?_
    refine Tx.iload_n hC te_102_49 rfl ?_
    refine Tx.bipush hC te_102_50 rfl rfl ?_
    refine Tx.imulW hC te_102_52 (fun z17 z17i z17e => ?_)
    unfold InI at z17i z17e
    first | replace z17e := z17e (by omega) | clear z17e
    refine Tx.aload_n hC te_102_53 rfl ?_
    refine Tx.getR hC te_102_54 rfl rfl rfl ?_
    refine Tx.iconst hC te_102_57 rfl ?_
    refine Tx.bipush hC te_102_58 rfl rfl ?_
    refine Tx.copy hC te_102_60 rfl rfl (by omega) rfl (fun m18 m18a m18b => ?_)
    have hF19 : FrS mem m18 := FrS.cp hF12 m18a (fun i => by unfold pSk; omega) (by omega)
    exact Tx.vret hC te_102_63 rfl (show K m18 from H _ hF19)
/-! laid by wip/hand/tg.py: the seeker: settle -/
set_option maxRecDepth 100000 in
theorem mt_96 : MT[96]? = some M_96 := rfl
theorem te_96_0 : (pT M_96).find? (fun e => e.1 == 0) = some (0, .iconst (-1), 0, 0) := rfl
theorem te_96_1 : (pT M_96).find? (fun e => e.1 == 1) = some (1, .istore_n 2, 0, 0) := rfl
theorem te_96_2 : (pT M_96).find? (fun e => e.1 == 2) = some (2, .aload_n 0, 0, 0) := rfl
theorem te_96_3 : (pT M_96).find? (fun e => e.1 == 3) = some (3, .getfield 109, 6, 2) := rfl
theorem te_96_6 : (pT M_96).find? (fun e => e.1 == 6) = some (6, .istore_n 3, 0, 0) := rfl
theorem te_96_7 : (pT M_96).find? (fun e => e.1 == 7) = some (7, .iconst 0, 0, 0) := rfl
theorem te_96_8 : (pT M_96).find? (fun e => e.1 == 8) = some (8, .istore 4, 0, 0) := rfl
theorem te_96_10 : (pT M_96).find? (fun e => e.1 == 10) = some (10, .iload 4, 0, 0) := rfl
theorem te_96_12 : (pT M_96).find? (fun e => e.1 == 12) = some (12, .aload_n 0, 0, 0) := rfl
theorem te_96_13 : (pT M_96).find? (fun e => e.1 == 13) = some (13, .getfield 70, 6, 0) := rfl
theorem te_96_16 : (pT M_96).find? (fun e => e.1 == 16) = some (16, .if_icmp .ge 69, 0, 0) := rfl
theorem te_96_19 : (pT M_96).find? (fun e => e.1 == 19) = some (19, .iload_n 3, 0, 0) := rfl
theorem te_96_20 : (pT M_96).find? (fun e => e.1 == 20) = some (20, .ifCond .eq 65, 0, 0) := rfl
theorem te_96_23 : (pT M_96).find? (fun e => e.1 == 23) = some (23, .aload_n 0, 0, 0) := rfl
theorem te_96_24 : (pT M_96).find? (fun e => e.1 == 24) = some (24, .getfield 74, 6, 3) := rfl
theorem te_96_27 : (pT M_96).find? (fun e => e.1 == 27) = some (27, .aload_n 0, 0, 0) := rfl
theorem te_96_28 : (pT M_96).find? (fun e => e.1 == 28) = some (28, .getfield 97, 6, 4) := rfl
theorem te_96_31 : (pT M_96).find? (fun e => e.1 == 31) = some (31, .iconst (-1), 0, 0) := rfl
theorem te_96_32 : (pT M_96).find? (fun e => e.1 == 32) = some (32, .ixor, 0, 0) := rfl
theorem te_96_33 : (pT M_96).find? (fun e => e.1 == 33) = some (33, .iand, 0, 0) := rfl
theorem te_96_34 : (pT M_96).find? (fun e => e.1 == 34) = some (34, .iconst 1, 0, 0) := rfl
theorem te_96_35 : (pT M_96).find? (fun e => e.1 == 35) = some (35, .iload 4, 0, 0) := rfl
theorem te_96_37 : (pT M_96).find? (fun e => e.1 == 37) = some (37, .ishl, 0, 0) := rfl
theorem te_96_38 : (pT M_96).find? (fun e => e.1 == 38) = some (38, .iand, 0, 0) := rfl
theorem te_96_39 : (pT M_96).find? (fun e => e.1 == 39) = some (39, .ifCond .eq 40, 0, 0) := rfl
theorem te_96_42 : (pT M_96).find? (fun e => e.1 == 42) = some (42, .aload_n 0, 0, 0) := rfl
theorem te_96_43 : (pT M_96).find? (fun e => e.1 == 43) = some (43, .iload 4, 0, 0) := rfl
theorem te_96_45 : (pT M_96).find? (fun e => e.1 == 45) = some (45, .invokevirtual 100, 97, 0) := rfl
theorem te_96_48 : (pT M_96).find? (fun e => e.1 == 48) = some (48, .istore 5, 0, 0) := rfl
theorem te_96_50 : (pT M_96).find? (fun e => e.1 == 50) = some (50, .iload_n 2, 0, 0) := rfl
theorem te_96_51 : (pT M_96).find? (fun e => e.1 == 51) = some (51, .iconst (-1), 0, 0) := rfl
theorem te_96_52 : (pT M_96).find? (fun e => e.1 == 52) = some (52, .if_icmp .eq 21, 0, 0) := rfl
theorem te_96_55 : (pT M_96).find? (fun e => e.1 == 55) = some (55, .iload 5, 0, 0) := rfl
theorem te_96_57 : (pT M_96).find? (fun e => e.1 == 57) = some (57, .ifCond .eq 16, 0, 0) := rfl
theorem te_96_60 : (pT M_96).find? (fun e => e.1 == 60) = some (60, .aload_n 0, 0, 0) := rfl
theorem te_96_61 : (pT M_96).find? (fun e => e.1 == 61) = some (61, .iload 4, 0, 0) := rfl
theorem te_96_63 : (pT M_96).find? (fun e => e.1 == 63) = some (63, .iload 5, 0, 0) := rfl
theorem te_96_65 : (pT M_96).find? (fun e => e.1 == 65) = some (65, .iload_n 2, 0, 0) := rfl
theorem te_96_66 : (pT M_96).find? (fun e => e.1 == 66) = some (66, .iload_n 3, 0, 0) := rfl
theorem te_96_67 : (pT M_96).find? (fun e => e.1 == 67) = some (67, .invokevirtual 135, 100, 0) := rfl
theorem te_96_70 : (pT M_96).find? (fun e => e.1 == 70) = some (70, .ifCond .eq 9, 0, 0) := rfl
theorem te_96_73 : (pT M_96).find? (fun e => e.1 == 73) = some (73, .iload 4, 0, 0) := rfl
theorem te_96_75 : (pT M_96).find? (fun e => e.1 == 75) = some (75, .istore_n 2, 0, 0) := rfl
theorem te_96_76 : (pT M_96).find? (fun e => e.1 == 76) = some (76, .iload 5, 0, 0) := rfl
theorem te_96_78 : (pT M_96).find? (fun e => e.1 == 78) = some (78, .istore_n 3, 0, 0) := rfl
theorem te_96_79 : (pT M_96).find? (fun e => e.1 == 79) = some (79, .iinc 4 1, 0, 0) := rfl
theorem te_96_82 : (pT M_96).find? (fun e => e.1 == 82) = some (82, .goto (-72), 0, 0) := rfl
theorem te_96_85 : (pT M_96).find? (fun e => e.1 == 85) = some (85, .iload_n 2, 0, 0) := rfl
theorem te_96_86 : (pT M_96).find? (fun e => e.1 == 86) = some (86, .iconst (-1), 0, 0) := rfl
theorem te_96_87 : (pT M_96).find? (fun e => e.1 == 87) = some (87, .if_icmp .ne 9, 0, 0) := rfl
theorem te_96_90 : (pT M_96).find? (fun e => e.1 == 90) = some (90, .aload_n 0, 0, 0) := rfl
theorem te_96_91 : (pT M_96).find? (fun e => e.1 == 91) = some (91, .invokevirtual 139, 101, 0) := rfl
theorem te_96_94 : (pT M_96).find? (fun e => e.1 == 94) = some (94, .iconst 1, 0, 0) := rfl
theorem te_96_95 : (pT M_96).find? (fun e => e.1 == 95) = some (95, .ireturn, 0, 0) := rfl
theorem te_96_96 : (pT M_96).find? (fun e => e.1 == 96) = some (96, .iload_n 3, 0, 0) := rfl
theorem te_96_97 : (pT M_96).find? (fun e => e.1 == 97) = some (97, .ifCond .ne 13, 0, 0) := rfl
theorem te_96_100 : (pT M_96).find? (fun e => e.1 == 100) = some (100, .aload_n 0, 0, 0) := rfl
theorem te_96_101 : (pT M_96).find? (fun e => e.1 == 101) = some (101, .getfield 54, 6, 19) := rfl
theorem te_96_104 : (pT M_96).find? (fun e => e.1 == 104) = some (104, .iload_n 2, 0, 0) := rfl
theorem te_96_105 : (pT M_96).find? (fun e => e.1 == 105) = some (105, .dup2, 0, 0) := rfl
theorem te_96_106 : (pT M_96).find? (fun e => e.1 == 106) = some (106, .iaload, 0, 0) := rfl
theorem te_96_107 : (pT M_96).find? (fun e => e.1 == 107) = some (107, .iconst 1, 0, 0) := rfl
theorem te_96_108 : (pT M_96).find? (fun e => e.1 == 108) = some (108, .iadd, 0, 0) := rfl
theorem te_96_109 : (pT M_96).find? (fun e => e.1 == 109) = some (109, .iastore, 0, 0) := rfl
theorem te_96_110 : (pT M_96).find? (fun e => e.1 == 110) = some (110, .iload_n 1, 0, 0) := rfl
theorem te_96_111 : (pT M_96).find? (fun e => e.1 == 111) = some (111, .bipush 8, 0, 0) := rfl
theorem te_96_113 : (pT M_96).find? (fun e => e.1 == 113) = some (113, .if_icmp .le 5, 0, 0) := rfl
theorem te_96_116 : (pT M_96).find? (fun e => e.1 == 116) = some (116, .iconst 0, 0, 0) := rfl
theorem te_96_117 : (pT M_96).find? (fun e => e.1 == 117) = some (117, .ireturn, 0, 0) := rfl
theorem te_96_118 : (pT M_96).find? (fun e => e.1 == 118) = some (118, .iconst 0, 0, 0) := rfl
theorem te_96_119 : (pT M_96).find? (fun e => e.1 == 119) = some (119, .istore 4, 0, 0) := rfl
theorem te_96_121 : (pT M_96).find? (fun e => e.1 == 121) = some (121, .iconst 0, 0, 0) := rfl
theorem te_96_122 : (pT M_96).find? (fun e => e.1 == 122) = some (122, .istore 5, 0, 0) := rfl
theorem te_96_124 : (pT M_96).find? (fun e => e.1 == 124) = some (124, .iload 5, 0, 0) := rfl
theorem te_96_126 : (pT M_96).find? (fun e => e.1 == 126) = some (126, .aload_n 0, 0, 0) := rfl
theorem te_96_127 : (pT M_96).find? (fun e => e.1 == 127) = some (127, .getfield 103, 6, 1) := rfl
theorem te_96_130 : (pT M_96).find? (fun e => e.1 == 130) = some (130, .if_icmp .ge 55, 0, 0) := rfl
theorem te_96_133 : (pT M_96).find? (fun e => e.1 == 133) = some (133, .iload 4, 0, 0) := rfl
theorem te_96_135 : (pT M_96).find? (fun e => e.1 == 135) = some (135, .ifCond .ne 50, 0, 0) := rfl
theorem te_96_138 : (pT M_96).find? (fun e => e.1 == 138) = some (138, .iload_n 3, 0, 0) := rfl
theorem te_96_139 : (pT M_96).find? (fun e => e.1 == 139) = some (139, .iconst 1, 0, 0) := rfl
theorem te_96_140 : (pT M_96).find? (fun e => e.1 == 140) = some (140, .iload 5, 0, 0) := rfl
theorem te_96_142 : (pT M_96).find? (fun e => e.1 == 142) = some (142, .ishl, 0, 0) := rfl
theorem te_96_143 : (pT M_96).find? (fun e => e.1 == 143) = some (143, .iand, 0, 0) := rfl
theorem te_96_144 : (pT M_96).find? (fun e => e.1 == 144) = some (144, .ifCond .eq 35, 0, 0) := rfl
theorem te_96_147 : (pT M_96).find? (fun e => e.1 == 147) = some (147, .aload_n 0, 0, 0) := rfl
theorem te_96_148 : (pT M_96).find? (fun e => e.1 == 148) = some (148, .iload_n 2, 0, 0) := rfl
theorem te_96_149 : (pT M_96).find? (fun e => e.1 == 149) = some (149, .iload 5, 0, 0) := rfl
theorem te_96_151 : (pT M_96).find? (fun e => e.1 == 151) = some (151, .invokevirtual 77, 91, 0) := rfl
theorem te_96_154 : (pT M_96).find? (fun e => e.1 == 154) = some (154, .ifCond .eq 17, 0, 0) := rfl
theorem te_96_157 : (pT M_96).find? (fun e => e.1 == 157) = some (157, .aload_n 0, 0, 0) := rfl
theorem te_96_158 : (pT M_96).find? (fun e => e.1 == 158) = some (158, .iload_n 1, 0, 0) := rfl
theorem te_96_159 : (pT M_96).find? (fun e => e.1 == 159) = some (159, .iconst 1, 0, 0) := rfl
theorem te_96_160 : (pT M_96).find? (fun e => e.1 == 160) = some (160, .iadd, 0, 0) := rfl
theorem te_96_161 : (pT M_96).find? (fun e => e.1 == 161) = some (161, .invokevirtual 81, 96, 0) := rfl
theorem te_96_164 : (pT M_96).find? (fun e => e.1 == 164) = some (164, .ifCond .eq 7, 0, 0) := rfl
theorem te_96_167 : (pT M_96).find? (fun e => e.1 == 167) = some (167, .iconst 1, 0, 0) := rfl
theorem te_96_168 : (pT M_96).find? (fun e => e.1 == 168) = some (168, .goto 4, 0, 0) := rfl
theorem te_96_171 : (pT M_96).find? (fun e => e.1 == 171) = some (171, .iconst 0, 0, 0) := rfl
theorem te_96_172 : (pT M_96).find? (fun e => e.1 == 172) = some (172, .istore 4, 0, 0) := rfl
theorem te_96_174 : (pT M_96).find? (fun e => e.1 == 174) = some (174, .aload_n 0, 0, 0) := rfl
theorem te_96_175 : (pT M_96).find? (fun e => e.1 == 175) = some (175, .iload_n 2, 0, 0) := rfl
theorem te_96_176 : (pT M_96).find? (fun e => e.1 == 176) = some (176, .invokevirtual 85, 102, 0) := rfl
theorem te_96_179 : (pT M_96).find? (fun e => e.1 == 179) = some (179, .iinc 5 1, 0, 0) := rfl
theorem te_96_182 : (pT M_96).find? (fun e => e.1 == 182) = some (182, .goto (-58), 0, 0) := rfl
theorem te_96_185 : (pT M_96).find? (fun e => e.1 == 185) = some (185, .iload 4, 0, 0) := rfl
theorem te_96_187 : (pT M_96).find? (fun e => e.1 == 187) = some (187, .ireturn, 0, 0) := rfl
theorem g_96 {S : Nat × (Nat → Int32)} {n : Nat} {mem : MM} {K : Int → MM → Prop} {E : Nat → MM → Prop} {d : Int} (hS : SkO mem d) {y : Int} (rec : ∀ z, z = y + 1 → y ≤ 8 → ∀ (m : MM) (K' : Int → MM → Prop) (E' : Nat → MM → Prop), SkO m d → (∀ r m', r = 0 ∨ r = 1 → FrS m m' → K' r m') → CQI (Ex S (n + 3)) 96 [.inr 21, .inl z] m K' E') (H : ∀ r m', r = 0 ∨ r = 1 → FrS mem m' → K r m') : CQI (Ex S (n + 4)) 96 [.inr 21, .inl y] mem K E := by
  refine CY.of (k := 4) mt_96 rfl rfl (fun hv => ?_)
  have hC := Ex.mono S (n + 3)
  have ii_y : InI y := hv (.inl y) (by simp)
  unfold InI at ii_y
  clear hv
  have hs0 := hS.1
  have hs1 := hS.2.1
  show Tx (Ex S (n + 3)) S M_96 (kI K E) 0 0 0 [some (.inr 21), some (.inl y), none, none, none, none] [] mem
  have l_124 : ∀ (N : Nat) (x2 x3 x4 x5 : Int) (m_124 : MM), (0 ≤ x5) → (0 ≤ x2 ∧ x2 < mem 21 0) → (x4 = 0 ∨ x4 = 1) → (y ≤ 8) → ((12 - x5).toNat) < N → FrS mem m_124 → Tx (Ex S (n + 3)) S M_96 (kI K E) 0 0 124 [some (.inr 21), some (.inl y), some (.inl x2), some (.inl x3), some (.inl x4), some (.inl x5)] [] m_124 := by
    intro N
    induction N with
    | zero => intros; omega
    | succ N ih_124 =>
      intro x2 x3 x4 x5 m_124 i124_0 i124_1 i124_2 i124_3 hN_124 hF_124
      refine Tx.iload hC te_96_124 rfl ?_
      refine Tx.aload_n hC te_96_126 rfl ?_
      refine Tx.getI hC te_96_127 rfl rfl rfl (fun v1 v1e v1i => ?_)
      unfold InI at v1i
      rw [FrS.at hF_124 21 _ (by unfold pSk; omega)] at v1e
      refine Tx.icmp hC (t := 185) te_96_130 (by decide) (fun q2 => ?_) (fun q2 => ?_)
      · replace q2 : v1 ≤ (x5 : Int) := q2
        refine Tx.iload hC te_96_185 rfl ?_
        exact Tx.bret hC te_96_187 rfl (by omega) (show K x4 m_124 from H _ _ (by omega) hF_124)
      · replace q2 : ¬ (v1 ≤ (x5 : Int)) := q2
        refine Tx.iload hC te_96_133 rfl ?_
        refine Tx.ifc hC (t := 185) te_96_135 (by decide) (fun q3 => ?_) (fun q3 => ?_)
        · replace q3 : ¬ (x4 : Int) = 0 := q3
          refine Tx.iload hC te_96_185 rfl ?_
          exact Tx.bret hC te_96_187 rfl (by omega) (show K x4 m_124 from H _ _ (by omega) hF_124)
        · replace q3 : ¬ (¬ (x4 : Int) = 0) := q3
          refine Tx.iload_n hC te_96_138 rfl ?_
          refine Tx.iconst hC te_96_139 rfl ?_
          refine Tx.iload hC te_96_140 rfl ?_
          refine Tx.bits hC (f := (fun (x y : Int32) => x <<< (y &&& 31))) te_96_142 (fun _ _ _ _ => Iff.rfl) (fun b4 b4e b4i => ?_)
          unfold InI at b4i
          refine Tx.bits hC (f := (fun (x y : Int32) => x &&& y)) te_96_143 (fun _ _ _ _ => Iff.rfl) (fun b5 b5e b5i => ?_)
          unfold InI at b5i
          refine Tx.ifc hC (t := 179) te_96_144 (by decide) (fun q6 => ?_) (fun q6 => ?_)
          · replace q6 : (b5 : Int) = 0 := q6
            refine Tx.iincW hC te_96_179 rfl rfl (fun z7 z7i z7e => ?_)
            unfold InI at z7i z7e
            first | replace z7e := z7e (by omega) | clear z7e
            refine Tx.goto hC (t := 124) te_96_182 (by decide) ?_
            exact ih_124 x2 x3 x4 z7 m_124 (by omega) (by omega) (by omega) (by omega) (by omega) hF_124
          · replace q6 : ¬ ((b5 : Int) = 0) := q6
            refine Tx.aload_n hC te_96_147 rfl ?_
            refine Tx.iload_n hC te_96_148 rfl ?_
            refine Tx.iload hC te_96_149 rfl ?_
            refine Tx.virtI hC te_96_151 mt_91 (args := [.inr 21, .inl x2, .inl x5]) (rest := []) (c' := 0) (s' := 0) rfl rfl rfl rfl rfl rfl rfl rfl rfl rfl ?_
            refine f_91 (FrS.sk hF_124 hS) (by omega) (by omega) (fun r8 m9 r8b hF10 r8i => ?_)
            have hF10n : FrS mem m9 := FrS.tr hF_124 hF10
            unfold InI at r8i
            refine Tx.ifc hC (t := 171) te_96_154 (by decide) (fun q11 => ?_) (fun q11 => ?_)
            · replace q11 : (r8 : Int) = 0 := q11
              refine Tx.iconst hC te_96_171 rfl ?_
              refine Tx.istore hC te_96_172 rfl ?_
              refine Tx.aload_n hC te_96_174 rfl ?_
              refine Tx.iload_n hC te_96_175 rfl ?_
              refine Tx.virtV hC te_96_176 mt_102 (args := [.inr 21, .inl x2]) (rest := []) (c' := 0) (s' := 0) rfl rfl rfl rfl rfl rfl rfl rfl rfl rfl ?_
              refine f_102 (FrS.sk hF10n hS) (by omega) (fun m13 hF14 => ?_)
              have hF14n : FrS mem m13 := FrS.tr hF10n hF14
              refine Tx.iincW hC te_96_179 rfl rfl (fun z15 z15i z15e => ?_)
              unfold InI at z15i z15e
              first | replace z15e := z15e (by omega) | clear z15e
              refine Tx.goto hC (t := 124) te_96_182 (by decide) ?_
              exact ih_124 x2 x3 0 z15 m13 (by omega) (by omega) (by omega) (by omega) (by omega) hF14n
            · replace q11 : ¬ ((r8 : Int) = 0) := q11
              refine Tx.aload_n hC te_96_157 rfl ?_
              refine Tx.iload_n hC te_96_158 rfl ?_
              refine Tx.iconst hC te_96_159 rfl ?_
              refine Tx.iaddW hC te_96_160 (fun z16 z16i z16e => ?_)
              unfold InI at z16i z16e
              first | replace z16e := z16e (by omega) | clear z16e
              refine Tx.virtI hC te_96_161 mt_96 (args := [.inr 21, .inl z16]) (rest := []) (c' := 0) (s' := 0) rfl rfl rfl rfl rfl rfl rfl rfl rfl rfl ?_
              refine rec z16 (by omega) (by omega) _ _ _ (FrS.sk hF10n hS) (fun r17 m18 r17b hF19 r17i => ?_)
              have hF19n : FrS mem m18 := FrS.tr hF10n hF19
              unfold InI at r17i
              refine Tx.ifc hC (t := 171) te_96_164 (by decide) (fun q20 => ?_) (fun q20 => ?_)
              · replace q20 : (r17 : Int) = 0 := q20
                refine Tx.iconst hC te_96_171 rfl ?_
                refine Tx.istore hC te_96_172 rfl ?_
                refine Tx.aload_n hC te_96_174 rfl ?_
                refine Tx.iload_n hC te_96_175 rfl ?_
                refine Tx.virtV hC te_96_176 mt_102 (args := [.inr 21, .inl x2]) (rest := []) (c' := 0) (s' := 0) rfl rfl rfl rfl rfl rfl rfl rfl rfl rfl ?_
                refine f_102 (FrS.sk hF19n hS) (by omega) (fun m22 hF23 => ?_)
                have hF23n : FrS mem m22 := FrS.tr hF19n hF23
                refine Tx.iincW hC te_96_179 rfl rfl (fun z24 z24i z24e => ?_)
                unfold InI at z24i z24e
                first | replace z24e := z24e (by omega) | clear z24e
                refine Tx.goto hC (t := 124) te_96_182 (by decide) ?_
                exact ih_124 x2 x3 0 z24 m22 (by omega) (by omega) (by omega) (by omega) (by omega) hF23n
              · replace q20 : ¬ ((r17 : Int) = 0) := q20
                refine Tx.iconst hC te_96_167 rfl ?_
                refine Tx.goto hC (t := 172) te_96_168 (by decide) ?_
                refine Tx.istore hC te_96_172 rfl ?_
                refine Tx.aload_n hC te_96_174 rfl ?_
                refine Tx.iload_n hC te_96_175 rfl ?_
                refine Tx.virtV hC te_96_176 mt_102 (args := [.inr 21, .inl x2]) (rest := []) (c' := 0) (s' := 0) rfl rfl rfl rfl rfl rfl rfl rfl rfl rfl ?_
                refine f_102 (FrS.sk hF19n hS) (by omega) (fun m26 hF27 => ?_)
                have hF27n : FrS mem m26 := FrS.tr hF19n hF27
                refine Tx.iincW hC te_96_179 rfl rfl (fun z28 z28i z28e => ?_)
                unfold InI at z28i z28e
                first | replace z28e := z28e (by omega) | clear z28e
                refine Tx.goto hC (t := 124) te_96_182 (by decide) ?_
                exact ih_124 x2 x3 1 z28 m26 (by omega) (by omega) (by omega) (by omega) (by omega) hF27n
  have l_10 : ∀ (N : Nat) (x2 x3 x4 : Int) (m_10 : MM), (0 ≤ x4) → (-1 ≤ x2 ∧ x2 < mem 21 0) → ((8 - x4).toNat) < N → FrS mem m_10 → Tx (Ex S (n + 3)) S M_96 (kI K E) 0 0 10 [some (.inr 21), some (.inl y), some (.inl x2), some (.inl x3), some (.inl x4), none] [] m_10 := by
    intro N
    induction N with
    | zero => intros; omega
    | succ N ih_10 =>
      intro x2 x3 x4 m_10 i10_0 i10_1 hN_10 hF_10
      refine Tx.iload hC te_96_10 rfl ?_
      refine Tx.aload_n hC te_96_12 rfl ?_
      refine Tx.getI hC te_96_13 rfl rfl rfl (fun v29 v29e v29i => ?_)
      unfold InI at v29i
      rw [FrS.at hF_10 21 _ (by unfold pSk; omega)] at v29e
      refine Tx.icmp hC (t := 85) te_96_16 (by decide) (fun q30 => ?_) (fun q30 => ?_)
      · replace q30 : v29 ≤ (x4 : Int) := q30
        refine Tx.iload_n hC te_96_85 rfl ?_
        refine Tx.iconst hC te_96_86 rfl ?_
        refine Tx.icmp hC (t := 96) te_96_87 (by decide) (fun q31 => ?_) (fun q31 => ?_)
        · replace q31 : ¬ (x2 : Int) = (-1) := q31
          refine Tx.iload_n hC te_96_96 rfl ?_
          refine Tx.ifc hC (t := 110) te_96_97 (by decide) (fun q32 => ?_) (fun q32 => ?_)
          · replace q32 : ¬ (x3 : Int) = 0 := q32
            refine Tx.iload_n hC te_96_110 rfl ?_
            refine Tx.bipush hC te_96_111 rfl rfl ?_
            refine Tx.icmp hC (t := 118) te_96_113 (by decide) (fun q33 => ?_) (fun q33 => ?_)
            · replace q33 : (y : Int) ≤ 8 := q33
              refine Tx.iconst hC te_96_118 rfl ?_
              refine Tx.istore hC te_96_119 rfl ?_
              refine Tx.iconst hC te_96_121 rfl ?_
              refine Tx.istore hC te_96_122 rfl ?_
              exact l_124 _ x2 x3 0 0 m_10 (by omega) (by omega) (by omega) (by omega) (Nat.lt_succ_self _) hF_10
            · replace q33 : ¬ ((y : Int) ≤ 8) := q33
              refine Tx.iconst hC te_96_116 rfl ?_
              exact Tx.bret hC te_96_117 rfl (by omega) (show K 0 m_10 from H _ _ (by omega) hF_10)
          · replace q32 : ¬ (¬ (x3 : Int) = 0) := q32
            refine Tx.aload_n hC te_96_100 rfl ?_
            refine Tx.getR hC te_96_101 rfl rfl rfl ?_
            refine Tx.iload_n hC te_96_104 rfl ?_
            refine Tx.dup2 hC te_96_105 ?_
            refine Tx.iald hC te_96_106 rfl (by omega) (fun v34 v34e v34i => ?_)
            unfold InI at v34i
            refine Tx.iconst hC te_96_107 rfl ?_
            refine Tx.iaddW hC te_96_108 (fun z35 z35i z35e => ?_)
            unfold InI at z35i z35e
            first | replace z35e := z35e (by omega) | clear z35e
            refine Tx.iast hC te_96_109 rfl (by omega) ?_
            have hF37 : FrS mem (upm m_10 36 (Int.toNat x2) z35) := FrS.up hF_10 (by unfold pSk; omega) (by omega)
            generalize upm m_10 36 (Int.toNat x2) z35 = m36 at hF37 ⊢
            refine Tx.iload_n hC te_96_110 rfl ?_
            refine Tx.bipush hC te_96_111 rfl rfl ?_
            refine Tx.icmp hC (t := 118) te_96_113 (by decide) (fun q38 => ?_) (fun q38 => ?_)
            · replace q38 : (y : Int) ≤ 8 := q38
              refine Tx.iconst hC te_96_118 rfl ?_
              refine Tx.istore hC te_96_119 rfl ?_
              refine Tx.iconst hC te_96_121 rfl ?_
              refine Tx.istore hC te_96_122 rfl ?_
              exact l_124 _ x2 x3 0 0 m36 (by omega) (by omega) (by omega) (by omega) (Nat.lt_succ_self _) hF37
            · replace q38 : ¬ ((y : Int) ≤ 8) := q38
              refine Tx.iconst hC te_96_116 rfl ?_
              exact Tx.bret hC te_96_117 rfl (by omega) (show K 0 m36 from H _ _ (by omega) hF37)
        · replace q31 : ¬ (¬ (x2 : Int) = (-1)) := q31
          refine Tx.aload_n hC te_96_90 rfl ?_
          refine Tx.virtV hC te_96_91 mt_101 (args := [.inr 21]) (rest := []) (c' := 0) (s' := 0) rfl rfl rfl rfl rfl rfl rfl rfl rfl rfl ?_
          refine f_101 (FrS.sk hF_10 hS) (fun m40 hF41 => ?_)
          have hF41n : FrS mem m40 := FrS.tr hF_10 hF41
          refine Tx.iconst hC te_96_94 rfl ?_
          exact Tx.bret hC te_96_95 rfl (by omega) (show K 1 m40 from H _ _ (by omega) hF41n)
      · replace q30 : ¬ (v29 ≤ (x4 : Int)) := q30
        refine Tx.iload_n hC te_96_19 rfl ?_
        refine Tx.ifc hC (t := 85) te_96_20 (by decide) (fun q42 => ?_) (fun q42 => ?_)
        · replace q42 : (x3 : Int) = 0 := q42
          refine Tx.iload_n hC te_96_85 rfl ?_
          refine Tx.iconst hC te_96_86 rfl ?_
          refine Tx.icmp hC (t := 96) te_96_87 (by decide) (fun q43 => ?_) (fun q43 => ?_)
          · replace q43 : ¬ (x2 : Int) = (-1) := q43
            refine Tx.iload_n hC te_96_96 rfl ?_
            refine Tx.ifc hC (t := 110) te_96_97 (by decide) (fun q44 => ?_) (fun q44 => ?_)
            · replace q44 : ¬ (x3 : Int) = 0 := q44
              refine Tx.iload_n hC te_96_110 rfl ?_
              refine Tx.bipush hC te_96_111 rfl rfl ?_
              refine Tx.icmp hC (t := 118) te_96_113 (by decide) (fun q45 => ?_) (fun q45 => ?_)
              · replace q45 : (y : Int) ≤ 8 := q45
                refine Tx.iconst hC te_96_118 rfl ?_
                refine Tx.istore hC te_96_119 rfl ?_
                refine Tx.iconst hC te_96_121 rfl ?_
                refine Tx.istore hC te_96_122 rfl ?_
                exact l_124 _ x2 x3 0 0 m_10 (by omega) (by omega) (by omega) (by omega) (Nat.lt_succ_self _) hF_10
              · replace q45 : ¬ ((y : Int) ≤ 8) := q45
                refine Tx.iconst hC te_96_116 rfl ?_
                exact Tx.bret hC te_96_117 rfl (by omega) (show K 0 m_10 from H _ _ (by omega) hF_10)
            · replace q44 : ¬ (¬ (x3 : Int) = 0) := q44
              refine Tx.aload_n hC te_96_100 rfl ?_
              refine Tx.getR hC te_96_101 rfl rfl rfl ?_
              refine Tx.iload_n hC te_96_104 rfl ?_
              refine Tx.dup2 hC te_96_105 ?_
              refine Tx.iald hC te_96_106 rfl (by omega) (fun v46 v46e v46i => ?_)
              unfold InI at v46i
              refine Tx.iconst hC te_96_107 rfl ?_
              refine Tx.iaddW hC te_96_108 (fun z47 z47i z47e => ?_)
              unfold InI at z47i z47e
              first | replace z47e := z47e (by omega) | clear z47e
              refine Tx.iast hC te_96_109 rfl (by omega) ?_
              have hF49 : FrS mem (upm m_10 36 (Int.toNat x2) z47) := FrS.up hF_10 (by unfold pSk; omega) (by omega)
              generalize upm m_10 36 (Int.toNat x2) z47 = m48 at hF49 ⊢
              refine Tx.iload_n hC te_96_110 rfl ?_
              refine Tx.bipush hC te_96_111 rfl rfl ?_
              refine Tx.icmp hC (t := 118) te_96_113 (by decide) (fun q50 => ?_) (fun q50 => ?_)
              · replace q50 : (y : Int) ≤ 8 := q50
                refine Tx.iconst hC te_96_118 rfl ?_
                refine Tx.istore hC te_96_119 rfl ?_
                refine Tx.iconst hC te_96_121 rfl ?_
                refine Tx.istore hC te_96_122 rfl ?_
                exact l_124 _ x2 x3 0 0 m48 (by omega) (by omega) (by omega) (by omega) (Nat.lt_succ_self _) hF49
              · replace q50 : ¬ ((y : Int) ≤ 8) := q50
                refine Tx.iconst hC te_96_116 rfl ?_
                exact Tx.bret hC te_96_117 rfl (by omega) (show K 0 m48 from H _ _ (by omega) hF49)
          · replace q43 : ¬ (¬ (x2 : Int) = (-1)) := q43
            refine Tx.aload_n hC te_96_90 rfl ?_
            refine Tx.virtV hC te_96_91 mt_101 (args := [.inr 21]) (rest := []) (c' := 0) (s' := 0) rfl rfl rfl rfl rfl rfl rfl rfl rfl rfl ?_
            refine f_101 (FrS.sk hF_10 hS) (fun m52 hF53 => ?_)
            have hF53n : FrS mem m52 := FrS.tr hF_10 hF53
            refine Tx.iconst hC te_96_94 rfl ?_
            exact Tx.bret hC te_96_95 rfl (by omega) (show K 1 m52 from H _ _ (by omega) hF53n)
        · replace q42 : ¬ ((x3 : Int) = 0) := q42
          refine Tx.aload_n hC te_96_23 rfl ?_
          refine Tx.getI hC te_96_24 rfl rfl rfl (fun v54 v54e v54i => ?_)
          unfold InI at v54i
          refine Tx.aload_n hC te_96_27 rfl ?_
          refine Tx.getI hC te_96_28 rfl rfl rfl (fun v55 v55e v55i => ?_)
          unfold InI at v55i
          refine Tx.iconst hC te_96_31 rfl ?_
          refine Tx.bits hC (f := (fun (x y : Int32) => x ^^^ y)) te_96_32 (fun _ _ _ _ => Iff.rfl) (fun b56 b56e b56i => ?_)
          unfold InI at b56i
          refine Tx.bits hC (f := (fun (x y : Int32) => x &&& y)) te_96_33 (fun _ _ _ _ => Iff.rfl) (fun b57 b57e b57i => ?_)
          unfold InI at b57i
          refine Tx.iconst hC te_96_34 rfl ?_
          refine Tx.iload hC te_96_35 rfl ?_
          refine Tx.bits hC (f := (fun (x y : Int32) => x <<< (y &&& 31))) te_96_37 (fun _ _ _ _ => Iff.rfl) (fun b58 b58e b58i => ?_)
          unfold InI at b58i
          refine Tx.bits hC (f := (fun (x y : Int32) => x &&& y)) te_96_38 (fun _ _ _ _ => Iff.rfl) (fun b59 b59e b59i => ?_)
          unfold InI at b59i
          refine Tx.ifc hC (t := 79) te_96_39 (by decide) (fun q60 => ?_) (fun q60 => ?_)
          · replace q60 : (b59 : Int) = 0 := q60
            refine Tx.iincW hC te_96_79 rfl rfl (fun z61 z61i z61e => ?_)
            unfold InI at z61i z61e
            first | replace z61e := z61e (by omega) | clear z61e
            refine Tx.goto hC (t := 10) te_96_82 (by decide) ?_
            exact ih_10 x2 x3 z61 m_10 (by omega) (by omega) (by omega) hF_10
          · replace q60 : ¬ ((b59 : Int) = 0) := q60
            refine Tx.aload_n hC te_96_42 rfl ?_
            refine Tx.iload hC te_96_43 rfl ?_
            refine Tx.virtI hC te_96_45 mt_97 (args := [.inr 21, .inl x4]) (rest := []) (c' := 0) (s' := 0) rfl rfl rfl rfl rfl rfl rfl rfl rfl rfl ?_
            have r62z := FrS.at hF_10 21 0 (by unfold pSk; omega)
            refine f_97 (FrS.sk hF_10 hS) (by omega) (fun r62 r62i => ?_)
            unfold InI at r62i
            refine Tx.istore hC te_96_48 rfl ?_
            refine Tx.iload_n hC te_96_50 rfl ?_
            refine Tx.iconst hC te_96_51 rfl ?_
            refine Tx.icmp hC (t := 73) te_96_52 (by decide) (fun q65 => ?_) (fun q65 => ?_)
            · replace q65 : (x2 : Int) = (-1) := q65
              refine Tx.iload hC te_96_73 rfl ?_
              refine Tx.istore_n hC te_96_75 rfl ?_
              refine Tx.iload hC te_96_76 rfl ?_
              refine Tx.istore_n hC te_96_78 rfl ?_
              refine Tx.iincW hC te_96_79 rfl rfl (fun z66 z66i z66e => ?_)
              unfold InI at z66i z66e
              first | replace z66e := z66e (by omega) | clear z66e
              refine Tx.goto hC (t := 10) te_96_82 (by decide) ?_
              exact Tx.weak (by repeat' (first | exact trivial | exact rfl | constructor)) (ih_10 x4 r62 z66 m_10 (by omega) (by omega) (by omega) hF_10)
            · replace q65 : ¬ ((x2 : Int) = (-1)) := q65
              refine Tx.iload hC te_96_55 rfl ?_
              refine Tx.ifc hC (t := 73) te_96_57 (by decide) (fun q67 => ?_) (fun q67 => ?_)
              · replace q67 : (r62 : Int) = 0 := q67
                refine Tx.iload hC te_96_73 rfl ?_
                refine Tx.istore_n hC te_96_75 rfl ?_
                refine Tx.iload hC te_96_76 rfl ?_
                refine Tx.istore_n hC te_96_78 rfl ?_
                refine Tx.iincW hC te_96_79 rfl rfl (fun z68 z68i z68e => ?_)
                unfold InI at z68i z68e
                first | replace z68e := z68e (by omega) | clear z68e
                refine Tx.goto hC (t := 10) te_96_82 (by decide) ?_
                exact Tx.weak (by repeat' (first | exact trivial | exact rfl | constructor)) (ih_10 x4 r62 z68 m_10 (by omega) (by omega) (by omega) hF_10)
              · replace q67 : ¬ ((r62 : Int) = 0) := q67
                refine Tx.aload_n hC te_96_60 rfl ?_
                refine Tx.iload hC te_96_61 rfl ?_
                refine Tx.iload hC te_96_63 rfl ?_
                refine Tx.iload_n hC te_96_65 rfl ?_
                refine Tx.iload_n hC te_96_66 rfl ?_
                refine Tx.virtI hC te_96_67 mt_100 (args := [.inr 21, .inl x4, .inl r62, .inl x2, .inl x3]) (rest := []) (c' := 0) (s' := 0) rfl rfl rfl rfl rfl rfl rfl rfl rfl rfl ?_
                refine f_100 (by omega) (by omega) (fun r69 r69b r69i => ?_)
                unfold InI at r69i
                refine Tx.ifc hC (t := 79) te_96_70 (by decide) (fun q72 => ?_) (fun q72 => ?_)
                · replace q72 : (r69 : Int) = 0 := q72
                  refine Tx.iincW hC te_96_79 rfl rfl (fun z73 z73i z73e => ?_)
                  unfold InI at z73i z73e
                  first | replace z73e := z73e (by omega) | clear z73e
                  refine Tx.goto hC (t := 10) te_96_82 (by decide) ?_
                  exact Tx.weak (by repeat' (first | exact trivial | exact rfl | constructor)) (ih_10 x2 x3 z73 m_10 (by omega) (by omega) (by omega) hF_10)
                · replace q72 : ¬ ((r69 : Int) = 0) := q72
                  refine Tx.iload hC te_96_73 rfl ?_
                  refine Tx.istore_n hC te_96_75 rfl ?_
                  refine Tx.iload hC te_96_76 rfl ?_
                  refine Tx.istore_n hC te_96_78 rfl ?_
                  refine Tx.iincW hC te_96_79 rfl rfl (fun z74 z74i z74e => ?_)
                  unfold InI at z74i z74e
                  first | replace z74e := z74e (by omega) | clear z74e
                  refine Tx.goto hC (t := 10) te_96_82 (by decide) ?_
                  exact Tx.weak (by repeat' (first | exact trivial | exact rfl | constructor)) (ih_10 x4 r62 z74 m_10 (by omega) (by omega) (by omega) hF_10)
  refine Tx.iconst hC te_96_0 rfl ?_
  refine Tx.istore_n hC te_96_1 rfl ?_
  refine Tx.aload_n hC te_96_2 rfl ?_
  refine Tx.getI hC te_96_3 rfl rfl rfl (fun v75 v75e v75i => ?_)
  unfold InI at v75i
  refine Tx.istore_n hC te_96_6 rfl ?_
  refine Tx.iconst hC te_96_7 rfl ?_
  refine Tx.istore hC te_96_8 rfl ?_
  exact l_10 _ (-1) v75 0 mem (by omega) (by omega) (Nat.lt_succ_self _) FrS.rf
/-! settle by its depth; take: what stands at its heads -/
theorem f_96 {S : Nat × (Nat → Int32)} {n : Nat} {d : Int} : ∀ (c : Nat) (y : Int) (mem : MM) (K : Int → MM → Prop) (E : Nat → MM → Prop), y + c = 9 → SkO mem d → (∀ r m', r = 0 ∨ r = 1 → FrS mem m' → K r m') → CQI (Ex S (n + c + 4)) 96 [.inr 21, .inl y] mem K E := by
  intro c
  induction c with
  | zero => intro y mem K E hy hS H; exact g_96 hS (fun z _ h => absurd h (by omega)) H
  | succ c ih => intro y mem K E hy hS H; exact g_96 (n := n + (c + 1)) hS (fun z hz _ m K' E' h1 h2 => ih z m K' E' (by omega) h1 h2) H
theorem f_96z {S : Nat × (Nat → Int32)} {n : Nat} {d : Int} {mem : MM} {K : Int → MM → Prop} {E : Nat → MM → Prop} (hS : SkO mem d) (H : ∀ r m', r = 0 ∨ r = 1 → FrS mem m' → K r m') : CQI (Ex S (n + 13)) 96 [.inr 21, .inl 0] mem K E := f_96 (n := n) 9 0 mem K E (by omega) hS H
theorem upm_rg {m : MM} {A i B j : Nat} {x lo hi : Int} (h1 : B = A ∧ j = i → lo ≤ x ∧ x ≤ hi) (h2 : ¬ (B = A ∧ j = i) → lo ≤ m B j ∧ m B j ≤ hi) : lo ≤ upm m A i x B j ∧ upm m A i x B j ≤ hi := by
  by_cases q : B = A ∧ j = i
  · rw [q.1, q.2, upm_eq]; exact h1 q
  · rw [upm_ne q]; exact h2 q
def pBz (o : Int) (A i : Nat) : Prop := A = 27 ∧ 4 * o.toNat ≤ i ∧ i < 4 * o.toNat + 4
def pK7 (A _i : Nat) : Prop := A = 21 ∨ (24 ≤ A ∧ A ≤ 28)
def TkI (mem m : MM) (d c x : Int) : Prop := (m 21 0 = mem 1 0 ∧ m 21 1 = d) ∧ (∀ o, o < 8 → 0 ≤ m 24 o ∧ m 24 o ≤ 2) ∧ (∀ u : Nat, (u : Int) < c → 1 ≤ m 25 u ∧ m 25 u ≤ 3) ∧ ∀ o r : Nat, (o : Int) < x → r < 4 → 0 ≤ m 27 (4 * o + r) ∧ m 27 (4 * o + r) ≤ m 25 (m 24 o).toNat
theorem TkI.le {mem m : MM} {d c x c' x' : Int} (h : TkI mem m d c x) (h1 : c' ≤ c) (h2 : x' ≤ x) : TkI mem m d c' x' := ⟨h.1, h.2.1, fun u hu => h.2.2.1 u (by omega), fun o r ho hr => h.2.2.2 o r (by omega) hr⟩
theorem TkI.up0 {mem m : MM} {d c x v : Int} {A i : Nat} (h : TkI mem m d c x) (q : ¬ (A = 21 ∧ i < 2) ∧ ¬ A = 24 ∧ ¬ A = 25 ∧ ¬ A = 27) : TkI mem (upm m A i v) d c x := by
  refine ⟨?_, fun o ho => ?_, fun u hu => ?_, fun o r ho hr => ?_⟩
  · rw [upm_ne (by omega), upm_ne (by omega)]; exact h.1
  · rw [upm_ne (by omega)]; exact h.2.1 o ho
  · rw [upm_ne (by omega)]; exact h.2.2.1 u hu
  · rw [upm_ne (by omega), upm_ne (A := A) (B := 24) (by omega), upm_ne (by omega)]; exact h.2.2.2 o r ho hr
theorem TkI.up25 {mem m : MM} {d c v : Int} {i : Nat} (h : TkI mem m d c 0) (hv : 1 ≤ v ∧ v ≤ 3) (hi : c = (i : Int)) : TkI mem (upm m 25 i v) d (c + 1) 0 := by
  refine ⟨?_, fun o ho => ?_, fun u hu => ?_, fun o r ho hr => absurd ho (by omega)⟩
  · rw [upm_ne (by omega), upm_ne (by omega)]; exact h.1
  · rw [upm_ne (by omega)]; exact h.2.1 o ho
  · exact upm_rg (fun _ => hv) (fun q => h.2.2.1 u (by omega))
theorem TkI.up24 {mem m : MM} {d c x v : Int} {i : Nat} (h : TkI mem m d c x) (hv : 0 ≤ v ∧ v ≤ 2) (hi : x = (i : Int)) : TkI mem (upm m 24 i v) d c x := by
  refine ⟨?_, fun o ho => ?_, fun u hu => ?_, fun o r ho hr => ?_⟩
  · rw [upm_ne (by omega), upm_ne (by omega)]; exact h.1
  · exact upm_rg (fun _ => hv) (fun q => h.2.1 o ho)
  · rw [upm_ne (by omega)]; exact h.2.2.1 u hu
  · rw [upm_ne (by omega), upm_ne (A := 24) (B := 24) (by omega), upm_ne (by omega)]; exact h.2.2.2 o r ho hr
theorem TkI.asks {mem m m' : MM} {d x : Int} (h : TkI mem m d 3 x) (hx : 0 ≤ x) (hF : Frm (pBz x) m m') (ha : ∀ k, k < 4 → 0 ≤ m' 27 (4 * x.toNat + k) ∧ m' 27 (4 * x.toNat + k) ≤ m 25 (m 24 x.toNat).toNat) : TkI mem m' d 3 (x + 1) := by
  have e : ∀ A i, ¬ A = 27 → m' A i = m A i := fun A i q => hF A i (by unfold pBz; omega)
  refine ⟨?_, fun o ho => ?_, fun u hu => ?_, fun o r ho hr => ?_⟩
  · rw [e _ _ (by omega), e _ _ (by omega)]; exact h.1
  · rw [e _ _ (by omega)]; exact h.2.1 o ho
  · rw [e _ _ (by omega)]; exact h.2.2.1 u hu
  · rw [e 24 _ (by omega), e 25 _ (by omega)]
    by_cases q : o = x.toNat
    · rw [q]; exact ha r hr
    · rw [hF 27 _ (by unfold pBz; omega)]; exact h.2.2.2 o r (by omega) hr
theorem TkI.start {mem : MM} {d v f g : Int} (hU : ∀ o, o < 8 → 0 ≤ mem 24 o ∧ mem 24 o ≤ 2) (e : v = mem 1 0) : TkI mem (upm (upm (upm (upm mem 21 0 v) 21 1 d) 21 2 f) 21 4 g) d 0 0 := by
  refine ⟨⟨?_, ?_⟩, fun o ho => ?_, fun u hu => absurd hu (by omega), fun o r ho hr => absurd ho (by omega)⟩
  · rw [upm_ne (by omega), upm_ne (by omega), upm_ne (by omega), upm_eq]; exact e
  · rw [upm_ne (by omega), upm_ne (by omega), upm_eq]
  · rw [upm_ne (by omega), upm_ne (by omega), upm_ne (by omega), upm_ne (by omega)]; exact hU o ho
theorem TkI.sko {mem m : MM} {d x : Int} (h : TkI mem m d 3 x) (hx : m 21 0 ≤ x) (h8 : 0 ≤ mem 1 0 ∧ mem 1 0 ≤ 8) (hd : 1 ≤ d ∧ d ≤ 12) : SkO m d := by
  have e := h.1.1
  exact ⟨by omega, ⟨h.1.2, hd⟩, h.2.1, fun u hu => h.2.2.1 u (by omega), fun o r ho hr => h.2.2.2 o r (by omega) hr⟩
/-! laid by wip/hand/tg.py: the seeker: sk3 -/
def pT6 (A _i : Nat) : Prop := 21 ≤ A ∧ A ≤ 36
set_option maxRecDepth 100000 in
theorem mt_86 : MT[86]? = some M_86 := rfl
set_option maxRecDepth 100000 in
theorem mt_87 : MT[87]? = some M_87 := rfl
set_option maxRecDepth 100000 in
theorem mt_88 : MT[88]? = some M_88 := rfl
set_option maxRecDepth 100000 in
theorem mt_103 : MT[103]? = some M_103 := rfl
theorem te_86_0 : (pT M_86).find? (fun e => e.1 == 0) = some (0, .aload_n 0, 0, 0) := rfl
theorem te_86_1 : (pT M_86).find? (fun e => e.1 == 1) = some (1, .aload_n 1, 0, 0) := rfl
theorem te_86_2 : (pT M_86).find? (fun e => e.1 == 2) = some (2, .iload_n 2, 0, 0) := rfl
theorem te_86_3 : (pT M_86).find? (fun e => e.1 == 3) = some (3, .invokevirtual 57, 87, 0) := rfl
theorem te_86_6 : (pT M_86).find? (fun e => e.1 == 6) = some (6, .ifCond .ne 5, 0, 0) := rfl
theorem te_86_9 : (pT M_86).find? (fun e => e.1 == 9) = some (9, .iconst 0, 0, 0) := rfl
theorem te_86_10 : (pT M_86).find? (fun e => e.1 == 10) = some (10, .ireturn, 0, 0) := rfl
theorem te_86_11 : (pT M_86).find? (fun e => e.1 == 11) = some (11, .aload_n 0, 0, 0) := rfl
theorem te_86_12 : (pT M_86).find? (fun e => e.1 == 12) = some (12, .getfield 48, 6, 17) := rfl
theorem te_86_15 : (pT M_86).find? (fun e => e.1 == 15) = some (15, .iconst 0, 0, 0) := rfl
theorem te_86_16 : (pT M_86).find? (fun e => e.1 == 16) = some (16, .invokestatic 61, 76, 2) := rfl
theorem te_86_19 : (pT M_86).find? (fun e => e.1 == 19) = some (19, .aload_n 0, 0, 0) := rfl
theorem te_86_20 : (pT M_86).find? (fun e => e.1 == 20) = some (20, .getfield 54, 6, 19) := rfl
theorem te_86_23 : (pT M_86).find? (fun e => e.1 == 23) = some (23, .iconst 1, 0, 0) := rfl
theorem te_86_24 : (pT M_86).find? (fun e => e.1 == 24) = some (24, .invokestatic 61, 76, 2) := rfl
theorem te_86_27 : (pT M_86).find? (fun e => e.1 == 27) = some (27, .aload_n 0, 0, 0) := rfl
theorem te_86_28 : (pT M_86).find? (fun e => e.1 == 28) = some (28, .invokevirtual 67, 89, 0) := rfl
theorem te_86_31 : (pT M_86).find? (fun e => e.1 == 31) = some (31, .iconst 0, 0, 0) := rfl
theorem te_86_32 : (pT M_86).find? (fun e => e.1 == 32) = some (32, .istore_n 3, 0, 0) := rfl
theorem te_86_33 : (pT M_86).find? (fun e => e.1 == 33) = some (33, .iconst 0, 0, 0) := rfl
theorem te_86_34 : (pT M_86).find? (fun e => e.1 == 34) = some (34, .istore 4, 0, 0) := rfl
theorem te_86_36 : (pT M_86).find? (fun e => e.1 == 36) = some (36, .iload 4, 0, 0) := rfl
theorem te_86_38 : (pT M_86).find? (fun e => e.1 == 38) = some (38, .aload_n 0, 0, 0) := rfl
theorem te_86_39 : (pT M_86).find? (fun e => e.1 == 39) = some (39, .getfield 70, 6, 0) := rfl
theorem te_86_42 : (pT M_86).find? (fun e => e.1 == 42) = some (42, .if_icmp .ge 79, 0, 0) := rfl
theorem te_86_45 : (pT M_86).find? (fun e => e.1 == 45) = some (45, .iload_n 3, 0, 0) := rfl
theorem te_86_46 : (pT M_86).find? (fun e => e.1 == 46) = some (46, .iconst 1, 0, 0) := rfl
theorem te_86_47 : (pT M_86).find? (fun e => e.1 == 47) = some (47, .iload 4, 0, 0) := rfl
theorem te_86_49 : (pT M_86).find? (fun e => e.1 == 49) = some (49, .ishl, 0, 0) := rfl
theorem te_86_50 : (pT M_86).find? (fun e => e.1 == 50) = some (50, .iand, 0, 0) := rfl
theorem te_86_51 : (pT M_86).find? (fun e => e.1 == 51) = some (51, .ifCond .ne 64, 0, 0) := rfl
theorem te_86_54 : (pT M_86).find? (fun e => e.1 == 54) = some (54, .aload_n 0, 0, 0) := rfl
theorem te_86_55 : (pT M_86).find? (fun e => e.1 == 55) = some (55, .aload_n 0, 0, 0) := rfl
theorem te_86_56 : (pT M_86).find? (fun e => e.1 == 56) = some (56, .getfield 24, 6, 9) := rfl
theorem te_86_59 : (pT M_86).find? (fun e => e.1 == 59) = some (59, .aload_n 0, 0, 0) := rfl
theorem te_86_60 : (pT M_86).find? (fun e => e.1 == 60) = some (60, .getfield 18, 6, 7) := rfl
theorem te_86_63 : (pT M_86).find? (fun e => e.1 == 63) = some (63, .iload 4, 0, 0) := rfl
theorem te_86_65 : (pT M_86).find? (fun e => e.1 == 65) = some (65, .iaload, 0, 0) := rfl
theorem te_86_66 : (pT M_86).find? (fun e => e.1 == 66) = some (66, .iaload, 0, 0) := rfl
theorem te_86_67 : (pT M_86).find? (fun e => e.1 == 67) = some (67, .putfield 74, 6, 3) := rfl
theorem te_86_70 : (pT M_86).find? (fun e => e.1 == 70) = some (70, .iload_n 3, 0, 0) := rfl
theorem te_86_71 : (pT M_86).find? (fun e => e.1 == 71) = some (71, .aload_n 0, 0, 0) := rfl
theorem te_86_72 : (pT M_86).find? (fun e => e.1 == 72) = some (72, .getfield 74, 6, 3) := rfl
theorem te_86_75 : (pT M_86).find? (fun e => e.1 == 75) = some (75, .ior, 0, 0) := rfl
theorem te_86_76 : (pT M_86).find? (fun e => e.1 == 76) = some (76, .istore_n 3, 0, 0) := rfl
theorem te_86_77 : (pT M_86).find? (fun e => e.1 == 77) = some (77, .aload_n 0, 0, 0) := rfl
theorem te_86_78 : (pT M_86).find? (fun e => e.1 == 78) = some (78, .iload 4, 0, 0) := rfl
theorem te_86_80 : (pT M_86).find? (fun e => e.1 == 80) = some (80, .iconst 0, 0, 0) := rfl
theorem te_86_81 : (pT M_86).find? (fun e => e.1 == 81) = some (81, .invokevirtual 77, 91, 0) := rfl
theorem te_86_84 : (pT M_86).find? (fun e => e.1 == 84) = some (84, .ifCond .eq 15, 0, 0) := rfl
theorem te_86_87 : (pT M_86).find? (fun e => e.1 == 87) = some (87, .aload_n 0, 0, 0) := rfl
theorem te_86_88 : (pT M_86).find? (fun e => e.1 == 88) = some (88, .iconst 0, 0, 0) := rfl
theorem te_86_89 : (pT M_86).find? (fun e => e.1 == 89) = some (89, .invokevirtual 81, 96, 0) := rfl
theorem te_86_92 : (pT M_86).find? (fun e => e.1 == 92) = some (92, .ifCond .eq 7, 0, 0) := rfl
theorem te_86_95 : (pT M_86).find? (fun e => e.1 == 95) = some (95, .iconst 1, 0, 0) := rfl
theorem te_86_96 : (pT M_86).find? (fun e => e.1 == 96) = some (96, .goto 4, 0, 0) := rfl
theorem te_86_99 : (pT M_86).find? (fun e => e.1 == 99) = some (99, .iconst 0, 0, 0) := rfl
theorem te_86_100 : (pT M_86).find? (fun e => e.1 == 100) = some (100, .istore 5, 0, 0) := rfl
theorem te_86_102 : (pT M_86).find? (fun e => e.1 == 102) = some (102, .aload_n 0, 0, 0) := rfl
theorem te_86_103 : (pT M_86).find? (fun e => e.1 == 103) = some (103, .iload 4, 0, 0) := rfl
theorem te_86_105 : (pT M_86).find? (fun e => e.1 == 105) = some (105, .invokevirtual 85, 102, 0) := rfl
theorem te_86_108 : (pT M_86).find? (fun e => e.1 == 108) = some (108, .iload 5, 0, 0) := rfl
theorem te_86_110 : (pT M_86).find? (fun e => e.1 == 110) = some (110, .ifCond .ne 5, 0, 0) := rfl
theorem te_86_113 : (pT M_86).find? (fun e => e.1 == 113) = some (113, .iconst 0, 0, 0) := rfl
theorem te_86_114 : (pT M_86).find? (fun e => e.1 == 114) = some (114, .ireturn, 0, 0) := rfl
theorem te_86_115 : (pT M_86).find? (fun e => e.1 == 115) = some (115, .iinc 4 1, 0, 0) := rfl
theorem te_86_118 : (pT M_86).find? (fun e => e.1 == 118) = some (118, .goto (-82), 0, 0) := rfl
theorem te_86_121 : (pT M_86).find? (fun e => e.1 == 121) = some (121, .iconst 1, 0, 0) := rfl
theorem te_86_122 : (pT M_86).find? (fun e => e.1 == 122) = some (122, .ireturn, 0, 0) := rfl
theorem te_87_0 : (pT M_87).find? (fun e => e.1 == 0) = some (0, .aload_n 0, 0, 0) := rfl
theorem te_87_1 : (pT M_87).find? (fun e => e.1 == 1) = some (1, .aload_n 1, 0, 0) := rfl
theorem te_87_2 : (pT M_87).find? (fun e => e.1 == 2) = some (2, .getfield 106, 0, 0) := rfl
theorem te_87_5 : (pT M_87).find? (fun e => e.1 == 5) = some (5, .putfield 70, 6, 0) := rfl
theorem te_87_8 : (pT M_87).find? (fun e => e.1 == 8) = some (8, .aload_n 0, 0, 0) := rfl
theorem te_87_9 : (pT M_87).find? (fun e => e.1 == 9) = some (9, .iload_n 2, 0, 0) := rfl
theorem te_87_10 : (pT M_87).find? (fun e => e.1 == 10) = some (10, .putfield 103, 6, 1) := rfl
theorem te_87_13 : (pT M_87).find? (fun e => e.1 == 13) = some (13, .aload_n 0, 0, 0) := rfl
theorem te_87_14 : (pT M_87).find? (fun e => e.1 == 14) = some (14, .iconst 1, 0, 0) := rfl
theorem te_87_15 : (pT M_87).find? (fun e => e.1 == 15) = some (15, .iload_n 2, 0, 0) := rfl
theorem te_87_16 : (pT M_87).find? (fun e => e.1 == 16) = some (16, .ishl, 0, 0) := rfl
theorem te_87_17 : (pT M_87).find? (fun e => e.1 == 17) = some (17, .iconst 1, 0, 0) := rfl
theorem te_87_18 : (pT M_87).find? (fun e => e.1 == 18) = some (18, .isub, 0, 0) := rfl
theorem te_87_19 : (pT M_87).find? (fun e => e.1 == 19) = some (19, .putfield 109, 6, 2) := rfl
theorem te_87_22 : (pT M_87).find? (fun e => e.1 == 22) = some (22, .aload_n 0, 0, 0) := rfl
theorem te_87_23 : (pT M_87).find? (fun e => e.1 == 23) = some (23, .iconst 0, 0, 0) := rfl
theorem te_87_24 : (pT M_87).find? (fun e => e.1 == 24) = some (24, .putfield 97, 6, 4) := rfl
theorem te_87_27 : (pT M_87).find? (fun e => e.1 == 27) = some (27, .iconst 0, 0, 0) := rfl
theorem te_87_28 : (pT M_87).find? (fun e => e.1 == 28) = some (28, .istore_n 3, 0, 0) := rfl
theorem te_87_29 : (pT M_87).find? (fun e => e.1 == 29) = some (29, .iload_n 3, 0, 0) := rfl
theorem te_87_30 : (pT M_87).find? (fun e => e.1 == 30) = some (30, .iconst 3, 0, 0) := rfl
theorem te_87_31 : (pT M_87).find? (fun e => e.1 == 31) = some (31, .if_icmp .ge 91, 0, 0) := rfl
theorem te_87_34 : (pT M_87).find? (fun e => e.1 == 34) = some (34, .aload_n 0, 0, 0) := rfl
theorem te_87_35 : (pT M_87).find? (fun e => e.1 == 35) = some (35, .getfield 21, 6, 8) := rfl
theorem te_87_38 : (pT M_87).find? (fun e => e.1 == 38) = some (38, .iload_n 3, 0, 0) := rfl
theorem te_87_39 : (pT M_87).find? (fun e => e.1 == 39) = some (39, .aload_n 1, 0, 0) := rfl
theorem te_87_40 : (pT M_87).find? (fun e => e.1 == 40) = some (40, .getfield 112, 0, 7) := rfl
theorem te_87_43 : (pT M_87).find? (fun e => e.1 == 43) = some (43, .iload_n 3, 0, 0) := rfl
theorem te_87_44 : (pT M_87).find? (fun e => e.1 == 44) = some (44, .iaload, 0, 0) := rfl
theorem te_87_45 : (pT M_87).find? (fun e => e.1 == 45) = some (45, .iastore, 0, 0) := rfl
theorem te_87_46 : (pT M_87).find? (fun e => e.1 == 46) = some (46, .aload_n 1, 0, 0) := rfl
theorem te_87_47 : (pT M_87).find? (fun e => e.1 == 47) = some (47, .iload_n 3, 0, 0) := rfl
theorem te_87_48 : (pT M_87).find? (fun e => e.1 == 48) = some (48, .invokevirtual 113, 36, 1) := rfl
theorem te_87_51 : (pT M_87).find? (fun e => e.1 == 51) = some (51, .iload_n 2, 0, 0) := rfl
theorem te_87_52 : (pT M_87).find? (fun e => e.1 == 52) = some (52, .aload_n 0, 0, 0) := rfl
theorem te_87_53 : (pT M_87).find? (fun e => e.1 == 53) = some (53, .getfield 21, 6, 8) := rfl
theorem te_87_56 : (pT M_87).find? (fun e => e.1 == 56) = some (56, .iload_n 3, 0, 0) := rfl
theorem te_87_57 : (pT M_87).find? (fun e => e.1 == 57) = some (57, .iaload, 0, 0) := rfl
theorem te_87_58 : (pT M_87).find? (fun e => e.1 == 58) = some (58, .imul, 0, 0) := rfl
theorem te_87_59 : (pT M_87).find? (fun e => e.1 == 59) = some (59, .if_icmp .le 5, 0, 0) := rfl
theorem te_87_62 : (pT M_87).find? (fun e => e.1 == 62) = some (62, .iconst 0, 0, 0) := rfl
theorem te_87_63 : (pT M_87).find? (fun e => e.1 == 63) = some (63, .ireturn, 0, 0) := rfl
theorem te_87_64 : (pT M_87).find? (fun e => e.1 == 64) = some (64, .aload_n 0, 0, 0) := rfl
theorem te_87_65 : (pT M_87).find? (fun e => e.1 == 65) = some (65, .getfield 24, 6, 9) := rfl
theorem te_87_68 : (pT M_87).find? (fun e => e.1 == 68) = some (68, .iload_n 3, 0, 0) := rfl
theorem te_87_69 : (pT M_87).find? (fun e => e.1 == 69) = some (69, .iconst 0, 0, 0) := rfl
theorem te_87_70 : (pT M_87).find? (fun e => e.1 == 70) = some (70, .iastore, 0, 0) := rfl
theorem te_87_71 : (pT M_87).find? (fun e => e.1 == 71) = some (71, .aload_n 0, 0, 0) := rfl
theorem te_87_72 : (pT M_87).find? (fun e => e.1 == 72) = some (72, .getfield 30, 6, 11) := rfl
theorem te_87_75 : (pT M_87).find? (fun e => e.1 == 75) = some (75, .iload_n 3, 0, 0) := rfl
theorem te_87_76 : (pT M_87).find? (fun e => e.1 == 76) = some (76, .iconst 4, 0, 0) := rfl
theorem te_87_77 : (pT M_87).find? (fun e => e.1 == 77) = some (77, .imul, 0, 0) := rfl
theorem te_87_78 : (pT M_87).find? (fun e => e.1 == 78) = some (78, .aload_n 0, 0, 0) := rfl
theorem te_87_79 : (pT M_87).find? (fun e => e.1 == 79) = some (79, .getfield 109, 6, 2) := rfl
theorem te_87_82 : (pT M_87).find? (fun e => e.1 == 82) = some (82, .iastore, 0, 0) := rfl
theorem te_87_83 : (pT M_87).find? (fun e => e.1 == 83) = some (83, .aload_n 0, 0, 0) := rfl
theorem te_87_84 : (pT M_87).find? (fun e => e.1 == 84) = some (84, .getfield 30, 6, 11) := rfl
theorem te_87_87 : (pT M_87).find? (fun e => e.1 == 87) = some (87, .iload_n 3, 0, 0) := rfl
theorem te_87_88 : (pT M_87).find? (fun e => e.1 == 88) = some (88, .iconst 4, 0, 0) := rfl
theorem te_87_89 : (pT M_87).find? (fun e => e.1 == 89) = some (89, .imul, 0, 0) := rfl
theorem te_87_90 : (pT M_87).find? (fun e => e.1 == 90) = some (90, .iconst 1, 0, 0) := rfl
theorem te_87_91 : (pT M_87).find? (fun e => e.1 == 91) = some (91, .iadd, 0, 0) := rfl
theorem te_87_92 : (pT M_87).find? (fun e => e.1 == 92) = some (92, .iconst 0, 0, 0) := rfl
theorem te_87_93 : (pT M_87).find? (fun e => e.1 == 93) = some (93, .iastore, 0, 0) := rfl
theorem te_87_94 : (pT M_87).find? (fun e => e.1 == 94) = some (94, .aload_n 0, 0, 0) := rfl
theorem te_87_95 : (pT M_87).find? (fun e => e.1 == 95) = some (95, .getfield 30, 6, 11) := rfl
theorem te_87_98 : (pT M_87).find? (fun e => e.1 == 98) = some (98, .iload_n 3, 0, 0) := rfl
theorem te_87_99 : (pT M_87).find? (fun e => e.1 == 99) = some (99, .iconst 4, 0, 0) := rfl
theorem te_87_100 : (pT M_87).find? (fun e => e.1 == 100) = some (100, .imul, 0, 0) := rfl
theorem te_87_101 : (pT M_87).find? (fun e => e.1 == 101) = some (101, .iconst 2, 0, 0) := rfl
theorem te_87_102 : (pT M_87).find? (fun e => e.1 == 102) = some (102, .iadd, 0, 0) := rfl
theorem te_87_103 : (pT M_87).find? (fun e => e.1 == 103) = some (103, .iconst 0, 0, 0) := rfl
theorem te_87_104 : (pT M_87).find? (fun e => e.1 == 104) = some (104, .iastore, 0, 0) := rfl
theorem te_87_105 : (pT M_87).find? (fun e => e.1 == 105) = some (105, .aload_n 0, 0, 0) := rfl
theorem te_87_106 : (pT M_87).find? (fun e => e.1 == 106) = some (106, .getfield 30, 6, 11) := rfl
theorem te_87_109 : (pT M_87).find? (fun e => e.1 == 109) = some (109, .iload_n 3, 0, 0) := rfl
theorem te_87_110 : (pT M_87).find? (fun e => e.1 == 110) = some (110, .iconst 4, 0, 0) := rfl
theorem te_87_111 : (pT M_87).find? (fun e => e.1 == 111) = some (111, .imul, 0, 0) := rfl
theorem te_87_112 : (pT M_87).find? (fun e => e.1 == 112) = some (112, .iconst 3, 0, 0) := rfl
theorem te_87_113 : (pT M_87).find? (fun e => e.1 == 113) = some (113, .iadd, 0, 0) := rfl
theorem te_87_114 : (pT M_87).find? (fun e => e.1 == 114) = some (114, .iconst 0, 0, 0) := rfl
theorem te_87_115 : (pT M_87).find? (fun e => e.1 == 115) = some (115, .iastore, 0, 0) := rfl
theorem te_87_116 : (pT M_87).find? (fun e => e.1 == 116) = some (116, .iinc 3 1, 0, 0) := rfl
theorem te_87_119 : (pT M_87).find? (fun e => e.1 == 119) = some (119, .goto (-90), 0, 0) := rfl
theorem te_87_122 : (pT M_87).find? (fun e => e.1 == 122) = some (122, .iconst 0, 0, 0) := rfl
theorem te_87_123 : (pT M_87).find? (fun e => e.1 == 123) = some (123, .istore_n 3, 0, 0) := rfl
theorem te_87_124 : (pT M_87).find? (fun e => e.1 == 124) = some (124, .iload_n 3, 0, 0) := rfl
theorem te_87_125 : (pT M_87).find? (fun e => e.1 == 125) = some (125, .aload_n 0, 0, 0) := rfl
theorem te_87_126 : (pT M_87).find? (fun e => e.1 == 126) = some (126, .getfield 70, 6, 0) := rfl
theorem te_87_129 : (pT M_87).find? (fun e => e.1 == 129) = some (129, .if_icmp .ge 52, 0, 0) := rfl
theorem te_87_132 : (pT M_87).find? (fun e => e.1 == 132) = some (132, .aload_n 0, 0, 0) := rfl
theorem te_87_133 : (pT M_87).find? (fun e => e.1 == 133) = some (133, .getfield 18, 6, 7) := rfl
theorem te_87_136 : (pT M_87).find? (fun e => e.1 == 136) = some (136, .iload_n 3, 0, 0) := rfl
theorem te_87_137 : (pT M_87).find? (fun e => e.1 == 137) = some (137, .aload_n 1, 0, 0) := rfl
theorem te_87_138 : (pT M_87).find? (fun e => e.1 == 138) = some (138, .iload_n 3, 0, 0) := rfl
theorem te_87_139 : (pT M_87).find? (fun e => e.1 == 139) = some (139, .invokevirtual 116, 37, 1) := rfl
theorem te_87_142 : (pT M_87).find? (fun e => e.1 == 142) = some (142, .iastore, 0, 0) := rfl
theorem te_87_143 : (pT M_87).find? (fun e => e.1 == 143) = some (143, .aload_n 0, 0, 0) := rfl
theorem te_87_144 : (pT M_87).find? (fun e => e.1 == 144) = some (144, .getfield 24, 6, 9) := rfl
theorem te_87_147 : (pT M_87).find? (fun e => e.1 == 147) = some (147, .aload_n 0, 0, 0) := rfl
theorem te_87_148 : (pT M_87).find? (fun e => e.1 == 148) = some (148, .getfield 18, 6, 7) := rfl
theorem te_87_151 : (pT M_87).find? (fun e => e.1 == 151) = some (151, .iload_n 3, 0, 0) := rfl
theorem te_87_152 : (pT M_87).find? (fun e => e.1 == 152) = some (152, .iaload, 0, 0) := rfl
theorem te_87_153 : (pT M_87).find? (fun e => e.1 == 153) = some (153, .dup2, 0, 0) := rfl
theorem te_87_154 : (pT M_87).find? (fun e => e.1 == 154) = some (154, .iaload, 0, 0) := rfl
theorem te_87_155 : (pT M_87).find? (fun e => e.1 == 155) = some (155, .iconst 1, 0, 0) := rfl
theorem te_87_156 : (pT M_87).find? (fun e => e.1 == 156) = some (156, .iload_n 3, 0, 0) := rfl
theorem te_87_157 : (pT M_87).find? (fun e => e.1 == 157) = some (157, .ishl, 0, 0) := rfl
theorem te_87_158 : (pT M_87).find? (fun e => e.1 == 158) = some (158, .ior, 0, 0) := rfl
theorem te_87_159 : (pT M_87).find? (fun e => e.1 == 159) = some (159, .iastore, 0, 0) := rfl
theorem te_87_160 : (pT M_87).find? (fun e => e.1 == 160) = some (160, .aload_n 0, 0, 0) := rfl
theorem te_87_161 : (pT M_87).find? (fun e => e.1 == 161) = some (161, .iload_n 3, 0, 0) := rfl
theorem te_87_162 : (pT M_87).find? (fun e => e.1 == 162) = some (162, .aload_n 1, 0, 0) := rfl
theorem te_87_163 : (pT M_87).find? (fun e => e.1 == 163) = some (163, .iload_n 3, 0, 0) := rfl
theorem te_87_164 : (pT M_87).find? (fun e => e.1 == 164) = some (164, .invokevirtual 119, 38, 1) := rfl
theorem te_87_167 : (pT M_87).find? (fun e => e.1 == 167) = some (167, .invokevirtual 122, 88, 0) := rfl
theorem te_87_170 : (pT M_87).find? (fun e => e.1 == 170) = some (170, .ifCond .ne 5, 0, 0) := rfl
theorem te_87_173 : (pT M_87).find? (fun e => e.1 == 173) = some (173, .iconst 0, 0, 0) := rfl
theorem te_87_174 : (pT M_87).find? (fun e => e.1 == 174) = some (174, .ireturn, 0, 0) := rfl
theorem te_87_175 : (pT M_87).find? (fun e => e.1 == 175) = some (175, .iinc 3 1, 0, 0) := rfl
theorem te_87_178 : (pT M_87).find? (fun e => e.1 == 178) = some (178, .goto (-54), 0, 0) := rfl
theorem te_87_181 : (pT M_87).find? (fun e => e.1 == 181) = some (181, .iconst 1, 0, 0) := rfl
theorem te_87_182 : (pT M_87).find? (fun e => e.1 == 182) = some (182, .ireturn, 0, 0) := rfl
theorem te_88_0 : (pT M_88).find? (fun e => e.1 == 0) = some (0, .iconst 0, 0, 0) := rfl
theorem te_88_1 : (pT M_88).find? (fun e => e.1 == 1) = some (1, .istore_n 3, 0, 0) := rfl
theorem te_88_2 : (pT M_88).find? (fun e => e.1 == 2) = some (2, .iload_n 3, 0, 0) := rfl
theorem te_88_3 : (pT M_88).find? (fun e => e.1 == 3) = some (3, .iconst 4, 0, 0) := rfl
theorem te_88_4 : (pT M_88).find? (fun e => e.1 == 4) = some (4, .if_icmp .ge 20, 0, 0) := rfl
theorem te_88_7 : (pT M_88).find? (fun e => e.1 == 7) = some (7, .aload_n 0, 0, 0) := rfl
theorem te_88_8 : (pT M_88).find? (fun e => e.1 == 8) = some (8, .getfield 27, 6, 10) := rfl
theorem te_88_11 : (pT M_88).find? (fun e => e.1 == 11) = some (11, .iload_n 1, 0, 0) := rfl
theorem te_88_12 : (pT M_88).find? (fun e => e.1 == 12) = some (12, .iconst 4, 0, 0) := rfl
theorem te_88_13 : (pT M_88).find? (fun e => e.1 == 13) = some (13, .imul, 0, 0) := rfl
theorem te_88_14 : (pT M_88).find? (fun e => e.1 == 14) = some (14, .iload_n 3, 0, 0) := rfl
theorem te_88_15 : (pT M_88).find? (fun e => e.1 == 15) = some (15, .iadd, 0, 0) := rfl
theorem te_88_16 : (pT M_88).find? (fun e => e.1 == 16) = some (16, .iconst 0, 0, 0) := rfl
theorem te_88_17 : (pT M_88).find? (fun e => e.1 == 17) = some (17, .iastore, 0, 0) := rfl
theorem te_88_18 : (pT M_88).find? (fun e => e.1 == 18) = some (18, .iinc 3 1, 0, 0) := rfl
theorem te_88_21 : (pT M_88).find? (fun e => e.1 == 21) = some (21, .goto (-19), 0, 0) := rfl
theorem te_88_24 : (pT M_88).find? (fun e => e.1 == 24) = some (24, .iconst 0, 0, 0) := rfl
theorem te_88_25 : (pT M_88).find? (fun e => e.1 == 25) = some (25, .istore_n 3, 0, 0) := rfl
theorem te_88_26 : (pT M_88).find? (fun e => e.1 == 26) = some (26, .iload_n 3, 0, 0) := rfl
theorem te_88_27 : (pT M_88).find? (fun e => e.1 == 27) = some (27, .iconst 4, 0, 0) := rfl
theorem te_88_28 : (pT M_88).find? (fun e => e.1 == 28) = some (28, .if_icmp .ge 63, 0, 0) := rfl
theorem te_88_31 : (pT M_88).find? (fun e => e.1 == 31) = some (31, .iload_n 2, 0, 0) := rfl
theorem te_88_32 : (pT M_88).find? (fun e => e.1 == 32) = some (32, .iconst 1, 0, 0) := rfl
theorem te_88_33 : (pT M_88).find? (fun e => e.1 == 33) = some (33, .iload_n 3, 0, 0) := rfl
theorem te_88_34 : (pT M_88).find? (fun e => e.1 == 34) = some (34, .ishl, 0, 0) := rfl
theorem te_88_35 : (pT M_88).find? (fun e => e.1 == 35) = some (35, .iand, 0, 0) := rfl
theorem te_88_36 : (pT M_88).find? (fun e => e.1 == 36) = some (36, .ifCond .eq 49, 0, 0) := rfl
theorem te_88_39 : (pT M_88).find? (fun e => e.1 == 39) = some (39, .iload_n 1, 0, 0) := rfl
theorem te_88_40 : (pT M_88).find? (fun e => e.1 == 40) = some (40, .iconst 4, 0, 0) := rfl
theorem te_88_41 : (pT M_88).find? (fun e => e.1 == 41) = some (41, .imul, 0, 0) := rfl
theorem te_88_42 : (pT M_88).find? (fun e => e.1 == 42) = some (42, .iload_n 3, 0, 0) := rfl
theorem te_88_43 : (pT M_88).find? (fun e => e.1 == 43) = some (43, .aload_n 0, 0, 0) := rfl
theorem te_88_44 : (pT M_88).find? (fun e => e.1 == 44) = some (44, .getfield 103, 6, 1) := rfl
theorem te_88_47 : (pT M_88).find? (fun e => e.1 == 47) = some (47, .irem, 0, 0) := rfl
theorem te_88_48 : (pT M_88).find? (fun e => e.1 == 48) = some (48, .iadd, 0, 0) := rfl
theorem te_88_49 : (pT M_88).find? (fun e => e.1 == 49) = some (49, .istore 4, 0, 0) := rfl
theorem te_88_51 : (pT M_88).find? (fun e => e.1 == 51) = some (51, .aload_n 0, 0, 0) := rfl
theorem te_88_52 : (pT M_88).find? (fun e => e.1 == 52) = some (52, .getfield 27, 6, 10) := rfl
theorem te_88_55 : (pT M_88).find? (fun e => e.1 == 55) = some (55, .iload 4, 0, 0) := rfl
theorem te_88_57 : (pT M_88).find? (fun e => e.1 == 57) = some (57, .dup2, 0, 0) := rfl
theorem te_88_58 : (pT M_88).find? (fun e => e.1 == 58) = some (58, .iaload, 0, 0) := rfl
theorem te_88_59 : (pT M_88).find? (fun e => e.1 == 59) = some (59, .iconst 1, 0, 0) := rfl
theorem te_88_60 : (pT M_88).find? (fun e => e.1 == 60) = some (60, .iadd, 0, 0) := rfl
theorem te_88_61 : (pT M_88).find? (fun e => e.1 == 61) = some (61, .iastore, 0, 0) := rfl
theorem te_88_62 : (pT M_88).find? (fun e => e.1 == 62) = some (62, .aload_n 0, 0, 0) := rfl
theorem te_88_63 : (pT M_88).find? (fun e => e.1 == 63) = some (63, .getfield 27, 6, 10) := rfl
theorem te_88_66 : (pT M_88).find? (fun e => e.1 == 66) = some (66, .iload 4, 0, 0) := rfl
theorem te_88_68 : (pT M_88).find? (fun e => e.1 == 68) = some (68, .iaload, 0, 0) := rfl
theorem te_88_69 : (pT M_88).find? (fun e => e.1 == 69) = some (69, .aload_n 0, 0, 0) := rfl
theorem te_88_70 : (pT M_88).find? (fun e => e.1 == 70) = some (70, .getfield 21, 6, 8) := rfl
theorem te_88_73 : (pT M_88).find? (fun e => e.1 == 73) = some (73, .aload_n 0, 0, 0) := rfl
theorem te_88_74 : (pT M_88).find? (fun e => e.1 == 74) = some (74, .getfield 18, 6, 7) := rfl
theorem te_88_77 : (pT M_88).find? (fun e => e.1 == 77) = some (77, .iload_n 1, 0, 0) := rfl
theorem te_88_78 : (pT M_88).find? (fun e => e.1 == 78) = some (78, .iaload, 0, 0) := rfl
theorem te_88_79 : (pT M_88).find? (fun e => e.1 == 79) = some (79, .iaload, 0, 0) := rfl
theorem te_88_80 : (pT M_88).find? (fun e => e.1 == 80) = some (80, .if_icmp .le 5, 0, 0) := rfl
theorem te_88_83 : (pT M_88).find? (fun e => e.1 == 83) = some (83, .iconst 0, 0, 0) := rfl
theorem te_88_84 : (pT M_88).find? (fun e => e.1 == 84) = some (84, .ireturn, 0, 0) := rfl
theorem te_88_85 : (pT M_88).find? (fun e => e.1 == 85) = some (85, .iinc 3 1, 0, 0) := rfl
theorem te_88_88 : (pT M_88).find? (fun e => e.1 == 88) = some (88, .goto (-62), 0, 0) := rfl
theorem te_88_91 : (pT M_88).find? (fun e => e.1 == 91) = some (91, .iconst 1, 0, 0) := rfl
theorem te_88_92 : (pT M_88).find? (fun e => e.1 == 92) = some (92, .ireturn, 0, 0) := rfl
theorem te_103_0 : (pT M_103).find? (fun e => e.1 == 0) = some (0, .aload_n 0, 0, 0) := rfl
theorem te_103_1 : (pT M_103).find? (fun e => e.1 == 1) = some (1, .aload_n 1, 0, 0) := rfl
theorem te_103_2 : (pT M_103).find? (fun e => e.1 == 2) = some (2, .invokevirtual 89, 104, 0) := rfl
theorem te_103_5 : (pT M_103).find? (fun e => e.1 == 5) = some (5, .aload_n 0, 0, 0) := rfl
theorem te_103_6 : (pT M_103).find? (fun e => e.1 == 6) = some (6, .invokevirtual 67, 89, 0) := rfl
theorem te_103_9 : (pT M_103).find? (fun e => e.1 == 9) = some (9, .iconst 0, 0, 0) := rfl
theorem te_103_10 : (pT M_103).find? (fun e => e.1 == 10) = some (10, .istore_n 2, 0, 0) := rfl
theorem te_103_11 : (pT M_103).find? (fun e => e.1 == 11) = some (11, .iload_n 2, 0, 0) := rfl
theorem te_103_12 : (pT M_103).find? (fun e => e.1 == 12) = some (12, .aload_n 0, 0, 0) := rfl
theorem te_103_13 : (pT M_103).find? (fun e => e.1 == 13) = some (13, .getfield 70, 6, 0) := rfl
theorem te_103_16 : (pT M_103).find? (fun e => e.1 == 16) = some (16, .if_icmp .ge 156, 0, 0) := rfl
theorem te_103_19 : (pT M_103).find? (fun e => e.1 == 19) = some (19, .aload_n 0, 0, 0) := rfl
theorem te_103_20 : (pT M_103).find? (fun e => e.1 == 20) = some (20, .aload_n 0, 0, 0) := rfl
theorem te_103_21 : (pT M_103).find? (fun e => e.1 == 21) = some (21, .iload_n 2, 0, 0) := rfl
theorem te_103_22 : (pT M_103).find? (fun e => e.1 == 22) = some (22, .invokevirtual 93, 105, 0) := rfl
theorem te_103_25 : (pT M_103).find? (fun e => e.1 == 25) = some (25, .putfield 74, 6, 3) := rfl
theorem te_103_28 : (pT M_103).find? (fun e => e.1 == 28) = some (28, .aload_n 0, 0, 0) := rfl
theorem te_103_29 : (pT M_103).find? (fun e => e.1 == 29) = some (29, .getfield 74, 6, 3) := rfl
theorem te_103_32 : (pT M_103).find? (fun e => e.1 == 32) = some (32, .aload_n 0, 0, 0) := rfl
theorem te_103_33 : (pT M_103).find? (fun e => e.1 == 33) = some (33, .getfield 97, 6, 4) := rfl
theorem te_103_36 : (pT M_103).find? (fun e => e.1 == 36) = some (36, .iand, 0, 0) := rfl
theorem te_103_37 : (pT M_103).find? (fun e => e.1 == 37) = some (37, .ifCond .ne 7, 0, 0) := rfl
theorem te_103_40 : (pT M_103).find? (fun e => e.1 == 40) = some (40, .iconst 1, 0, 0) := rfl
theorem te_103_41 : (pT M_103).find? (fun e => e.1 == 41) = some (41, .goto 4, 0, 0) := rfl
theorem te_103_44 : (pT M_103).find? (fun e => e.1 == 44) = some (44, .iconst 0, 0, 0) := rfl
theorem te_103_45 : (pT M_103).find? (fun e => e.1 == 45) = some (45, .istore_n 3, 0, 0) := rfl
theorem te_103_46 : (pT M_103).find? (fun e => e.1 == 46) = some (46, .iload_n 3, 0, 0) := rfl
theorem te_103_47 : (pT M_103).find? (fun e => e.1 == 47) = some (47, .ifCond .eq 7, 0, 0) := rfl
theorem te_103_50 : (pT M_103).find? (fun e => e.1 == 50) = some (50, .iconst 1, 0, 0) := rfl
theorem te_103_51 : (pT M_103).find? (fun e => e.1 == 51) = some (51, .goto 8, 0, 0) := rfl
theorem te_103_54 : (pT M_103).find? (fun e => e.1 == 54) = some (54, .aload_n 0, 0, 0) := rfl
theorem te_103_55 : (pT M_103).find? (fun e => e.1 == 55) = some (55, .iload_n 2, 0, 0) := rfl
theorem te_103_56 : (pT M_103).find? (fun e => e.1 == 56) = some (56, .invokevirtual 100, 97, 0) := rfl
theorem te_103_59 : (pT M_103).find? (fun e => e.1 == 59) = some (59, .istore 4, 0, 0) := rfl
theorem te_103_61 : (pT M_103).find? (fun e => e.1 == 61) = some (61, .iconst 0, 0, 0) := rfl
theorem te_103_62 : (pT M_103).find? (fun e => e.1 == 62) = some (62, .istore 5, 0, 0) := rfl
theorem te_103_64 : (pT M_103).find? (fun e => e.1 == 64) = some (64, .iconst 0, 0, 0) := rfl
theorem te_103_65 : (pT M_103).find? (fun e => e.1 == 65) = some (65, .istore 6, 0, 0) := rfl
theorem te_103_67 : (pT M_103).find? (fun e => e.1 == 67) = some (67, .iload 6, 0, 0) := rfl
theorem te_103_69 : (pT M_103).find? (fun e => e.1 == 69) = some (69, .aload_n 0, 0, 0) := rfl
theorem te_103_70 : (pT M_103).find? (fun e => e.1 == 70) = some (70, .getfield 103, 6, 1) := rfl
theorem te_103_73 : (pT M_103).find? (fun e => e.1 == 73) = some (73, .if_icmp .ge 86, 0, 0) := rfl
theorem te_103_76 : (pT M_103).find? (fun e => e.1 == 76) = some (76, .iload 5, 0, 0) := rfl
theorem te_103_78 : (pT M_103).find? (fun e => e.1 == 78) = some (78, .ifCond .ne 81, 0, 0) := rfl
theorem te_103_81 : (pT M_103).find? (fun e => e.1 == 81) = some (81, .iload 4, 0, 0) := rfl
theorem te_103_83 : (pT M_103).find? (fun e => e.1 == 83) = some (83, .iconst 1, 0, 0) := rfl
theorem te_103_84 : (pT M_103).find? (fun e => e.1 == 84) = some (84, .iload 6, 0, 0) := rfl
theorem te_103_86 : (pT M_103).find? (fun e => e.1 == 86) = some (86, .ishl, 0, 0) := rfl
theorem te_103_87 : (pT M_103).find? (fun e => e.1 == 87) = some (87, .iand, 0, 0) := rfl
theorem te_103_88 : (pT M_103).find? (fun e => e.1 == 88) = some (88, .ifCond .eq 65, 0, 0) := rfl
theorem te_103_91 : (pT M_103).find? (fun e => e.1 == 91) = some (91, .iload_n 3, 0, 0) := rfl
theorem te_103_92 : (pT M_103).find? (fun e => e.1 == 92) = some (92, .ifCond .ne 18, 0, 0) := rfl
theorem te_103_95 : (pT M_103).find? (fun e => e.1 == 95) = some (95, .iload 6, 0, 0) := rfl
theorem te_103_97 : (pT M_103).find? (fun e => e.1 == 97) = some (97, .aload_n 0, 0, 0) := rfl
theorem te_103_98 : (pT M_103).find? (fun e => e.1 == 98) = some (98, .getfield 15, 6, 6) := rfl
theorem te_103_101 : (pT M_103).find? (fun e => e.1 == 101) = some (101, .iload_n 2, 0, 0) := rfl
theorem te_103_102 : (pT M_103).find? (fun e => e.1 == 102) = some (102, .iaload, 0, 0) := rfl
theorem te_103_103 : (pT M_103).find? (fun e => e.1 == 103) = some (103, .if_icmp .ne 7, 0, 0) := rfl
theorem te_103_106 : (pT M_103).find? (fun e => e.1 == 106) = some (106, .iconst 1, 0, 0) := rfl
theorem te_103_107 : (pT M_103).find? (fun e => e.1 == 107) = some (107, .goto 4, 0, 0) := rfl
theorem te_103_110 : (pT M_103).find? (fun e => e.1 == 110) = some (110, .iconst 0, 0, 0) := rfl
theorem te_103_111 : (pT M_103).find? (fun e => e.1 == 111) = some (111, .istore 7, 0, 0) := rfl
theorem te_103_113 : (pT M_103).find? (fun e => e.1 == 113) = some (113, .aload_n 0, 0, 0) := rfl
theorem te_103_114 : (pT M_103).find? (fun e => e.1 == 114) = some (114, .iload_n 2, 0, 0) := rfl
theorem te_103_115 : (pT M_103).find? (fun e => e.1 == 115) = some (115, .iload 6, 0, 0) := rfl
theorem te_103_117 : (pT M_103).find? (fun e => e.1 == 117) = some (117, .invokevirtual 77, 91, 0) := rfl
theorem te_103_120 : (pT M_103).find? (fun e => e.1 == 120) = some (120, .ifCond .eq 20, 0, 0) := rfl
theorem te_103_123 : (pT M_103).find? (fun e => e.1 == 123) = some (123, .iload 7, 0, 0) := rfl
theorem te_103_125 : (pT M_103).find? (fun e => e.1 == 125) = some (125, .ifCond .ne 11, 0, 0) := rfl
theorem te_103_128 : (pT M_103).find? (fun e => e.1 == 128) = some (128, .aload_n 0, 0, 0) := rfl
theorem te_103_129 : (pT M_103).find? (fun e => e.1 == 129) = some (129, .iconst 0, 0, 0) := rfl
theorem te_103_130 : (pT M_103).find? (fun e => e.1 == 130) = some (130, .invokevirtual 81, 96, 0) := rfl
theorem te_103_133 : (pT M_103).find? (fun e => e.1 == 133) = some (133, .ifCond .eq 7, 0, 0) := rfl
theorem te_103_136 : (pT M_103).find? (fun e => e.1 == 136) = some (136, .iconst 1, 0, 0) := rfl
theorem te_103_137 : (pT M_103).find? (fun e => e.1 == 137) = some (137, .goto 4, 0, 0) := rfl
theorem te_103_140 : (pT M_103).find? (fun e => e.1 == 140) = some (140, .iconst 0, 0, 0) := rfl
theorem te_103_141 : (pT M_103).find? (fun e => e.1 == 141) = some (141, .istore 5, 0, 0) := rfl
theorem te_103_143 : (pT M_103).find? (fun e => e.1 == 143) = some (143, .iload 5, 0, 0) := rfl
theorem te_103_145 : (pT M_103).find? (fun e => e.1 == 145) = some (145, .ifCond .ne 8, 0, 0) := rfl
theorem te_103_148 : (pT M_103).find? (fun e => e.1 == 148) = some (148, .aload_n 0, 0, 0) := rfl
theorem te_103_149 : (pT M_103).find? (fun e => e.1 == 149) = some (149, .iload_n 2, 0, 0) := rfl
theorem te_103_150 : (pT M_103).find? (fun e => e.1 == 150) = some (150, .invokevirtual 85, 102, 0) := rfl
theorem te_103_153 : (pT M_103).find? (fun e => e.1 == 153) = some (153, .iinc 6 1, 0, 0) := rfl
theorem te_103_156 : (pT M_103).find? (fun e => e.1 == 156) = some (156, .goto (-89), 0, 0) := rfl
theorem te_103_159 : (pT M_103).find? (fun e => e.1 == 159) = some (159, .iload 5, 0, 0) := rfl
theorem te_103_161 : (pT M_103).find? (fun e => e.1 == 161) = some (161, .ifCond .ne 5, 0, 0) := rfl
theorem te_103_164 : (pT M_103).find? (fun e => e.1 == 164) = some (164, .iconst 0, 0, 0) := rfl
theorem te_103_165 : (pT M_103).find? (fun e => e.1 == 165) = some (165, .ireturn, 0, 0) := rfl
theorem te_103_166 : (pT M_103).find? (fun e => e.1 == 166) = some (166, .iinc 2 1, 0, 0) := rfl
theorem te_103_169 : (pT M_103).find? (fun e => e.1 == 169) = some (169, .goto (-158), 0, 0) := rfl
theorem te_103_172 : (pT M_103).find? (fun e => e.1 == 172) = some (172, .iconst 1, 0, 0) := rfl
theorem te_103_173 : (pT M_103).find? (fun e => e.1 == 173) = some (173, .ireturn, 0, 0) := rfl
theorem f_103 {S : Nat × (Nat → Int32)} {n : Nat} {mem : MM} {K : Int → MM → Prop} {E : Nat → MM → Prop} {d : Int} (hS : SkO mem d) (H : ∀ r m', r = 0 ∨ r = 1 → FrS mem m' → K r m') : CQI (Ex S (n + 14)) 103 [.inr 21, .inr 20] mem K E := by
  refine CY.of (k := 6) mt_103 rfl rfl (fun hv => ?_)
  have hC := Ex.mono S (n + 13)
  clear hv
  have hs0 := hS.1
  have hs1 := hS.2.1
  show Tx (Ex S (n + 13)) S M_103 (kI K E) 0 0 0 [some (.inr 21), some (.inr 20), none, none, none, none, none, none] [] mem
  have l_11 : ∀ (N : Nat) (x2 : Int) (m_11 : MM), (0 ≤ x2) → ((8 - x2).toNat) < N → FrS mem m_11 → Tx (Ex S (n + 13)) S M_103 (kI K E) 0 0 11 [some (.inr 21), some (.inr 20), some (.inl x2), none, none, none, none, none] [] m_11 := by
    intro N
    induction N with
    | zero => intros; omega
    | succ N ih_11 =>
      intro x2 m_11 i11_0 hN_11 hF_11
      have l_67 : ∀ (N : Nat) (x3 x4 x5 x6 : Int) (m_67 : MM), (0 ≤ x6) → (0 ≤ x2 ∧ x2 < mem 21 0) → (x5 = 0 ∨ x5 = 1) → ((12 - x6).toNat) < N → FrS mem m_67 → Tx (Ex S (n + 13)) S M_103 (kI K E) 0 0 67 [some (.inr 21), some (.inr 20), some (.inl x2), some (.inl x3), some (.inl x4), some (.inl x5), some (.inl x6), none] [] m_67 := by
        intro N
        induction N with
        | zero => intros; omega
        | succ N ih_67 =>
          intro x3 x4 x5 x6 m_67 i67_0 i67_1 i67_2 hN_67 hF_67
          refine Tx.iload hC te_103_67 rfl ?_
          refine Tx.aload_n hC te_103_69 rfl ?_
          refine Tx.getI hC te_103_70 rfl rfl rfl (fun v1 v1e v1i => ?_)
          unfold InI at v1i
          rw [FrS.at hF_67 21 _ (by unfold pSk; omega)] at v1e
          refine Tx.icmp hC (t := 159) te_103_73 (by decide) (fun q2 => ?_) (fun q2 => ?_)
          · replace q2 : v1 ≤ (x6 : Int) := q2
            refine Tx.iload hC te_103_159 rfl ?_
            refine Tx.ifc hC (t := 166) te_103_161 (by decide) (fun q3 => ?_) (fun q3 => ?_)
            · replace q3 : ¬ (x5 : Int) = 0 := q3
              refine Tx.iincW hC te_103_166 rfl rfl (fun z4 z4i z4e => ?_)
              unfold InI at z4i z4e
              first | replace z4e := z4e (by omega) | clear z4e
              refine Tx.goto hC (t := 11) te_103_169 (by decide) ?_
              exact Tx.weak (by repeat' (first | exact trivial | exact rfl | constructor)) (ih_11 z4 m_67 (by omega) (by omega) hF_67)
            · replace q3 : ¬ (¬ (x5 : Int) = 0) := q3
              refine Tx.iconst hC te_103_164 rfl ?_
              exact Tx.bret hC te_103_165 rfl (by omega) (show K 0 m_67 from H _ _ (by omega) hF_67)
          · replace q2 : ¬ (v1 ≤ (x6 : Int)) := q2
            refine Tx.iload hC te_103_76 rfl ?_
            refine Tx.ifc hC (t := 159) te_103_78 (by decide) (fun q5 => ?_) (fun q5 => ?_)
            · replace q5 : ¬ (x5 : Int) = 0 := q5
              refine Tx.iload hC te_103_159 rfl ?_
              refine Tx.ifc hC (t := 166) te_103_161 (by decide) (fun q6 => ?_) (fun q6 => ?_)
              · replace q6 : ¬ (x5 : Int) = 0 := q6
                refine Tx.iincW hC te_103_166 rfl rfl (fun z7 z7i z7e => ?_)
                unfold InI at z7i z7e
                first | replace z7e := z7e (by omega) | clear z7e
                refine Tx.goto hC (t := 11) te_103_169 (by decide) ?_
                exact Tx.weak (by repeat' (first | exact trivial | exact rfl | constructor)) (ih_11 z7 m_67 (by omega) (by omega) hF_67)
              · replace q6 : ¬ (¬ (x5 : Int) = 0) := q6
                refine Tx.iconst hC te_103_164 rfl ?_
                exact Tx.bret hC te_103_165 rfl (by omega) (show K 0 m_67 from H _ _ (by omega) hF_67)
            · replace q5 : ¬ (¬ (x5 : Int) = 0) := q5
              refine Tx.iload hC te_103_81 rfl ?_
              refine Tx.iconst hC te_103_83 rfl ?_
              refine Tx.iload hC te_103_84 rfl ?_
              refine Tx.bits hC (f := (fun (x y : Int32) => x <<< (y &&& 31))) te_103_86 (fun _ _ _ _ => Iff.rfl) (fun b8 b8e b8i => ?_)
              unfold InI at b8i
              refine Tx.bits hC (f := (fun (x y : Int32) => x &&& y)) te_103_87 (fun _ _ _ _ => Iff.rfl) (fun b9 b9e b9i => ?_)
              unfold InI at b9i
              refine Tx.ifc hC (t := 153) te_103_88 (by decide) (fun q10 => ?_) (fun q10 => ?_)
              · replace q10 : (b9 : Int) = 0 := q10
                refine Tx.iincW hC te_103_153 rfl rfl (fun z11 z11i z11e => ?_)
                unfold InI at z11i z11e
                first | replace z11e := z11e (by omega) | clear z11e
                refine Tx.goto hC (t := 67) te_103_156 (by decide) ?_
                exact ih_67 x3 x4 x5 z11 m_67 (by omega) (by omega) (by omega) (by omega) hF_67
              · replace q10 : ¬ ((b9 : Int) = 0) := q10
                refine Tx.iload_n hC te_103_91 rfl ?_
                refine Tx.ifc hC (t := 110) te_103_92 (by decide) (fun q12 => ?_) (fun q12 => ?_)
                · replace q12 : ¬ (x3 : Int) = 0 := q12
                  refine Tx.iconst hC te_103_110 rfl ?_
                  refine Tx.istore hC te_103_111 rfl ?_
                  refine Tx.aload_n hC te_103_113 rfl ?_
                  refine Tx.iload_n hC te_103_114 rfl ?_
                  refine Tx.iload hC te_103_115 rfl ?_
                  refine Tx.virtI hC te_103_117 mt_91 (args := [.inr 21, .inl x2, .inl x6]) (rest := []) (c' := 0) (s' := 0) rfl rfl rfl rfl rfl rfl rfl rfl rfl rfl ?_
                  refine f_91 (FrS.sk hF_67 hS) (by omega) (by omega) (fun r13 m14 r13b hF15 r13i => ?_)
                  have hF15n : FrS mem m14 := FrS.tr hF_67 hF15
                  unfold InI at r13i
                  refine Tx.ifc hC (t := 140) te_103_120 (by decide) (fun q16 => ?_) (fun q16 => ?_)
                  · replace q16 : (r13 : Int) = 0 := q16
                    refine Tx.iconst hC te_103_140 rfl ?_
                    refine Tx.istore hC te_103_141 rfl ?_
                    refine Tx.iload hC te_103_143 rfl ?_
                    refine Tx.ifc hC (t := 153) te_103_145 (by decide) (fun q => absurd q (show ¬ (¬ (0 : Int) = 0) by decide)) (fun q => ?_)
                    refine Tx.aload_n hC te_103_148 rfl ?_
                    refine Tx.iload_n hC te_103_149 rfl ?_
                    refine Tx.virtV hC te_103_150 mt_102 (args := [.inr 21, .inl x2]) (rest := []) (c' := 0) (s' := 0) rfl rfl rfl rfl rfl rfl rfl rfl rfl rfl ?_
                    refine f_102 (FrS.sk hF15n hS) (by omega) (fun m18 hF19 => ?_)
                    have hF19n : FrS mem m18 := FrS.tr hF15n hF19
                    refine Tx.iincW hC te_103_153 rfl rfl (fun z20 z20i z20e => ?_)
                    unfold InI at z20i z20e
                    first | replace z20e := z20e (by omega) | clear z20e
                    refine Tx.goto hC (t := 67) te_103_156 (by decide) ?_
                    exact Tx.weak (by repeat' (first | exact trivial | exact rfl | constructor)) (ih_67 x3 x4 0 z20 m18 (by omega) (by omega) (by omega) (by omega) hF19n)
                  · replace q16 : ¬ ((r13 : Int) = 0) := q16
                    refine Tx.iload hC te_103_123 rfl ?_
                    refine Tx.ifc hC (t := 136) te_103_125 (by decide) (fun q => absurd q (show ¬ (¬ (0 : Int) = 0) by decide)) (fun q => ?_)
                    refine Tx.aload_n hC te_103_128 rfl ?_
                    refine Tx.iconst hC te_103_129 rfl ?_
                    refine Tx.virtI hC te_103_130 mt_96 (args := [.inr 21, .inl 0]) (rest := []) (c' := 0) (s' := 0) rfl rfl rfl rfl rfl rfl rfl rfl rfl rfl ?_
                    refine f_96z (FrS.sk hF15n hS) (fun r21 m22 r21b hF23 r21i => ?_)
                    have hF23n : FrS mem m22 := FrS.tr hF15n hF23
                    unfold InI at r21i
                    refine Tx.ifc hC (t := 140) te_103_133 (by decide) (fun q24 => ?_) (fun q24 => ?_)
                    · replace q24 : (r21 : Int) = 0 := q24
                      refine Tx.iconst hC te_103_140 rfl ?_
                      refine Tx.istore hC te_103_141 rfl ?_
                      refine Tx.iload hC te_103_143 rfl ?_
                      refine Tx.ifc hC (t := 153) te_103_145 (by decide) (fun q => absurd q (show ¬ (¬ (0 : Int) = 0) by decide)) (fun q => ?_)
                      refine Tx.aload_n hC te_103_148 rfl ?_
                      refine Tx.iload_n hC te_103_149 rfl ?_
                      refine Tx.virtV hC te_103_150 mt_102 (args := [.inr 21, .inl x2]) (rest := []) (c' := 0) (s' := 0) rfl rfl rfl rfl rfl rfl rfl rfl rfl rfl ?_
                      refine f_102 (FrS.sk hF23n hS) (by omega) (fun m26 hF27 => ?_)
                      have hF27n : FrS mem m26 := FrS.tr hF23n hF27
                      refine Tx.iincW hC te_103_153 rfl rfl (fun z28 z28i z28e => ?_)
                      unfold InI at z28i z28e
                      first | replace z28e := z28e (by omega) | clear z28e
                      refine Tx.goto hC (t := 67) te_103_156 (by decide) ?_
                      exact Tx.weak (by repeat' (first | exact trivial | exact rfl | constructor)) (ih_67 x3 x4 0 z28 m26 (by omega) (by omega) (by omega) (by omega) hF27n)
                    · replace q24 : ¬ ((r21 : Int) = 0) := q24
                      refine Tx.iconst hC te_103_136 rfl ?_
                      refine Tx.goto hC (t := 141) te_103_137 (by decide) ?_
                      refine Tx.istore hC te_103_141 rfl ?_
                      refine Tx.iload hC te_103_143 rfl ?_
                      refine Tx.ifc hC (t := 153) te_103_145 (by decide) (fun q => ?_) (fun q => absurd (show ¬ (1 : Int) = 0 by decide) q)
                      refine Tx.iincW hC te_103_153 rfl rfl (fun z29 z29i z29e => ?_)
                      unfold InI at z29i z29e
                      first | replace z29e := z29e (by omega) | clear z29e
                      refine Tx.goto hC (t := 67) te_103_156 (by decide) ?_
                      exact Tx.weak (by repeat' (first | exact trivial | exact rfl | constructor)) (ih_67 x3 x4 1 z29 m22 (by omega) (by omega) (by omega) (by omega) hF23n)
                · replace q12 : ¬ (¬ (x3 : Int) = 0) := q12
                  refine Tx.iload hC te_103_95 rfl ?_
                  refine Tx.aload_n hC te_103_97 rfl ?_
                  refine Tx.getR hC te_103_98 rfl rfl rfl ?_
                  refine Tx.iload_n hC te_103_101 rfl ?_
                  refine Tx.iald hC te_103_102 rfl (by omega) (fun v30 v30e v30i => ?_)
                  unfold InI at v30i
                  refine Tx.icmp hC (t := 110) te_103_103 (by decide) (fun q31 => ?_) (fun q31 => ?_)
                  · replace q31 : ¬ (x6 : Int) = v30 := q31
                    refine Tx.iconst hC te_103_110 rfl ?_
                    refine Tx.istore hC te_103_111 rfl ?_
                    refine Tx.aload_n hC te_103_113 rfl ?_
                    refine Tx.iload_n hC te_103_114 rfl ?_
                    refine Tx.iload hC te_103_115 rfl ?_
                    refine Tx.virtI hC te_103_117 mt_91 (args := [.inr 21, .inl x2, .inl x6]) (rest := []) (c' := 0) (s' := 0) rfl rfl rfl rfl rfl rfl rfl rfl rfl rfl ?_
                    refine f_91 (FrS.sk hF_67 hS) (by omega) (by omega) (fun r32 m33 r32b hF34 r32i => ?_)
                    have hF34n : FrS mem m33 := FrS.tr hF_67 hF34
                    unfold InI at r32i
                    refine Tx.ifc hC (t := 140) te_103_120 (by decide) (fun q35 => ?_) (fun q35 => ?_)
                    · replace q35 : (r32 : Int) = 0 := q35
                      refine Tx.iconst hC te_103_140 rfl ?_
                      refine Tx.istore hC te_103_141 rfl ?_
                      refine Tx.iload hC te_103_143 rfl ?_
                      refine Tx.ifc hC (t := 153) te_103_145 (by decide) (fun q => absurd q (show ¬ (¬ (0 : Int) = 0) by decide)) (fun q => ?_)
                      refine Tx.aload_n hC te_103_148 rfl ?_
                      refine Tx.iload_n hC te_103_149 rfl ?_
                      refine Tx.virtV hC te_103_150 mt_102 (args := [.inr 21, .inl x2]) (rest := []) (c' := 0) (s' := 0) rfl rfl rfl rfl rfl rfl rfl rfl rfl rfl ?_
                      refine f_102 (FrS.sk hF34n hS) (by omega) (fun m37 hF38 => ?_)
                      have hF38n : FrS mem m37 := FrS.tr hF34n hF38
                      refine Tx.iincW hC te_103_153 rfl rfl (fun z39 z39i z39e => ?_)
                      unfold InI at z39i z39e
                      first | replace z39e := z39e (by omega) | clear z39e
                      refine Tx.goto hC (t := 67) te_103_156 (by decide) ?_
                      exact Tx.weak (by repeat' (first | exact trivial | exact rfl | constructor)) (ih_67 x3 x4 0 z39 m37 (by omega) (by omega) (by omega) (by omega) hF38n)
                    · replace q35 : ¬ ((r32 : Int) = 0) := q35
                      refine Tx.iload hC te_103_123 rfl ?_
                      refine Tx.ifc hC (t := 136) te_103_125 (by decide) (fun q => absurd q (show ¬ (¬ (0 : Int) = 0) by decide)) (fun q => ?_)
                      refine Tx.aload_n hC te_103_128 rfl ?_
                      refine Tx.iconst hC te_103_129 rfl ?_
                      refine Tx.virtI hC te_103_130 mt_96 (args := [.inr 21, .inl 0]) (rest := []) (c' := 0) (s' := 0) rfl rfl rfl rfl rfl rfl rfl rfl rfl rfl ?_
                      refine f_96z (FrS.sk hF34n hS) (fun r40 m41 r40b hF42 r40i => ?_)
                      have hF42n : FrS mem m41 := FrS.tr hF34n hF42
                      unfold InI at r40i
                      refine Tx.ifc hC (t := 140) te_103_133 (by decide) (fun q43 => ?_) (fun q43 => ?_)
                      · replace q43 : (r40 : Int) = 0 := q43
                        refine Tx.iconst hC te_103_140 rfl ?_
                        refine Tx.istore hC te_103_141 rfl ?_
                        refine Tx.iload hC te_103_143 rfl ?_
                        refine Tx.ifc hC (t := 153) te_103_145 (by decide) (fun q => absurd q (show ¬ (¬ (0 : Int) = 0) by decide)) (fun q => ?_)
                        refine Tx.aload_n hC te_103_148 rfl ?_
                        refine Tx.iload_n hC te_103_149 rfl ?_
                        refine Tx.virtV hC te_103_150 mt_102 (args := [.inr 21, .inl x2]) (rest := []) (c' := 0) (s' := 0) rfl rfl rfl rfl rfl rfl rfl rfl rfl rfl ?_
                        refine f_102 (FrS.sk hF42n hS) (by omega) (fun m45 hF46 => ?_)
                        have hF46n : FrS mem m45 := FrS.tr hF42n hF46
                        refine Tx.iincW hC te_103_153 rfl rfl (fun z47 z47i z47e => ?_)
                        unfold InI at z47i z47e
                        first | replace z47e := z47e (by omega) | clear z47e
                        refine Tx.goto hC (t := 67) te_103_156 (by decide) ?_
                        exact Tx.weak (by repeat' (first | exact trivial | exact rfl | constructor)) (ih_67 x3 x4 0 z47 m45 (by omega) (by omega) (by omega) (by omega) hF46n)
                      · replace q43 : ¬ ((r40 : Int) = 0) := q43
                        refine Tx.iconst hC te_103_136 rfl ?_
                        refine Tx.goto hC (t := 141) te_103_137 (by decide) ?_
                        refine Tx.istore hC te_103_141 rfl ?_
                        refine Tx.iload hC te_103_143 rfl ?_
                        refine Tx.ifc hC (t := 153) te_103_145 (by decide) (fun q => ?_) (fun q => absurd (show ¬ (1 : Int) = 0 by decide) q)
                        refine Tx.iincW hC te_103_153 rfl rfl (fun z48 z48i z48e => ?_)
                        unfold InI at z48i z48e
                        first | replace z48e := z48e (by omega) | clear z48e
                        refine Tx.goto hC (t := 67) te_103_156 (by decide) ?_
                        exact Tx.weak (by repeat' (first | exact trivial | exact rfl | constructor)) (ih_67 x3 x4 1 z48 m41 (by omega) (by omega) (by omega) (by omega) hF42n)
                  · replace q31 : ¬ (¬ (x6 : Int) = v30) := q31
                    refine Tx.iconst hC te_103_106 rfl ?_
                    refine Tx.goto hC (t := 111) te_103_107 (by decide) ?_
                    refine Tx.istore hC te_103_111 rfl ?_
                    refine Tx.aload_n hC te_103_113 rfl ?_
                    refine Tx.iload_n hC te_103_114 rfl ?_
                    refine Tx.iload hC te_103_115 rfl ?_
                    refine Tx.virtI hC te_103_117 mt_91 (args := [.inr 21, .inl x2, .inl x6]) (rest := []) (c' := 0) (s' := 0) rfl rfl rfl rfl rfl rfl rfl rfl rfl rfl ?_
                    refine f_91 (FrS.sk hF_67 hS) (by omega) (by omega) (fun r49 m50 r49b hF51 r49i => ?_)
                    have hF51n : FrS mem m50 := FrS.tr hF_67 hF51
                    unfold InI at r49i
                    refine Tx.ifc hC (t := 140) te_103_120 (by decide) (fun q52 => ?_) (fun q52 => ?_)
                    · replace q52 : (r49 : Int) = 0 := q52
                      refine Tx.iconst hC te_103_140 rfl ?_
                      refine Tx.istore hC te_103_141 rfl ?_
                      refine Tx.iload hC te_103_143 rfl ?_
                      refine Tx.ifc hC (t := 153) te_103_145 (by decide) (fun q => absurd q (show ¬ (¬ (0 : Int) = 0) by decide)) (fun q => ?_)
                      refine Tx.aload_n hC te_103_148 rfl ?_
                      refine Tx.iload_n hC te_103_149 rfl ?_
                      refine Tx.virtV hC te_103_150 mt_102 (args := [.inr 21, .inl x2]) (rest := []) (c' := 0) (s' := 0) rfl rfl rfl rfl rfl rfl rfl rfl rfl rfl ?_
                      refine f_102 (FrS.sk hF51n hS) (by omega) (fun m54 hF55 => ?_)
                      have hF55n : FrS mem m54 := FrS.tr hF51n hF55
                      refine Tx.iincW hC te_103_153 rfl rfl (fun z56 z56i z56e => ?_)
                      unfold InI at z56i z56e
                      first | replace z56e := z56e (by omega) | clear z56e
                      refine Tx.goto hC (t := 67) te_103_156 (by decide) ?_
                      exact Tx.weak (by repeat' (first | exact trivial | exact rfl | constructor)) (ih_67 x3 x4 0 z56 m54 (by omega) (by omega) (by omega) (by omega) hF55n)
                    · replace q52 : ¬ ((r49 : Int) = 0) := q52
                      refine Tx.iload hC te_103_123 rfl ?_
                      refine Tx.ifc hC (t := 136) te_103_125 (by decide) (fun q => ?_) (fun q => absurd (show ¬ (1 : Int) = 0 by decide) q)
                      refine Tx.iconst hC te_103_136 rfl ?_
                      refine Tx.goto hC (t := 141) te_103_137 (by decide) ?_
                      refine Tx.istore hC te_103_141 rfl ?_
                      refine Tx.iload hC te_103_143 rfl ?_
                      refine Tx.ifc hC (t := 153) te_103_145 (by decide) (fun q => ?_) (fun q => absurd (show ¬ (1 : Int) = 0 by decide) q)
                      refine Tx.iincW hC te_103_153 rfl rfl (fun z57 z57i z57e => ?_)
                      unfold InI at z57i z57e
                      first | replace z57e := z57e (by omega) | clear z57e
                      refine Tx.goto hC (t := 67) te_103_156 (by decide) ?_
                      exact Tx.weak (by repeat' (first | exact trivial | exact rfl | constructor)) (ih_67 x3 x4 1 z57 m50 (by omega) (by omega) (by omega) (by omega) hF51n)
      refine Tx.iload_n hC te_103_11 rfl ?_
      refine Tx.aload_n hC te_103_12 rfl ?_
      refine Tx.getI hC te_103_13 rfl rfl rfl (fun v58 v58e v58i => ?_)
      unfold InI at v58i
      rw [FrS.at hF_11 21 _ (by unfold pSk; omega)] at v58e
      refine Tx.icmp hC (t := 172) te_103_16 (by decide) (fun q59 => ?_) (fun q59 => ?_)
      · replace q59 : v58 ≤ (x2 : Int) := q59
        refine Tx.iconst hC te_103_172 rfl ?_
        exact Tx.bret hC te_103_173 rfl (by omega) (show K 1 m_11 from H _ _ (by omega) hF_11)
      · replace q59 : ¬ (v58 ≤ (x2 : Int)) := q59
        refine Tx.aload_n hC te_103_19 rfl ?_
        refine Tx.aload_n hC te_103_20 rfl ?_
        refine Tx.iload_n hC te_103_21 rfl ?_
        refine Tx.virtI hC te_103_22 mt_105 (args := [.inr 21, .inl x2]) (rest := [.inr 21]) (c' := 0) (s' := 0) rfl rfl rfl rfl rfl rfl rfl rfl rfl rfl ?_
        refine f_105 (FrS.sk hF_11 hS) (fun r60 r60i => ?_)
        unfold InI at r60i
        refine Tx.putI hC te_103_25 rfl rfl rfl rfl ?_
        have hF64 : FrS mem (upm m_11 21 3 r60) := FrS.up hF_11 (by unfold pSk; omega) (by omega)
        generalize upm m_11 21 3 r60 = m63 at hF64 ⊢
        refine Tx.aload_n hC te_103_28 rfl ?_
        refine Tx.getI hC te_103_29 rfl rfl rfl (fun v65 v65e v65i => ?_)
        unfold InI at v65i
        refine Tx.aload_n hC te_103_32 rfl ?_
        refine Tx.getI hC te_103_33 rfl rfl rfl (fun v66 v66e v66i => ?_)
        unfold InI at v66i
        refine Tx.bits hC (f := (fun (x y : Int32) => x &&& y)) te_103_36 (fun _ _ _ _ => Iff.rfl) (fun b67 b67e b67i => ?_)
        unfold InI at b67i
        refine Tx.ifc hC (t := 44) te_103_37 (by decide) (fun q68 => ?_) (fun q68 => ?_)
        · replace q68 : ¬ (b67 : Int) = 0 := q68
          refine Tx.iconst hC te_103_44 rfl ?_
          refine Tx.istore_n hC te_103_45 rfl ?_
          refine Tx.iload_n hC te_103_46 rfl ?_
          refine Tx.ifc hC (t := 54) te_103_47 (by decide) (fun q => ?_) (fun q => absurd (show (0 : Int) = 0 by decide) q)
          refine Tx.aload_n hC te_103_54 rfl ?_
          refine Tx.iload_n hC te_103_55 rfl ?_
          refine Tx.virtI hC te_103_56 mt_97 (args := [.inr 21, .inl x2]) (rest := []) (c' := 0) (s' := 0) rfl rfl rfl rfl rfl rfl rfl rfl rfl rfl ?_
          have r69z := FrS.at hF64 21 0 (by unfold pSk; omega)
          refine f_97 (FrS.sk hF64 hS) (by omega) (fun r69 r69i => ?_)
          unfold InI at r69i
          refine Tx.istore hC te_103_59 rfl ?_
          refine Tx.iconst hC te_103_61 rfl ?_
          refine Tx.istore hC te_103_62 rfl ?_
          refine Tx.iconst hC te_103_64 rfl ?_
          refine Tx.istore hC te_103_65 rfl ?_
          exact l_67 _ 0 r69 0 0 m63 (by omega) (by omega) (by omega) (Nat.lt_succ_self _) hF64
        · replace q68 : ¬ (¬ (b67 : Int) = 0) := q68
          refine Tx.iconst hC te_103_40 rfl ?_
          refine Tx.goto hC (t := 45) te_103_41 (by decide) ?_
          refine Tx.istore_n hC te_103_45 rfl ?_
          refine Tx.iload_n hC te_103_46 rfl ?_
          refine Tx.ifc hC (t := 54) te_103_47 (by decide) (fun q => absurd q (show ¬ ((1 : Int) = 0) by decide)) (fun q => ?_)
          refine Tx.iconst hC te_103_50 rfl ?_
          refine Tx.goto hC (t := 59) te_103_51 (by decide) ?_
          refine Tx.istore hC te_103_59 rfl ?_
          refine Tx.iconst hC te_103_61 rfl ?_
          refine Tx.istore hC te_103_62 rfl ?_
          refine Tx.iconst hC te_103_64 rfl ?_
          refine Tx.istore hC te_103_65 rfl ?_
          exact l_67 _ 1 1 0 0 m63 (by omega) (by omega) (by omega) (Nat.lt_succ_self _) hF64
  refine Tx.aload_n hC te_103_0 rfl ?_
  refine Tx.aload_n hC te_103_1 rfl ?_
  refine Tx.virtV hC te_103_2 mt_104 (args := [.inr 21, .inr 20]) (rest := []) (c' := 0) (s' := 0) rfl rfl rfl rfl rfl rfl rfl rfl rfl rfl ?_
  refine f_104 (FrS.sk FrS.rf hS) (fun m73 hF74 => ?_)
  have hF74n : FrS mem m73 := FrS.tr FrS.rf hF74
  refine Tx.aload_n hC te_103_5 rfl ?_
  refine Tx.virtV hC te_103_6 mt_89 (args := [.inr 21]) (rest := []) (c' := 0) (s' := 0) rfl rfl rfl rfl rfl rfl rfl rfl rfl rfl ?_
  refine f_89 (FrS.sk hF74n hS) (fun m76 hF77 => ?_)
  have hF77n : FrS mem m76 := FrS.tr hF74n hF77
  refine Tx.iconst hC te_103_9 rfl ?_
  refine Tx.istore_n hC te_103_10 rfl ?_
  exact l_11 _ 0 m76 (by omega) (Nat.lt_succ_self _) hF77n
theorem f_88 {S : Nat × (Nat → Int32)} {n : Nat} {mem : MM} {K : Int → MM → Prop} {E : Nat → MM → Prop} {o b : Int} (ho : 0 ≤ o ∧ o < 8) (hd : 1 ≤ mem 21 1 ∧ mem 21 1 ≤ 12) (hu : 0 ≤ mem 24 o.toNat ∧ mem 24 o.toNat ≤ 2) (hc : 1 ≤ mem 25 (mem 24 (Int.toNat o)).toNat ∧ mem 25 (mem 24 (Int.toNat o)).toNat ≤ 3) (H1 : ∀ m', Frm (pBz o) mem m' → (∀ k, k < 4 → 0 ≤ m' 27 (4 * o.toNat + k) ∧ m' 27 (4 * o.toNat + k) ≤ mem 25 (mem 24 (Int.toNat o)).toNat) → K 1 m') (H0 : ∀ m', Frm (pBz o) mem m' → K 0 m') : CQI (Ex S (n + 1)) 88 [.inr 21, .inl o, .inl b] mem K E := by
  refine CY.of (k := 2) mt_88 rfl rfl (fun hv => ?_)
  have hC := Ex.mono S n
  have ii_o : InI o := hv (.inl o) (by simp)
  unfold InI at ii_o
  have ii_b : InI b := hv (.inl b) (by simp)
  unfold InI at ii_b
  clear hv
  show Tx (Ex S n) S M_88 (kI K E) 0 0 0 [some (.inr 21), some (.inl o), some (.inl b), none, none] [] mem
  have l_26 : ∀ (N : Nat) (x3 : Int) (m_26 : MM), (0 ≤ x3 ∧ x3 ≤ 4) → (∀ k : Nat, k < 4 → 0 ≤ m_26 27 (4 * o.toNat + k) ∧ m_26 27 (4 * o.toNat + k) ≤ mem 25 (mem 24 (Int.toNat o)).toNat) → ((4 - x3).toNat) < N → Frm (pBz o) mem m_26 → Tx (Ex S n) S M_88 (kI K E) 0 0 26 [some (.inr 21), some (.inl o), some (.inl b), some (.inl x3), none] [] m_26 := by
    intro N
    induction N with
    | zero => intros; omega
    | succ N ih_26 =>
      intro x3 m_26 i26_0 i26_1 hN_26 hF_26
      refine Tx.iload_n hC te_88_26 rfl ?_
      refine Tx.iconst hC te_88_27 rfl ?_
      refine Tx.icmp hC (t := 91) te_88_28 (by decide) (fun q1 => ?_) (fun q1 => ?_)
      · replace q1 : 4 ≤ (x3 : Int) := q1
        refine Tx.iconst hC te_88_91 rfl ?_
        exact Tx.bret hC te_88_92 rfl (by omega) (show K 1 m_26 from H1 _ hF_26 i26_1)
      · replace q1 : ¬ (4 ≤ (x3 : Int)) := q1
        refine Tx.iload_n hC te_88_31 rfl ?_
        refine Tx.iconst hC te_88_32 rfl ?_
        refine Tx.iload_n hC te_88_33 rfl ?_
        refine Tx.bits hC (f := (fun (x y : Int32) => x <<< (y &&& 31))) te_88_34 (fun _ _ _ _ => Iff.rfl) (fun b2 b2e b2i => ?_)
        unfold InI at b2i
        refine Tx.bits hC (f := (fun (x y : Int32) => x &&& y)) te_88_35 (fun _ _ _ _ => Iff.rfl) (fun b3 b3e b3i => ?_)
        unfold InI at b3i
        refine Tx.ifc hC (t := 85) te_88_36 (by decide) (fun q4 => ?_) (fun q4 => ?_)
        · replace q4 : (b3 : Int) = 0 := q4
          refine Tx.iincW hC te_88_85 rfl rfl (fun z5 z5i z5e => ?_)
          unfold InI at z5i z5e
          first | replace z5e := z5e (by omega) | clear z5e
          refine Tx.goto hC (t := 26) te_88_88 (by decide) ?_
          exact ih_26 z5 m_26 (by omega) (by intro k hk; first | (have := i2_1 k (by omega); omega) | exact i26_1 k hk | exact upm_rg (fun _ => by omega) (fun _ => i26_1 k hk)) (by omega) hF_26
        · replace q4 : ¬ ((b3 : Int) = 0) := q4
          refine Tx.iload_n hC te_88_39 rfl ?_
          refine Tx.iconst hC te_88_40 rfl ?_
          refine Tx.imulW hC te_88_41 (fun z6 z6i z6e => ?_)
          unfold InI at z6i z6e
          first | replace z6e := z6e (by omega) | clear z6e
          refine Tx.iload_n hC te_88_42 rfl ?_
          refine Tx.aload_n hC te_88_43 rfl ?_
          refine Tx.getI hC te_88_44 rfl rfl rfl (fun v7 v7e v7i => ?_)
          unfold InI at v7i
          rw [hF_26 21 _ (by unfold pBz; omega)] at v7e
          refine Tx.iremW hC te_88_47 (by omega) (fun z8 z8i z8e z8f => ?_)
          unfold InI at z8i
          refine Tx.iaddW hC te_88_48 (fun z9 z9i z9e => ?_)
          unfold InI at z9i z9e
          first | replace z9e := z9e (by omega) | clear z9e
          refine Tx.istore hC te_88_49 rfl ?_
          refine Tx.aload_n hC te_88_51 rfl ?_
          refine Tx.getR hC te_88_52 rfl rfl rfl ?_
          refine Tx.iload hC te_88_55 rfl ?_
          refine Tx.dup2 hC te_88_57 ?_
          refine Tx.iald hC te_88_58 rfl (by omega) (fun v10 v10e v10i => ?_)
          unfold InI at v10i
          have f11 := i26_1 ((Int.toNat z9) - 4 * Int.toNat o) (by omega)
          rw [show 4 * Int.toNat o + ((Int.toNat z9) - 4 * Int.toNat o) = (Int.toNat z9) by omega] at f11
          refine Tx.iconst hC te_88_59 rfl ?_
          refine Tx.iaddW hC te_88_60 (fun z12 z12i z12e => ?_)
          unfold InI at z12i z12e
          first | replace z12e := z12e (by omega) | clear z12e
          refine Tx.iast hC te_88_61 rfl (by omega) ?_
          have hF14 : Frm (pBz o) mem (upm m_26 27 (Int.toNat z9) z12) := Frm.up hF_26 (by unfold pBz; omega)
          refine Tx.aload_n hC te_88_62 rfl ?_
          refine Tx.getR hC te_88_63 rfl rfl rfl ?_
          refine Tx.iload hC te_88_66 rfl ?_
          refine Tx.iald hC te_88_68 rfl (by omega) (fun v15 v15e v15i => ?_)
          unfold InI at v15i
          have f16 := i26_1 ((Int.toNat z9) - 4 * Int.toNat o) (by omega)
          rw [show 4 * Int.toNat o + ((Int.toNat z9) - 4 * Int.toNat o) = (Int.toNat z9) by omega] at f16
          rw [upm_eq] at v15e
          refine Tx.aload_n hC te_88_69 rfl ?_
          refine Tx.getR hC te_88_70 rfl rfl rfl ?_
          refine Tx.aload_n hC te_88_73 rfl ?_
          refine Tx.getR hC te_88_74 rfl rfl rfl ?_
          refine Tx.iload_n hC te_88_77 rfl ?_
          refine Tx.iald hC te_88_78 rfl (by omega) (fun v17 v17e v17i => ?_)
          unfold InI at v17i
          rw [hF14 24 _ (by unfold pBz; omega)] at v17e
          have cu : mem 25 (Int.toNat v17) = mem 25 (mem 24 (Int.toNat o)).toNat := by rw [v17e]
          refine Tx.iald hC te_88_79 rfl (by omega) (fun v18 v18e v18i => ?_)
          unfold InI at v18i
          rw [hF14 25 _ (by unfold pBz; omega)] at v18e
          refine Tx.icmp hC (t := 85) te_88_80 (by decide) (fun q19 => ?_) (fun q19 => ?_)
          · replace q19 : (v15 : Int) ≤ v18 := q19
            refine Tx.iincW hC te_88_85 rfl rfl (fun z20 z20i z20e => ?_)
            unfold InI at z20i z20e
            first | replace z20e := z20e (by omega) | clear z20e
            refine Tx.goto hC (t := 26) te_88_88 (by decide) ?_
            exact Tx.weak (by repeat' (first | exact trivial | exact rfl | constructor)) (ih_26 z20 (upm m_26 27 (Int.toNat z9) z12) (by omega) (by intro k hk; first | (have := i2_1 k (by omega); omega) | exact i26_1 k hk | exact upm_rg (fun _ => by omega) (fun _ => i26_1 k hk)) (by omega) hF14)
          · replace q19 : ¬ ((v15 : Int) ≤ v18) := q19
            refine Tx.iconst hC te_88_83 rfl ?_
            exact Tx.bret hC te_88_84 rfl (by omega) (show K 0 (upm m_26 27 (Int.toNat z9) z12) from H0 _ hF14)
  have l_2 : ∀ (N : Nat) (x3 : Int) (m_2 : MM), (0 ≤ x3 ∧ x3 ≤ 4) → (∀ k : Nat, (k : Int) < x3 → m_2 27 (4 * o.toNat + k) = 0) → ((4 - x3).toNat) < N → Frm (pBz o) mem m_2 → Tx (Ex S n) S M_88 (kI K E) 0 0 2 [some (.inr 21), some (.inl o), some (.inl b), some (.inl x3), none] [] m_2 := by
    intro N
    induction N with
    | zero => intros; omega
    | succ N ih_2 =>
      intro x3 m_2 i2_0 i2_1 hN_2 hF_2
      refine Tx.iload_n hC te_88_2 rfl ?_
      refine Tx.iconst hC te_88_3 rfl ?_
      refine Tx.icmp hC (t := 24) te_88_4 (by decide) (fun q21 => ?_) (fun q21 => ?_)
      · replace q21 : 4 ≤ (x3 : Int) := q21
        refine Tx.iconst hC te_88_24 rfl ?_
        refine Tx.istore_n hC te_88_25 rfl ?_
        exact l_26 _ 0 m_2 (by omega) (by intro k hk; first | (have := i2_1 k (by omega); omega) | exact i26_1 k hk | exact upm_rg (fun _ => by omega) (fun _ => i26_1 k hk)) (Nat.lt_succ_self _) hF_2
      · replace q21 : ¬ (4 ≤ (x3 : Int)) := q21
        refine Tx.aload_n hC te_88_7 rfl ?_
        refine Tx.getR hC te_88_8 rfl rfl rfl ?_
        refine Tx.iload_n hC te_88_11 rfl ?_
        refine Tx.iconst hC te_88_12 rfl ?_
        refine Tx.imulW hC te_88_13 (fun z22 z22i z22e => ?_)
        unfold InI at z22i z22e
        first | replace z22e := z22e (by omega) | clear z22e
        refine Tx.iload_n hC te_88_14 rfl ?_
        refine Tx.iaddW hC te_88_15 (fun z23 z23i z23e => ?_)
        unfold InI at z23i z23e
        first | replace z23e := z23e (by omega) | clear z23e
        refine Tx.iconst hC te_88_16 rfl ?_
        refine Tx.iast hC te_88_17 rfl (by omega) ?_
        have hF25 : Frm (pBz o) mem (upm m_2 27 (Int.toNat z23) 0) := Frm.up hF_2 (by unfold pBz; omega)
        refine Tx.iincW hC te_88_18 rfl rfl (fun z26 z26i z26e => ?_)
        unfold InI at z26i z26e
        first | replace z26e := z26e (by omega) | clear z26e
        refine Tx.goto hC (t := 2) te_88_21 (by decide) ?_
        exact ih_2 z26 (upm m_2 27 (Int.toNat z23) 0) (by omega) (by intro k hk; first | (exfalso; omega) | (have : 0 ≤ (upm m_2 27 (Int.toNat z23) 0) 27 (4 * o.toNat + k) ∧ (upm m_2 27 (Int.toNat z23) 0) 27 (4 * o.toNat + k) ≤ 0 := upm_rg (fun _ => by omega) (fun q => by have := i2_1 k (by omega); omega); omega)) (by omega) hF25
  refine Tx.iconst hC te_88_0 rfl ?_
  refine Tx.istore_n hC te_88_1 rfl ?_
  exact l_2 _ 0 mem (by omega) (by intro k hk; first | (exfalso; omega) | (have : 0 ≤ mem 27 (4 * o.toNat + k) ∧ mem 27 (4 * o.toNat + k) ≤ 0 := upm_rg (fun _ => by omega) (fun q => by have := i2_1 k (by omega); omega); omega)) (Nat.lt_succ_self _) Frm.rf
theorem f_87 {S : Nat × (Nat → Int32)} {n : Nat} {mem : MM} {K : Int → MM → Prop} {E : Nat → MM → Prop} {d : Int} (hB : BodyOK mem) (hd : 1 ≤ d ∧ d ≤ 12) (hU : ∀ o, o < 8 → 0 ≤ mem 24 o ∧ mem 24 o ≤ 2) (H : ∀ r m', r = 0 ∨ r = 1 → Frm pK7 mem m' → (∀ o, o < 8 → 0 ≤ m' 24 o ∧ m' 24 o ≤ 2) → (r = 1 → SkO m' d) → K r m') : CQI (Ex S (n + 3)) 87 [.inr 21, .inr 1, .inl d] mem K E := by
  refine CY.of (k := 1) mt_87 rfl rfl (fun hv => ?_)
  have hC := Ex.mono S (n + 2)
  have ii_d : InI d := hv (.inl d) (by simp)
  unfold InI at ii_d
  clear hv
  have h8 := hB.1
  show Tx (Ex S (n + 2)) S M_87 (kI K E) 0 0 0 [some (.inr 21), some (.inr 1), some (.inl d), none] [] mem
  have l_124 : ∀ (N : Nat) (x3 : Int) (m_124 : MM), (0 ≤ x3) → (TkI mem m_124 d 3 x3) → ((8 - x3).toNat) < N → Frm pK7 mem m_124 → Tx (Ex S (n + 2)) S M_87 (kI K E) 0 0 124 [some (.inr 21), some (.inr 1), some (.inl d), some (.inl x3)] [] m_124 := by
    intro N
    induction N with
    | zero => intros; omega
    | succ N ih_124 =>
      intro x3 m_124 i124_0 i124_1 hN_124 hF_124
      refine Tx.iload_n hC te_87_124 rfl ?_
      refine Tx.aload_n hC te_87_125 rfl ?_
      refine Tx.getI hC te_87_126 rfl rfl rfl (fun v1 v1e v1i => ?_)
      unfold InI at v1i
      have f2 := i124_1.1.1
      refine Tx.icmp hC (t := 181) te_87_129 (by decide) (fun q3 => ?_) (fun q3 => ?_)
      · replace q3 : v1 ≤ (x3 : Int) := q3
        refine Tx.iconst hC te_87_181 rfl ?_
        exact Tx.bret hC te_87_182 rfl (by omega) (show K 1 m_124 from H 1 _ (by omega) hF_124 i124_1.2.1 (fun _ => TkI.sko i124_1 (by omega) h8 hd))
      · replace q3 : ¬ (v1 ≤ (x3 : Int)) := q3
        refine Tx.aload_n hC te_87_132 rfl ?_
        refine Tx.getR hC te_87_133 rfl rfl rfl ?_
        refine Tx.iload_n hC te_87_136 rfl ?_
        refine Tx.aload_n hC te_87_137 rfl ?_
        refine Tx.iload_n hC te_87_138 rfl ?_
        refine Tx.virtI hC te_87_139 mt_37 (args := [.inr 1, .inl x3]) (rest := [.inl x3, .inr 24]) (c' := 0) (s' := 0) rfl rfl rfl rfl rfl rfl rfl rfl rfl rfl ?_
        refine CWI.q hC (f_37 (hB.fr (fun A i a b => hF_124 A i (by unfold pK7; omega))) (by omega) (fun r4 r4a r4b r4i => ?_))
        unfold InI at r4i
        refine Tx.iast hC te_87_142 rfl (by omega) ?_
        have hF8 : Frm pK7 mem (upm m_124 24 (Int.toNat x3) r4) := Frm.up hF_124 (by unfold pK7; omega)
        have hT9 : TkI mem (upm m_124 24 (Int.toNat x3) r4) d 3 x3 := TkI.up24 i124_1 (by omega) (by omega)
        generalize upm m_124 24 (Int.toNat x3) r4 = m7 at hF8 hT9 ⊢
        refine Tx.aload_n hC te_87_143 rfl ?_
        refine Tx.getR hC te_87_144 rfl rfl rfl ?_
        refine Tx.aload_n hC te_87_147 rfl ?_
        refine Tx.getR hC te_87_148 rfl rfl rfl ?_
        refine Tx.iload_n hC te_87_151 rfl ?_
        refine Tx.iald hC te_87_152 rfl (by omega) (fun v10 v10e v10i => ?_)
        unfold InI at v10i
        have f11 := hT9.2.1 (Int.toNat x3) (by omega)
        refine Tx.dup2 hC te_87_153 ?_
        refine Tx.iald hC te_87_154 rfl (by omega) (fun v12 v12e v12i => ?_)
        unfold InI at v12i
        refine Tx.iconst hC te_87_155 rfl ?_
        refine Tx.iload_n hC te_87_156 rfl ?_
        refine Tx.bits hC (f := (fun (x y : Int32) => x <<< (y &&& 31))) te_87_157 (fun _ _ _ _ => Iff.rfl) (fun b13 b13e b13i => ?_)
        unfold InI at b13i
        refine Tx.bits hC (f := (fun (x y : Int32) => x ||| y)) te_87_158 (fun _ _ _ _ => Iff.rfl) (fun b14 b14e b14i => ?_)
        unfold InI at b14i
        refine Tx.iast hC te_87_159 rfl (by omega) ?_
        have hF16 : Frm pK7 mem (upm m7 26 (Int.toNat v10) b14) := Frm.up hF8 (by unfold pK7; omega)
        have hT17 : TkI mem (upm m7 26 (Int.toNat v10) b14) d 3 x3 := TkI.up0 hT9 (by omega)
        generalize upm m7 26 (Int.toNat v10) b14 = m15 at hF16 hT17 ⊢
        refine Tx.aload_n hC te_87_160 rfl ?_
        refine Tx.iload_n hC te_87_161 rfl ?_
        refine Tx.aload_n hC te_87_162 rfl ?_
        refine Tx.iload_n hC te_87_163 rfl ?_
        refine Tx.virtI hC te_87_164 mt_38 (args := [.inr 1, .inl x3]) (rest := [.inl x3, .inr 21]) (c' := 0) (s' := 0) rfl rfl rfl rfl rfl rfl rfl rfl rfl rfl ?_
        refine CWI.q hC (f_38 (hB.fr (fun A i a b => hF16 A i (by unfold pK7; omega))) (by omega) (fun r18 r18a r18b r18i => ?_))
        unfold InI at r18i
        refine Tx.virtI hC te_87_167 mt_88 (args := [.inr 21, .inl x3, .inl r18]) (rest := []) (c' := 0) (s' := 0) rfl rfl rfl rfl rfl rfl rfl rfl rfl rfl ?_
        have r21t := hT17.1.2
        have r21u := hT17.2.1 (Int.toNat x3) (by omega)
        have r21c := hT17.2.2.1 (Int.toNat (m15 24 (Int.toNat x3))) (by omega)
        refine f_88 (by omega) (by omega) (by omega) (by omega) (fun m22 hF23 r21s r21i => ?_) (fun m22 hF23 r21i => ?_)
        · skip
          have m22T := TkI.asks hT17 (by omega) hF23 r21s
          have hF23n : Frm pK7 mem m22 := hF16.tr (hF23.mono (fun A i q => by unfold pBz at q; unfold pK7; omega))
          refine Tx.ifc hC (t := 175) te_87_170 (by decide) (fun q => ?_) (fun q => absurd (show ¬ (1 : Int) = 0 by decide) q)
          refine Tx.iincW hC te_87_175 rfl rfl (fun z24 z24i z24e => ?_)
          unfold InI at z24i z24e
          first | replace z24e := z24e (by omega) | clear z24e
          refine Tx.goto hC (t := 124) te_87_178 (by decide) ?_
          exact ih_124 z24 m22 (by omega) (TkI.le m22T (by omega) (by omega)) (by omega) hF23n
        · skip
          have hF23n : Frm pK7 mem m22 := hF16.tr (hF23.mono (fun A i q => by unfold pBz at q; unfold pK7; omega))
          refine Tx.ifc hC (t := 175) te_87_170 (by decide) (fun q => absurd q (show ¬ (¬ (0 : Int) = 0) by decide)) (fun q => ?_)
          refine Tx.iconst hC te_87_173 rfl ?_
          exact Tx.bret hC te_87_174 rfl (by omega) (show K 0 m22 from H 0 _ (by omega) hF23n (fun o ho => by rw [hF23 24 o (by unfold pBz; omega)]; exact hT17.2.1 o ho) (fun q => absurd q (by omega)))
  have l_29 : ∀ (N : Nat) (x3 : Int) (m_29 : MM), (0 ≤ x3 ∧ x3 ≤ 3) → (TkI mem m_29 d x3 0) → ((3 - x3).toNat) < N → Frm pK7 mem m_29 → Tx (Ex S (n + 2)) S M_87 (kI K E) 0 0 29 [some (.inr 21), some (.inr 1), some (.inl d), some (.inl x3)] [] m_29 := by
    intro N
    induction N with
    | zero => intros; omega
    | succ N ih_29 =>
      intro x3 m_29 i29_0 i29_1 hN_29 hF_29
      refine Tx.iload_n hC te_87_29 rfl ?_
      refine Tx.iconst hC te_87_30 rfl ?_
      refine Tx.icmp hC (t := 122) te_87_31 (by decide) (fun q25 => ?_) (fun q25 => ?_)
      · replace q25 : 3 ≤ (x3 : Int) := q25
        refine Tx.iconst hC te_87_122 rfl ?_
        refine Tx.istore_n hC te_87_123 rfl ?_
        exact l_124 _ 0 m_29 (by omega) (TkI.le i29_1 (by omega) (by omega)) (Nat.lt_succ_self _) hF_29
      · replace q25 : ¬ (3 ≤ (x3 : Int)) := q25
        refine Tx.aload_n hC te_87_34 rfl ?_
        refine Tx.getR hC te_87_35 rfl rfl rfl ?_
        refine Tx.iload_n hC te_87_38 rfl ?_
        refine Tx.aload_n hC te_87_39 rfl ?_
        refine Tx.getR hC te_87_40 rfl rfl rfl ?_
        refine Tx.iload_n hC te_87_43 rfl ?_
        refine Tx.iald hC te_87_44 rfl (by omega) (fun v26 v26e v26i => ?_)
        unfold InI at v26i
        rw [hF_29 8 _ (by unfold pK7; omega)] at v26e
        have f27 := hB.cn (o := (Int.toNat x3)) (by omega)
        refine Tx.iast hC te_87_45 rfl (by omega) ?_
        have hF29 : Frm pK7 mem (upm m_29 25 (Int.toNat x3) v26) := Frm.up hF_29 (by unfold pK7; omega)
        have hT30 : TkI mem (upm m_29 25 (Int.toNat x3) v26) d (x3 + 1) 0 := TkI.up25 i29_1 (by omega) (by omega)
        generalize upm m_29 25 (Int.toNat x3) v26 = m28 at hF29 hT30 ⊢
        refine Tx.aload_n hC te_87_46 rfl ?_
        refine Tx.iload_n hC te_87_47 rfl ?_
        refine Tx.virtI hC te_87_48 mt_36 (args := [.inr 1, .inl x3]) (rest := []) (c' := 0) (s' := 0) rfl rfl rfl rfl rfl rfl rfl rfl rfl rfl ?_
        refine f_36 (hB.fr (fun A i a b => hF29 A i (by unfold pK7; omega))) (fun r31 r31i => ?_)
        unfold InI at r31i
        refine Tx.iload_n hC te_87_51 rfl ?_
        refine Tx.aload_n hC te_87_52 rfl ?_
        refine Tx.getR hC te_87_53 rfl rfl rfl ?_
        refine Tx.iload_n hC te_87_56 rfl ?_
        refine Tx.iald hC te_87_57 rfl (by omega) (fun v34 v34e v34i => ?_)
        unfold InI at v34i
        refine Tx.imulW hC te_87_58 (fun z35 z35i z35e => ?_)
        unfold InI at z35i z35e
        first | replace z35e := z35e (by omega) | clear z35e
        refine Tx.icmp hC (t := 64) te_87_59 (by decide) (fun q36 => ?_) (fun q36 => ?_)
        · replace q36 : (r31 : Int) ≤ z35 := q36
          refine Tx.aload_n hC te_87_64 rfl ?_
          refine Tx.getR hC te_87_65 rfl rfl rfl ?_
          refine Tx.iload_n hC te_87_68 rfl ?_
          refine Tx.iconst hC te_87_69 rfl ?_
          refine Tx.iast hC te_87_70 rfl (by omega) ?_
          have hF38 : Frm pK7 mem (upm m28 26 (Int.toNat x3) 0) := Frm.up hF29 (by unfold pK7; omega)
          have hT39 : TkI mem (upm m28 26 (Int.toNat x3) 0) d (x3 + 1) 0 := TkI.up0 hT30 (by omega)
          generalize upm m28 26 (Int.toNat x3) 0 = m37 at hF38 hT39 ⊢
          refine Tx.aload_n hC te_87_71 rfl ?_
          refine Tx.getR hC te_87_72 rfl rfl rfl ?_
          refine Tx.iload_n hC te_87_75 rfl ?_
          refine Tx.iconst hC te_87_76 rfl ?_
          refine Tx.imulW hC te_87_77 (fun z40 z40i z40e => ?_)
          unfold InI at z40i z40e
          first | replace z40e := z40e (by omega) | clear z40e
          refine Tx.aload_n hC te_87_78 rfl ?_
          refine Tx.getI hC te_87_79 rfl rfl rfl (fun v41 v41e v41i => ?_)
          unfold InI at v41i
          refine Tx.iast hC te_87_82 rfl (by omega) ?_
          have hF43 : Frm pK7 mem (upm m37 28 (Int.toNat z40) v41) := Frm.up hF38 (by unfold pK7; omega)
          have hT44 : TkI mem (upm m37 28 (Int.toNat z40) v41) d (x3 + 1) 0 := TkI.up0 hT39 (by omega)
          generalize upm m37 28 (Int.toNat z40) v41 = m42 at hF43 hT44 ⊢
          refine Tx.aload_n hC te_87_83 rfl ?_
          refine Tx.getR hC te_87_84 rfl rfl rfl ?_
          refine Tx.iload_n hC te_87_87 rfl ?_
          refine Tx.iconst hC te_87_88 rfl ?_
          refine Tx.imulW hC te_87_89 (fun z45 z45i z45e => ?_)
          unfold InI at z45i z45e
          first | replace z45e := z45e (by omega) | clear z45e
          refine Tx.iconst hC te_87_90 rfl ?_
          refine Tx.iaddW hC te_87_91 (fun z46 z46i z46e => ?_)
          unfold InI at z46i z46e
          first | replace z46e := z46e (by omega) | clear z46e
          refine Tx.iconst hC te_87_92 rfl ?_
          refine Tx.iast hC te_87_93 rfl (by omega) ?_
          have hF48 : Frm pK7 mem (upm m42 28 (Int.toNat z46) 0) := Frm.up hF43 (by unfold pK7; omega)
          have hT49 : TkI mem (upm m42 28 (Int.toNat z46) 0) d (x3 + 1) 0 := TkI.up0 hT44 (by omega)
          generalize upm m42 28 (Int.toNat z46) 0 = m47 at hF48 hT49 ⊢
          refine Tx.aload_n hC te_87_94 rfl ?_
          refine Tx.getR hC te_87_95 rfl rfl rfl ?_
          refine Tx.iload_n hC te_87_98 rfl ?_
          refine Tx.iconst hC te_87_99 rfl ?_
          refine Tx.imulW hC te_87_100 (fun z50 z50i z50e => ?_)
          unfold InI at z50i z50e
          first | replace z50e := z50e (by omega) | clear z50e
          refine Tx.iconst hC te_87_101 rfl ?_
          refine Tx.iaddW hC te_87_102 (fun z51 z51i z51e => ?_)
          unfold InI at z51i z51e
          first | replace z51e := z51e (by omega) | clear z51e
          refine Tx.iconst hC te_87_103 rfl ?_
          refine Tx.iast hC te_87_104 rfl (by omega) ?_
          have hF53 : Frm pK7 mem (upm m47 28 (Int.toNat z51) 0) := Frm.up hF48 (by unfold pK7; omega)
          have hT54 : TkI mem (upm m47 28 (Int.toNat z51) 0) d (x3 + 1) 0 := TkI.up0 hT49 (by omega)
          generalize upm m47 28 (Int.toNat z51) 0 = m52 at hF53 hT54 ⊢
          refine Tx.aload_n hC te_87_105 rfl ?_
          refine Tx.getR hC te_87_106 rfl rfl rfl ?_
          refine Tx.iload_n hC te_87_109 rfl ?_
          refine Tx.iconst hC te_87_110 rfl ?_
          refine Tx.imulW hC te_87_111 (fun z55 z55i z55e => ?_)
          unfold InI at z55i z55e
          first | replace z55e := z55e (by omega) | clear z55e
          refine Tx.iconst hC te_87_112 rfl ?_
          refine Tx.iaddW hC te_87_113 (fun z56 z56i z56e => ?_)
          unfold InI at z56i z56e
          first | replace z56e := z56e (by omega) | clear z56e
          refine Tx.iconst hC te_87_114 rfl ?_
          refine Tx.iast hC te_87_115 rfl (by omega) ?_
          have hF58 : Frm pK7 mem (upm m52 28 (Int.toNat z56) 0) := Frm.up hF53 (by unfold pK7; omega)
          have hT59 : TkI mem (upm m52 28 (Int.toNat z56) 0) d (x3 + 1) 0 := TkI.up0 hT54 (by omega)
          generalize upm m52 28 (Int.toNat z56) 0 = m57 at hF58 hT59 ⊢
          refine Tx.iincW hC te_87_116 rfl rfl (fun z60 z60i z60e => ?_)
          unfold InI at z60i z60e
          first | replace z60e := z60e (by omega) | clear z60e
          refine Tx.goto hC (t := 29) te_87_119 (by decide) ?_
          exact ih_29 z60 m57 (by omega) (TkI.le hT59 (by omega) (by omega)) (by omega) hF58
        · replace q36 : ¬ ((r31 : Int) ≤ z35) := q36
          refine Tx.iconst hC te_87_62 rfl ?_
          exact Tx.bret hC te_87_63 rfl (by omega) (show K 0 m28 from H 0 _ (by omega) hF29 hT30.2.1 (fun q => absurd q (by omega)))
  refine Tx.aload_n hC te_87_0 rfl ?_
  refine Tx.aload_n hC te_87_1 rfl ?_
  refine Tx.getI hC te_87_2 rfl rfl rfl (fun v61 v61e v61i => ?_)
  unfold InI at v61i
  refine Tx.putI hC te_87_5 rfl rfl rfl rfl ?_
  have hF63 : Frm pK7 mem (upm mem 21 0 v61) := Frm.up Frm.rf (by unfold pK7; omega)
  refine Tx.aload_n hC te_87_8 rfl ?_
  refine Tx.iload_n hC te_87_9 rfl ?_
  refine Tx.putI hC te_87_10 rfl rfl rfl rfl ?_
  have hF65 : Frm pK7 mem (upm (upm mem 21 0 v61) 21 1 d) := Frm.up hF63 (by unfold pK7; omega)
  refine Tx.aload_n hC te_87_13 rfl ?_
  refine Tx.iconst hC te_87_14 rfl ?_
  refine Tx.iload_n hC te_87_15 rfl ?_
  refine Tx.bits hC (f := (fun (x y : Int32) => x <<< (y &&& 31))) te_87_16 (fun _ _ _ _ => Iff.rfl) (fun b66 b66e b66i => ?_)
  unfold InI at b66i
  refine Tx.iconst hC te_87_17 rfl ?_
  refine Tx.isubW hC te_87_18 (fun z67 z67i z67e => ?_)
  unfold InI at z67i z67e
  first | replace z67e := z67e (by omega) | clear z67e
  refine Tx.putI hC te_87_19 rfl rfl rfl rfl ?_
  have hF69 : Frm pK7 mem (upm (upm (upm mem 21 0 v61) 21 1 d) 21 2 z67) := Frm.up hF65 (by unfold pK7; omega)
  refine Tx.aload_n hC te_87_22 rfl ?_
  refine Tx.iconst hC te_87_23 rfl ?_
  refine Tx.putI hC te_87_24 rfl rfl rfl rfl ?_
  have hF71 : Frm pK7 mem (upm (upm (upm (upm mem 21 0 v61) 21 1 d) 21 2 z67) 21 4 0) := Frm.up hF69 (by unfold pK7; omega)
  refine Tx.iconst hC te_87_27 rfl ?_
  refine Tx.istore_n hC te_87_28 rfl ?_
  exact l_29 _ 0 (upm (upm (upm (upm mem 21 0 v61) 21 1 d) 21 2 z67) 21 4 0) (by omega) (TkI.start hU (by assumption)) (Nat.lt_succ_self _) hF71
theorem f_86 {S : Nat × (Nat → Int32)} {n : Nat} {mem : MM} {K : Int → MM → Prop} {E : Nat → MM → Prop} {d : Int} (hB : BodyOK mem) (hd : 1 ≤ d ∧ d ≤ 12) (hU : ∀ o, o < 8 → 0 ≤ mem 24 o ∧ mem 24 o ≤ 2) (H : ∀ r m', r = 0 ∨ r = 1 → Frm pT6 mem m' → (∀ o, o < 8 → 0 ≤ m' 24 o ∧ m' 24 o ≤ 2) → (∀ o, m' 22 o = mem 22 o ∨ (0 ≤ m' 22 o ∧ m' 22 o ≤ 11)) → (r = 1 → SkO m' d) → K r m') : CQI (Ex S (n + 14)) 86 [.inr 21, .inr 1, .inl d] mem K E := by
  refine CY.of (k := 3) mt_86 rfl rfl (fun hv => ?_)
  have hC := Ex.mono S (n + 13)
  have ii_d : InI d := hv (.inl d) (by simp)
  unfold InI at ii_d
  clear hv
  show Tx (Ex S (n + 13)) S M_86 (kI K E) 0 0 0 [some (.inr 21), some (.inr 1), some (.inl d), none, none, none] [] mem
  have l_11 : ∀ (N : Nat) (m_11 : MM), (SkO m_11 d) → (∀ o, m_11 22 o = mem 22 o ∨ (0 ≤ m_11 22 o ∧ m_11 22 o ≤ 11)) → (0) < N → Frm pT6 mem m_11 → Tx (Ex S (n + 13)) S M_86 (kI K E) 0 0 11 [some (.inr 21), some (.inr 1), some (.inl d), none, none, none] [] m_11 := by
    intro N
    induction N with
    | zero => intros; omega
    | succ N ih_11 =>
      intro m_11 i11_0 i11_1 hN_11 hF_11
      have hs0 := i11_0.1
      have hs1 := i11_0.2.1
      have l_36 : ∀ (N : Nat) (x3 x4 : Int) (m_36 : MM), (0 ≤ x4) → ((8 - x4).toNat) < N → FrS m_11 m_36 → Tx (Ex S (n + 13)) S M_86 (kI K E) 0 0 36 [some (.inr 21), some (.inr 1), some (.inl d), some (.inl x3), some (.inl x4), none] [] m_36 := by
        intro N
        induction N with
        | zero => intros; omega
        | succ N ih_36 =>
          intro x3 x4 m_36 i36_0 hN_36 hF_36
          refine Tx.iload hC te_86_36 rfl ?_
          refine Tx.aload_n hC te_86_38 rfl ?_
          refine Tx.getI hC te_86_39 rfl rfl rfl (fun v1 v1e v1i => ?_)
          unfold InI at v1i
          rw [FrS.at hF_36 21 _ (by unfold pSk; omega)] at v1e
          refine Tx.icmp hC (t := 121) te_86_42 (by decide) (fun q2 => ?_) (fun q2 => ?_)
          · replace q2 : v1 ≤ (x4 : Int) := q2
            refine Tx.iconst hC te_86_121 rfl ?_
            exact Tx.bret hC te_86_122 rfl (by omega) (show K 1 m_36 from H _ _ (by omega) (hF_11.tr (hF_36.1.mono (fun A i q => by unfold pSk at q; unfold pT6; omega))) (fun o ho => by rw [FrS.at hF_36 24 o (by unfold pSk; omega)]; exact i11_0.2.2.1 o ho) (fun o => by have := i11_1 o; have := hF_36.2 o; omega) (fun _ => (FrS.sk hF_36 i11_0)))
          · replace q2 : ¬ (v1 ≤ (x4 : Int)) := q2
            refine Tx.iload_n hC te_86_45 rfl ?_
            refine Tx.iconst hC te_86_46 rfl ?_
            refine Tx.iload hC te_86_47 rfl ?_
            refine Tx.bits hC (f := (fun (x y : Int32) => x <<< (y &&& 31))) te_86_49 (fun _ _ _ _ => Iff.rfl) (fun b3 b3e b3i => ?_)
            unfold InI at b3i
            refine Tx.bits hC (f := (fun (x y : Int32) => x &&& y)) te_86_50 (fun _ _ _ _ => Iff.rfl) (fun b4 b4e b4i => ?_)
            unfold InI at b4i
            refine Tx.ifc hC (t := 115) te_86_51 (by decide) (fun q5 => ?_) (fun q5 => ?_)
            · replace q5 : ¬ (b4 : Int) = 0 := q5
              refine Tx.iincW hC te_86_115 rfl rfl (fun z6 z6i z6e => ?_)
              unfold InI at z6i z6e
              first | replace z6e := z6e (by omega) | clear z6e
              refine Tx.goto hC (t := 36) te_86_118 (by decide) ?_
              exact ih_36 x3 z6 m_36 (by omega) (by omega) hF_36
            · replace q5 : ¬ (¬ (b4 : Int) = 0) := q5
              refine Tx.aload_n hC te_86_54 rfl ?_
              refine Tx.aload_n hC te_86_55 rfl ?_
              refine Tx.getR hC te_86_56 rfl rfl rfl ?_
              refine Tx.aload_n hC te_86_59 rfl ?_
              refine Tx.getR hC te_86_60 rfl rfl rfl ?_
              refine Tx.iload hC te_86_63 rfl ?_
              refine Tx.iald hC te_86_65 rfl (by omega) (fun v7 v7e v7i => ?_)
              unfold InI at v7i
              rw [FrS.at hF_36 24 _ (by unfold pSk; omega)] at v7e
              have f8 := i11_0.2.2.1 (Int.toNat x4) (by omega)
              refine Tx.iald hC te_86_66 rfl (by omega) (fun v9 v9e v9i => ?_)
              unfold InI at v9i
              rw [FrS.at hF_36 26 _ (by unfold pSk; omega)] at v9e
              refine Tx.putI hC te_86_67 rfl rfl rfl rfl ?_
              have hF11 : FrS m_11 (upm m_36 21 3 v9) := FrS.up hF_36 (by unfold pSk; omega) (by omega)
              generalize upm m_36 21 3 v9 = m10 at hF11 ⊢
              refine Tx.iload_n hC te_86_70 rfl ?_
              refine Tx.aload_n hC te_86_71 rfl ?_
              refine Tx.getI hC te_86_72 rfl rfl rfl (fun v12 v12e v12i => ?_)
              unfold InI at v12i
              refine Tx.bits hC (f := (fun (x y : Int32) => x ||| y)) te_86_75 (fun _ _ _ _ => Iff.rfl) (fun b13 b13e b13i => ?_)
              unfold InI at b13i
              refine Tx.istore_n hC te_86_76 rfl ?_
              refine Tx.aload_n hC te_86_77 rfl ?_
              refine Tx.iload hC te_86_78 rfl ?_
              refine Tx.iconst hC te_86_80 rfl ?_
              refine Tx.virtI hC te_86_81 mt_91 (args := [.inr 21, .inl x4, .inl 0]) (rest := []) (c' := 0) (s' := 0) rfl rfl rfl rfl rfl rfl rfl rfl rfl rfl ?_
              refine f_91 (FrS.sk hF11 i11_0) (by omega) (by omega) (fun r14 m15 r14b hF16 r14i => ?_)
              have hF16n : FrS m_11 m15 := FrS.tr hF11 hF16
              unfold InI at r14i
              refine Tx.ifc hC (t := 99) te_86_84 (by decide) (fun q17 => ?_) (fun q17 => ?_)
              · replace q17 : (r14 : Int) = 0 := q17
                refine Tx.iconst hC te_86_99 rfl ?_
                refine Tx.istore hC te_86_100 rfl ?_
                refine Tx.aload_n hC te_86_102 rfl ?_
                refine Tx.iload hC te_86_103 rfl ?_
                refine Tx.virtV hC te_86_105 mt_102 (args := [.inr 21, .inl x4]) (rest := []) (c' := 0) (s' := 0) rfl rfl rfl rfl rfl rfl rfl rfl rfl rfl ?_
                refine f_102 (FrS.sk hF16n i11_0) (by omega) (fun m19 hF20 => ?_)
                have hF20n : FrS m_11 m19 := FrS.tr hF16n hF20
                refine Tx.iload hC te_86_108 rfl ?_
                refine Tx.ifc hC (t := 115) te_86_110 (by decide) (fun q => absurd q (show ¬ (¬ (0 : Int) = 0) by decide)) (fun q => ?_)
                refine Tx.iconst hC te_86_113 rfl ?_
                exact Tx.bret hC te_86_114 rfl (by omega) (show K 0 m19 from H _ _ (by omega) (hF_11.tr (hF20n.1.mono (fun A i q => by unfold pSk at q; unfold pT6; omega))) (fun o ho => by rw [FrS.at hF20n 24 o (by unfold pSk; omega)]; exact i11_0.2.2.1 o ho) (fun o => by have := i11_1 o; have := hF20n.2 o; omega) (fun _ => (FrS.sk hF20n i11_0)))
              · replace q17 : ¬ ((r14 : Int) = 0) := q17
                refine Tx.aload_n hC te_86_87 rfl ?_
                refine Tx.iconst hC te_86_88 rfl ?_
                refine Tx.virtI hC te_86_89 mt_96 (args := [.inr 21, .inl 0]) (rest := []) (c' := 0) (s' := 0) rfl rfl rfl rfl rfl rfl rfl rfl rfl rfl ?_
                refine f_96z (FrS.sk hF16n i11_0) (fun r21 m22 r21b hF23 r21i => ?_)
                have hF23n : FrS m_11 m22 := FrS.tr hF16n hF23
                unfold InI at r21i
                refine Tx.ifc hC (t := 99) te_86_92 (by decide) (fun q24 => ?_) (fun q24 => ?_)
                · replace q24 : (r21 : Int) = 0 := q24
                  refine Tx.iconst hC te_86_99 rfl ?_
                  refine Tx.istore hC te_86_100 rfl ?_
                  refine Tx.aload_n hC te_86_102 rfl ?_
                  refine Tx.iload hC te_86_103 rfl ?_
                  refine Tx.virtV hC te_86_105 mt_102 (args := [.inr 21, .inl x4]) (rest := []) (c' := 0) (s' := 0) rfl rfl rfl rfl rfl rfl rfl rfl rfl rfl ?_
                  refine f_102 (FrS.sk hF23n i11_0) (by omega) (fun m26 hF27 => ?_)
                  have hF27n : FrS m_11 m26 := FrS.tr hF23n hF27
                  refine Tx.iload hC te_86_108 rfl ?_
                  refine Tx.ifc hC (t := 115) te_86_110 (by decide) (fun q => absurd q (show ¬ (¬ (0 : Int) = 0) by decide)) (fun q => ?_)
                  refine Tx.iconst hC te_86_113 rfl ?_
                  exact Tx.bret hC te_86_114 rfl (by omega) (show K 0 m26 from H _ _ (by omega) (hF_11.tr (hF27n.1.mono (fun A i q => by unfold pSk at q; unfold pT6; omega))) (fun o ho => by rw [FrS.at hF27n 24 o (by unfold pSk; omega)]; exact i11_0.2.2.1 o ho) (fun o => by have := i11_1 o; have := hF27n.2 o; omega) (fun _ => (FrS.sk hF27n i11_0)))
                · replace q24 : ¬ ((r21 : Int) = 0) := q24
                  refine Tx.iconst hC te_86_95 rfl ?_
                  refine Tx.goto hC (t := 100) te_86_96 (by decide) ?_
                  refine Tx.istore hC te_86_100 rfl ?_
                  refine Tx.aload_n hC te_86_102 rfl ?_
                  refine Tx.iload hC te_86_103 rfl ?_
                  refine Tx.virtV hC te_86_105 mt_102 (args := [.inr 21, .inl x4]) (rest := []) (c' := 0) (s' := 0) rfl rfl rfl rfl rfl rfl rfl rfl rfl rfl ?_
                  refine f_102 (FrS.sk hF23n i11_0) (by omega) (fun m29 hF30 => ?_)
                  have hF30n : FrS m_11 m29 := FrS.tr hF23n hF30
                  refine Tx.iload hC te_86_108 rfl ?_
                  refine Tx.ifc hC (t := 115) te_86_110 (by decide) (fun q => ?_) (fun q => absurd (show ¬ (1 : Int) = 0 by decide) q)
                  refine Tx.iincW hC te_86_115 rfl rfl (fun z31 z31i z31e => ?_)
                  unfold InI at z31i z31e
                  first | replace z31e := z31e (by omega) | clear z31e
                  refine Tx.goto hC (t := 36) te_86_118 (by decide) ?_
                  exact Tx.weak (by repeat' (first | exact trivial | exact rfl | constructor)) (ih_36 b13 z31 m29 (by omega) (by omega) hF30n)
      refine Tx.aload_n hC te_86_11 rfl ?_
      refine Tx.getR hC te_86_12 rfl rfl rfl ?_
      refine Tx.iconst hC te_86_15 rfl ?_
      refine Tx.statV hC te_86_16 (by decide) mt_76 (args := [.inr 34, .inl 0]) (rest := []) (c' := 0) (s' := 0) rfl rfl rfl rfl rfl rfl rfl ?_
      refine CWV.q hC (f_76 (Z := 34) (zn := 8) rfl (by omega) (fun m33 hF34 => ?_))
      have hF34n : FrS m_11 m33 := FrS.cp FrS.rf hF34 (fun i => by unfold pSk; omega) (by omega)
      refine Tx.aload_n hC te_86_19 rfl ?_
      refine Tx.getR hC te_86_20 rfl rfl rfl ?_
      refine Tx.iconst hC te_86_23 rfl ?_
      refine Tx.statV hC te_86_24 (by decide) mt_76 (args := [.inr 36, .inl 1]) (rest := []) (c' := 0) (s' := 0) rfl rfl rfl rfl rfl rfl rfl ?_
      refine CWV.q hC (f_76 (Z := 36) (zn := 8) rfl (by omega) (fun m36 hF37 => ?_))
      have hF37n : FrS m_11 m36 := FrS.cp hF34n hF37 (fun i => by unfold pSk; omega) (by omega)
      refine Tx.aload_n hC te_86_27 rfl ?_
      refine Tx.virtV hC te_86_28 mt_89 (args := [.inr 21]) (rest := []) (c' := 0) (s' := 0) rfl rfl rfl rfl rfl rfl rfl rfl rfl rfl ?_
      refine f_89 (FrS.sk hF37n i11_0) (fun m39 hF40 => ?_)
      have hF40n : FrS m_11 m39 := FrS.tr hF37n hF40
      refine Tx.iconst hC te_86_31 rfl ?_
      refine Tx.istore_n hC te_86_32 rfl ?_
      refine Tx.iconst hC te_86_33 rfl ?_
      refine Tx.istore hC te_86_34 rfl ?_
      exact l_36 _ 0 0 m39 (by omega) (Nat.lt_succ_self _) hF40n
  refine Tx.aload_n hC te_86_0 rfl ?_
  refine Tx.aload_n hC te_86_1 rfl ?_
  refine Tx.iload_n hC te_86_2 rfl ?_
  refine Tx.virtI hC te_86_3 mt_87 (args := [.inr 21, .inr 1, .inl d]) (rest := []) (c' := 0) (s' := 0) rfl rfl rfl rfl rfl rfl rfl rfl rfl rfl ?_
  refine f_87 hB hd hU (fun r41 m42 r41b hF43 r41u r41s r41i => ?_)
  have hF43n : Frm pT6 mem m42 := hF43.mono (fun A i q => by unfold pK7 at q; unfold pT6; omega)
  unfold InI at r41i
  refine Tx.ifc hC (t := 11) te_86_6 (by decide) (fun q44 => ?_) (fun q44 => ?_)
  · replace q44 : ¬ (r41 : Int) = 0 := q44
    exact l_11 _ m42 (r41s (by omega)) (fun o => Or.inl (hF43 22 o (by unfold pK7; omega))) (Nat.lt_succ_self _) hF43n
  · replace q44 : ¬ (¬ (r41 : Int) = 0) := q44
    refine Tx.iconst hC te_86_9 rfl ?_
    exact Tx.bret hC te_86_10 rfl (by omega) (show K 0 m42 from H _ _ (by omega) hF43n r41u (fun o => Or.inl (hF43 22 o (by unfold pK7; omega))) (fun q => absurd q (by omega)))
