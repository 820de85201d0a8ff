section
/-! the quick way of the class: its parts -/
def HsA (m : MM) (d : Int) : Prop := BodyOK m ∧ WbOK m 9 ∧ (0 ≤ m 19 0 ∧ m 19 0 ≤ 8) ∧ m 129 0 = d ∧ 1 ≤ d ∧ d ≤ 12
def FrH (m m' : MM) : Prop := ∀ A i, ¬ (A = 129 ∧ ¬ i = 0) → ¬ (130 ≤ A ∧ A ≤ 133) → m' A i = m A i
theorem FrH.rf {m : MM} : FrH m m := fun _ _ _ _ => rfl
theorem FrH.tr {a b c : MM} (h1 : FrH a b) (h2 : FrH b c) : FrH a c := fun A i e1 e2 => (h2 A i e1 e2).trans (h1 A i e1 e2)
theorem FrH.hs {m m' : MM} {d : Int} (e : FrH m m') (h : HsA m d) : HsA m' d := by
  obtain ⟨h1, h2, h3, h4, h5⟩ := h
  refine ⟨h1.fr (fun A i a b => e A i (by omega) (by omega)), ⟨fun j hj => ?_, by rw [e 9 0 (by omega) (by omega)]; exact h2.2⟩, by rw [e 19 0 (by omega) (by omega)]; exact h3, by rw [e 129 0 (by omega) (by omega)]; exact h4, h5⟩
  rw [e _ _ (by omega) (by omega), e _ _ (by omega) (by omega), e _ _ (by omega) (by omega), e _ _ (by omega) (by omega)]; exact h2.1 j hj
theorem Fr1.h32 {m m' : MM} (e : Fr1 132 m m') : FrH m m' := fun A i _ e2 => e A i (by omega)
def HTm (m : MM) : Prop := ∀ o : Nat, o < 8 → (0 ≤ m 130 o ∧ m 130 o ≤ 900) ∧ -1 ≤ m 131 o ∧ m 131 o ≤ 900
def HCm (m : MM) (c : Int) : Prop := ∀ o : Nat, o < 8 → (tb (m 129 3) (o : Int) → m 130 o ≤ c) ∧ ((o : Int) < m 1 0 → m 131 o ≤ c)
theorem Fr1.ht {m m' : MM} (e : Fr1 132 m m') (h : HTm m) : HTm m' := fun o ho => by rw [e 130 o (by omega), e 131 o (by omega)]; exact h o ho
theorem Fr1.hc {m m' : MM} {c : Int} (e : Fr1 132 m m') (h : HCm m c) : HCm m' c := fun o ho => by rw [e 130 o (by omega), e 131 o (by omega), e 129 3 (by omega), e 1 0 (by omega)]; exact h o ho
section HASTY
variable {S : Nat × (Nat → Int32)} {n : Nat} {mem : MM} {K : Int → MM → Prop} {d c : Int}
theorem f_40 {a b : Int} (H : K (max a b) mem) : CWI (Ex S (n + 1)) 40 [.inl a, .inl b] mem K := by
  refine CW.of (k := 0) mt_40 rfl rfl (w_40_0 (Ex.mono S n) ⟨fun q _ => ⟨_, rfl, ?_⟩, fun q _ => ⟨_, rfl, ?_⟩⟩)
  · rw [show max a b = b by omega] at H; exact H
  · rw [show max a b = a by omega] at H; exact H
theorem f_80 (h : 0 ≤ mem 19 0 ∧ mem 19 0 ≤ 8) {o : Int} (ho : 0 ≤ o ∧ o < 8) (H : ∀ r, K r mem) : CWI (Ex S (n + 2)) 80 [.inr 19, .inl o] mem K := by
  have key : ∀ (N : Nat) (x i : Int), 0 ≤ i → (8 - i).toNat < N → Wx (Ex S (n + 1)) S M_80 (fun r m => ∃ y, r = some y ∧ K y m) 4 [some (.inr 19), some (.inl o), some (.inl x), some (.inl i)] [] mem := by
    intro N
    induction N with
    | zero => intros; omega
    | succ N ih =>
      intro x i hi hN
      exact w_80_4 (Ex.mono S (n + 1)) (fun v1 e1 _ => ⟨fun _ _ => ⟨_, rfl, H _⟩, fun q => ⟨by unfold InI; omega, by unfold InI; omega, by omega, fun v2 _ _ => f_40 (fun _ => ⟨by unfold InI; omega, ih _ (i + 1) (by omega) (by omega)⟩)⟩⟩)
  exact CW.of (k := 2) mt_80 rfl rfl (w_80_0 (Ex.mono S (n + 1)) (key 9 0 0 (by omega) (by omega)))
end HASTY
end
section
/-! the quick way of the class: an op is moved; seek -/
def FrT (m m' : MM) : Prop := ∀ A i, ¬ A = 132 → ¬ (A = 129 ∧ i = 3) → m' A i = m A i
theorem FrT.rf {m : MM} : FrT m m := fun _ _ _ _ => rfl
theorem FrT.tr {a b c : MM} (h1 : FrT a b) (h2 : FrT b c) : FrT a c := fun A i e1 e2 => (h2 A i e1 e2).trans (h1 A i e1 e2)
theorem Fr1.t32 {m m' : MM} (e : Fr1 132 m m') : FrT m m' := fun A i e1 _ => e A i e1
theorem FrT.h {m m' : MM} (e : FrT m m') : FrH m m' := fun A i e1 e2 => e A i (by omega) (by omega)
theorem FrT.ht {m m' : MM} (e : FrT m m') (h : HTm m) : HTm m' := fun o ho => by rw [e 130 o (by omega) (by omega), e 131 o (by omega) (by omega)]; exact h o ho
theorem FrT.hc {m m' : MM} {c : Int} (e : FrT m m') (h : HCm m c) (s : ∀ p : Nat, p < 8 → tb (m' 129 3) (p : Int) → m 130 p ≤ c) : HCm m' c := fun o ho => by
  rw [e 130 o (by omega) (by omega), e 131 o (by omega) (by omega), e 1 0 (by omega) (by omega)]
  exact ⟨s o ho, (h o ho).2⟩
section SEEK
variable {S : Nat × (Nat → Int32)} {n : Nat} {mem : MM} {d c : Int}
def FrX (m m' : MM) : Prop := ∀ A i, ¬ (129 ≤ A ∧ A ≤ 133) → m' A i = m A i
def HsOK (m : MM) : Prop := HTm m ∧ (0 ≤ m 129 0 ∧ m 129 0 ≤ 12) ∧ (0 ≤ m 129 1 ∧ m 129 1 ≤ 1) ∧ 0 ≤ m 129 2 ∧ m 129 2 ≤ 48
theorem tb0 (p : Int) : ¬ tb 0 p := by
  unfold tb
  rw [show Int32.ofInt 0 = 0 from rfl, Int32.zero_and]
  exact fun h => h rfl
end SEEK
end
section
/-! the machine by hand, once more: calls may throw, give a reference, cost cells; rows of references are known; sums may go round -/
def RA (h : PH) : Prop := (∃ g : Nat → Option Nat, h[37]? = some (.inl (2, 13, .inr (.inr (.inr (.inr g))))) ∧ ∀ k, k < 13 → g k = some (38 + 7 * k)) ∧ ∃ g : Nat → Option Nat, h[135]? = some (.inl (3, 2, .inr (.inr (.inr (.inr g))))) ∧ ∀ k, k < 2 → g k = some (136 + k)
abbrev TR : Type := Option WV ⊕ Nat
abbrev TK : Type := TR → MM → Prop
def rsT : TR → Rs
  | .inl o => .inl (o.map wv)
  | .inr e => .inr e
def rOK : TR → Prop
  | .inl (some v) => vOK v
  | _ => True
def QX (h0 : PH) (K : TK) : Rs → PH → Prop := fun r h => ∃ (x : TR) (mem : MM), r = rsT x ∧ rOK x ∧ RH h0 h mem ∧ K x mem
def Tx (C : CXW) (S : Nat × (Nat → Int32)) (M : PM) (K : TK) (c s : Nat) (pc : Nat) (L : List (Option WV)) (st : List WV) (mem : MM) : Prop := ∀ (h0 : PH) (lv : LV) (h : PH), RA h0 → LkW lv L → (∀ v ∈ st, vOK v) → RH h0 h mem → Vx C S M [] (QX h0 K) pc lv (st.map wv) h c s
def CY (C : CXW) (μ : Nat) (args : List WV) (mem : MM) (K : TK) : Prop := (∀ v ∈ args, vOK v) → ∀ h0 h, RA h0 → RH h0 h mem → C μ (args.map wv) h (QX h0 K)
def kI (K : Int → MM → Prop) (E : Nat → MM → Prop) : TK := fun r m => match r with
  | .inl (some (.inl y)) => K y m
  | .inr e => E e m
  | _ => False
def kV (K : MM → Prop) (E : Nat → MM → Prop) : TK := fun r m => match r with
  | .inl none => K m
  | .inr e => E e m
  | _ => False
def kR (K : Nat → MM → Prop) (E : Nat → MM → Prop) : TK := fun r m => match r with
  | .inl (some (.inr A)) => K A m
  | .inr e => E e m
  | _ => False
def CQI (C : CXW) (μ : Nat) (args : List WV) (mem : MM) (K : Int → MM → Prop) (E : Nat → MM → Prop) : Prop := CY C μ args mem (kI K E)
def CQV (C : CXW) (μ : Nat) (args : List WV) (mem : MM) (K : MM → Prop) (E : Nat → MM → Prop) : Prop := CY C μ args mem (kV K E)
def CQR (C : CXW) (μ : Nat) (args : List WV) (mem : MM) (K : Nat → MM → Prop) (E : Nat → MM → Prop) : Prop := CY C μ args mem (kR K E)
theorem CY.mono {C : CXW} (hC : Cmono C) {μ : Nat} {args : List WV} {mem : MM} {K K' : TK} (h : ∀ r m, K r m → K' r m) (H : CY C μ args mem K) : CY C μ args mem K' := fun h1 h0 h2 h9 h3 => hC _ _ _ _ _ (fun _ _ ⟨x, m, e1, e2, e3, e4⟩ => ⟨x, m, e1, e2, e3, h _ _ e4⟩) (H h1 h0 h2 h9 h3)
theorem CWI.q {C : CXW} (hC : Cmono C) {μ : Nat} {args : List WV} {mem : MM} {K : Int → MM → Prop} {E : Nat → MM → Prop} (H : CWI C μ args mem K) : CQI C μ args mem K E := fun h1 h0 h2 _ h3 => hC _ _ _ _ _ (fun r h ⟨x, m, e1, e2, e3, y, e4, e5⟩ => by
  subst e4
  exact ⟨.inl (some (.inl y)), m, e1, e2 y rfl, e3, e5⟩) (H h1 h0 h2 h3)
theorem CWV.q {C : CXW} (hC : Cmono C) {μ : Nat} {args : List WV} {mem : MM} {K : MM → Prop} {E : Nat → MM → Prop} (H : CWV C μ args mem K) : CQV C μ args mem K E := fun h1 h0 h2 _ h3 => hC _ _ _ _ _ (fun r h ⟨x, m, e1, e2, e3, e4, e5⟩ => by
  subst e4
  exact ⟨.inl none, m, e1, trivial, e3, e5⟩) (H h1 h0 h2 h3)
section TX
variable {C : CXW} {S : Nat × (Nat → Int32)} {M : PM} {K : TK} {c s : Nat} {pc : Nat} {L : List (Option WV)} {st : List WV} {mem : MM}
theorem Tx.go (hC : Cmono C) {te : TE} (ht : (pT M).find? (fun e => e.1 == pc) = some te) (H : ∀ (h0 : PH) (lv : LV) (h : PH), RA h0 → LkW lv L → (∀ v ∈ st, vOK v) → RH h0 h mem → pmI C S M [] (QX h0 K) (Vx C S M [] (QX h0 K)) te lv (st.map wv) h c s) : Tx C S M K c s pc L st mem := fun h0 lv h h9 h1 h2 h3 => Vx.go hC ht (H h0 lv h h9 h1 h2 h3)
theorem Tx.iconst (hC : Cmono C) {z : Int} {a b : Nat} (ht : (pT M).find? (fun e => e.1 == pc) = some (pc, .iconst z, a, b)) (hz : inI z z = true) (H : Tx C S M K c s (pc + 1) L (.inl z :: st) mem) : Tx C S M K c s pc L st mem :=
  Tx.go hC ht fun h0 lv h h9 h1 h2 h3 => H h0 lv h h9 h1 (stc (inI_iff.mp hz) h2) h3
theorem Tx.bipush (hC : Cmono C) {z : Int} {a b : Nat} (ht : (pT M).find? (fun e => e.1 == pc) = some (pc, .bipush z, a, b)) (hz : inI z z = true) (e : (Int8.ofInt z).toInt32 = Int32.ofInt z) (H : Tx C S M K c s (pc + 2) L (.inl z :: st) mem) : Tx C S M K c s pc L st mem :=
  Tx.go hC ht fun h0 lv h h9 h1 h2 h3 => by
    have := H h0 lv h h9 h1 (stc (inI_iff.mp hz) h2) h3
    show Vx C S M [] (QX h0 K) (pc + 2) lv (.int (Int8.ofInt z).toInt32 :: st.map wv) h c s
    rw [e]; exact this
theorem Tx.sipush (hC : Cmono C) {z : Int} {a b : Nat} (ht : (pT M).find? (fun e => e.1 == pc) = some (pc, .sipush z, a, b)) (hz : inI z z = true) (e : (Int16.ofInt z).toInt32 = Int32.ofInt z) (H : Tx C S M K c s (pc + 3) L (.inl z :: st) mem) : Tx C S M K c s pc L st mem :=
  Tx.go hC ht fun h0 lv h h9 h1 h2 h3 => by
    have := H h0 lv h h9 h1 (stc (inI_iff.mp hz) h2) h3
    show Vx C S M [] (QX h0 K) (pc + 3) lv (.int (Int16.ofInt z).toInt32 :: st.map wv) h c s
    rw [e]; exact this
theorem Tx.iload (hC : Cmono C) {i a b : Nat} {x : Int} (ht : (pT M).find? (fun e => e.1 == pc) = some (pc, .iload i, a, b)) (hl : L[i]? = some (some (.inl x))) (H : Tx C S M K c s (pc + 2) L (.inl x :: st) mem) : Tx C S M K c s pc L st mem :=
  Tx.go hC ht fun h0 lv h h9 h1 h2 h3 => ⟨_, (h1 i _ hl).1, H h0 lv h h9 h1 (stc (h1 i _ hl).2 h2) h3⟩
theorem Tx.iload_n (hC : Cmono C) {i : _root_.Fin 4} {a b : Nat} {x : Int} (ht : (pT M).find? (fun e => e.1 == pc) = some (pc, .iload_n i, a, b)) (hl : L[i.val]? = some (some (.inl x))) (H : Tx C S M K c s (pc + 1) L (.inl x :: st) mem) : Tx C S M K c s pc L st mem :=
  Tx.go hC ht fun h0 lv h h9 h1 h2 h3 => ⟨_, (h1 i _ hl).1, H h0 lv h h9 h1 (stc (h1 i _ hl).2 h2) h3⟩
theorem Tx.aload (hC : Cmono C) {i a b A : Nat} (ht : (pT M).find? (fun e => e.1 == pc) = some (pc, .aload i, a, b)) (hl : L[i]? = some (some (.inr A))) (H : Tx C S M K c s (pc + 2) L (.inr A :: st) mem) : Tx C S M K c s pc L st mem :=
  Tx.go hC ht fun h0 lv h h9 h1 h2 h3 => ⟨_, (h1 i _ hl).1, ⟨A, Or.inl rfl⟩, H h0 lv h h9 h1 (stc trivial h2) h3⟩
theorem Tx.aload_n (hC : Cmono C) {i : _root_.Fin 4} {a b A : Nat} (ht : (pT M).find? (fun e => e.1 == pc) = some (pc, .aload_n i, a, b)) (hl : L[i.val]? = some (some (.inr A))) (H : Tx C S M K c s (pc + 1) L (.inr A :: st) mem) : Tx C S M K c s pc L st mem :=
  Tx.go hC ht fun h0 lv h h9 h1 h2 h3 => ⟨_, (h1 i _ hl).1, ⟨A, Or.inl rfl⟩, H h0 lv h h9 h1 (stc trivial h2) h3⟩
theorem Tx.istore (hC : Cmono C) {i a b : Nat} {x : Int} (ht : (pT M).find? (fun e => e.1 == pc) = some (pc, .istore i, a, b)) (hi : Nat.blt i (pL M) = true) (H : Tx C S M K c s (pc + 2) (L.set i (some (.inl x))) st mem) : Tx C S M K c s pc L (.inl x :: st) mem :=
  Tx.go hC ht fun h0 lv h h9 h1 h2 h3 => ⟨blt_iff.mp hi, H h0 _ h h9 (h1.set (h2 _ List.mem_cons_self)) (fun u hu => h2 u (List.mem_cons_of_mem _ hu)) h3⟩
theorem Tx.istore_n (hC : Cmono C) {i : _root_.Fin 4} {a b : Nat} {x : Int} (ht : (pT M).find? (fun e => e.1 == pc) = some (pc, .istore_n i, a, b)) (hi : Nat.blt i.val (pL M) = true) (H : Tx C S M K c s (pc + 1) (L.set i.val (some (.inl x))) st mem) : Tx C S M K c s pc L (.inl x :: st) mem :=
  Tx.go hC ht fun h0 lv h h9 h1 h2 h3 => ⟨blt_iff.mp hi, H h0 _ h h9 (h1.set (h2 _ List.mem_cons_self)) (fun u hu => h2 u (List.mem_cons_of_mem _ hu)) h3⟩
theorem Tx.iaddW (hC : Cmono C) {a b : Nat} {x y : Int} (ht : (pT M).find? (fun e => e.1 == pc) = some (pc, .iadd, a, b)) (H : ∀ z, InI z → (InI (x + y) → z = x + y) → Tx C S M K c s (pc + 1) L (.inl z :: st) mem) : Tx C S M K c s pc L (.inl y :: .inl x :: st) mem :=
  Tx.go hC ht fun h0 lv h h9 h1 h2 h3 => by
    have hx := wi (h2 _ (List.mem_cons_of_mem _ List.mem_cons_self))
    have hy := wi (h2 _ List.mem_cons_self)
    have := H (Int32.ofInt x + Int32.ofInt y).toInt (wiI _) (fun q => by rw [← Int32.ofInt_add, wi q]) h0 lv h h9 h1 (stc (wiI _) (fun u hu => h2 u (List.mem_cons_of_mem _ (List.mem_cons_of_mem _ hu)))) h3
    rw [List.map_cons, show wv (.inl (Int32.ofInt x + Int32.ofInt y).toInt) = .int (Int32.ofInt x + Int32.ofInt y) from by show Value.int (Int32.ofInt _) = _; rw [Int32.ofInt_toInt]] at this
    exact this
theorem Tx.idiv (hC : Cmono C) {a b : Nat} {x y : Int} (ht : (pT M).find? (fun e => e.1 == pc) = some (pc, .idiv, a, b)) (hy : 0 < y) (H : Tx C S M K c s (pc + 1) L (.inl (x.tdiv y) :: st) mem) : Tx C S M K c s pc L (.inl y :: .inl x :: st) mem :=
  Tx.go hC ht fun h0 lv h h9 h1 h2 h3 => by
    have hy1 := wi (h2 _ List.mem_cons_self)
    have hx1 := wi (h2 _ (List.mem_cons_of_mem _ List.mem_cons_self))
    have e := dv_toInt (x := Int32.ofInt x) (y := Int32.ofInt y) (by rw [hy1]; exact hy)
    rw [hx1, hy1] at e
    have hr : InI (x.tdiv y) := by rw [← e]; exact wiI _
    have := H h0 lv h h9 h1 (stc hr (fun u hu => h2 u (List.mem_cons_of_mem _ (List.mem_cons_of_mem _ hu)))) h3
    rw [List.map_cons, show wv (.inl (x.tdiv y)) = .int (Int32.ofInt x / Int32.ofInt y) from by rw [ofI_eq e]; rfl] at this
    exact ⟨nz_of (by rw [hy1]; omega), this⟩
theorem Tx.irem (hC : Cmono C) {a b : Nat} {x y : Int} (ht : (pT M).find? (fun e => e.1 == pc) = some (pc, .irem, a, b)) (hy : 0 < y) (H : Tx C S M K c s (pc + 1) L (.inl (x.tmod y) :: st) mem) : Tx C S M K c s pc L (.inl y :: .inl x :: st) mem :=
  Tx.go hC ht fun h0 lv h h9 h1 h2 h3 => by
    have hy1 := wi (h2 _ List.mem_cons_self)
    have hx1 := wi (h2 _ (List.mem_cons_of_mem _ List.mem_cons_self))
    have e := dv_toInt (x := Int32.ofInt x) (y := Int32.ofInt y) (by rw [hy1]; exact hy)
    rw [hx1, hy1] at e
    have e2 : Int32.ofInt x - Int32.ofInt x / Int32.ofInt y * Int32.ofInt y = Int32.ofInt (x.tmod y) := by
      rw [ofI_eq e, ← Int32.ofInt_mul, ← Int32.ofInt_sub, Int.tmod_def, Int.mul_comm]
    have hr : InI (x.tmod y) := by
      have a1 : InI y := h2 _ List.mem_cons_self
      have a2 : InI x := h2 _ (List.mem_cons_of_mem _ List.mem_cons_self)
      have l1 := Int.tmod_lt_of_pos x hy
      have l2 : -y < x.tmod y := by
        rcases Int.le_total 0 x with h | h
        · have := Int.tmod_nonneg y h; omega
        · have := Int.tmod_lt_of_pos (-x) hy
          rw [Int.neg_tmod] at this; omega
      unfold InI at a1 ⊢
      omega
    have := H h0 lv h h9 h1 (stc hr (fun u hu => h2 u (List.mem_cons_of_mem _ (List.mem_cons_of_mem _ hu)))) h3
    rw [List.map_cons, show wv (.inl (x.tmod y)) = .int (Int32.ofInt x - Int32.ofInt x / Int32.ofInt y * Int32.ofInt y) from by rw [e2]; rfl] at this
    exact ⟨nz_of (by rw [hy1]; omega), this⟩
theorem Tx.bits (hC : Cmono C) {ins : Instr} {a b : Nat} {x y : Int} {f : Int32 → Int32 → Int32} (ht : (pT M).find? (fun e => e.1 == pc) = some (pc, ins, a, b)) (hi : ∀ h0 lv r h, pmI C S M [] (QX h0 K) (Vx C S M [] (QX h0 K)) (pc, ins, a, b) lv (.int (Int32.ofInt y) :: .int (Int32.ofInt x) :: r) h c s ↔ Vx C S M [] (QX h0 K) (pc + 1) lv (.int (f (Int32.ofInt x) (Int32.ofInt y)) :: r) h c s) (H : ∀ z, z = (f (Int32.ofInt x) (Int32.ofInt y)).toInt → InI z → Tx C S M K c s (pc + 1) L (.inl z :: st) mem) : Tx C S M K c s pc L (.inl y :: .inl x :: st) mem :=
  Tx.go hC ht fun h0 lv h h9 h1 h2 h3 => by
    have := H _ rfl (wiI _) h0 lv h h9 h1 (stc (wiI _) (fun u hu => h2 u (List.mem_cons_of_mem _ (List.mem_cons_of_mem _ hu)))) h3
    rw [List.map_cons, show wv (.inl (f (Int32.ofInt x) (Int32.ofInt y)).toInt) = .int (f (Int32.ofInt x) (Int32.ofInt y)) from by show Value.int (Int32.ofInt _) = _; rw [Int32.ofInt_toInt]] at this
    exact (hi h0 lv _ h).mpr this
theorem Tx.dup (hC : Cmono C) {a b : Nat} {v : WV} (ht : (pT M).find? (fun e => e.1 == pc) = some (pc, .dup, a, b)) (H : Tx C S M K c s (pc + 1) L (v :: v :: st) mem) : Tx C S M K c s pc L (v :: st) mem :=
  Tx.go hC ht fun h0 lv h h9 h1 h2 h3 => ⟨wv v, st.map wv, rfl, wv_cat v, H h0 lv h h9 h1 (stc (h2 _ List.mem_cons_self) h2) h3⟩
theorem Tx.dup2 (hC : Cmono C) {a b : Nat} {v w : WV} (ht : (pT M).find? (fun e => e.1 == pc) = some (pc, .dup2, a, b)) (H : Tx C S M K c s (pc + 1) L (v :: w :: v :: w :: st) mem) : Tx C S M K c s pc L (v :: w :: st) mem :=
  Tx.go hC ht fun h0 lv h h9 h1 h2 h3 => ⟨wv v, wv w, st.map wv, rfl, wv_cat v, wv_cat w, H h0 lv h h9 h1 (stc (h2 _ List.mem_cons_self) (stc (h2 _ (List.mem_cons_of_mem _ List.mem_cons_self)) h2)) h3⟩
theorem Tx.goto (hC : Cmono C) {a b t : Nat} {z : Int} (ht : (pT M).find? (fun e => e.1 == pc) = some (pc, .goto z, a, b)) (hz : (pc : Int) + z = t) (H : Tx C S M K c s t L st mem) : Tx C S M K c s pc L st mem :=
  Tx.go hC ht fun h0 lv h h9 h1 h2 h3 => ⟨by show 0 ≤ (pc : Int) + z; omega, by
    show Vx C S M [] (QX h0 K) ((pc : Int) + z).toNat _ _ _ _ _
    rw [show ((pc : Int) + z).toNat = t by omega]; exact H h0 lv h h9 h1 h2 h3⟩
theorem Tx.ifc (hC : Cmono C) {cc : ClassFile.Cond} {a b t : Nat} {z x : Int} (ht : (pT M).find? (fun e => e.1 == pc) = some (pc, .ifCond cc z, a, b)) (hz : (pc : Int) + z = t) (H1 : ccZ cc x 0 → Tx C S M K c s t L st mem) (H2 : ¬ ccZ cc x 0 → Tx C S M K c s (pc + 3) L st mem) : Tx C S M K c s pc L (.inl x :: st) mem :=
  Tx.go hC ht fun h0 lv h h9 h1 h2 h3 => by
    have hx := wi (h2 _ List.mem_cons_self)
    have hst : ∀ u ∈ st, vOK u := fun u hu => h2 u (List.mem_cons_of_mem _ hu)
    have e : ccI cc (Int32.ofInt x) 0 ↔ ccZ cc x 0 := by rw [ccI_iff, hx]; exact Iff.rfl
    refine ⟨by show 0 ≤ (pc : Int) + z; omega, fun q => ?_, fun q => ?_⟩
    · show Vx C S M [] (QX h0 K) ((pc : Int) + z).toNat _ _ _ _ _
      rw [show ((pc : Int) + z).toNat = t by omega]; exact H1 (e.mp q) h0 lv h h9 h1 hst h3
    · exact H2 (fun w => q (e.mpr w)) h0 lv h h9 h1 hst h3
theorem Tx.icmp (hC : Cmono C) {cc : ClassFile.Cond} {a b t : Nat} {z x y : Int} (ht : (pT M).find? (fun e => e.1 == pc) = some (pc, .if_icmp cc z, a, b)) (hz : (pc : Int) + z = t) (H1 : ccZ cc x y → Tx C S M K c s t L st mem) (H2 : ¬ ccZ cc x y → Tx C S M K c s (pc + 3) L st mem) : Tx C S M K c s pc L (.inl y :: .inl x :: st) mem :=
  Tx.go hC ht fun h0 lv h h9 h1 h2 h3 => by
    have hy := wi (h2 _ List.mem_cons_self)
    have hx := wi (h2 _ (List.mem_cons_of_mem _ List.mem_cons_self))
    have hst : ∀ u ∈ st, vOK u := fun u hu => h2 u (List.mem_cons_of_mem _ (List.mem_cons_of_mem _ hu))
    have e : ccI cc (Int32.ofInt x) (Int32.ofInt y) ↔ ccZ cc x y := by rw [ccI_iff, hx, hy]
    refine ⟨by show 0 ≤ (pc : Int) + z; omega, fun q => ?_, fun q => ?_⟩
    · show Vx C S M [] (QX h0 K) ((pc : Int) + z).toNat _ _ _ _ _
      rw [show ((pc : Int) + z).toNat = t by omega]; exact H1 (e.mp q) h0 lv h h9 h1 hst h3
    · exact H2 (fun w => q (e.mpr w)) h0 lv h h9 h1 hst h3
theorem Tx.iald (hC : Cmono C) {a b A n : Nat} {i : Int} (ht : (pT M).find? (fun e => e.1 == pc) = some (pc, .iaload, a, b)) (hA : shA A = some (.inl n)) (hi : 0 ≤ i ∧ i < n) (H : ∀ v, v = mem A i.toNat → InI v → Tx C S M K c s (pc + 1) L (.inl v :: st) mem) : Tx C S M K c s pc L (.inl i :: .inr A :: st) mem :=
  Tx.go hC ht fun h0 lv h h9 h1 h2 h3 => by
    obtain ⟨g, e1, e2⟩ := h3.row hA
    have hI : InI i := h2 _ List.mem_cons_self
    have hv : InI (mem A i.toNat) := h3.rowI hA _
    show p_iald S h (.int (Int32.ofInt i) :: .ref A :: st.map wv) fun st => Vx C S M [] (QX h0 K) (pc + 1) lv st h c s
    refine iald_mk e1 (vp_in_iff.mpr (by rw [wi hI]; exact hi)) ?_
    rw [clampN hI hi.1, show g i.toNat = Int32.ofInt (mem A i.toNat) from ofI_eq (e2 _).symm]
    exact H _ rfl hv h0 lv h h9 h1 (stc hv (fun u hu => h2 u (List.mem_cons_of_mem _ (List.mem_cons_of_mem _ hu)))) h3
theorem Tx.iast (hC : Cmono C) {a b A n : Nat} {i x : Int} (ht : (pT M).find? (fun e => e.1 == pc) = some (pc, .iastore, a, b)) (hA : shA A = some (.inl n)) (hi : 0 ≤ i ∧ i < n) (H : Tx C S M K c s (pc + 1) L st (upm mem A i.toNat x)) : Tx C S M K c s pc L (.inl x :: .inl i :: .inr A :: st) mem :=
  Tx.go hC ht fun h0 lv h h9 h1 h2 h3 => by
    obtain ⟨g, e1, e2⟩ := h3.row hA
    have hx : InI x := h2 _ List.mem_cons_self
    have hI : InI i := h2 _ (List.mem_cons_of_mem _ List.mem_cons_self)
    show p_iast h (.int (Int32.ofInt x) :: .int (Int32.ofInt i) :: .ref A :: st.map wv) fun st h => Vx C S M [] (QX h0 K) (pc + 1) lv st h c s
    refine iast_mk e1 (vp_in_iff.mpr (by rw [wi hI]; exact hi)) ?_
    have := h3.setRow (i := i.toNat) (x := Int32.ofInt x) hA e1
    rw [wi hx] at this
    rw [clampN hI hi.1]
    exact H h0 lv _ h9 h1 (fun u hu => h2 u (List.mem_cons_of_mem _ (List.mem_cons_of_mem _ (List.mem_cons_of_mem _ hu)))) this
theorem Tx.getI (hC : Cmono C) {p A ci f : Nat} {fs : List (Option Nat)} (ht : (pT M).find? (fun e => e.1 == pc) = some (pc, .getfield p, ci, f)) (hA : shA A = some (.inr (ci, fs))) (hf : fs[f]? = some none) (hn : Nat.blt f (fnum ci) = true) (H : ∀ v, v = mem A f → InI v → Tx C S M K c s (pc + 3) L (.inl v :: st) mem) : Tx C S M K c s pc L (.inr A :: st) mem :=
  Tx.go hC ht fun h0 lv h h9 h1 h2 h3 => by
    obtain ⟨gs, e1, -, e2⟩ := h3.obj hA
    have e3 := e2 f
    rw [hf] at e3
    obtain ⟨z, e4, e5⟩ := e3
    have hv : InI (mem A f) := h3.fldI hA hf
    show p_get h ci f (.ref A :: st.map wv) fun st => Vx C S M [] (QX h0 K) (pc + 3) lv st h c s
    refine get_mk (v := .int z) e1 (blt_iff.mp hn) e4 ?_
    rw [show z = Int32.ofInt (mem A f) from ofI_eq e5.symm]
    exact H _ rfl hv h0 lv h h9 h1 (stc hv (fun u hu => h2 u (List.mem_cons_of_mem _ hu))) h3
theorem Tx.getR (hC : Cmono C) {p A B ci f : Nat} {fs : List (Option Nat)} (ht : (pT M).find? (fun e => e.1 == pc) = some (pc, .getfield p, ci, f)) (hA : shA A = some (.inr (ci, fs))) (hf : fs[f]? = some (some B)) (hn : Nat.blt f (fnum ci) = true) (H : Tx C S M K c s (pc + 3) L (.inr B :: st) mem) : Tx C S M K c s pc L (.inr A :: st) mem :=
  Tx.go hC ht fun h0 lv h h9 h1 h2 h3 => by
    obtain ⟨gs, e1, -, e2⟩ := h3.obj hA
    have e3 := e2 f
    rw [hf] at e3
    show p_get h ci f (.ref A :: st.map wv) fun st => Vx C S M [] (QX h0 K) (pc + 3) lv st h c s
    exact get_mk (v := .ref B) e1 (blt_iff.mp hn) e3 (H h0 lv h h9 h1 (stc trivial (fun u hu => h2 u (List.mem_cons_of_mem _ hu))) h3)
theorem Tx.putI (hC : Cmono C) {p A ci f : Nat} {fs : List (Option Nat)} {x : Int} (ht : (pT M).find? (fun e => e.1 == pc) = some (pc, .putfield p, ci, f)) (hA : shA A = some (.inr (ci, fs))) (hf : fs[f]? = some none) (hn : Nat.blt f (fnum ci) = true) (hy : ftyX ci f = .int) (H : Tx C S M K c s (pc + 3) L st (upm mem A f x)) : Tx C S M K c s pc L (.inl x :: .inr A :: st) mem :=
  Tx.go hC ht fun h0 lv h h9 h1 h2 h3 => by
    obtain ⟨gs, e1, e0, e2⟩ := h3.obj hA
    have hx : InI x := h2 _ List.mem_cons_self
    have hfl : f < gs.length := by rw [e0]; exact (List.getElem?_eq_some_iff.mp hf).1
    show p_put h ci f (.int (Int32.ofInt x) :: .ref A :: st.map wv) fun st h => Vx C S M [] (QX h0 K) (pc + 3) lv st h c s
    refine put_mk e1 (blt_iff.mp hn) hfl (by rw [hy]; rfl) (by rw [hy]; rfl) ?_
    have := h3.setObj (x := Int32.ofInt x) hA hf e1
    rw [wi hx] at this
    exact H h0 lv _ h9 h1 (fun u hu => h2 u (List.mem_cons_of_mem _ (List.mem_cons_of_mem _ hu))) this
theorem Tx.alen (hC : Cmono C) {a b A n : Nat} (ht : (pT M).find? (fun e => e.1 == pc) = some (pc, .arraylength, a, b)) (hA : shA A = some (.inl n)) (hI : InI (n : Int)) (H : Tx C S M K c s (pc + 1) L (.inl (n : Int) :: st) mem) : Tx C S M K c s pc L (.inr A :: st) mem :=
  Tx.go hC ht fun h0 lv h h9 h1 h2 h3 => by
    obtain ⟨g, e1, e2⟩ := h3.row hA
    show p_alen S h (.ref A :: st.map wv) fun st => Vx C S M [] (QX h0 K) (pc + 1) lv st h c s
    refine alen_mk e1 (by omega) ?_
    have := H h0 lv h h9 h1 (stc hI (fun u hu => h2 u (List.mem_cons_of_mem _ hu))) h3
    rw [List.map_cons, show wv (.inl (n : Int)) = .int (Int32.ofNat n) from rfl] at this
    exact this
theorem Tx.putB (hC : Cmono C) {p A ci f : Nat} {fs : List (Option Nat)} {x : Int} (ht : (pT M).find? (fun e => e.1 == pc) = some (pc, .putfield p, ci, f)) (hA : shA A = some (.inr (ci, fs))) (hf : fs[f]? = some none) (hn : Nat.blt f (fnum ci) = true) (hy : ftyX ci f = .boolean) (hx : x = 0 ∨ x = 1) (H : Tx C S M K c s (pc + 3) L st (upm mem A f x)) : Tx C S M K c s pc L (.inl x :: .inr A :: st) mem :=
  Tx.go hC ht fun h0 lv h h9 h1 h2 h3 => by
    obtain ⟨gs, e1, e0, e2⟩ := h3.obj hA
    have hfl : f < gs.length := by rw [e0]; exact (List.getElem?_eq_some_iff.mp hf).1
    have hI : InI x := h2 _ List.mem_cons_self
    show p_put h ci f (.int (Int32.ofInt x) :: .ref A :: st.map wv) fun st h => Vx C S M [] (QX h0 K) (pc + 3) lv st h c s
    refine put_mk e1 (blt_iff.mp hn) hfl (by rw [hy]; rcases hx with e | e <;> subst e <;> rfl) (by rw [hy]; rcases hx with e | e <;> subst e <;> rfl) ?_
    have := h3.setObj (x := Int32.ofInt x) hA hf e1
    rw [wi hI] at this
    exact H h0 lv _ h9 h1 (fun u hu => h2 u (List.mem_cons_of_mem _ (List.mem_cons_of_mem _ hu))) this
theorem Tx.tsw (hC : Cmono C) {d lo hi x : Int} {offs : Array Int} {a b t : Nat} {ts : List Nat} (ht : (pT M).find? (fun e => e.1 == pc) = some (pc, .tableswitch d lo hi offs, a, b)) (hn : hi - lo + 1 = offs.size) (hz : (pc : Int) + d = t) (hts : offs.toList.map (fun o => (pc : Int) + o) = ts.map fun (n : Nat) => (n : Int)) (H1 : x < lo ∨ hi < x → Tx C S M K c s t L st mem) (H2 : ∀ (i t' : Nat), ts[i]? = some t' → x = lo + i → Tx C S M K c s t' L st mem) : Tx C S M K c s pc L (.inl x :: st) mem :=
  Tx.go hC ht fun h0 lv h h9 h1 h2 h3 => by
    have hx := wi (h2 _ List.mem_cons_self)
    have hst : ∀ u ∈ st, vOK u := fun u hu => h2 u (List.mem_cons_of_mem _ hu)
    refine ⟨?_, ?_⟩
    · intro q
      rw [hx] at q
      refine ⟨by show 0 ≤ (pc : Int) + d; omega, ?_⟩
      show Vx C S M [] (QX h0 K) ((pc : Int) + d).toNat _ _ _ _ _
      rw [show ((pc : Int) + d).toNat = t by omega]; exact H1 q h0 lv h h9 h1 hst h3
    · intro q1 q2
      rw [hx] at q1 q2 ⊢
      have hl : (x - lo).toNat < offs.size := by omega
      have e1 : offs.toList[(x - lo).toNat]? = some (offs[(x - lo).toNat]'hl) := by simp
      have e2 : (offs.toList.map (fun o => (pc : Int) + o))[(x - lo).toNat]? = some ((pc : Int) + offs[(x - lo).toNat]'hl) := by rw [List.getElem?_map, e1]; rfl
      rw [hts, List.getElem?_map] at e2
      cases ht' : ts[(x - lo).toNat]? with
      | none => rw [ht'] at e2; cases e2
      | some t' =>
        rw [ht'] at e2
        have e3 : (t' : Int) = (pc : Int) + offs[(x - lo).toNat]'hl := Option.some.inj e2
        refine ⟨offs[(x - lo).toNat]'hl, by simp [hl], by show 0 ≤ (pc : Int) + _; omega, ?_⟩
        show Vx C S M [] (QX h0 K) ((pc : Int) + _).toNat _ _ _ _ _
        rw [show ((pc : Int) + offs[(x - lo).toNat]'hl).toNat = t' by omega]
        exact H2 _ t' ht' (by omega) h0 lv h h9 h1 hst h3
theorem Tx.isubW (hC : Cmono C) {a b : Nat} {x y : Int} (ht : (pT M).find? (fun e => e.1 == pc) = some (pc, .isub, a, b)) (H : ∀ z, InI z → (InI (x - y) → z = x - y) → Tx C S M K c s (pc + 1) L (.inl z :: st) mem) : Tx C S M K c s pc L (.inl y :: .inl x :: st) mem :=
  Tx.go hC ht fun h0 lv h h9 h1 h2 h3 => by
    have := H (Int32.ofInt x - Int32.ofInt y).toInt (wiI _) (fun q => by rw [← Int32.ofInt_sub, wi q]) h0 lv h h9 h1 (stc (wiI _) (fun u hu => h2 u (List.mem_cons_of_mem _ (List.mem_cons_of_mem _ hu)))) h3
    rw [List.map_cons, show wv (.inl (Int32.ofInt x - Int32.ofInt y).toInt) = .int (Int32.ofInt x - Int32.ofInt y) from by show Value.int (Int32.ofInt _) = _; rw [Int32.ofInt_toInt]] at this
    exact this
theorem Tx.imulW (hC : Cmono C) {a b : Nat} {x y : Int} (ht : (pT M).find? (fun e => e.1 == pc) = some (pc, .imul, a, b)) (H : ∀ z, InI z → (InI (x * y) → z = x * y) → Tx C S M K c s (pc + 1) L (.inl z :: st) mem) : Tx C S M K c s pc L (.inl y :: .inl x :: st) mem :=
  Tx.go hC ht fun h0 lv h h9 h1 h2 h3 => by
    have := H (Int32.ofInt x * Int32.ofInt y).toInt (wiI _) (fun q => by rw [← Int32.ofInt_mul, wi q]) h0 lv h h9 h1 (stc (wiI _) (fun u hu => h2 u (List.mem_cons_of_mem _ (List.mem_cons_of_mem _ hu)))) h3
    rw [List.map_cons, show wv (.inl (Int32.ofInt x * Int32.ofInt y).toInt) = .int (Int32.ofInt x * Int32.ofInt y) from by show Value.int (Int32.ofInt _) = _; rw [Int32.ofInt_toInt]] at this
    exact this
theorem Tx.inegW (hC : Cmono C) {a b : Nat} {x : Int} (ht : (pT M).find? (fun e => e.1 == pc) = some (pc, .ineg, a, b)) (H : ∀ z, InI z → (InI (-x) → z = -x) → Tx C S M K c s (pc + 1) L (.inl z :: st) mem) : Tx C S M K c s pc L (.inl x :: st) mem :=
  Tx.go hC ht fun h0 lv h h9 h1 h2 h3 => by
    have := H (-Int32.ofInt x).toInt (wiI _) (fun q => by rw [← Int32.ofInt_neg, wi q]) h0 lv h h9 h1 (stc (wiI _) (fun u hu => h2 u (List.mem_cons_of_mem _ hu))) h3
    rw [List.map_cons, show wv (.inl (-Int32.ofInt x).toInt) = .int (-Int32.ofInt x) from by show Value.int (Int32.ofInt _) = _; rw [Int32.ofInt_toInt]] at this
    exact this
theorem Tx.iincW (hC : Cmono C) {i a b : Nat} {z x : Int} (ht : (pT M).find? (fun e => e.1 == pc) = some (pc, .iinc i z, a, b)) (hi : Nat.blt i (pL M) = true) (hl : L[i]? = some (some (.inl x))) (H : ∀ y, InI y → (InI (x + z) → y = x + z) → Tx C S M K c s (pc + 3) (L.set i (some (.inl y))) st mem) : Tx C S M K c s pc L st mem :=
  Tx.go hC ht fun h0 lv h h9 h1 h2 h3 => ⟨blt_iff.mp hi, _, (h1 i _ hl).1, by
    have := H (Int32.ofInt x + Int32.ofInt z).toInt (wiI _) (fun q => by rw [← Int32.ofInt_add, wi q]) h0 _ h h9 (h1.set (i := i) (v := .inl (Int32.ofInt x + Int32.ofInt z).toInt) (wiI _)) h2 h3
    rw [show wv (.inl (Int32.ofInt x + Int32.ofInt z).toInt) = .int (Int32.ofInt x + Int32.ofInt z) from by show Value.int (Int32.ofInt _) = _; rw [Int32.ofInt_toInt]] at this
    exact this⟩
theorem Tx.pop (hC : Cmono C) {a b : Nat} {v : WV} (ht : (pT M).find? (fun e => e.1 == pc) = some (pc, .pop, a, b)) (H : Tx C S M K c s (pc + 1) L st mem) : Tx C S M K c s pc L (v :: st) mem :=
  Tx.go hC ht fun h0 lv h h9 h1 h2 h3 => ⟨wv v, st.map wv, rfl, wv_cat v, H h0 lv h h9 h1 (fun u hu => h2 u (List.mem_cons_of_mem _ hu)) h3⟩
theorem Tx.ldc (hC : Cmono C) {p a b : Nat} {z : Int} {q : Nat × Nat × Int32} (ht : (pT M).find? (fun e => e.1 == pc) = some (pc, .ldc p, a, b)) (hb : b = 0) (hk : KLs[a]? = some q) (hz : Int32.ofInt z = q.2.2) (hI : inI z z = true) (H : Tx C S M K c s (pc + 2) L (.inl z :: st) mem) : Tx C S M K c s pc L st mem :=
  Tx.go hC ht fun h0 lv h h9 h1 h2 h3 => ⟨q, hk, hb, by
    have := H h0 lv h h9 h1 (stc (inI_iff.mp hI) h2) h3
    rw [List.map_cons, show wv (.inl z) = .int q.2.2 from by show Value.int (Int32.ofInt z) = _; rw [hz]] at this
    exact this⟩
theorem Tx.ldc_w (hC : Cmono C) {p a b : Nat} {z : Int} {q : Nat × Nat × Int32} (ht : (pT M).find? (fun e => e.1 == pc) = some (pc, .ldc_w p, a, b)) (hb : b = 0) (hk : KLs[a]? = some q) (hz : Int32.ofInt z = q.2.2) (hI : inI z z = true) (H : Tx C S M K c s (pc + 3) L (.inl z :: st) mem) : Tx C S M K c s pc L st mem :=
  Tx.go hC ht fun h0 lv h h9 h1 h2 h3 => ⟨q, hk, hb, by
    have := H h0 lv h h9 h1 (stc (inI_iff.mp hI) h2) h3
    rw [List.map_cons, show wv (.inl z) = .int q.2.2 from by show Value.int (Int32.ofInt z) = _; rw [hz]] at this
    exact this⟩
theorem Tx.astore (hC : Cmono C) {i a b A : Nat} (ht : (pT M).find? (fun e => e.1 == pc) = some (pc, .astore i, a, b)) (hi : Nat.blt i (pL M) = true) (H : Tx C S M K c s (pc + 2) (L.set i (some (.inr A))) st mem) : Tx C S M K c s pc L (.inr A :: st) mem :=
  Tx.go hC ht fun h0 lv h h9 h1 h2 h3 => ⟨blt_iff.mp hi, H h0 _ h h9 (h1.set (h2 _ List.mem_cons_self)) (fun u hu => h2 u (List.mem_cons_of_mem _ hu)) h3⟩
theorem Tx.astore_n (hC : Cmono C) {i : _root_.Fin 4} {a b A : Nat} (ht : (pT M).find? (fun e => e.1 == pc) = some (pc, .astore_n i, a, b)) (hi : Nat.blt i.val (pL M) = true) (H : Tx C S M K c s (pc + 1) (L.set i.val (some (.inr A))) st mem) : Tx C S M K c s pc L (.inr A :: st) mem :=
  Tx.go hC ht fun h0 lv h h9 h1 h2 h3 => ⟨blt_iff.mp hi, H h0 _ h h9 (h1.set (h2 _ List.mem_cons_self)) (fun u hu => h2 u (List.mem_cons_of_mem _ hu)) h3⟩
theorem RA.at {h0 h : PH} (h9 : RA h0) (h3 : RH h0 h mem) : RA h := by
  unfold RA
  rw [h3.1 37 rfl, h3.1 135 rfl]
  exact h9
theorem Tx.aaldC (hC : Cmono C) {a b : Nat} {i : Int} (ht : (pT M).find? (fun e => e.1 == pc) = some (pc, .aaload, a, b)) (hi : 0 ≤ i ∧ i < 13) (H : ∀ A, A = 38 + 7 * i.toNat → Tx C S M K c s (pc + 1) L (.inr A :: st) mem) : Tx C S M K c s pc L (.inl i :: .inr 37 :: st) mem :=
  Tx.go hC ht fun h0 lv h h9 h1 h2 h3 => by
    obtain ⟨g, e1, e2⟩ := (h9.at h3).1
    have hI : InI i := h2 _ List.mem_cons_self
    show p_aald h (.int (Int32.ofInt i) :: .ref 37 :: st.map wv) fun st => Vx C S M [] (QX h0 K) (pc + 1) lv st h c s
    refine aald_mk e1 (Or.inl rfl) (vp_in_iff.mpr (by rw [wi hI]; exact hi)) (q := 38 + 7 * i.toNat) (by rw [clampN hI hi.1]; exact e2 _ (by omega)) ?_
    exact H _ rfl h0 lv h h9 h1 (stc trivial (fun u hu => h2 u (List.mem_cons_of_mem _ (List.mem_cons_of_mem _ hu)))) h3
theorem Tx.aaldP (hC : Cmono C) {a b : Nat} {i : Int} (ht : (pT M).find? (fun e => e.1 == pc) = some (pc, .aaload, a, b)) (hi : 0 ≤ i ∧ i < 2) (H : ∀ A, A = 136 + i.toNat → Tx C S M K c s (pc + 1) L (.inr A :: st) mem) : Tx C S M K c s pc L (.inl i :: .inr 135 :: st) mem :=
  Tx.go hC ht fun h0 lv h h9 h1 h2 h3 => by
    obtain ⟨g, e1, e2⟩ := (h9.at h3).2
    have hI : InI i := h2 _ List.mem_cons_self
    show p_aald h (.int (Int32.ofInt i) :: .ref 135 :: st.map wv) fun st => Vx C S M [] (QX h0 K) (pc + 1) lv st h c s
    refine aald_mk e1 (Or.inr rfl) (vp_in_iff.mpr (by rw [wi hI]; exact hi)) (q := 136 + i.toNat) (by rw [clampN hI hi.1]; exact e2 _ (by omega)) ?_
    exact H _ rfl h0 lv h h9 h1 (stc trivial (fun u hu => h2 u (List.mem_cons_of_mem _ (List.mem_cons_of_mem _ hu)))) h3
/-! ends -/
theorem Tx.ireturn (hC : Cmono C) {a b : Nat} {x : Int} (ht : (pT M).find? (fun e => e.1 == pc) = some (pc, .ireturn, a, b)) (hR : pR M = some .int) (H : InI x → K (.inl (some (.inl x))) mem) : Tx C S M K c s pc L [.inl x] mem :=
  Tx.go hC ht fun h0 lv h h9 h1 h2 h3 => ⟨_, rfl, ⟨_, hR, rfl⟩, .inl (some (.inl x)), mem, rfl, h2 _ List.mem_cons_self, h3, H (h2 _ List.mem_cons_self)⟩
theorem Tx.bret (hC : Cmono C) {a b : Nat} {x : Int} (ht : (pT M).find? (fun e => e.1 == pc) = some (pc, .ireturn, a, b)) (hR : pR M = some .boolean) (hx : x = 0 ∨ x = 1) (H : K (.inl (some (.inl x))) mem) : Tx C S M K c s pc L [.inl x] mem :=
  Tx.go hC ht fun h0 lv h h9 h1 h2 h3 => ⟨_, rfl, ⟨_, hR, by rcases hx with rfl | rfl <;> rfl⟩, .inl (some (.inl x)), mem, rfl, h2 _ List.mem_cons_self, h3, H⟩
theorem Tx.vret (hC : Cmono C) {a b : Nat} (ht : (pT M).find? (fun e => e.1 == pc) = some (pc, .return_, a, b)) (hR : pR M = none) (H : K (.inl none) mem) : Tx C S M K c s pc L [] mem :=
  Tx.go hC ht fun h0 lv h h9 h1 h2 h3 => ⟨rfl, hR, .inl none, mem, rfl, trivial, h3, H⟩
theorem Tx.aret (hC : Cmono C) {a b A : Nat} {t : String} (ht : (pT M).find? (fun e => e.1 == pc) = some (pc, .areturn, a, b)) (hR : pR M = some (.object t)) (H : K (.inl (some (.inr A))) mem) : Tx C S M K c s pc L [.inr A] mem :=
  Tx.go hC ht fun h0 lv h h9 h1 h2 h3 => ⟨A, rfl, ⟨t, hR⟩, .inl (some (.inr A)), mem, rfl, trivial, h3, H⟩
theorem Tx.thr (hC : Cmono C) {p a b : Nat} {x : Nat × Nat × Nat × Nat × Nat × Nat} (ht : (pT M).find? (fun e => e.1 == pc) = some (pc, .new p, a, b)) (hb : b = 1) (hc : Nat.ble (c + 1) (pC M) = true) (hs : Nat.ble (s + 6) (pS M) = true) (hst : Nat.ble st.length 8 = true) (hx : XLs[a]? = some x) (H : K (.inr x.2.2.1) mem) : Tx C S M K c s pc L st mem :=
  Tx.go hC ht fun h0 lv h h9 h1 h2 h3 => Or.inr ⟨hb, rfl, Nat.le_of_ble_eq_true hc, Nat.le_of_ble_eq_true hs, by rw [cats1]; exact Nat.le_of_ble_eq_true hst, x, hx, .inr x.2.2.1, mem, rfl, trivial, h3, H⟩
/-! calls -/
theorem Tx.call (hC : Cmono C) {N : PM} {μ : Nat} {virt : Bool} {args rest : List WV} {c' s' : Nat} (hN : MT[μ]? = some N) (hl : args.length = pN N) (hr : Nat.ble rest.length 8 = true) (hc1 : Nat.ble c' (pC M) = true) (hs1 : Nat.ble s' (pS M) = true) (hc : c + pC N = c') (hs : s + pS N = s') (hv : virt = true → ∃ A ci fs, args[0]? = some (.inr A) ∧ shA A = some (.inr (ci, fs)) ∧ ci = pO N) {K2 : TK} (H : CY C μ args mem K2) (Hk : ∀ o m, K2 (.inl o) m → rOK (.inl o) → Tx C S M K c' s' (pc + 3) L (o.toList ++ rest) m) (He : ∀ e m, K2 (.inr e) m → K (.inr e) m) {h0 : PH} {lv : LV} {h : PH} (h9 : RA h0) (h1 : LkW lv L) (h2 : ∀ v ∈ args.reverse ++ rest, vOK v) (h3 : RH h0 h mem) : p_call C M [] (QX h0 K) (Vx C S M [] (QX h0 K)) pc μ virt lv ((args.reverse ++ rest).map wv) h c s := by
  subst hc
  subst hs
  unfold p_call
  rw [hN]
  have el : (args.reverse.map wv).length = pN N := by simp [hl]
  have e1 : ((args.reverse ++ rest).map wv).take (pN N) = args.reverse.map wv := by rw [List.map_append, ← el, List.take_left]
  have e2 : ((args.reverse ++ rest).map wv).drop (pN N) = rest.map wv := by rw [List.map_append, ← el, List.drop_left]
  simp only [e1, e2]
  refine ⟨by simp [hl], by rw [cats1]; exact Nat.le_of_ble_eq_true hr, Nat.le_of_ble_eq_true hc1, Nat.le_of_ble_eq_true hs1, ?_, ?_⟩
  · intro q
    obtain ⟨A, ci, fs, g1, g2, g3⟩ := hv q
    obtain ⟨gs, g4, -⟩ := h3.obj g2
    refine ⟨A, gs, ?_, by rw [← g3]; exact g4⟩
    rw [List.getLast?_eq_head?_reverse, ← List.map_reverse, List.reverse_reverse, List.head?_eq_getElem?, List.getElem?_map, g1]
    rfl
  · rw [← List.map_reverse, List.reverse_reverse]
    refine hC _ _ _ _ _ ?_ (H (fun v hv => h2 v (List.mem_append_left _ (List.mem_reverse.mpr hv))) h0 h h9 h3)
    rintro r h' ⟨x, m, rfl, k2, k3, k4⟩
    cases x with
    | inr e => exact ⟨.inr e, m, rfl, trivial, k3, He e m k4⟩
    | inl o =>
      show Vx C S M [] (QX h0 K) (pc + 3) lv _ h' _ _
      have := Hk o m k4 k2 h0 lv h' h9 h1 (fun u hu => ?_) k3
      · cases o with
        | none => exact this
        | some y => exact this
      · rcases List.mem_append.mp hu with hu | hu
        · cases o with
          | none => cases hu
          | some y =>
            have : u = y := by simpa using hu
            subst this
            exact k2
        · exact h2 u (List.mem_append_right _ hu)
theorem Tx.virtI (hC : Cmono C) {p μ b ci A : Nat} {N : PM} {args rest : List WV} {c' s' : Nat} {fs : List (Option Nat)} (ht : (pT M).find? (fun e => e.1 == pc) = some (pc, .invokevirtual p, μ, b)) (hN : MT[μ]? = some N) (hst : st = args.reverse ++ rest) (hl : args.length = pN N) (hr : Nat.ble rest.length 8 = true) (hc1 : Nat.ble c' (pC M) = true) (hs1 : Nat.ble s' (pS M) = true) (hc : c + pC N = c') (hs : s + pS N = s') (ha : args[0]? = some (.inr A)) (hA : shA A = some (.inr (ci, fs))) (ho : ci = pO N) (H : CQI C μ args mem (fun y m => InI y → Tx C S M K c' s' (pc + 3) L (.inl y :: rest) m) (fun e m => K (.inr e) m)) : Tx C S M K c s pc L st mem := by
  subst hst
  exact Tx.go hC ht fun h0 lv h h9 h1 h2 h3 => Tx.call (K := K) (S := S) (pc := pc) hC hN hl hr hc1 hs1 hc hs (fun _ => ⟨A, ci, fs, ha, hA, ho⟩) H (fun o m q hy => by
    cases o with
    | none => exact False.elim q
    | some v => cases v with
      | inl y => exact q hy
      | inr A => exact False.elim q) (fun e m q => q) h9 h1 h2 h3
theorem Tx.virtV (hC : Cmono C) {p μ b ci A : Nat} {N : PM} {args rest : List WV} {c' s' : Nat} {fs : List (Option Nat)} (ht : (pT M).find? (fun e => e.1 == pc) = some (pc, .invokevirtual p, μ, b)) (hN : MT[μ]? = some N) (hst : st = args.reverse ++ rest) (hl : args.length = pN N) (hr : Nat.ble rest.length 8 = true) (hc1 : Nat.ble c' (pC M) = true) (hs1 : Nat.ble s' (pS M) = true) (hc : c + pC N = c') (hs : s + pS N = s') (ha : args[0]? = some (.inr A)) (hA : shA A = some (.inr (ci, fs))) (ho : ci = pO N) (H : CQV C μ args mem (fun m => Tx C S M K c' s' (pc + 3) L rest m) (fun e m => K (.inr e) m)) : Tx C S M K c s pc L st mem := by
  subst hst
  exact Tx.go hC ht fun h0 lv h h9 h1 h2 h3 => Tx.call (K := K) (S := S) (pc := pc) hC hN hl hr hc1 hs1 hc hs (fun _ => ⟨A, ci, fs, ha, hA, ho⟩) H (fun o m q hy => by
    cases o with
    | none => exact q
    | some v => cases v <;> exact False.elim q) (fun e m q => q) h9 h1 h2 h3
theorem Tx.virtR (hC : Cmono C) {p μ b ci A : Nat} {N : PM} {args rest : List WV} {c' s' : Nat} {fs : List (Option Nat)} (ht : (pT M).find? (fun e => e.1 == pc) = some (pc, .invokevirtual p, μ, b)) (hN : MT[μ]? = some N) (hst : st = args.reverse ++ rest) (hl : args.length = pN N) (hr : Nat.ble rest.length 8 = true) (hc1 : Nat.ble c' (pC M) = true) (hs1 : Nat.ble s' (pS M) = true) (hc : c + pC N = c') (hs : s + pS N = s') (ha : args[0]? = some (.inr A)) (hA : shA A = some (.inr (ci, fs))) (ho : ci = pO N) (H : CQR C μ args mem (fun y m => Tx C S M K c' s' (pc + 3) L (.inr y :: rest) m) (fun e m => K (.inr e) m)) : Tx C S M K c s pc L st mem := by
  subst hst
  exact Tx.go hC ht fun h0 lv h h9 h1 h2 h3 => Tx.call (K := K) (S := S) (pc := pc) hC hN hl hr hc1 hs1 hc hs (fun _ => ⟨A, ci, fs, ha, hA, ho⟩) H (fun o m q hy => by
    cases o with
    | none => exact False.elim q
    | some v => cases v with
      | inl y => exact False.elim q
      | inr A => exact q) (fun e m q => q) h9 h1 h2 h3
theorem Tx.statI (hC : Cmono C) {p μ b : Nat} {N : PM} {args rest : List WV} {c' s' : Nat} (ht : (pT M).find? (fun e => e.1 == pc) = some (pc, .invokestatic p, μ, b)) (hb : b ≠ 7) (hN : MT[μ]? = some N) (hst : st = args.reverse ++ rest) (hl : args.length = pN N) (hr : Nat.ble rest.length 8 = true) (hc1 : Nat.ble c' (pC M) = true) (hs1 : Nat.ble s' (pS M) = true) (hc : c + pC N = c') (hs : s + pS N = s') (H : CQI C μ args mem (fun y m => InI y → Tx C S M K c' s' (pc + 3) L (.inl y :: rest) m) (fun e m => K (.inr e) m)) : Tx C S M K c s pc L st mem := by
  subst hst
  exact Tx.go hC ht fun h0 lv h h9 h1 h2 h3 => Or.inr ⟨hb, Tx.call (K := K) (S := S) (pc := pc) hC hN hl hr hc1 hs1 hc hs (fun q => by cases q) H (fun o m q hy => by
    cases o with
    | none => exact False.elim q
    | some v => cases v with
      | inl y => exact q hy
      | inr A => exact False.elim q) (fun e m q => q) h9 h1 h2 h3⟩
theorem Tx.statV (hC : Cmono C) {p μ b : Nat} {N : PM} {args rest : List WV} {c' s' : Nat} (ht : (pT M).find? (fun e => e.1 == pc) = some (pc, .invokestatic p, μ, b)) (hb : b ≠ 7) (hN : MT[μ]? = some N) (hst : st = args.reverse ++ rest) (hl : args.length = pN N) (hr : Nat.ble rest.length 8 = true) (hc1 : Nat.ble c' (pC M) = true) (hs1 : Nat.ble s' (pS M) = true) (hc : c + pC N = c') (hs : s + pS N = s') (H : CQV C μ args mem (fun m => Tx C S M K c' s' (pc + 3) L rest m) (fun e m => K (.inr e) m)) : Tx C S M K c s pc L st mem := by
  subst hst
  exact Tx.go hC ht fun h0 lv h h9 h1 h2 h3 => Or.inr ⟨hb, Tx.call (K := K) (S := S) (pc := pc) hC hN hl hr hc1 hs1 hc hs (fun q => by cases q) H (fun o m q hy => by
    cases o with
    | none => exact q
    | some v => cases v <;> exact False.elim q) (fun e m q => q) h9 h1 h2 h3⟩
theorem Tx.copy (hC : Cmono C) {p a A0 A1 n0 n1 : Nat} {sp dp n : Int} (ht : (pT M).find? (fun e => e.1 == pc) = some (pc, .invokestatic p, a, 7)) (hA0 : shA A0 = some (.inl n0)) (hA1 : shA A1 = some (.inl n1)) (h1a : 0 ≤ sp ∧ 0 ≤ dp ∧ 0 ≤ n ∧ sp + n ≤ n0 ∧ dp + n ≤ n1) (hr : Nat.ble st.length 8 = true) (H : ∀ m', (∀ A i, ¬ A = A1 → m' A i = mem A i) → (∀ i, m' A1 i = if dp.toNat ≤ i ∧ i < dp.toNat + n.toNat then mem A0 (sp.toNat + (i - dp.toNat)) else mem A1 i) → Tx C S M K c s (pc + 3) L st m') : Tx C S M K c s pc L (.inl n :: .inl dp :: .inr A1 :: .inl sp :: .inr A0 :: st) mem :=
  Tx.go hC ht fun h0 lv h h9 h1 h2 h3 => by
    obtain ⟨f, e1, e2⟩ := h3.row hA0
    obtain ⟨g, g1, g2⟩ := h3.row hA1
    have i1 : InI n := h2 (.inl n) (by simp)
    have i2 : InI dp := h2 (.inl dp) (by simp)
    have i3 : InI sp := h2 (.inl sp) (by simp)
    have ng : ∀ x : Int, InI x → 0 ≤ x → ¬ Int32.ofInt x < 0 := fun x hx h0 q => by
      rw [Int32.lt_iff_toInt_lt, wi hx] at q
      have : (0 : Int32).toInt = 0 := rfl
      omega
    refine Or.inl ⟨rfl, ?_⟩
    show p_copy h (.int (Int32.ofInt n) :: .int (Int32.ofInt dp) :: .ref A1 :: .int (Int32.ofInt sp) :: .ref A0 :: st.map wv) _
    refine copy_mk e1 g1 (ng _ i3 h1a.1) (ng _ i2 h1a.2.1) (ng _ i1 h1a.2.2.1) (by rw [clampN i3 h1a.1, clampN i1 h1a.2.2.1]; omega) (by rw [clampN i2 h1a.2.1, clampN i1 h1a.2.2.1]; omega) ⟨by rw [cats1]; exact Nat.le_of_ble_eq_true hr, ?_⟩
    rw [clampN i3 h1a.1, clampN i1 h1a.2.2.1, clampN i2 h1a.2.1]
    refine H (fun A i => if A = A1 then (va_cpy f g sp.toNat dp.toNat n.toNat i).toInt else mem A i) (fun A i q => if_neg q) (fun i => ?_) h0 lv _ h9 h1 (fun u hu => h2 u (by simp [hu])) ?_
    · rw [if_pos rfl]
      unfold va_cpy
      split
      · rw [e2]
      · rw [g2]
    · have hl := (List.getElem?_eq_some_iff.mp g1).1
      refine ⟨fun B hB => by
        rw [List.getElem?_set_ne (fun q => by rw [← q, hA1] at hB; cases hB)]
        exact h3.1 B hB, ?_⟩
      intro B t hB
      by_cases hAB : A1 = B
      · subst hAB
        rw [hA1] at hB
        cases hB
        exact ⟨_, List.getElem?_set_self hl, _, rfl, fun j => if_pos rfl⟩
      · obtain ⟨y, k1, k2⟩ := h3.2 B t hB
        refine ⟨y, by rw [List.getElem?_set_ne hAB]; exact k1, ?_⟩
        have : (fun i => if B = A1 then (va_cpy f g sp.toNat dp.toNat n.toNat i).toInt else mem B i) = mem B := by
          funext j
          exact if_neg (fun q => hAB q.symm)
        show shR t (fun i => if B = A1 then (va_cpy f g sp.toNat dp.toNat n.toNat i).toInt else mem B i) y
        rw [this]; exact k2
end TX
theorem Tx.weak {C : CXW} {S : Nat × (Nat → Int32)} {M : PM} {K : TK} {c s pc : Nat} {L' L : List (Option WV)} {st : List WV} {mem : MM} (h : subL L' L) (H : Tx C S M K c s pc L' st mem) : Tx C S M K c s pc L st mem := fun h0 lv hh h9 h1 h2 h3 => H h0 lv hh h9 (fun i v hv => h1 i v (h.at hv)) h2 h3
theorem CY.of {S : Nat × (Nat → Int32)} {n μ : Nat} {M : PM} {args : List WV} {mem : MM} {K : TK} (hM : MT[μ]? = some M) (hk : (pK M == 3) = false) (hl : Nat.ble args.length (pL M) = true) {k : Nat} (H : (∀ v ∈ args, vOK v) → Tx (Ex S n) S M K 0 0 0 (args.map some ++ List.replicate k none) [] mem) : CY (Ex S (n + 1)) μ args mem K := by
  intro ha h0 h h9 hh
  refine ⟨M, hM, by rw [cats1]; exact Nat.le_of_ble_eq_true hl, ?_⟩
  rw [if_neg (by simpa using hk)]
  refine H ha h0 _ h h9 ?_ (fun v hv => by cases hv) hh
  intro i v hv
  have hv : (args.map some)[i]? = some (some v) := by
    rw [List.getElem?_append] at hv
    split at hv
    · exact hv
    · rw [List.getElem?_replicate] at hv
      split at hv <;> cases hv
  rw [List.getElem?_map] at hv
  cases hv2 : args[i]? with
  | none => rw [hv2] at hv; cases hv
  | some u =>
    rw [hv2] at hv
    have hv : u = v := by cases hv; rfl
    subst hv
    refine ⟨?_, ha _ (List.mem_of_getElem? hv2)⟩
    have := pg_args (l := args.map wv) (k := 0) (i := i) (w := wv u) (fun w hw => by obtain ⟨z, -, rfl⟩ := List.mem_map.mp hw; exact wv_cat z) (by rw [List.getElem?_map, hv2]; rfl)
    rwa [Nat.zero_add] at this
end
section
/-! what the class's methods need: frames, charts, what holds of the class between calls -/
theorem tmo_b {x y : Int} (hy : 0 < y) : ((0 ≤ x → 0 ≤ x.tmod y ∧ x.tmod y < y ∧ x.tmod y ≤ x) ∧ (x ≤ 0 → x.tmod y ≤ 0)) ∧ -y < x.tmod y ∧ x.tmod y < y := by
  have a := Int.tmod_lt_of_pos x hy
  have b : -y < x.tmod y := by
    rcases Int.le_total 0 x with h | h
    · have := Int.tmod_nonneg y h; omega
    · have := Int.tmod_lt_of_pos (-x) hy
      rw [Int.neg_tmod] at this; omega
  refine ⟨⟨fun h => ?_, fun h => ?_⟩, b, a⟩
  · have h1 := Int.tmod_nonneg y h
    refine ⟨h1, a, ?_⟩
    have h2 := Int.tmod_def x y
    have h3 : 0 ≤ x.tdiv y := Int.tdiv_nonneg h (by omega)
    have h4 : 0 ≤ y * x.tdiv y := Int.mul_nonneg (by omega) h3
    omega
  · have h1 := Int.tmod_nonneg y (show 0 ≤ -x by omega)
    rw [Int.neg_tmod] at h1; omega
theorem tdv_b {x y z : Int} (hy : 0 < y) (e : z = x.tdiv y) : (0 ≤ x → 0 ≤ z ∧ z ≤ x ∧ 0 ≤ y * z ∧ y * z ≤ x ∧ x < y * z + y) ∧ (x ≤ 0 → z ≤ 0 ∧ x ≤ z ∧ x ≤ y * z ∧ y * z ≤ 0 ∧ y * z - y < x) := by
  have h := Int.tmod_def x y
  rw [← e] at h
  have b := tmo_b (x := x) hy
  refine ⟨fun h0 => ?_, fun h0 => ?_⟩
  · have h3 : 0 ≤ z := by rw [e]; exact Int.tdiv_nonneg h0 (by omega)
    have h4 : 0 ≤ y * z := Int.mul_nonneg (by omega) h3
    have h5 : z ≤ y * z := by
      have : 1 * z ≤ y * z := Int.mul_le_mul_of_nonneg_right (by omega) h3
      omega
    have := b.1.1 h0
    omega
  · have h3 : 0 ≤ -z := by rw [e, ← Int.neg_tdiv]; exact Int.tdiv_nonneg (by omega) (by omega)
    have h4 : 0 ≤ y * -z := Int.mul_nonneg (by omega) h3
    rw [Int.mul_neg] at h4
    have h5 : -z ≤ y * -z := by
      have : 1 * -z ≤ y * -z := Int.mul_le_mul_of_nonneg_right (by omega) h3
      omega
    rw [Int.mul_neg] at h5
    have := b.1.2 h0
    omega
theorem Tx.iremW {C : CXW} {S : Nat × (Nat → Int32)} {M : PM} {K : TK} {c s pc : Nat} {L : List (Option WV)} {st : List WV} {mem : MM} (hC : Cmono C) {a b : Nat} {x y : Int} (ht : (pT M).find? (fun e => e.1 == pc) = some (pc, .irem, a, b)) (hy : 0 < y) (H : ∀ z, InI z → z = x.tmod y → (((0 ≤ x → 0 ≤ z ∧ z < y ∧ z ≤ x) ∧ (x ≤ 0 → z ≤ 0)) ∧ -y < z ∧ z < y) → Tx C S M K c s (pc + 1) L (.inl z :: st) mem) : Tx C S M K c s pc L (.inl y :: .inl x :: st) mem := fun h0 lv h h9 h1 h2 h3 => by
  have hb := tmo_b (x := x) hy
  have iy : InI y := h2 _ List.mem_cons_self
  exact Tx.irem hC ht hy (H _ (by unfold InI at iy ⊢; omega) rfl hb) h0 lv h h9 h1 h2 h3
theorem Tx.idivW {C : CXW} {S : Nat × (Nat → Int32)} {M : PM} {K : TK} {c s pc : Nat} {L : List (Option WV)} {st : List WV} {mem : MM} (hC : Cmono C) {a b : Nat} {x y : Int} (ht : (pT M).find? (fun e => e.1 == pc) = some (pc, .idiv, a, b)) (hy : 0 < y) (H : ∀ z, InI z → z = x.tdiv y → ((0 ≤ x → 0 ≤ z ∧ z ≤ x) ∧ (x ≤ 0 → z ≤ 0 ∧ x ≤ z)) → Tx C S M K c s (pc + 1) L (.inl z :: st) mem) : Tx C S M K c s pc L (.inl y :: .inl x :: st) mem := fun h0 lv h h9 h1 h2 h3 => by
  have hb := tdv_b (x := x) hy rfl
  have ix : InI x := h2 _ (List.mem_cons_of_mem _ List.mem_cons_self)
  exact Tx.idiv hC ht hy (H _ (by unfold InI at ix ⊢; omega) rfl ⟨fun q => ⟨(hb.1 q).1, (hb.1 q).2.1⟩, fun q => ⟨(hb.2 q).1, (hb.2 q).2.1⟩⟩) h0 lv h h9 h1 h2 h3
theorem neg_msb (w : Int32) : w.toInt < 0 ↔ w.toBitVec.msb = true := by
  rw [BitVec.msb_eq_toInt, decide_eq_true_iff]
  exact Iff.rfl
theorem xor_neg {x y z : Int} (hx : InI x) (hy : InI y) (h0 : 0 < y) (e : z = ((fun (x y : Int32) => x ^^^ y) (Int32.ofInt x) (Int32.ofInt y)).toInt) : z < 0 ↔ x < 0 := by
  have hy2 : (Int32.ofInt y).toBitVec.msb = false := by
    cases q : (Int32.ofInt y).toBitVec.msb with
    | false => rfl
    | true =>
      have := (neg_msb _).mpr q
      rw [wi hy] at this
      omega
  rw [e, neg_msb]
  show ((Int32.ofInt x).toBitVec ^^^ (Int32.ofInt y).toBitVec).msb = true ↔ _
  rw [BitVec.msb_xor, hy2, Bool.xor_false, ← neg_msb, wi hx]
def Frm (P : Nat → Nat → Prop) (m m' : MM) : Prop := ∀ A i, ¬ P A i → m' A i = m A i
theorem Frm.rf {P : Nat → Nat → Prop} {m : MM} : Frm P m m := fun _ _ _ => rfl
theorem Frm.tr {P : Nat → Nat → Prop} {a b c : MM} (h1 : Frm P a b) (h2 : Frm P b c) : Frm P a c := fun A i e => (h2 A i e).trans (h1 A i e)
theorem Frm.up {P : Nat → Nat → Prop} {m m1 : MM} {A i : Nat} {x : Int} (h : Frm P m m1) (q : P A i) : Frm P m (upm m1 A i x) := fun B j e => by
  rw [upm_ne (fun w => e (by rw [w.1, w.2]; exact q))]; exact h B j e
theorem Frm.mono {P P' : Nat → Nat → Prop} {m m' : MM} (h : Frm P m m') (q : ∀ A i, P A i → P' A i) : Frm P' m m' := fun A i e => h A i (fun w => e (q A i w))
def ChSh (Q : Nat) : Prop := (∃ k, k < 13 ∧ Q = 38 + 7 * k) ∧ shA Q = some (.inr (1, [none, none, none, none, none, none, none, none, some (Q + 1), some (Q + 2), some (Q + 3), some (Q + 4), some (Q + 5), some (Q + 6)])) ∧ shA (Q + 1) = some (.inl 8) ∧ shA (Q + 2) = some (.inl 8) ∧ shA (Q + 3) = some (.inl 8) ∧ shA (Q + 4) = some (.inl 8) ∧ shA (Q + 5) = some (.inl 8) ∧ shA (Q + 6) = some (.inl 8)
theorem ChSh.of {k : Nat} (h : k < 13) : ChSh (38 + 7 * k) := by
  refine ⟨⟨k, h, rfl⟩, ?_⟩
  have a : k = 0 ∨ k = 1 ∨ k = 2 ∨ k = 3 ∨ k = 4 ∨ k = 5 ∨ k = 6 ∨ k = 7 ∨ k = 8 ∨ k = 9 ∨ k = 10 ∨ k = 11 ∨ k = 12 := by omega
  rcases a with a | a | a | a | a | a | a | a | a | a | a | a | a <;> subst a <;> exact ⟨rfl, rfl, rfl, rfl, rfl, rfl, rfl⟩
theorem ChSh.mk {Q : Nat} {i : Int} (e : Q = 38 + 7 * i.toNat) (h : 0 ≤ i ∧ i < 13) : ChSh Q := by
  rw [e]; exact ChSh.of (by omega)
theorem ChSh.s0 {Q : Nat} (h : ChSh Q) : shA Q = some (.inr (1, [none, none, none, none, none, none, none, none, some (Q + 1), some (Q + 2), some (Q + 3), some (Q + 4), some (Q + 5), some (Q + 6)])) := h.2.1
theorem ChSh.s1 {Q : Nat} (h : ChSh Q) : shA (Q + 1) = some (.inl 8) := h.2.2.1
theorem ChSh.s2 {Q : Nat} (h : ChSh Q) : shA (Q + 2) = some (.inl 8) := h.2.2.2.1
theorem ChSh.s3 {Q : Nat} (h : ChSh Q) : shA (Q + 3) = some (.inl 8) := h.2.2.2.2.1
theorem ChSh.s4 {Q : Nat} (h : ChSh Q) : shA (Q + 4) = some (.inl 8) := h.2.2.2.2.2.1
theorem ChSh.s5 {Q : Nat} (h : ChSh Q) : shA (Q + 5) = some (.inl 8) := h.2.2.2.2.2.2.1
theorem ChSh.s6 {Q : Nat} (h : ChSh Q) : shA (Q + 6) = some (.inl 8) := h.2.2.2.2.2.2.2
theorem rowP {R : Nat} {i : Int} (e : R = 136 + i.toNat) (h : 0 ≤ i ∧ i < 2) : shA R = some (.inl 64) := by
  have a : i.toNat = 0 ∨ i.toNat = 1 := by omega
  rcases a with a | a <;> rw [e, a] <;> rfl
def ChtOK (m : MM) (Q : Nat) : Prop := ((0 ≤ m Q 2 ∧ m Q 2 ≤ 8) ∧ (1 ≤ m Q 3 ∧ m Q 3 ≤ 12) ∧ 0 ≤ m Q 1 ∧ m Q 1 ≤ 1) ∧ ∀ o, o < 8 → (0 ≤ m (Q + 1) o ∧ m (Q + 1) o ≤ 11) ∧ (0 ≤ m (Q + 2) o ∧ m (Q + 2) o ≤ 11000) ∧ 0 ≤ m (Q + 3) o ∧ m (Q + 3) o ≤ 11010
theorem ChtOK.fr {m m' : MM} {Q : Nat} (h : ChtOK m Q) (e : ∀ A i, Q ≤ A → A ≤ Q + 3 → m' A i = m A i) : ChtOK m' Q := by
  refine ⟨?_, fun o ho => ?_⟩
  · rw [e Q 1 (by omega) (by omega), e Q 2 (by omega) (by omega), e Q 3 (by omega) (by omega)]; exact h.1
  · rw [e (Q + 1) o (by omega) (by omega), e (Q + 2) o (by omega) (by omega), e (Q + 3) o (by omega) (by omega)]; exact h.2 o ho
theorem BodyOK.kd {m : MM} (h : BodyOK m) {o : Nat} (ho : o < 8) : 0 ≤ m 2 o ∧ m 2 o ≤ 5 := (h.2.1 o ho).1
theorem BodyOK.un {m : MM} (h : BodyOK m) {o : Nat} (ho : o < 6) : 0 ≤ m 5 o ∧ m 5 o ≤ 2 := h.2.2.1 o ho
theorem BodyOK.la {m : MM} (h : BodyOK m) {o : Nat} (ho : o < 6) : 1 ≤ m 6 o ∧ m 6 o ≤ 6 := h.2.2.2.1 o ho
theorem BodyOK.bu {m : MM} (h : BodyOK m) {o : Nat} (ho : o < 6) : 1 ≤ m 7 o ∧ m 7 o ≤ 15 := h.2.2.2.2.1 o ho
theorem BodyOK.cn {m : MM} (h : BodyOK m) {o : Nat} (ho : o < 3) : 1 ≤ m 8 o ∧ m 8 o ≤ 3 := h.2.2.2.2.2 o ho
def WbS (m : MM) : Prop := ∀ j : Nat, (j : Int) < m 9 0 → m 10 j < m 1 0 ∧ m 11 j < m 1 0
def CI (m : MM) : Prop := BodyOK m ∧ WbOK m 9 ∧ WbOK m 14 ∧ (0 ≤ m 19 0 ∧ m 19 0 ≤ 8) ∧ HsOK m ∧ (∀ o, o < 8 → 0 ≤ m 24 o ∧ m 24 o ≤ 2) ∧ (∀ Q, ChSh Q → ChtOK m Q) ∧ (0 ≤ m 0 10 ∧ m 0 10 ≤ 1) ∧ (0 ≤ m 0 11 ∧ m 0 11 ≤ 1) ∧ (m 0 11 = 0 → m 0 10 = 1 → WbS m)
abbrev FrC (m m' : MM) : Prop := ∀ A i, 143 ≤ A → m' A i = m A i
theorem CI.b {m : MM} (h : CI m) : BodyOK m := h.1
theorem CI.w {m : MM} (h : CI m) : WbOK m 9 := h.2.1
theorem CI.w2 {m : MM} (h : CI m) : WbOK m 14 := h.2.2.1
theorem CI.r {m : MM} (h : CI m) : 0 ≤ m 19 0 ∧ m 19 0 ≤ 8 := h.2.2.2.1
theorem CI.hs {m : MM} (h : CI m) : HsOK m := h.2.2.2.2.1
theorem CI.un {m : MM} (h : CI m) : ∀ o, o < 8 → 0 ≤ m 24 o ∧ m 24 o ≤ 2 := h.2.2.2.2.2.1
theorem CI.ch {m : MM} (h : CI m) : ∀ Q, ChSh Q → ChtOK m Q := h.2.2.2.2.2.2.1
theorem CI.so {m : MM} (h : CI m) : 0 ≤ m 0 10 ∧ m 0 10 ≤ 1 := h.2.2.2.2.2.2.2.1
theorem CI.st {m : MM} (h : CI m) : 0 ≤ m 0 11 ∧ m 0 11 ≤ 1 := h.2.2.2.2.2.2.2.2.1
theorem FrC.rf {m : MM} : FrC m m := fun _ _ _ => rfl
theorem FrC.tr {a b c : MM} (h1 : FrC a b) (h2 : FrC b c) : FrC a c := fun A i e => (h2 A i e).trans (h1 A i e)
end
section
/-! methods known by hand, for Tx -/
section QQ
variable {S : Nat × (Nat → Int32)} {n : Nat} {mem : MM} {K : Int → MM → Prop} {E : Nat → MM → Prop}
theorem f_40q {a b : Int} (H : ∀ r, a ≤ r → b ≤ r → (r = a ∨ r = b) → K r mem) : CQI (Ex S (n + 1)) 40 [.inl a, .inl b] mem K E := CWI.q (Ex.mono S (n + 1)) (f_40 (H _ (by omega) (by omega) (by omega)))
theorem f_29q {a b : Int} (H : ∀ r, r ≤ a → r ≤ b → (r = a ∨ r = b) → K r mem) : CQI (Ex S (n + 1)) 29 [.inl a, .inl b] mem K E := CWI.q (Ex.mono S (n + 1)) (f_29 (H _ (by omega) (by omega) (by omega)))
theorem f_13q {o : Int} (h : 0 ≤ o ∧ o < 8) (H : ∀ r, r = csN mem o.toNat → 0 ≤ r → r ≤ 2 → K r mem) : CQI (Ex S (n + 1)) 13 [.inr 1, .inl o] mem K E := CWI.q (Ex.mono S (n + 1)) (f_13 h (H _ rfl (csN_le _ _).1 (csN_le _ _).2))
theorem f_14q {o k : Int} (ho : 0 ≤ o ∧ o < 8) (hk : 0 ≤ k ∧ k < 2) (H : ∀ r, r = mem 3 (4 * o.toNat + 2 * k.toNat) → K r mem) : CQI (Ex S (n + 1)) 14 [.inr 1, .inl o, .inl k] mem K E := by
  obtain ⟨a, rfl⟩ : ∃ a : Nat, o = a := ⟨o.toNat, by omega⟩
  obtain ⟨b, rfl⟩ : ∃ b : Nat, k = b := ⟨k.toNat, by omega⟩
  exact CWI.q (Ex.mono S (n + 1)) (f_14 (by omega) (by omega) (H _ (by rw [Int.toNat_natCast, Int.toNat_natCast])))
theorem f_15q {o k : Int} (ho : 0 ≤ o ∧ o < 8) (hk : 0 ≤ k ∧ k < 2) (H : ∀ r, r = mem 3 (4 * o.toNat + 2 * k.toNat + 1) → K r mem) : CQI (Ex S (n + 1)) 15 [.inr 1, .inl o, .inl k] mem K E := by
  obtain ⟨a, rfl⟩ : ∃ a : Nat, o = a := ⟨o.toNat, by omega⟩
  obtain ⟨b, rfl⟩ : ∃ b : Nat, k = b := ⟨k.toNat, by omega⟩
  exact CWI.q (Ex.mono S (n + 1)) (f_15 (by omega) (by omega) (H _ (by rw [Int.toNat_natCast, Int.toNat_natCast])))
theorem f_24q {o : Int} (ho : 0 ≤ o ∧ o < 8) (H : ∀ r, r = rowB mem o.toNat → K r mem) : CQI (Ex S (n + 1)) 24 [.inr 1, .inl o] mem K E := by
  obtain ⟨a, rfl⟩ : ∃ a : Nat, o = a := ⟨o.toNat, by omega⟩
  exact CWI.q (Ex.mono S (n + 1)) (f_24 (by omega) (H _ (by rw [Int.toNat_natCast])))
theorem f_25q {o : Int} (ho : 0 ≤ o ∧ o < 8) (H : ∀ r, r = plcB mem o.toNat → K r mem) : CQI (Ex S (n + 1)) 25 [.inr 1, .inl o] mem K E := by
  obtain ⟨a, rfl⟩ : ∃ a : Nat, o = a := ⟨o.toNat, by omega⟩
  exact CWI.q (Ex.mono S (n + 1)) (f_25 (by omega) (H _ (by rw [Int.toNat_natCast])))
theorem f_14s (hB : BodyOK mem) {o k : Int} (ho : 0 ≤ o ∧ o < 8) (hk : 0 ≤ k ∧ k < csN mem o.toNat) (H : ∀ r, r = mem 3 (4 * o.toNat + 2 * k.toNat) → -2 ≤ r → r ≤ 7 → K r mem) : CQI (Ex S (n + 1)) 14 [.inr 1, .inl o, .inl k] mem K E := by
  have hs := hB.src (o := o.toNat) (k := k.toNat) (by omega) (by omega)
  have := csN_le mem o.toNat
  unfold srcOK at hs
  exact f_14q ho (by omega) (fun r e => H r e (by omega) (by omega))
theorem f_15s (hB : BodyOK mem) {o k : Int} (ho : 0 ≤ o ∧ o < 8) (hk : 0 ≤ k ∧ k < csN mem o.toNat) (H : ∀ r, (0 ≤ mem 3 (4 * o.toNat + 2 * k.toNat) → 0 ≤ r ∧ r ≤ 3) → K r mem) : CQI (Ex S (n + 1)) 15 [.inr 1, .inl o, .inl k] mem K E := by
  have hs := hB.src (o := o.toNat) (k := k.toNat) (by omega) (by omega)
  have := csN_le mem o.toNat
  unfold srcOK at hs
  exact f_15q ho (by omega) (fun r e => H r (fun q => by omega))
end QQ
theorem ru_fin {a b z r w : Int} (h1 : 0 < b) (h2 : 0 < a) (e : z = -a) (hz : -2147483647 ≤ z) (ra : b * r ≤ z) (rb : z < b * r + b) (r1 : -2147483648 ≤ r) (r2 : r ≤ 2147483647) (we : -2147483648 ≤ -r ∧ -r ≤ 2147483647 → w = -r) : b * (w - 1) < a ∧ a ≤ b * w ∧ 0 < w := by
  have q : ¬ r = -2147483648 := by
    intro q
    subst q
    omega
  have hw : w = -r := we ⟨by omega, by omega⟩
  subst hw
  have e1 : b * (-r - 1) = -(b * r) - b := by rw [Int.mul_sub, Int.mul_neg, Int.mul_one]
  have e2 : b * -r = -(b * r) := Int.mul_neg _ _
  refine ⟨by omega, by omega, ?_⟩
  rcases Int.le_total (-r) 0 with h | h
  · have : b * -r ≤ b * 0 := Int.mul_le_mul_of_nonneg_left h (by omega)
    omega
  · by_cases z0 : r = 0
    · subst z0; omega
    · omega
end
