/-! what the class's methods need: frames, charts, what holds of the class between calls -/
theorem tmo_b {x y : Int} (hy : 0 < y) : ((0 ≤ x → 0 ≤ x.tmod y ∧ x.tmod y < y ∧ x.tmod y ≤ x) ∧ (x ≤ 0 → x.tmod y ≤ 0)) ∧ -y < x.tmod y ∧ x.tmod y < y := by
  have a := Int.tmod_lt_of_pos x hy
  have b : -y < x.tmod y := by
    rcases Int.le_total 0 x with h | h
    · have := Int.tmod_nonneg y h; omega
    · have := Int.tmod_lt_of_pos (-x) hy
      rw [Int.neg_tmod] at this; omega
  refine ⟨⟨fun h => ?_, fun h => ?_⟩, b, a⟩
  · have h1 := Int.tmod_nonneg y h
    refine ⟨h1, a, ?_⟩
    have h2 := Int.tmod_def x y
    have h3 : 0 ≤ x.tdiv y := Int.tdiv_nonneg h (by omega)
    have h4 : 0 ≤ y * x.tdiv y := Int.mul_nonneg (by omega) h3
    omega
  · have h1 := Int.tmod_nonneg y (show 0 ≤ -x by omega)
    rw [Int.neg_tmod] at h1; omega
theorem tdv_b {x y z : Int} (hy : 0 < y) (e : z = x.tdiv y) : (0 ≤ x → 0 ≤ z ∧ z ≤ x ∧ 0 ≤ y * z ∧ y * z ≤ x ∧ x < y * z + y) ∧ (x ≤ 0 → z ≤ 0 ∧ x ≤ z ∧ x ≤ y * z ∧ y * z ≤ 0 ∧ y * z - y < x) := by
  have h := Int.tmod_def x y
  rw [← e] at h
  have b := tmo_b (x := x) hy
  refine ⟨fun h0 => ?_, fun h0 => ?_⟩
  · have h3 : 0 ≤ z := by rw [e]; exact Int.tdiv_nonneg h0 (by omega)
    have h4 : 0 ≤ y * z := Int.mul_nonneg (by omega) h3
    have h5 : z ≤ y * z := by
      have : 1 * z ≤ y * z := Int.mul_le_mul_of_nonneg_right (by omega) h3
      omega
    have := b.1.1 h0
    omega
  · have h3 : 0 ≤ -z := by rw [e, ← Int.neg_tdiv]; exact Int.tdiv_nonneg (by omega) (by omega)
    have h4 : 0 ≤ y * -z := Int.mul_nonneg (by omega) h3
    rw [Int.mul_neg] at h4
    have h5 : -z ≤ y * -z := by
      have : 1 * -z ≤ y * -z := Int.mul_le_mul_of_nonneg_right (by omega) h3
      omega
    rw [Int.mul_neg] at h5
    have := b.1.2 h0
    omega
theorem Tx.iremW {C : CXW} {S : Nat × (Nat → Int32)} {M : PM} {K : TK} {c s pc : Nat} {L : List (Option WV)} {st : List WV} {mem : MM} (hC : Cmono C) {a b : Nat} {x y : Int} (ht : (pT M).find? (fun e => e.1 == pc) = some (pc, .irem, a, b)) (hy : 0 < y) (H : ∀ z, InI z → z = x.tmod y → (((0 ≤ x → 0 ≤ z ∧ z < y ∧ z ≤ x) ∧ (x ≤ 0 → z ≤ 0)) ∧ -y < z ∧ z < y) → Tx C S M K c s (pc + 1) L (.inl z :: st) mem) : Tx C S M K c s pc L (.inl y :: .inl x :: st) mem := fun h0 lv h h9 h1 h2 h3 => by
  have hb := tmo_b (x := x) hy
  have iy : InI y := h2 _ List.mem_cons_self
  exact Tx.irem hC ht hy (H _ (by unfold InI at iy ⊢; omega) rfl hb) h0 lv h h9 h1 h2 h3
theorem Tx.idivW {C : CXW} {S : Nat × (Nat → Int32)} {M : PM} {K : TK} {c s pc : Nat} {L : List (Option WV)} {st : List WV} {mem : MM} (hC : Cmono C) {a b : Nat} {x y : Int} (ht : (pT M).find? (fun e => e.1 == pc) = some (pc, .idiv, a, b)) (hy : 0 < y) (H : ∀ z, InI z → z = x.tdiv y → ((0 ≤ x → 0 ≤ z ∧ z ≤ x) ∧ (x ≤ 0 → z ≤ 0 ∧ x ≤ z)) → Tx C S M K c s (pc + 1) L (.inl z :: st) mem) : Tx C S M K c s pc L (.inl y :: .inl x :: st) mem := fun h0 lv h h9 h1 h2 h3 => by
  have hb := tdv_b (x := x) hy rfl
  have ix : InI x := h2 _ (List.mem_cons_of_mem _ List.mem_cons_self)
  exact Tx.idiv hC ht hy (H _ (by unfold InI at ix ⊢; omega) rfl ⟨fun q => ⟨(hb.1 q).1, (hb.1 q).2.1⟩, fun q => ⟨(hb.2 q).1, (hb.2 q).2.1⟩⟩) h0 lv h h9 h1 h2 h3
theorem neg_msb (w : Int32) : w.toInt < 0 ↔ w.toBitVec.msb = true := by
  rw [BitVec.msb_eq_toInt, decide_eq_true_iff]
  exact Iff.rfl
theorem xor_neg {x y z : Int} (hx : InI x) (hy : InI y) (h0 : 0 < y) (e : z = ((fun (x y : Int32) => x ^^^ y) (Int32.ofInt x) (Int32.ofInt y)).toInt) : z < 0 ↔ x < 0 := by
  have hy2 : (Int32.ofInt y).toBitVec.msb = false := by
    cases q : (Int32.ofInt y).toBitVec.msb with
    | false => rfl
    | true =>
      have := (neg_msb _).mpr q
      rw [wi hy] at this
      omega
  rw [e, neg_msb]
  show ((Int32.ofInt x).toBitVec ^^^ (Int32.ofInt y).toBitVec).msb = true ↔ _
  rw [BitVec.msb_xor, hy2, Bool.xor_false, ← neg_msb, wi hx]
/-- what may have been written -/
def Frm (P : Nat → Nat → Prop) (m m' : MM) : Prop := ∀ A i, ¬ P A i → m' A i = m A i
theorem Frm.rf {P : Nat → Nat → Prop} {m : MM} : Frm P m m := fun _ _ _ => rfl
theorem Frm.tr {P : Nat → Nat → Prop} {a b c : MM} (h1 : Frm P a b) (h2 : Frm P b c) : Frm P a c := fun A i e => (h2 A i e).trans (h1 A i e)
theorem Frm.up {P : Nat → Nat → Prop} {m m1 : MM} {A i : Nat} {x : Int} (h : Frm P m m1) (q : P A i) : Frm P m (upm m1 A i x) := fun B j e => by
  rw [upm_ne (fun w => e (by rw [w.1, w.2]; exact q))]; exact h B j e
theorem Frm.mono {P P' : Nat → Nat → Prop} {m m' : MM} (h : Frm P m m') (q : ∀ A i, P A i → P' A i) : Frm P' m m' := fun A i e => h A i (fun w => e (q A i w))
/-- a chart -/
def ChSh (Q : Nat) : Prop := (∃ k, k < 13 ∧ Q = 38 + 7 * k) ∧ shA Q = some (.inr (1, [none, none, none, none, none, none, none, none, some (Q + 1), some (Q + 2), some (Q + 3), some (Q + 4), some (Q + 5), some (Q + 6)])) ∧ shA (Q + 1) = some (.inl 8) ∧ shA (Q + 2) = some (.inl 8) ∧ shA (Q + 3) = some (.inl 8) ∧ shA (Q + 4) = some (.inl 8) ∧ shA (Q + 5) = some (.inl 8) ∧ shA (Q + 6) = some (.inl 8)
theorem ChSh.of {k : Nat} (h : k < 13) : ChSh (38 + 7 * k) := by
  refine ⟨⟨k, h, rfl⟩, ?_⟩
  have a : k = 0 ∨ k = 1 ∨ k = 2 ∨ k = 3 ∨ k = 4 ∨ k = 5 ∨ k = 6 ∨ k = 7 ∨ k = 8 ∨ k = 9 ∨ k = 10 ∨ k = 11 ∨ k = 12 := by omega
  rcases a with a | a | a | a | a | a | a | a | a | a | a | a | a <;> subst a <;> exact ⟨rfl, rfl, rfl, rfl, rfl, rfl, rfl⟩
theorem ChSh.mk {Q : Nat} {i : Int} (e : Q = 38 + 7 * i.toNat) (h : 0 ≤ i ∧ i < 13) : ChSh Q := by
  rw [e]; exact ChSh.of (by omega)
theorem ChSh.s0 {Q : Nat} (h : ChSh Q) : shA Q = some (.inr (1, [none, none, none, none, none, none, none, none, some (Q + 1), some (Q + 2), some (Q + 3), some (Q + 4), some (Q + 5), some (Q + 6)])) := h.2.1
theorem ChSh.s1 {Q : Nat} (h : ChSh Q) : shA (Q + 1) = some (.inl 8) := h.2.2.1
theorem ChSh.s2 {Q : Nat} (h : ChSh Q) : shA (Q + 2) = some (.inl 8) := h.2.2.2.1
theorem ChSh.s3 {Q : Nat} (h : ChSh Q) : shA (Q + 3) = some (.inl 8) := h.2.2.2.2.1
theorem ChSh.s4 {Q : Nat} (h : ChSh Q) : shA (Q + 4) = some (.inl 8) := h.2.2.2.2.2.1
theorem ChSh.s5 {Q : Nat} (h : ChSh Q) : shA (Q + 5) = some (.inl 8) := h.2.2.2.2.2.2.1
theorem ChSh.s6 {Q : Nat} (h : ChSh Q) : shA (Q + 6) = some (.inl 8) := h.2.2.2.2.2.2.2
theorem rowP {R : Nat} {i : Int} (e : R = 136 + i.toNat) (h : 0 ≤ i ∧ i < 2) : shA R = some (.inl 64) := by
  have a : i.toNat = 0 ∨ i.toNat = 1 := by omega
  rcases a with a | a <;> rw [e, a] <;> rfl
def ChtOK (m : MM) (Q : Nat) : Prop := ((0 ≤ m Q 2 ∧ m Q 2 ≤ 8) ∧ (1 ≤ m Q 3 ∧ m Q 3 ≤ 12) ∧ 0 ≤ m Q 1 ∧ m Q 1 ≤ 1) ∧ ∀ o, o < 8 → (0 ≤ m (Q + 1) o ∧ m (Q + 1) o ≤ 11) ∧ (0 ≤ m (Q + 2) o ∧ m (Q + 2) o ≤ 11000) ∧ 0 ≤ m (Q + 3) o ∧ m (Q + 3) o ≤ 11010
theorem ChtOK.fr {m m' : MM} {Q : Nat} (h : ChtOK m Q) (e : ∀ A i, Q ≤ A → A ≤ Q + 3 → m' A i = m A i) : ChtOK m' Q := by
  refine ⟨?_, fun o ho => ?_⟩
  · rw [e Q 1 (by omega) (by omega), e Q 2 (by omega) (by omega), e Q 3 (by omega) (by omega)]; exact h.1
  · rw [e (Q + 1) o (by omega) (by omega), e (Q + 2) o (by omega) (by omega), e (Q + 3) o (by omega) (by omega)]; exact h.2 o ho
theorem BodyOK.kd {m : MM} (h : BodyOK m) {o : Nat} (ho : o < 8) : 0 ≤ m 2 o ∧ m 2 o ≤ 5 := (h.2.1 o ho).1
theorem BodyOK.un {m : MM} (h : BodyOK m) {o : Nat} (ho : o < 6) : 0 ≤ m 5 o ∧ m 5 o ≤ 2 := h.2.2.1 o ho
theorem BodyOK.la {m : MM} (h : BodyOK m) {o : Nat} (ho : o < 6) : 1 ≤ m 6 o ∧ m 6 o ≤ 6 := h.2.2.2.1 o ho
theorem BodyOK.bu {m : MM} (h : BodyOK m) {o : Nat} (ho : o < 6) : 1 ≤ m 7 o ∧ m 7 o ≤ 15 := h.2.2.2.2.1 o ho
theorem BodyOK.cn {m : MM} (h : BodyOK m) {o : Nat} (ho : o < 3) : 1 ≤ m 8 o ∧ m 8 o ≤ 3 := h.2.2.2.2.2 o ho
/-- needs lead from op to op -/
def WbS (m : MM) : Prop := ∀ j : Nat, (j : Int) < m 9 0 → m 10 j < m 1 0 ∧ m 11 j < m 1 0
/-- the class between calls -/
def CI (m : MM) : Prop := BodyOK m ∧ WbOK m 9 ∧ WbOK m 14 ∧ (0 ≤ m 19 0 ∧ m 19 0 ≤ 8) ∧ HsOK m ∧ (∀ o, o < 8 → 0 ≤ m 24 o ∧ m 24 o ≤ 2) ∧ (∀ Q, ChSh Q → ChtOK m Q) ∧ (0 ≤ m 0 10 ∧ m 0 10 ≤ 1) ∧ (0 ≤ m 0 11 ∧ m 0 11 ≤ 1) ∧ (m 0 11 = 0 → m 0 10 = 1 → WbS m)
/-- the class writes its own cells alone -/
abbrev FrC (m m' : MM) : Prop := ∀ A i, 143 ≤ A → m' A i = m A i
theorem CI.b {m : MM} (h : CI m) : BodyOK m := h.1
theorem CI.w {m : MM} (h : CI m) : WbOK m 9 := h.2.1
theorem CI.w2 {m : MM} (h : CI m) : WbOK m 14 := h.2.2.1
theorem CI.r {m : MM} (h : CI m) : 0 ≤ m 19 0 ∧ m 19 0 ≤ 8 := h.2.2.2.1
theorem CI.hs {m : MM} (h : CI m) : HsOK m := h.2.2.2.2.1
theorem CI.un {m : MM} (h : CI m) : ∀ o, o < 8 → 0 ≤ m 24 o ∧ m 24 o ≤ 2 := h.2.2.2.2.2.1
theorem CI.ch {m : MM} (h : CI m) : ∀ Q, ChSh Q → ChtOK m Q := h.2.2.2.2.2.2.1
theorem CI.so {m : MM} (h : CI m) : 0 ≤ m 0 10 ∧ m 0 10 ≤ 1 := h.2.2.2.2.2.2.2.1
theorem CI.st {m : MM} (h : CI m) : 0 ≤ m 0 11 ∧ m 0 11 ≤ 1 := h.2.2.2.2.2.2.2.2.1
theorem CI.ws {m : MM} (h : CI m) : m 0 11 = 0 → m 0 10 = 1 → WbS m := h.2.2.2.2.2.2.2.2.2
theorem FrC.rf {m : MM} : FrC m m := fun _ _ _ => rfl
theorem FrC.tr {a b c : MM} (h1 : FrC a b) (h2 : FrC b c) : FrC a c := fun A i e => (h2 A i e).trans (h1 A i e)
