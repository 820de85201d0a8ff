/-! the law: its locals, its script -/
def Q1 (r : Rs) (_ : PH) : Prop := r = .inl (some (.int 1))
def LS (lv : LV) (i : Int32) : Prop := px_g lv 0 = some (.retAddr 0) ∧ px_g lv 1 = some (.ref 0) ∧ px_g lv 2 = some (.ref 143) ∧ px_g lv 3 = some (.ref 173) ∧ px_g lv 4 = some (.int i)
theorem LS.st {lv : LV} {i : Int32} {j : Nat} {v : Value} (hj : 4 < j) (h : LS lv i) : LS (px_s1 lv j v) i := ⟨pg_ne2 (by omega) h.1 (fun q => by omega), pg_ne2 (by omega) h.2.1 (fun q => by omega), pg_ne2 (by omega) h.2.2.1 (fun q => by omega), pg_ne2 (by omega) h.2.2.2.1 (fun q => by omega), pg_ne2 (by omega) h.2.2.2.2 (fun _ => rfl)⟩
theorem LS.inc {lv : LV} {i j : Int32} (h : LS lv i) : LS (px_s1 lv 4 (.int j)) j := ⟨pg_ne2 (by omega) h.1 (fun q => by omega), pg_ne2 (by omega) h.2.1 (fun q => by omega), pg_ne2 (by omega) h.2.2.1 (fun q => by omega), pg_ne2 (by omega) h.2.2.2.1 (fun _ => rfl), pg_self _ _ _⟩
theorem sc_load {C : CXW} (hC : Cmono C) {S : Nat × (Nat → Int32)} {M : PM} {hd : List (Nat × Nat × Nat × Int)} {Q : Rs → PH → Prop} {pc : Nat} {lv : LV} {st : List Value} {h : PH} {c s : Nat} {i : Int32} {k : Int} (hl : LS lv i) (t1 : (pT M).find? (fun e => e.1 == pc) = some (pc, .aload_n 0, 0, 0)) (t2 : (pT M).find? (fun e => e.1 == pc + 1) = some (pc + 1, .iload 4, 0, 0)) (t3 : (pT M).find? (fun e => e.1 == pc + 3) = some (pc + 3, .iconst k, 0, 0)) (t4 : (pT M).find? (fun e => e.1 == pc + 4) = some (pc + 4, .iadd, 0, 0)) (t5 : (pT M).find? (fun e => e.1 == pc + 5) = some (pc + 5, .iaload, 0, 0)) (hr : vp_in (i + Int32.ofInt k) S.1) (H : Vx C S M hd Q (pc + 6) lv (.int (S.2 (i + Int32.ofInt k).toNatClampNeg) :: st) h c s) : Vx C S M hd Q pc lv st h c s :=
  Vx.go hC t1 ⟨_, hl.1, ⟨0, Or.inr rfl⟩, Vx.go hC t2 ⟨_, hl.2.2.2.2, Vx.go hC t3 (Vx.go hC t4 (Vx.go hC t5 ⟨hr, H⟩))⟩⟩
theorem sc_in {S : Nat × (Nat → Int32)} {i : Int32} {k : Int} (hS : S.1 ≤ 3072) (hi : 0 ≤ i.toInt ∧ i.toInt + 5 < S.1) (hk : 0 ≤ k ∧ k ≤ 5) : vp_in (i + Int32.ofInt k) S.1 := by
  have e : (i + Int32.ofInt k).toInt = i.toInt + k := by
    rw [show i + Int32.ofInt k = Int32.ofInt (i.toInt + k) by rw [Int32.ofInt_add, Int32.ofInt_toInt]]
    exact wi (by unfold InI; omega)
  exact vp_in_iff.mpr (by rw [e]; omega)
