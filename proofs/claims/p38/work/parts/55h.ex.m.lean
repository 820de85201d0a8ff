section
/-! laid by wip/hand/tg.py: op and uses on both sides -/
def popI (x : Int) : Int := x % 2 + x / 2 % 2 + x / 4 % 2 + x / 8 % 2
def usN (f g : Nat → Int) (u : Int) : Nat → Int
  | 0 => 0
  | n + 1 => usN f g u n + if f n = u then popI (g n) else 0
theorem popI_rg {x : Int} : 0 ≤ popI x ∧ popI x ≤ 4 := by unfold popI; omega
theorem usN_rg {f g : Nat → Int} {u : Int} : ∀ n : Nat, 0 ≤ usN f g u n ∧ usN f g u n ≤ 4 * n
  | 0 => by unfold usN; omega
  | n + 1 => by
    have := usN_rg (f := f) (g := g) (u := u) n
    have := popI_rg (x := g n)
    unfold usN
    split <;> omega
theorem usN_eq {f g f2 g2 : Nat → Int} {u : Int} : ∀ n : Nat, (∀ o, o < n → f o = f2 o ∧ g o = g2 o) → usN f g u n = usN f2 g2 u n
  | 0, _ => rfl
  | n + 1, h => by
    unfold usN
    rw [usN_eq n (fun o ho => h o (by omega)), (h n (by omega)).1, (h n (by omega)).2]
def cUn (m : MM) (o : Nat) : Int := m 5 (m 2 o).toNat
def cBu (m : MM) (o : Nat) : Int := m 7 (m 2 o).toNat
def cLa (m : MM) (o : Nat) : Int := m 6 (m 2 o).toNat
def rUn (m : MM) (o : Nat) : Int := m 150 (m 144 o).toNat
def rBu (m : MM) (o : Nat) : Int := m 152 (m 144 o).toNat
theorem RelB.un {m : MM} (h : RelB m) (hB : BodyOK m) {o : Nat} (ho : o < 8) : cUn m o = rUn m o ∧ cBu m o = rBu m o ∧ cLa m o = latF m o := by
  have q := (h.2.1 o ho).1
  have k := hB.kd ho
  have w := h.2.2.1 (m 2 o).toNat (by omega)
  unfold cUn rUn cBu rBu cLa latF
  rw [← q]
  exact ⟨w.1, w.2.2, w.2.1⟩
def usC (m : MM) (u : Int) : Int := usN (cUn m) (cBu m) u (m 1 0).toNat
def usR (m : MM) (u : Int) : Int := usN (rUn m) (rBu m) u (m 143 1).toNat
theorem RelB.uses {m : MM} (h : RelB m) (hB : BodyOK m) (u : Int) : usC m u = usR m u := by
  unfold usC usR
  rw [← h.1]
  have := hB.1
  exact usN_eq _ (fun o ho => ⟨(h.un hB (by omega)).1, (h.un hB (by omega)).2.1⟩)
theorem and1 (x y : Int) (hx : 0 ≤ x ∧ x ≤ 15) (hy : y = x - 1) (b : Int) (hb : b = ((fun (x y : Int32) => x &&& y) (Int32.ofInt x) (Int32.ofInt y)).toInt) (h1 : 1 ≤ x) : popI b = popI x - 1 ∧ 0 ≤ b ∧ b < x := by
  subst hy
  subst hb
  have a : x = 1 ∨ x = 2 ∨ x = 3 ∨ x = 4 ∨ x = 5 ∨ x = 6 ∨ x = 7 ∨ x = 8 ∨ x = 9 ∨ x = 10 ∨ x = 11 ∨ x = 12 ∨ x = 13 ∨ x = 14 ∨ x = 15 := by omega
  clear hx h1
  rcases a with rfl | rfl | rfl | rfl | rfl | rfl | rfl | rfl | rfl | rfl | rfl | rfl | rfl | rfl | rfl <;> decide
theorem usN_st {f g : Nat → Int} {u o : Int} (h : 0 ≤ o) : usN f g u (o + 1).toNat = usN f g u o.toNat + if f o.toNat = u then popI (g o.toNat) else 0 := by
  rw [show (o + 1).toNat = o.toNat + 1 by omega]
  rfl
theorem f_39_0 {S : Nat × (Nat → Int32)} {n : Nat} {mem : MM} {K : Int → MM → Prop} {E : Nat → MM → Prop} (H : K 0 mem) : CQI (Ex S (n + 1)) 39 [.inl 0] mem K E := by
  refine CY.of (k := 0) mt_39 rfl rfl (fun _ => ?_)
  have hC := Ex.mono S n
  show Tx (Ex S n) S M_39 (kI K E) 0 0 0 [some (.inl 0)] [] mem
  refine Tx.iload_n hC te_39_0 rfl ?_
  refine Tx.iload_n hC te_39_1 rfl ?_
  refine Tx.iconst hC te_39_2 rfl ?_
  refine Tx.bits hC (f := (fun (x y : Int32) => (x.toUInt32 >>> (y.toUInt32 &&& Int32.toUInt32 31)).toInt32)) te_39_3 (fun _ _ _ _ => Iff.rfl) (fun b1 b1e _ => ?_)
  have b1v : b1 = 0 := b1e.trans (by decide)
  subst b1v
  refine Tx.ldc_w hC (z := 1431655765) te_39_4 rfl rfl rfl rfl ?_
  refine Tx.bits hC (f := (fun (x y : Int32) => x &&& y)) te_39_7 (fun _ _ _ _ => Iff.rfl) (fun b2 b2e _ => ?_)
  have b2v : b2 = 0 := b2e.trans (by decide)
  subst b2v
  refine Tx.isubW hC te_39_8 (fun b3 _ b3e => ?_)
  have b3v : b3 = 0 := b3e (by unfold InI; omega)
  subst b3v
  refine Tx.istore_n hC te_39_9 rfl ?_
  refine Tx.iload_n hC te_39_10 rfl ?_
  refine Tx.ldc_w hC (z := 858993459) te_39_11 rfl rfl rfl rfl ?_
  refine Tx.bits hC (f := (fun (x y : Int32) => x &&& y)) te_39_14 (fun _ _ _ _ => Iff.rfl) (fun b4 b4e _ => ?_)
  have b4v : b4 = 0 := b4e.trans (by decide)
  subst b4v
  refine Tx.iload_n hC te_39_15 rfl ?_
  refine Tx.iconst hC te_39_16 rfl ?_
  refine Tx.bits hC (f := (fun (x y : Int32) => (x.toUInt32 >>> (y.toUInt32 &&& Int32.toUInt32 31)).toInt32)) te_39_17 (fun _ _ _ _ => Iff.rfl) (fun b5 b5e _ => ?_)
  have b5v : b5 = 0 := b5e.trans (by decide)
  subst b5v
  refine Tx.ldc_w hC (z := 858993459) te_39_18 rfl rfl rfl rfl ?_
  refine Tx.bits hC (f := (fun (x y : Int32) => x &&& y)) te_39_21 (fun _ _ _ _ => Iff.rfl) (fun b6 b6e _ => ?_)
  have b6v : b6 = 0 := b6e.trans (by decide)
  subst b6v
  refine Tx.iaddW hC te_39_22 (fun b7 _ b7e => ?_)
  have b7v : b7 = 0 := b7e (by unfold InI; omega)
  subst b7v
  refine Tx.istore_n hC te_39_23 rfl ?_
  refine Tx.iload_n hC te_39_24 rfl ?_
  refine Tx.iload_n hC te_39_25 rfl ?_
  refine Tx.iconst hC te_39_26 rfl ?_
  refine Tx.bits hC (f := (fun (x y : Int32) => (x.toUInt32 >>> (y.toUInt32 &&& Int32.toUInt32 31)).toInt32)) te_39_27 (fun _ _ _ _ => Iff.rfl) (fun b8 b8e _ => ?_)
  have b8v : b8 = 0 := b8e.trans (by decide)
  subst b8v
  refine Tx.iaddW hC te_39_28 (fun b9 _ b9e => ?_)
  have b9v : b9 = 0 := b9e (by unfold InI; omega)
  subst b9v
  refine Tx.ldc_w hC (z := 252645135) te_39_29 rfl rfl rfl rfl ?_
  refine Tx.bits hC (f := (fun (x y : Int32) => x &&& y)) te_39_32 (fun _ _ _ _ => Iff.rfl) (fun b10 b10e _ => ?_)
  have b10v : b10 = 0 := b10e.trans (by decide)
  subst b10v
  refine Tx.istore_n hC te_39_33 rfl ?_
  refine Tx.iload_n hC te_39_34 rfl ?_
  refine Tx.iload_n hC te_39_35 rfl ?_
  refine Tx.bipush hC te_39_36 rfl rfl ?_
  refine Tx.bits hC (f := (fun (x y : Int32) => (x.toUInt32 >>> (y.toUInt32 &&& Int32.toUInt32 31)).toInt32)) te_39_38 (fun _ _ _ _ => Iff.rfl) (fun b11 b11e _ => ?_)
  have b11v : b11 = 0 := b11e.trans (by decide)
  subst b11v
  refine Tx.iaddW hC te_39_39 (fun b12 _ b12e => ?_)
  have b12v : b12 = 0 := b12e (by unfold InI; omega)
  subst b12v
  refine Tx.istore_n hC te_39_40 rfl ?_
  refine Tx.iload_n hC te_39_41 rfl ?_
  refine Tx.iload_n hC te_39_42 rfl ?_
  refine Tx.bipush hC te_39_43 rfl rfl ?_
  refine Tx.bits hC (f := (fun (x y : Int32) => (x.toUInt32 >>> (y.toUInt32 &&& Int32.toUInt32 31)).toInt32)) te_39_45 (fun _ _ _ _ => Iff.rfl) (fun b13 b13e _ => ?_)
  have b13v : b13 = 0 := b13e.trans (by decide)
  subst b13v
  refine Tx.iaddW hC te_39_46 (fun b14 _ b14e => ?_)
  have b14v : b14 = 0 := b14e (by unfold InI; omega)
  subst b14v
  refine Tx.istore_n hC te_39_47 rfl ?_
  refine Tx.iload_n hC te_39_48 rfl ?_
  refine Tx.bipush hC te_39_49 rfl rfl ?_
  refine Tx.bits hC (f := (fun (x y : Int32) => x &&& y)) te_39_51 (fun _ _ _ _ => Iff.rfl) (fun b15 b15e _ => ?_)
  have b15v : b15 = 0 := b15e.trans (by decide)
  subst b15v
  exact Tx.ireturn hC te_39_52 rfl (fun _ => H)
theorem f_39_1 {S : Nat × (Nat → Int32)} {n : Nat} {mem : MM} {K : Int → MM → Prop} {E : Nat → MM → Prop} (H : K 1 mem) : CQI (Ex S (n + 1)) 39 [.inl 1] mem K E := by
  refine CY.of (k := 0) mt_39 rfl rfl (fun _ => ?_)
  have hC := Ex.mono S n
  show Tx (Ex S n) S M_39 (kI K E) 0 0 0 [some (.inl 1)] [] mem
  refine Tx.iload_n hC te_39_0 rfl ?_
  refine Tx.iload_n hC te_39_1 rfl ?_
  refine Tx.iconst hC te_39_2 rfl ?_
  refine Tx.bits hC (f := (fun (x y : Int32) => (x.toUInt32 >>> (y.toUInt32 &&& Int32.toUInt32 31)).toInt32)) te_39_3 (fun _ _ _ _ => Iff.rfl) (fun b1 b1e _ => ?_)
  have b1v : b1 = 0 := b1e.trans (by decide)
  subst b1v
  refine Tx.ldc_w hC (z := 1431655765) te_39_4 rfl rfl rfl rfl ?_
  refine Tx.bits hC (f := (fun (x y : Int32) => x &&& y)) te_39_7 (fun _ _ _ _ => Iff.rfl) (fun b2 b2e _ => ?_)
  have b2v : b2 = 0 := b2e.trans (by decide)
  subst b2v
  refine Tx.isubW hC te_39_8 (fun b3 _ b3e => ?_)
  have b3v : b3 = 1 := b3e (by unfold InI; omega)
  subst b3v
  refine Tx.istore_n hC te_39_9 rfl ?_
  refine Tx.iload_n hC te_39_10 rfl ?_
  refine Tx.ldc_w hC (z := 858993459) te_39_11 rfl rfl rfl rfl ?_
  refine Tx.bits hC (f := (fun (x y : Int32) => x &&& y)) te_39_14 (fun _ _ _ _ => Iff.rfl) (fun b4 b4e _ => ?_)
  have b4v : b4 = 1 := b4e.trans (by decide)
  subst b4v
  refine Tx.iload_n hC te_39_15 rfl ?_
  refine Tx.iconst hC te_39_16 rfl ?_
  refine Tx.bits hC (f := (fun (x y : Int32) => (x.toUInt32 >>> (y.toUInt32 &&& Int32.toUInt32 31)).toInt32)) te_39_17 (fun _ _ _ _ => Iff.rfl) (fun b5 b5e _ => ?_)
  have b5v : b5 = 0 := b5e.trans (by decide)
  subst b5v
  refine Tx.ldc_w hC (z := 858993459) te_39_18 rfl rfl rfl rfl ?_
  refine Tx.bits hC (f := (fun (x y : Int32) => x &&& y)) te_39_21 (fun _ _ _ _ => Iff.rfl) (fun b6 b6e _ => ?_)
  have b6v : b6 = 0 := b6e.trans (by decide)
  subst b6v
  refine Tx.iaddW hC te_39_22 (fun b7 _ b7e => ?_)
  have b7v : b7 = 1 := b7e (by unfold InI; omega)
  subst b7v
  refine Tx.istore_n hC te_39_23 rfl ?_
  refine Tx.iload_n hC te_39_24 rfl ?_
  refine Tx.iload_n hC te_39_25 rfl ?_
  refine Tx.iconst hC te_39_26 rfl ?_
  refine Tx.bits hC (f := (fun (x y : Int32) => (x.toUInt32 >>> (y.toUInt32 &&& Int32.toUInt32 31)).toInt32)) te_39_27 (fun _ _ _ _ => Iff.rfl) (fun b8 b8e _ => ?_)
  have b8v : b8 = 0 := b8e.trans (by decide)
  subst b8v
  refine Tx.iaddW hC te_39_28 (fun b9 _ b9e => ?_)
  have b9v : b9 = 1 := b9e (by unfold InI; omega)
  subst b9v
  refine Tx.ldc_w hC (z := 252645135) te_39_29 rfl rfl rfl rfl ?_
  refine Tx.bits hC (f := (fun (x y : Int32) => x &&& y)) te_39_32 (fun _ _ _ _ => Iff.rfl) (fun b10 b10e _ => ?_)
  have b10v : b10 = 1 := b10e.trans (by decide)
  subst b10v
  refine Tx.istore_n hC te_39_33 rfl ?_
  refine Tx.iload_n hC te_39_34 rfl ?_
  refine Tx.iload_n hC te_39_35 rfl ?_
  refine Tx.bipush hC te_39_36 rfl rfl ?_
  refine Tx.bits hC (f := (fun (x y : Int32) => (x.toUInt32 >>> (y.toUInt32 &&& Int32.toUInt32 31)).toInt32)) te_39_38 (fun _ _ _ _ => Iff.rfl) (fun b11 b11e _ => ?_)
  have b11v : b11 = 0 := b11e.trans (by decide)
  subst b11v
  refine Tx.iaddW hC te_39_39 (fun b12 _ b12e => ?_)
  have b12v : b12 = 1 := b12e (by unfold InI; omega)
  subst b12v
  refine Tx.istore_n hC te_39_40 rfl ?_
  refine Tx.iload_n hC te_39_41 rfl ?_
  refine Tx.iload_n hC te_39_42 rfl ?_
  refine Tx.bipush hC te_39_43 rfl rfl ?_
  refine Tx.bits hC (f := (fun (x y : Int32) => (x.toUInt32 >>> (y.toUInt32 &&& Int32.toUInt32 31)).toInt32)) te_39_45 (fun _ _ _ _ => Iff.rfl) (fun b13 b13e _ => ?_)
  have b13v : b13 = 0 := b13e.trans (by decide)
  subst b13v
  refine Tx.iaddW hC te_39_46 (fun b14 _ b14e => ?_)
  have b14v : b14 = 1 := b14e (by unfold InI; omega)
  subst b14v
  refine Tx.istore_n hC te_39_47 rfl ?_
  refine Tx.iload_n hC te_39_48 rfl ?_
  refine Tx.bipush hC te_39_49 rfl rfl ?_
  refine Tx.bits hC (f := (fun (x y : Int32) => x &&& y)) te_39_51 (fun _ _ _ _ => Iff.rfl) (fun b15 b15e _ => ?_)
  have b15v : b15 = 1 := b15e.trans (by decide)
  subst b15v
  exact Tx.ireturn hC te_39_52 rfl (fun _ => H)
theorem f_39_2 {S : Nat × (Nat → Int32)} {n : Nat} {mem : MM} {K : Int → MM → Prop} {E : Nat → MM → Prop} (H : K 1 mem) : CQI (Ex S (n + 1)) 39 [.inl 2] mem K E := by
  refine CY.of (k := 0) mt_39 rfl rfl (fun _ => ?_)
  have hC := Ex.mono S n
  show Tx (Ex S n) S M_39 (kI K E) 0 0 0 [some (.inl 2)] [] mem
  refine Tx.iload_n hC te_39_0 rfl ?_
  refine Tx.iload_n hC te_39_1 rfl ?_
  refine Tx.iconst hC te_39_2 rfl ?_
  refine Tx.bits hC (f := (fun (x y : Int32) => (x.toUInt32 >>> (y.toUInt32 &&& Int32.toUInt32 31)).toInt32)) te_39_3 (fun _ _ _ _ => Iff.rfl) (fun b1 b1e _ => ?_)
  have b1v : b1 = 1 := b1e.trans (by decide)
  subst b1v
  refine Tx.ldc_w hC (z := 1431655765) te_39_4 rfl rfl rfl rfl ?_
  refine Tx.bits hC (f := (fun (x y : Int32) => x &&& y)) te_39_7 (fun _ _ _ _ => Iff.rfl) (fun b2 b2e _ => ?_)
  have b2v : b2 = 1 := b2e.trans (by decide)
  subst b2v
  refine Tx.isubW hC te_39_8 (fun b3 _ b3e => ?_)
  have b3v : b3 = 1 := b3e (by unfold InI; omega)
  subst b3v
  refine Tx.istore_n hC te_39_9 rfl ?_
  refine Tx.iload_n hC te_39_10 rfl ?_
  refine Tx.ldc_w hC (z := 858993459) te_39_11 rfl rfl rfl rfl ?_
  refine Tx.bits hC (f := (fun (x y : Int32) => x &&& y)) te_39_14 (fun _ _ _ _ => Iff.rfl) (fun b4 b4e _ => ?_)
  have b4v : b4 = 1 := b4e.trans (by decide)
  subst b4v
  refine Tx.iload_n hC te_39_15 rfl ?_
  refine Tx.iconst hC te_39_16 rfl ?_
  refine Tx.bits hC (f := (fun (x y : Int32) => (x.toUInt32 >>> (y.toUInt32 &&& Int32.toUInt32 31)).toInt32)) te_39_17 (fun _ _ _ _ => Iff.rfl) (fun b5 b5e _ => ?_)
  have b5v : b5 = 0 := b5e.trans (by decide)
  subst b5v
  refine Tx.ldc_w hC (z := 858993459) te_39_18 rfl rfl rfl rfl ?_
  refine Tx.bits hC (f := (fun (x y : Int32) => x &&& y)) te_39_21 (fun _ _ _ _ => Iff.rfl) (fun b6 b6e _ => ?_)
  have b6v : b6 = 0 := b6e.trans (by decide)
  subst b6v
  refine Tx.iaddW hC te_39_22 (fun b7 _ b7e => ?_)
  have b7v : b7 = 1 := b7e (by unfold InI; omega)
  subst b7v
  refine Tx.istore_n hC te_39_23 rfl ?_
  refine Tx.iload_n hC te_39_24 rfl ?_
  refine Tx.iload_n hC te_39_25 rfl ?_
  refine Tx.iconst hC te_39_26 rfl ?_
  refine Tx.bits hC (f := (fun (x y : Int32) => (x.toUInt32 >>> (y.toUInt32 &&& Int32.toUInt32 31)).toInt32)) te_39_27 (fun _ _ _ _ => Iff.rfl) (fun b8 b8e _ => ?_)
  have b8v : b8 = 0 := b8e.trans (by decide)
  subst b8v
  refine Tx.iaddW hC te_39_28 (fun b9 _ b9e => ?_)
  have b9v : b9 = 1 := b9e (by unfold InI; omega)
  subst b9v
  refine Tx.ldc_w hC (z := 252645135) te_39_29 rfl rfl rfl rfl ?_
  refine Tx.bits hC (f := (fun (x y : Int32) => x &&& y)) te_39_32 (fun _ _ _ _ => Iff.rfl) (fun b10 b10e _ => ?_)
  have b10v : b10 = 1 := b10e.trans (by decide)
  subst b10v
  refine Tx.istore_n hC te_39_33 rfl ?_
  refine Tx.iload_n hC te_39_34 rfl ?_
  refine Tx.iload_n hC te_39_35 rfl ?_
  refine Tx.bipush hC te_39_36 rfl rfl ?_
  refine Tx.bits hC (f := (fun (x y : Int32) => (x.toUInt32 >>> (y.toUInt32 &&& Int32.toUInt32 31)).toInt32)) te_39_38 (fun _ _ _ _ => Iff.rfl) (fun b11 b11e _ => ?_)
  have b11v : b11 = 0 := b11e.trans (by decide)
  subst b11v
  refine Tx.iaddW hC te_39_39 (fun b12 _ b12e => ?_)
  have b12v : b12 = 1 := b12e (by unfold InI; omega)
  subst b12v
  refine Tx.istore_n hC te_39_40 rfl ?_
  refine Tx.iload_n hC te_39_41 rfl ?_
  refine Tx.iload_n hC te_39_42 rfl ?_
  refine Tx.bipush hC te_39_43 rfl rfl ?_
  refine Tx.bits hC (f := (fun (x y : Int32) => (x.toUInt32 >>> (y.toUInt32 &&& Int32.toUInt32 31)).toInt32)) te_39_45 (fun _ _ _ _ => Iff.rfl) (fun b13 b13e _ => ?_)
  have b13v : b13 = 0 := b13e.trans (by decide)
  subst b13v
  refine Tx.iaddW hC te_39_46 (fun b14 _ b14e => ?_)
  have b14v : b14 = 1 := b14e (by unfold InI; omega)
  subst b14v
  refine Tx.istore_n hC te_39_47 rfl ?_
  refine Tx.iload_n hC te_39_48 rfl ?_
  refine Tx.bipush hC te_39_49 rfl rfl ?_
  refine Tx.bits hC (f := (fun (x y : Int32) => x &&& y)) te_39_51 (fun _ _ _ _ => Iff.rfl) (fun b15 b15e _ => ?_)
  have b15v : b15 = 1 := b15e.trans (by decide)
  subst b15v
  exact Tx.ireturn hC te_39_52 rfl (fun _ => H)
theorem f_39_3 {S : Nat × (Nat → Int32)} {n : Nat} {mem : MM} {K : Int → MM → Prop} {E : Nat → MM → Prop} (H : K 2 mem) : CQI (Ex S (n + 1)) 39 [.inl 3] mem K E := by
  refine CY.of (k := 0) mt_39 rfl rfl (fun _ => ?_)
  have hC := Ex.mono S n
  show Tx (Ex S n) S M_39 (kI K E) 0 0 0 [some (.inl 3)] [] mem
  refine Tx.iload_n hC te_39_0 rfl ?_
  refine Tx.iload_n hC te_39_1 rfl ?_
  refine Tx.iconst hC te_39_2 rfl ?_
  refine Tx.bits hC (f := (fun (x y : Int32) => (x.toUInt32 >>> (y.toUInt32 &&& Int32.toUInt32 31)).toInt32)) te_39_3 (fun _ _ _ _ => Iff.rfl) (fun b1 b1e _ => ?_)
  have b1v : b1 = 1 := b1e.trans (by decide)
  subst b1v
  refine Tx.ldc_w hC (z := 1431655765) te_39_4 rfl rfl rfl rfl ?_
  refine Tx.bits hC (f := (fun (x y : Int32) => x &&& y)) te_39_7 (fun _ _ _ _ => Iff.rfl) (fun b2 b2e _ => ?_)
  have b2v : b2 = 1 := b2e.trans (by decide)
  subst b2v
  refine Tx.isubW hC te_39_8 (fun b3 _ b3e => ?_)
  have b3v : b3 = 2 := b3e (by unfold InI; omega)
  subst b3v
  refine Tx.istore_n hC te_39_9 rfl ?_
  refine Tx.iload_n hC te_39_10 rfl ?_
  refine Tx.ldc_w hC (z := 858993459) te_39_11 rfl rfl rfl rfl ?_
  refine Tx.bits hC (f := (fun (x y : Int32) => x &&& y)) te_39_14 (fun _ _ _ _ => Iff.rfl) (fun b4 b4e _ => ?_)
  have b4v : b4 = 2 := b4e.trans (by decide)
  subst b4v
  refine Tx.iload_n hC te_39_15 rfl ?_
  refine Tx.iconst hC te_39_16 rfl ?_
  refine Tx.bits hC (f := (fun (x y : Int32) => (x.toUInt32 >>> (y.toUInt32 &&& Int32.toUInt32 31)).toInt32)) te_39_17 (fun _ _ _ _ => Iff.rfl) (fun b5 b5e _ => ?_)
  have b5v : b5 = 0 := b5e.trans (by decide)
  subst b5v
  refine Tx.ldc_w hC (z := 858993459) te_39_18 rfl rfl rfl rfl ?_
  refine Tx.bits hC (f := (fun (x y : Int32) => x &&& y)) te_39_21 (fun _ _ _ _ => Iff.rfl) (fun b6 b6e _ => ?_)
  have b6v : b6 = 0 := b6e.trans (by decide)
  subst b6v
  refine Tx.iaddW hC te_39_22 (fun b7 _ b7e => ?_)
  have b7v : b7 = 2 := b7e (by unfold InI; omega)
  subst b7v
  refine Tx.istore_n hC te_39_23 rfl ?_
  refine Tx.iload_n hC te_39_24 rfl ?_
  refine Tx.iload_n hC te_39_25 rfl ?_
  refine Tx.iconst hC te_39_26 rfl ?_
  refine Tx.bits hC (f := (fun (x y : Int32) => (x.toUInt32 >>> (y.toUInt32 &&& Int32.toUInt32 31)).toInt32)) te_39_27 (fun _ _ _ _ => Iff.rfl) (fun b8 b8e _ => ?_)
  have b8v : b8 = 0 := b8e.trans (by decide)
  subst b8v
  refine Tx.iaddW hC te_39_28 (fun b9 _ b9e => ?_)
  have b9v : b9 = 2 := b9e (by unfold InI; omega)
  subst b9v
  refine Tx.ldc_w hC (z := 252645135) te_39_29 rfl rfl rfl rfl ?_
  refine Tx.bits hC (f := (fun (x y : Int32) => x &&& y)) te_39_32 (fun _ _ _ _ => Iff.rfl) (fun b10 b10e _ => ?_)
  have b10v : b10 = 2 := b10e.trans (by decide)
  subst b10v
  refine Tx.istore_n hC te_39_33 rfl ?_
  refine Tx.iload_n hC te_39_34 rfl ?_
  refine Tx.iload_n hC te_39_35 rfl ?_
  refine Tx.bipush hC te_39_36 rfl rfl ?_
  refine Tx.bits hC (f := (fun (x y : Int32) => (x.toUInt32 >>> (y.toUInt32 &&& Int32.toUInt32 31)).toInt32)) te_39_38 (fun _ _ _ _ => Iff.rfl) (fun b11 b11e _ => ?_)
  have b11v : b11 = 0 := b11e.trans (by decide)
  subst b11v
  refine Tx.iaddW hC te_39_39 (fun b12 _ b12e => ?_)
  have b12v : b12 = 2 := b12e (by unfold InI; omega)
  subst b12v
  refine Tx.istore_n hC te_39_40 rfl ?_
  refine Tx.iload_n hC te_39_41 rfl ?_
  refine Tx.iload_n hC te_39_42 rfl ?_
  refine Tx.bipush hC te_39_43 rfl rfl ?_
  refine Tx.bits hC (f := (fun (x y : Int32) => (x.toUInt32 >>> (y.toUInt32 &&& Int32.toUInt32 31)).toInt32)) te_39_45 (fun _ _ _ _ => Iff.rfl) (fun b13 b13e _ => ?_)
  have b13v : b13 = 0 := b13e.trans (by decide)
  subst b13v
  refine Tx.iaddW hC te_39_46 (fun b14 _ b14e => ?_)
  have b14v : b14 = 2 := b14e (by unfold InI; omega)
  subst b14v
  refine Tx.istore_n hC te_39_47 rfl ?_
  refine Tx.iload_n hC te_39_48 rfl ?_
  refine Tx.bipush hC te_39_49 rfl rfl ?_
  refine Tx.bits hC (f := (fun (x y : Int32) => x &&& y)) te_39_51 (fun _ _ _ _ => Iff.rfl) (fun b15 b15e _ => ?_)
  have b15v : b15 = 2 := b15e.trans (by decide)
  subst b15v
  exact Tx.ireturn hC te_39_52 rfl (fun _ => H)
theorem f_39_4 {S : Nat × (Nat → Int32)} {n : Nat} {mem : MM} {K : Int → MM → Prop} {E : Nat → MM → Prop} (H : K 1 mem) : CQI (Ex S (n + 1)) 39 [.inl 4] mem K E := by
  refine CY.of (k := 0) mt_39 rfl rfl (fun _ => ?_)
  have hC := Ex.mono S n
  show Tx (Ex S n) S M_39 (kI K E) 0 0 0 [some (.inl 4)] [] mem
  refine Tx.iload_n hC te_39_0 rfl ?_
  refine Tx.iload_n hC te_39_1 rfl ?_
  refine Tx.iconst hC te_39_2 rfl ?_
  refine Tx.bits hC (f := (fun (x y : Int32) => (x.toUInt32 >>> (y.toUInt32 &&& Int32.toUInt32 31)).toInt32)) te_39_3 (fun _ _ _ _ => Iff.rfl) (fun b1 b1e _ => ?_)
  have b1v : b1 = 2 := b1e.trans (by decide)
  subst b1v
  refine Tx.ldc_w hC (z := 1431655765) te_39_4 rfl rfl rfl rfl ?_
  refine Tx.bits hC (f := (fun (x y : Int32) => x &&& y)) te_39_7 (fun _ _ _ _ => Iff.rfl) (fun b2 b2e _ => ?_)
  have b2v : b2 = 0 := b2e.trans (by decide)
  subst b2v
  refine Tx.isubW hC te_39_8 (fun b3 _ b3e => ?_)
  have b3v : b3 = 4 := b3e (by unfold InI; omega)
  subst b3v
  refine Tx.istore_n hC te_39_9 rfl ?_
  refine Tx.iload_n hC te_39_10 rfl ?_
  refine Tx.ldc_w hC (z := 858993459) te_39_11 rfl rfl rfl rfl ?_
  refine Tx.bits hC (f := (fun (x y : Int32) => x &&& y)) te_39_14 (fun _ _ _ _ => Iff.rfl) (fun b4 b4e _ => ?_)
  have b4v : b4 = 0 := b4e.trans (by decide)
  subst b4v
  refine Tx.iload_n hC te_39_15 rfl ?_
  refine Tx.iconst hC te_39_16 rfl ?_
  refine Tx.bits hC (f := (fun (x y : Int32) => (x.toUInt32 >>> (y.toUInt32 &&& Int32.toUInt32 31)).toInt32)) te_39_17 (fun _ _ _ _ => Iff.rfl) (fun b5 b5e _ => ?_)
  have b5v : b5 = 1 := b5e.trans (by decide)
  subst b5v
  refine Tx.ldc_w hC (z := 858993459) te_39_18 rfl rfl rfl rfl ?_
  refine Tx.bits hC (f := (fun (x y : Int32) => x &&& y)) te_39_21 (fun _ _ _ _ => Iff.rfl) (fun b6 b6e _ => ?_)
  have b6v : b6 = 1 := b6e.trans (by decide)
  subst b6v
  refine Tx.iaddW hC te_39_22 (fun b7 _ b7e => ?_)
  have b7v : b7 = 1 := b7e (by unfold InI; omega)
  subst b7v
  refine Tx.istore_n hC te_39_23 rfl ?_
  refine Tx.iload_n hC te_39_24 rfl ?_
  refine Tx.iload_n hC te_39_25 rfl ?_
  refine Tx.iconst hC te_39_26 rfl ?_
  refine Tx.bits hC (f := (fun (x y : Int32) => (x.toUInt32 >>> (y.toUInt32 &&& Int32.toUInt32 31)).toInt32)) te_39_27 (fun _ _ _ _ => Iff.rfl) (fun b8 b8e _ => ?_)
  have b8v : b8 = 0 := b8e.trans (by decide)
  subst b8v
  refine Tx.iaddW hC te_39_28 (fun b9 _ b9e => ?_)
  have b9v : b9 = 1 := b9e (by unfold InI; omega)
  subst b9v
  refine Tx.ldc_w hC (z := 252645135) te_39_29 rfl rfl rfl rfl ?_
  refine Tx.bits hC (f := (fun (x y : Int32) => x &&& y)) te_39_32 (fun _ _ _ _ => Iff.rfl) (fun b10 b10e _ => ?_)
  have b10v : b10 = 1 := b10e.trans (by decide)
  subst b10v
  refine Tx.istore_n hC te_39_33 rfl ?_
  refine Tx.iload_n hC te_39_34 rfl ?_
  refine Tx.iload_n hC te_39_35 rfl ?_
  refine Tx.bipush hC te_39_36 rfl rfl ?_
  refine Tx.bits hC (f := (fun (x y : Int32) => (x.toUInt32 >>> (y.toUInt32 &&& Int32.toUInt32 31)).toInt32)) te_39_38 (fun _ _ _ _ => Iff.rfl) (fun b11 b11e _ => ?_)
  have b11v : b11 = 0 := b11e.trans (by decide)
  subst b11v
  refine Tx.iaddW hC te_39_39 (fun b12 _ b12e => ?_)
  have b12v : b12 = 1 := b12e (by unfold InI; omega)
  subst b12v
  refine Tx.istore_n hC te_39_40 rfl ?_
  refine Tx.iload_n hC te_39_41 rfl ?_
  refine Tx.iload_n hC te_39_42 rfl ?_
  refine Tx.bipush hC te_39_43 rfl rfl ?_
  refine Tx.bits hC (f := (fun (x y : Int32) => (x.toUInt32 >>> (y.toUInt32 &&& Int32.toUInt32 31)).toInt32)) te_39_45 (fun _ _ _ _ => Iff.rfl) (fun b13 b13e _ => ?_)
  have b13v : b13 = 0 := b13e.trans (by decide)
  subst b13v
  refine Tx.iaddW hC te_39_46 (fun b14 _ b14e => ?_)
  have b14v : b14 = 1 := b14e (by unfold InI; omega)
  subst b14v
  refine Tx.istore_n hC te_39_47 rfl ?_
  refine Tx.iload_n hC te_39_48 rfl ?_
  refine Tx.bipush hC te_39_49 rfl rfl ?_
  refine Tx.bits hC (f := (fun (x y : Int32) => x &&& y)) te_39_51 (fun _ _ _ _ => Iff.rfl) (fun b15 b15e _ => ?_)
  have b15v : b15 = 1 := b15e.trans (by decide)
  subst b15v
  exact Tx.ireturn hC te_39_52 rfl (fun _ => H)
theorem f_39_5 {S : Nat × (Nat → Int32)} {n : Nat} {mem : MM} {K : Int → MM → Prop} {E : Nat → MM → Prop} (H : K 2 mem) : CQI (Ex S (n + 1)) 39 [.inl 5] mem K E := by
  refine CY.of (k := 0) mt_39 rfl rfl (fun _ => ?_)
  have hC := Ex.mono S n
  show Tx (Ex S n) S M_39 (kI K E) 0 0 0 [some (.inl 5)] [] mem
  refine Tx.iload_n hC te_39_0 rfl ?_
  refine Tx.iload_n hC te_39_1 rfl ?_
  refine Tx.iconst hC te_39_2 rfl ?_
  refine Tx.bits hC (f := (fun (x y : Int32) => (x.toUInt32 >>> (y.toUInt32 &&& Int32.toUInt32 31)).toInt32)) te_39_3 (fun _ _ _ _ => Iff.rfl) (fun b1 b1e _ => ?_)
  have b1v : b1 = 2 := b1e.trans (by decide)
  subst b1v
  refine Tx.ldc_w hC (z := 1431655765) te_39_4 rfl rfl rfl rfl ?_
  refine Tx.bits hC (f := (fun (x y : Int32) => x &&& y)) te_39_7 (fun _ _ _ _ => Iff.rfl) (fun b2 b2e _ => ?_)
  have b2v : b2 = 0 := b2e.trans (by decide)
  subst b2v
  refine Tx.isubW hC te_39_8 (fun b3 _ b3e => ?_)
  have b3v : b3 = 5 := b3e (by unfold InI; omega)
  subst b3v
  refine Tx.istore_n hC te_39_9 rfl ?_
  refine Tx.iload_n hC te_39_10 rfl ?_
  refine Tx.ldc_w hC (z := 858993459) te_39_11 rfl rfl rfl rfl ?_
  refine Tx.bits hC (f := (fun (x y : Int32) => x &&& y)) te_39_14 (fun _ _ _ _ => Iff.rfl) (fun b4 b4e _ => ?_)
  have b4v : b4 = 1 := b4e.trans (by decide)
  subst b4v
  refine Tx.iload_n hC te_39_15 rfl ?_
  refine Tx.iconst hC te_39_16 rfl ?_
  refine Tx.bits hC (f := (fun (x y : Int32) => (x.toUInt32 >>> (y.toUInt32 &&& Int32.toUInt32 31)).toInt32)) te_39_17 (fun _ _ _ _ => Iff.rfl) (fun b5 b5e _ => ?_)
  have b5v : b5 = 1 := b5e.trans (by decide)
  subst b5v
  refine Tx.ldc_w hC (z := 858993459) te_39_18 rfl rfl rfl rfl ?_
  refine Tx.bits hC (f := (fun (x y : Int32) => x &&& y)) te_39_21 (fun _ _ _ _ => Iff.rfl) (fun b6 b6e _ => ?_)
  have b6v : b6 = 1 := b6e.trans (by decide)
  subst b6v
  refine Tx.iaddW hC te_39_22 (fun b7 _ b7e => ?_)
  have b7v : b7 = 2 := b7e (by unfold InI; omega)
  subst b7v
  refine Tx.istore_n hC te_39_23 rfl ?_
  refine Tx.iload_n hC te_39_24 rfl ?_
  refine Tx.iload_n hC te_39_25 rfl ?_
  refine Tx.iconst hC te_39_26 rfl ?_
  refine Tx.bits hC (f := (fun (x y : Int32) => (x.toUInt32 >>> (y.toUInt32 &&& Int32.toUInt32 31)).toInt32)) te_39_27 (fun _ _ _ _ => Iff.rfl) (fun b8 b8e _ => ?_)
  have b8v : b8 = 0 := b8e.trans (by decide)
  subst b8v
  refine Tx.iaddW hC te_39_28 (fun b9 _ b9e => ?_)
  have b9v : b9 = 2 := b9e (by unfold InI; omega)
  subst b9v
  refine Tx.ldc_w hC (z := 252645135) te_39_29 rfl rfl rfl rfl ?_
  refine Tx.bits hC (f := (fun (x y : Int32) => x &&& y)) te_39_32 (fun _ _ _ _ => Iff.rfl) (fun b10 b10e _ => ?_)
  have b10v : b10 = 2 := b10e.trans (by decide)
  subst b10v
  refine Tx.istore_n hC te_39_33 rfl ?_
  refine Tx.iload_n hC te_39_34 rfl ?_
  refine Tx.iload_n hC te_39_35 rfl ?_
  refine Tx.bipush hC te_39_36 rfl rfl ?_
  refine Tx.bits hC (f := (fun (x y : Int32) => (x.toUInt32 >>> (y.toUInt32 &&& Int32.toUInt32 31)).toInt32)) te_39_38 (fun _ _ _ _ => Iff.rfl) (fun b11 b11e _ => ?_)
  have b11v : b11 = 0 := b11e.trans (by decide)
  subst b11v
  refine Tx.iaddW hC te_39_39 (fun b12 _ b12e => ?_)
  have b12v : b12 = 2 := b12e (by unfold InI; omega)
  subst b12v
  refine Tx.istore_n hC te_39_40 rfl ?_
  refine Tx.iload_n hC te_39_41 rfl ?_
  refine Tx.iload_n hC te_39_42 rfl ?_
  refine Tx.bipush hC te_39_43 rfl rfl ?_
  refine Tx.bits hC (f := (fun (x y : Int32) => (x.toUInt32 >>> (y.toUInt32 &&& Int32.toUInt32 31)).toInt32)) te_39_45 (fun _ _ _ _ => Iff.rfl) (fun b13 b13e _ => ?_)
  have b13v : b13 = 0 := b13e.trans (by decide)
  subst b13v
  refine Tx.iaddW hC te_39_46 (fun b14 _ b14e => ?_)
  have b14v : b14 = 2 := b14e (by unfold InI; omega)
  subst b14v
  refine Tx.istore_n hC te_39_47 rfl ?_
  refine Tx.iload_n hC te_39_48 rfl ?_
  refine Tx.bipush hC te_39_49 rfl rfl ?_
  refine Tx.bits hC (f := (fun (x y : Int32) => x &&& y)) te_39_51 (fun _ _ _ _ => Iff.rfl) (fun b15 b15e _ => ?_)
  have b15v : b15 = 2 := b15e.trans (by decide)
  subst b15v
  exact Tx.ireturn hC te_39_52 rfl (fun _ => H)
theorem f_39_6 {S : Nat × (Nat → Int32)} {n : Nat} {mem : MM} {K : Int → MM → Prop} {E : Nat → MM → Prop} (H : K 2 mem) : CQI (Ex S (n + 1)) 39 [.inl 6] mem K E := by
  refine CY.of (k := 0) mt_39 rfl rfl (fun _ => ?_)
  have hC := Ex.mono S n
  show Tx (Ex S n) S M_39 (kI K E) 0 0 0 [some (.inl 6)] [] mem
  refine Tx.iload_n hC te_39_0 rfl ?_
  refine Tx.iload_n hC te_39_1 rfl ?_
  refine Tx.iconst hC te_39_2 rfl ?_
  refine Tx.bits hC (f := (fun (x y : Int32) => (x.toUInt32 >>> (y.toUInt32 &&& Int32.toUInt32 31)).toInt32)) te_39_3 (fun _ _ _ _ => Iff.rfl) (fun b1 b1e _ => ?_)
  have b1v : b1 = 3 := b1e.trans (by decide)
  subst b1v
  refine Tx.ldc_w hC (z := 1431655765) te_39_4 rfl rfl rfl rfl ?_
  refine Tx.bits hC (f := (fun (x y : Int32) => x &&& y)) te_39_7 (fun _ _ _ _ => Iff.rfl) (fun b2 b2e _ => ?_)
  have b2v : b2 = 1 := b2e.trans (by decide)
  subst b2v
  refine Tx.isubW hC te_39_8 (fun b3 _ b3e => ?_)
  have b3v : b3 = 5 := b3e (by unfold InI; omega)
  subst b3v
  refine Tx.istore_n hC te_39_9 rfl ?_
  refine Tx.iload_n hC te_39_10 rfl ?_
  refine Tx.ldc_w hC (z := 858993459) te_39_11 rfl rfl rfl rfl ?_
  refine Tx.bits hC (f := (fun (x y : Int32) => x &&& y)) te_39_14 (fun _ _ _ _ => Iff.rfl) (fun b4 b4e _ => ?_)
  have b4v : b4 = 1 := b4e.trans (by decide)
  subst b4v
  refine Tx.iload_n hC te_39_15 rfl ?_
  refine Tx.iconst hC te_39_16 rfl ?_
  refine Tx.bits hC (f := (fun (x y : Int32) => (x.toUInt32 >>> (y.toUInt32 &&& Int32.toUInt32 31)).toInt32)) te_39_17 (fun _ _ _ _ => Iff.rfl) (fun b5 b5e _ => ?_)
  have b5v : b5 = 1 := b5e.trans (by decide)
  subst b5v
  refine Tx.ldc_w hC (z := 858993459) te_39_18 rfl rfl rfl rfl ?_
  refine Tx.bits hC (f := (fun (x y : Int32) => x &&& y)) te_39_21 (fun _ _ _ _ => Iff.rfl) (fun b6 b6e _ => ?_)
  have b6v : b6 = 1 := b6e.trans (by decide)
  subst b6v
  refine Tx.iaddW hC te_39_22 (fun b7 _ b7e => ?_)
  have b7v : b7 = 2 := b7e (by unfold InI; omega)
  subst b7v
  refine Tx.istore_n hC te_39_23 rfl ?_
  refine Tx.iload_n hC te_39_24 rfl ?_
  refine Tx.iload_n hC te_39_25 rfl ?_
  refine Tx.iconst hC te_39_26 rfl ?_
  refine Tx.bits hC (f := (fun (x y : Int32) => (x.toUInt32 >>> (y.toUInt32 &&& Int32.toUInt32 31)).toInt32)) te_39_27 (fun _ _ _ _ => Iff.rfl) (fun b8 b8e _ => ?_)
  have b8v : b8 = 0 := b8e.trans (by decide)
  subst b8v
  refine Tx.iaddW hC te_39_28 (fun b9 _ b9e => ?_)
  have b9v : b9 = 2 := b9e (by unfold InI; omega)
  subst b9v
  refine Tx.ldc_w hC (z := 252645135) te_39_29 rfl rfl rfl rfl ?_
  refine Tx.bits hC (f := (fun (x y : Int32) => x &&& y)) te_39_32 (fun _ _ _ _ => Iff.rfl) (fun b10 b10e _ => ?_)
  have b10v : b10 = 2 := b10e.trans (by decide)
  subst b10v
  refine Tx.istore_n hC te_39_33 rfl ?_
  refine Tx.iload_n hC te_39_34 rfl ?_
  refine Tx.iload_n hC te_39_35 rfl ?_
  refine Tx.bipush hC te_39_36 rfl rfl ?_
  refine Tx.bits hC (f := (fun (x y : Int32) => (x.toUInt32 >>> (y.toUInt32 &&& Int32.toUInt32 31)).toInt32)) te_39_38 (fun _ _ _ _ => Iff.rfl) (fun b11 b11e _ => ?_)
  have b11v : b11 = 0 := b11e.trans (by decide)
  subst b11v
  refine Tx.iaddW hC te_39_39 (fun b12 _ b12e => ?_)
  have b12v : b12 = 2 := b12e (by unfold InI; omega)
  subst b12v
  refine Tx.istore_n hC te_39_40 rfl ?_
  refine Tx.iload_n hC te_39_41 rfl ?_
  refine Tx.iload_n hC te_39_42 rfl ?_
  refine Tx.bipush hC te_39_43 rfl rfl ?_
  refine Tx.bits hC (f := (fun (x y : Int32) => (x.toUInt32 >>> (y.toUInt32 &&& Int32.toUInt32 31)).toInt32)) te_39_45 (fun _ _ _ _ => Iff.rfl) (fun b13 b13e _ => ?_)
  have b13v : b13 = 0 := b13e.trans (by decide)
  subst b13v
  refine Tx.iaddW hC te_39_46 (fun b14 _ b14e => ?_)
  have b14v : b14 = 2 := b14e (by unfold InI; omega)
  subst b14v
  refine Tx.istore_n hC te_39_47 rfl ?_
  refine Tx.iload_n hC te_39_48 rfl ?_
  refine Tx.bipush hC te_39_49 rfl rfl ?_
  refine Tx.bits hC (f := (fun (x y : Int32) => x &&& y)) te_39_51 (fun _ _ _ _ => Iff.rfl) (fun b15 b15e _ => ?_)
  have b15v : b15 = 2 := b15e.trans (by decide)
  subst b15v
  exact Tx.ireturn hC te_39_52 rfl (fun _ => H)
theorem f_39_7 {S : Nat × (Nat → Int32)} {n : Nat} {mem : MM} {K : Int → MM → Prop} {E : Nat → MM → Prop} (H : K 3 mem) : CQI (Ex S (n + 1)) 39 [.inl 7] mem K E := by
  refine CY.of (k := 0) mt_39 rfl rfl (fun _ => ?_)
  have hC := Ex.mono S n
  show Tx (Ex S n) S M_39 (kI K E) 0 0 0 [some (.inl 7)] [] mem
  refine Tx.iload_n hC te_39_0 rfl ?_
  refine Tx.iload_n hC te_39_1 rfl ?_
  refine Tx.iconst hC te_39_2 rfl ?_
  refine Tx.bits hC (f := (fun (x y : Int32) => (x.toUInt32 >>> (y.toUInt32 &&& Int32.toUInt32 31)).toInt32)) te_39_3 (fun _ _ _ _ => Iff.rfl) (fun b1 b1e _ => ?_)
  have b1v : b1 = 3 := b1e.trans (by decide)
  subst b1v
  refine Tx.ldc_w hC (z := 1431655765) te_39_4 rfl rfl rfl rfl ?_
  refine Tx.bits hC (f := (fun (x y : Int32) => x &&& y)) te_39_7 (fun _ _ _ _ => Iff.rfl) (fun b2 b2e _ => ?_)
  have b2v : b2 = 1 := b2e.trans (by decide)
  subst b2v
  refine Tx.isubW hC te_39_8 (fun b3 _ b3e => ?_)
  have b3v : b3 = 6 := b3e (by unfold InI; omega)
  subst b3v
  refine Tx.istore_n hC te_39_9 rfl ?_
  refine Tx.iload_n hC te_39_10 rfl ?_
  refine Tx.ldc_w hC (z := 858993459) te_39_11 rfl rfl rfl rfl ?_
  refine Tx.bits hC (f := (fun (x y : Int32) => x &&& y)) te_39_14 (fun _ _ _ _ => Iff.rfl) (fun b4 b4e _ => ?_)
  have b4v : b4 = 2 := b4e.trans (by decide)
  subst b4v
  refine Tx.iload_n hC te_39_15 rfl ?_
  refine Tx.iconst hC te_39_16 rfl ?_
  refine Tx.bits hC (f := (fun (x y : Int32) => (x.toUInt32 >>> (y.toUInt32 &&& Int32.toUInt32 31)).toInt32)) te_39_17 (fun _ _ _ _ => Iff.rfl) (fun b5 b5e _ => ?_)
  have b5v : b5 = 1 := b5e.trans (by decide)
  subst b5v
  refine Tx.ldc_w hC (z := 858993459) te_39_18 rfl rfl rfl rfl ?_
  refine Tx.bits hC (f := (fun (x y : Int32) => x &&& y)) te_39_21 (fun _ _ _ _ => Iff.rfl) (fun b6 b6e _ => ?_)
  have b6v : b6 = 1 := b6e.trans (by decide)
  subst b6v
  refine Tx.iaddW hC te_39_22 (fun b7 _ b7e => ?_)
  have b7v : b7 = 3 := b7e (by unfold InI; omega)
  subst b7v
  refine Tx.istore_n hC te_39_23 rfl ?_
  refine Tx.iload_n hC te_39_24 rfl ?_
  refine Tx.iload_n hC te_39_25 rfl ?_
  refine Tx.iconst hC te_39_26 rfl ?_
  refine Tx.bits hC (f := (fun (x y : Int32) => (x.toUInt32 >>> (y.toUInt32 &&& Int32.toUInt32 31)).toInt32)) te_39_27 (fun _ _ _ _ => Iff.rfl) (fun b8 b8e _ => ?_)
  have b8v : b8 = 0 := b8e.trans (by decide)
  subst b8v
  refine Tx.iaddW hC te_39_28 (fun b9 _ b9e => ?_)
  have b9v : b9 = 3 := b9e (by unfold InI; omega)
  subst b9v
  refine Tx.ldc_w hC (z := 252645135) te_39_29 rfl rfl rfl rfl ?_
  refine Tx.bits hC (f := (fun (x y : Int32) => x &&& y)) te_39_32 (fun _ _ _ _ => Iff.rfl) (fun b10 b10e _ => ?_)
  have b10v : b10 = 3 := b10e.trans (by decide)
  subst b10v
  refine Tx.istore_n hC te_39_33 rfl ?_
  refine Tx.iload_n hC te_39_34 rfl ?_
  refine Tx.iload_n hC te_39_35 rfl ?_
  refine Tx.bipush hC te_39_36 rfl rfl ?_
  refine Tx.bits hC (f := (fun (x y : Int32) => (x.toUInt32 >>> (y.toUInt32 &&& Int32.toUInt32 31)).toInt32)) te_39_38 (fun _ _ _ _ => Iff.rfl) (fun b11 b11e _ => ?_)
  have b11v : b11 = 0 := b11e.trans (by decide)
  subst b11v
  refine Tx.iaddW hC te_39_39 (fun b12 _ b12e => ?_)
  have b12v : b12 = 3 := b12e (by unfold InI; omega)
  subst b12v
  refine Tx.istore_n hC te_39_40 rfl ?_
  refine Tx.iload_n hC te_39_41 rfl ?_
  refine Tx.iload_n hC te_39_42 rfl ?_
  refine Tx.bipush hC te_39_43 rfl rfl ?_
  refine Tx.bits hC (f := (fun (x y : Int32) => (x.toUInt32 >>> (y.toUInt32 &&& Int32.toUInt32 31)).toInt32)) te_39_45 (fun _ _ _ _ => Iff.rfl) (fun b13 b13e _ => ?_)
  have b13v : b13 = 0 := b13e.trans (by decide)
  subst b13v
  refine Tx.iaddW hC te_39_46 (fun b14 _ b14e => ?_)
  have b14v : b14 = 3 := b14e (by unfold InI; omega)
  subst b14v
  refine Tx.istore_n hC te_39_47 rfl ?_
  refine Tx.iload_n hC te_39_48 rfl ?_
  refine Tx.bipush hC te_39_49 rfl rfl ?_
  refine Tx.bits hC (f := (fun (x y : Int32) => x &&& y)) te_39_51 (fun _ _ _ _ => Iff.rfl) (fun b15 b15e _ => ?_)
  have b15v : b15 = 3 := b15e.trans (by decide)
  subst b15v
  exact Tx.ireturn hC te_39_52 rfl (fun _ => H)
theorem f_39_8 {S : Nat × (Nat → Int32)} {n : Nat} {mem : MM} {K : Int → MM → Prop} {E : Nat → MM → Prop} (H : K 1 mem) : CQI (Ex S (n + 1)) 39 [.inl 8] mem K E := by
  refine CY.of (k := 0) mt_39 rfl rfl (fun _ => ?_)
  have hC := Ex.mono S n
  show Tx (Ex S n) S M_39 (kI K E) 0 0 0 [some (.inl 8)] [] mem
  refine Tx.iload_n hC te_39_0 rfl ?_
  refine Tx.iload_n hC te_39_1 rfl ?_
  refine Tx.iconst hC te_39_2 rfl ?_
  refine Tx.bits hC (f := (fun (x y : Int32) => (x.toUInt32 >>> (y.toUInt32 &&& Int32.toUInt32 31)).toInt32)) te_39_3 (fun _ _ _ _ => Iff.rfl) (fun b1 b1e _ => ?_)
  have b1v : b1 = 4 := b1e.trans (by decide)
  subst b1v
  refine Tx.ldc_w hC (z := 1431655765) te_39_4 rfl rfl rfl rfl ?_
  refine Tx.bits hC (f := (fun (x y : Int32) => x &&& y)) te_39_7 (fun _ _ _ _ => Iff.rfl) (fun b2 b2e _ => ?_)
  have b2v : b2 = 4 := b2e.trans (by decide)
  subst b2v
  refine Tx.isubW hC te_39_8 (fun b3 _ b3e => ?_)
  have b3v : b3 = 4 := b3e (by unfold InI; omega)
  subst b3v
  refine Tx.istore_n hC te_39_9 rfl ?_
  refine Tx.iload_n hC te_39_10 rfl ?_
  refine Tx.ldc_w hC (z := 858993459) te_39_11 rfl rfl rfl rfl ?_
  refine Tx.bits hC (f := (fun (x y : Int32) => x &&& y)) te_39_14 (fun _ _ _ _ => Iff.rfl) (fun b4 b4e _ => ?_)
  have b4v : b4 = 0 := b4e.trans (by decide)
  subst b4v
  refine Tx.iload_n hC te_39_15 rfl ?_
  refine Tx.iconst hC te_39_16 rfl ?_
  refine Tx.bits hC (f := (fun (x y : Int32) => (x.toUInt32 >>> (y.toUInt32 &&& Int32.toUInt32 31)).toInt32)) te_39_17 (fun _ _ _ _ => Iff.rfl) (fun b5 b5e _ => ?_)
  have b5v : b5 = 1 := b5e.trans (by decide)
  subst b5v
  refine Tx.ldc_w hC (z := 858993459) te_39_18 rfl rfl rfl rfl ?_
  refine Tx.bits hC (f := (fun (x y : Int32) => x &&& y)) te_39_21 (fun _ _ _ _ => Iff.rfl) (fun b6 b6e _ => ?_)
  have b6v : b6 = 1 := b6e.trans (by decide)
  subst b6v
  refine Tx.iaddW hC te_39_22 (fun b7 _ b7e => ?_)
  have b7v : b7 = 1 := b7e (by unfold InI; omega)
  subst b7v
  refine Tx.istore_n hC te_39_23 rfl ?_
  refine Tx.iload_n hC te_39_24 rfl ?_
  refine Tx.iload_n hC te_39_25 rfl ?_
  refine Tx.iconst hC te_39_26 rfl ?_
  refine Tx.bits hC (f := (fun (x y : Int32) => (x.toUInt32 >>> (y.toUInt32 &&& Int32.toUInt32 31)).toInt32)) te_39_27 (fun _ _ _ _ => Iff.rfl) (fun b8 b8e _ => ?_)
  have b8v : b8 = 0 := b8e.trans (by decide)
  subst b8v
  refine Tx.iaddW hC te_39_28 (fun b9 _ b9e => ?_)
  have b9v : b9 = 1 := b9e (by unfold InI; omega)
  subst b9v
  refine Tx.ldc_w hC (z := 252645135) te_39_29 rfl rfl rfl rfl ?_
  refine Tx.bits hC (f := (fun (x y : Int32) => x &&& y)) te_39_32 (fun _ _ _ _ => Iff.rfl) (fun b10 b10e _ => ?_)
  have b10v : b10 = 1 := b10e.trans (by decide)
  subst b10v
  refine Tx.istore_n hC te_39_33 rfl ?_
  refine Tx.iload_n hC te_39_34 rfl ?_
  refine Tx.iload_n hC te_39_35 rfl ?_
  refine Tx.bipush hC te_39_36 rfl rfl ?_
  refine Tx.bits hC (f := (fun (x y : Int32) => (x.toUInt32 >>> (y.toUInt32 &&& Int32.toUInt32 31)).toInt32)) te_39_38 (fun _ _ _ _ => Iff.rfl) (fun b11 b11e _ => ?_)
  have b11v : b11 = 0 := b11e.trans (by decide)
  subst b11v
  refine Tx.iaddW hC te_39_39 (fun b12 _ b12e => ?_)
  have b12v : b12 = 1 := b12e (by unfold InI; omega)
  subst b12v
  refine Tx.istore_n hC te_39_40 rfl ?_
  refine Tx.iload_n hC te_39_41 rfl ?_
  refine Tx.iload_n hC te_39_42 rfl ?_
  refine Tx.bipush hC te_39_43 rfl rfl ?_
  refine Tx.bits hC (f := (fun (x y : Int32) => (x.toUInt32 >>> (y.toUInt32 &&& Int32.toUInt32 31)).toInt32)) te_39_45 (fun _ _ _ _ => Iff.rfl) (fun b13 b13e _ => ?_)
  have b13v : b13 = 0 := b13e.trans (by decide)
  subst b13v
  refine Tx.iaddW hC te_39_46 (fun b14 _ b14e => ?_)
  have b14v : b14 = 1 := b14e (by unfold InI; omega)
  subst b14v
  refine Tx.istore_n hC te_39_47 rfl ?_
  refine Tx.iload_n hC te_39_48 rfl ?_
  refine Tx.bipush hC te_39_49 rfl rfl ?_
  refine Tx.bits hC (f := (fun (x y : Int32) => x &&& y)) te_39_51 (fun _ _ _ _ => Iff.rfl) (fun b15 b15e _ => ?_)
  have b15v : b15 = 1 := b15e.trans (by decide)
  subst b15v
  exact Tx.ireturn hC te_39_52 rfl (fun _ => H)
theorem f_39_9 {S : Nat × (Nat → Int32)} {n : Nat} {mem : MM} {K : Int → MM → Prop} {E : Nat → MM → Prop} (H : K 2 mem) : CQI (Ex S (n + 1)) 39 [.inl 9] mem K E := by
  refine CY.of (k := 0) mt_39 rfl rfl (fun _ => ?_)
  have hC := Ex.mono S n
  show Tx (Ex S n) S M_39 (kI K E) 0 0 0 [some (.inl 9)] [] mem
  refine Tx.iload_n hC te_39_0 rfl ?_
  refine Tx.iload_n hC te_39_1 rfl ?_
  refine Tx.iconst hC te_39_2 rfl ?_
  refine Tx.bits hC (f := (fun (x y : Int32) => (x.toUInt32 >>> (y.toUInt32 &&& Int32.toUInt32 31)).toInt32)) te_39_3 (fun _ _ _ _ => Iff.rfl) (fun b1 b1e _ => ?_)
  have b1v : b1 = 4 := b1e.trans (by decide)
  subst b1v
  refine Tx.ldc_w hC (z := 1431655765) te_39_4 rfl rfl rfl rfl ?_
  refine Tx.bits hC (f := (fun (x y : Int32) => x &&& y)) te_39_7 (fun _ _ _ _ => Iff.rfl) (fun b2 b2e _ => ?_)
  have b2v : b2 = 4 := b2e.trans (by decide)
  subst b2v
  refine Tx.isubW hC te_39_8 (fun b3 _ b3e => ?_)
  have b3v : b3 = 5 := b3e (by unfold InI; omega)
  subst b3v
  refine Tx.istore_n hC te_39_9 rfl ?_
  refine Tx.iload_n hC te_39_10 rfl ?_
  refine Tx.ldc_w hC (z := 858993459) te_39_11 rfl rfl rfl rfl ?_
  refine Tx.bits hC (f := (fun (x y : Int32) => x &&& y)) te_39_14 (fun _ _ _ _ => Iff.rfl) (fun b4 b4e _ => ?_)
  have b4v : b4 = 1 := b4e.trans (by decide)
  subst b4v
  refine Tx.iload_n hC te_39_15 rfl ?_
  refine Tx.iconst hC te_39_16 rfl ?_
  refine Tx.bits hC (f := (fun (x y : Int32) => (x.toUInt32 >>> (y.toUInt32 &&& Int32.toUInt32 31)).toInt32)) te_39_17 (fun _ _ _ _ => Iff.rfl) (fun b5 b5e _ => ?_)
  have b5v : b5 = 1 := b5e.trans (by decide)
  subst b5v
  refine Tx.ldc_w hC (z := 858993459) te_39_18 rfl rfl rfl rfl ?_
  refine Tx.bits hC (f := (fun (x y : Int32) => x &&& y)) te_39_21 (fun _ _ _ _ => Iff.rfl) (fun b6 b6e _ => ?_)
  have b6v : b6 = 1 := b6e.trans (by decide)
  subst b6v
  refine Tx.iaddW hC te_39_22 (fun b7 _ b7e => ?_)
  have b7v : b7 = 2 := b7e (by unfold InI; omega)
  subst b7v
  refine Tx.istore_n hC te_39_23 rfl ?_
  refine Tx.iload_n hC te_39_24 rfl ?_
  refine Tx.iload_n hC te_39_25 rfl ?_
  refine Tx.iconst hC te_39_26 rfl ?_
  refine Tx.bits hC (f := (fun (x y : Int32) => (x.toUInt32 >>> (y.toUInt32 &&& Int32.toUInt32 31)).toInt32)) te_39_27 (fun _ _ _ _ => Iff.rfl) (fun b8 b8e _ => ?_)
  have b8v : b8 = 0 := b8e.trans (by decide)
  subst b8v
  refine Tx.iaddW hC te_39_28 (fun b9 _ b9e => ?_)
  have b9v : b9 = 2 := b9e (by unfold InI; omega)
  subst b9v
  refine Tx.ldc_w hC (z := 252645135) te_39_29 rfl rfl rfl rfl ?_
  refine Tx.bits hC (f := (fun (x y : Int32) => x &&& y)) te_39_32 (fun _ _ _ _ => Iff.rfl) (fun b10 b10e _ => ?_)
  have b10v : b10 = 2 := b10e.trans (by decide)
  subst b10v
  refine Tx.istore_n hC te_39_33 rfl ?_
  refine Tx.iload_n hC te_39_34 rfl ?_
  refine Tx.iload_n hC te_39_35 rfl ?_
  refine Tx.bipush hC te_39_36 rfl rfl ?_
  refine Tx.bits hC (f := (fun (x y : Int32) => (x.toUInt32 >>> (y.toUInt32 &&& Int32.toUInt32 31)).toInt32)) te_39_38 (fun _ _ _ _ => Iff.rfl) (fun b11 b11e _ => ?_)
  have b11v : b11 = 0 := b11e.trans (by decide)
  subst b11v
  refine Tx.iaddW hC te_39_39 (fun b12 _ b12e => ?_)
  have b12v : b12 = 2 := b12e (by unfold InI; omega)
  subst b12v
  refine Tx.istore_n hC te_39_40 rfl ?_
  refine Tx.iload_n hC te_39_41 rfl ?_
  refine Tx.iload_n hC te_39_42 rfl ?_
  refine Tx.bipush hC te_39_43 rfl rfl ?_
  refine Tx.bits hC (f := (fun (x y : Int32) => (x.toUInt32 >>> (y.toUInt32 &&& Int32.toUInt32 31)).toInt32)) te_39_45 (fun _ _ _ _ => Iff.rfl) (fun b13 b13e _ => ?_)
  have b13v : b13 = 0 := b13e.trans (by decide)
  subst b13v
  refine Tx.iaddW hC te_39_46 (fun b14 _ b14e => ?_)
  have b14v : b14 = 2 := b14e (by unfold InI; omega)
  subst b14v
  refine Tx.istore_n hC te_39_47 rfl ?_
  refine Tx.iload_n hC te_39_48 rfl ?_
  refine Tx.bipush hC te_39_49 rfl rfl ?_
  refine Tx.bits hC (f := (fun (x y : Int32) => x &&& y)) te_39_51 (fun _ _ _ _ => Iff.rfl) (fun b15 b15e _ => ?_)
  have b15v : b15 = 2 := b15e.trans (by decide)
  subst b15v
  exact Tx.ireturn hC te_39_52 rfl (fun _ => H)
theorem f_39_10 {S : Nat × (Nat → Int32)} {n : Nat} {mem : MM} {K : Int → MM → Prop} {E : Nat → MM → Prop} (H : K 2 mem) : CQI (Ex S (n + 1)) 39 [.inl 10] mem K E := by
  refine CY.of (k := 0) mt_39 rfl rfl (fun _ => ?_)
  have hC := Ex.mono S n
  show Tx (Ex S n) S M_39 (kI K E) 0 0 0 [some (.inl 10)] [] mem
  refine Tx.iload_n hC te_39_0 rfl ?_
  refine Tx.iload_n hC te_39_1 rfl ?_
  refine Tx.iconst hC te_39_2 rfl ?_
  refine Tx.bits hC (f := (fun (x y : Int32) => (x.toUInt32 >>> (y.toUInt32 &&& Int32.toUInt32 31)).toInt32)) te_39_3 (fun _ _ _ _ => Iff.rfl) (fun b1 b1e _ => ?_)
  have b1v : b1 = 5 := b1e.trans (by decide)
  subst b1v
  refine Tx.ldc_w hC (z := 1431655765) te_39_4 rfl rfl rfl rfl ?_
  refine Tx.bits hC (f := (fun (x y : Int32) => x &&& y)) te_39_7 (fun _ _ _ _ => Iff.rfl) (fun b2 b2e _ => ?_)
  have b2v : b2 = 5 := b2e.trans (by decide)
  subst b2v
  refine Tx.isubW hC te_39_8 (fun b3 _ b3e => ?_)
  have b3v : b3 = 5 := b3e (by unfold InI; omega)
  subst b3v
  refine Tx.istore_n hC te_39_9 rfl ?_
  refine Tx.iload_n hC te_39_10 rfl ?_
  refine Tx.ldc_w hC (z := 858993459) te_39_11 rfl rfl rfl rfl ?_
  refine Tx.bits hC (f := (fun (x y : Int32) => x &&& y)) te_39_14 (fun _ _ _ _ => Iff.rfl) (fun b4 b4e _ => ?_)
  have b4v : b4 = 1 := b4e.trans (by decide)
  subst b4v
  refine Tx.iload_n hC te_39_15 rfl ?_
  refine Tx.iconst hC te_39_16 rfl ?_
  refine Tx.bits hC (f := (fun (x y : Int32) => (x.toUInt32 >>> (y.toUInt32 &&& Int32.toUInt32 31)).toInt32)) te_39_17 (fun _ _ _ _ => Iff.rfl) (fun b5 b5e _ => ?_)
  have b5v : b5 = 1 := b5e.trans (by decide)
  subst b5v
  refine Tx.ldc_w hC (z := 858993459) te_39_18 rfl rfl rfl rfl ?_
  refine Tx.bits hC (f := (fun (x y : Int32) => x &&& y)) te_39_21 (fun _ _ _ _ => Iff.rfl) (fun b6 b6e _ => ?_)
  have b6v : b6 = 1 := b6e.trans (by decide)
  subst b6v
  refine Tx.iaddW hC te_39_22 (fun b7 _ b7e => ?_)
  have b7v : b7 = 2 := b7e (by unfold InI; omega)
  subst b7v
  refine Tx.istore_n hC te_39_23 rfl ?_
  refine Tx.iload_n hC te_39_24 rfl ?_
  refine Tx.iload_n hC te_39_25 rfl ?_
  refine Tx.iconst hC te_39_26 rfl ?_
  refine Tx.bits hC (f := (fun (x y : Int32) => (x.toUInt32 >>> (y.toUInt32 &&& Int32.toUInt32 31)).toInt32)) te_39_27 (fun _ _ _ _ => Iff.rfl) (fun b8 b8e _ => ?_)
  have b8v : b8 = 0 := b8e.trans (by decide)
  subst b8v
  refine Tx.iaddW hC te_39_28 (fun b9 _ b9e => ?_)
  have b9v : b9 = 2 := b9e (by unfold InI; omega)
  subst b9v
  refine Tx.ldc_w hC (z := 252645135) te_39_29 rfl rfl rfl rfl ?_
  refine Tx.bits hC (f := (fun (x y : Int32) => x &&& y)) te_39_32 (fun _ _ _ _ => Iff.rfl) (fun b10 b10e _ => ?_)
  have b10v : b10 = 2 := b10e.trans (by decide)
  subst b10v
  refine Tx.istore_n hC te_39_33 rfl ?_
  refine Tx.iload_n hC te_39_34 rfl ?_
  refine Tx.iload_n hC te_39_35 rfl ?_
  refine Tx.bipush hC te_39_36 rfl rfl ?_
  refine Tx.bits hC (f := (fun (x y : Int32) => (x.toUInt32 >>> (y.toUInt32 &&& Int32.toUInt32 31)).toInt32)) te_39_38 (fun _ _ _ _ => Iff.rfl) (fun b11 b11e _ => ?_)
  have b11v : b11 = 0 := b11e.trans (by decide)
  subst b11v
  refine Tx.iaddW hC te_39_39 (fun b12 _ b12e => ?_)
  have b12v : b12 = 2 := b12e (by unfold InI; omega)
  subst b12v
  refine Tx.istore_n hC te_39_40 rfl ?_
  refine Tx.iload_n hC te_39_41 rfl ?_
  refine Tx.iload_n hC te_39_42 rfl ?_
  refine Tx.bipush hC te_39_43 rfl rfl ?_
  refine Tx.bits hC (f := (fun (x y : Int32) => (x.toUInt32 >>> (y.toUInt32 &&& Int32.toUInt32 31)).toInt32)) te_39_45 (fun _ _ _ _ => Iff.rfl) (fun b13 b13e _ => ?_)
  have b13v : b13 = 0 := b13e.trans (by decide)
  subst b13v
  refine Tx.iaddW hC te_39_46 (fun b14 _ b14e => ?_)
  have b14v : b14 = 2 := b14e (by unfold InI; omega)
  subst b14v
  refine Tx.istore_n hC te_39_47 rfl ?_
  refine Tx.iload_n hC te_39_48 rfl ?_
  refine Tx.bipush hC te_39_49 rfl rfl ?_
  refine Tx.bits hC (f := (fun (x y : Int32) => x &&& y)) te_39_51 (fun _ _ _ _ => Iff.rfl) (fun b15 b15e _ => ?_)
  have b15v : b15 = 2 := b15e.trans (by decide)
  subst b15v
  exact Tx.ireturn hC te_39_52 rfl (fun _ => H)
theorem f_39_11 {S : Nat × (Nat → Int32)} {n : Nat} {mem : MM} {K : Int → MM → Prop} {E : Nat → MM → Prop} (H : K 3 mem) : CQI (Ex S (n + 1)) 39 [.inl 11] mem K E := by
  refine CY.of (k := 0) mt_39 rfl rfl (fun _ => ?_)
  have hC := Ex.mono S n
  show Tx (Ex S n) S M_39 (kI K E) 0 0 0 [some (.inl 11)] [] mem
  refine Tx.iload_n hC te_39_0 rfl ?_
  refine Tx.iload_n hC te_39_1 rfl ?_
  refine Tx.iconst hC te_39_2 rfl ?_
  refine Tx.bits hC (f := (fun (x y : Int32) => (x.toUInt32 >>> (y.toUInt32 &&& Int32.toUInt32 31)).toInt32)) te_39_3 (fun _ _ _ _ => Iff.rfl) (fun b1 b1e _ => ?_)
  have b1v : b1 = 5 := b1e.trans (by decide)
  subst b1v
  refine Tx.ldc_w hC (z := 1431655765) te_39_4 rfl rfl rfl rfl ?_
  refine Tx.bits hC (f := (fun (x y : Int32) => x &&& y)) te_39_7 (fun _ _ _ _ => Iff.rfl) (fun b2 b2e _ => ?_)
  have b2v : b2 = 5 := b2e.trans (by decide)
  subst b2v
  refine Tx.isubW hC te_39_8 (fun b3 _ b3e => ?_)
  have b3v : b3 = 6 := b3e (by unfold InI; omega)
  subst b3v
  refine Tx.istore_n hC te_39_9 rfl ?_
  refine Tx.iload_n hC te_39_10 rfl ?_
  refine Tx.ldc_w hC (z := 858993459) te_39_11 rfl rfl rfl rfl ?_
  refine Tx.bits hC (f := (fun (x y : Int32) => x &&& y)) te_39_14 (fun _ _ _ _ => Iff.rfl) (fun b4 b4e _ => ?_)
  have b4v : b4 = 2 := b4e.trans (by decide)
  subst b4v
  refine Tx.iload_n hC te_39_15 rfl ?_
  refine Tx.iconst hC te_39_16 rfl ?_
  refine Tx.bits hC (f := (fun (x y : Int32) => (x.toUInt32 >>> (y.toUInt32 &&& Int32.toUInt32 31)).toInt32)) te_39_17 (fun _ _ _ _ => Iff.rfl) (fun b5 b5e _ => ?_)
  have b5v : b5 = 1 := b5e.trans (by decide)
  subst b5v
  refine Tx.ldc_w hC (z := 858993459) te_39_18 rfl rfl rfl rfl ?_
  refine Tx.bits hC (f := (fun (x y : Int32) => x &&& y)) te_39_21 (fun _ _ _ _ => Iff.rfl) (fun b6 b6e _ => ?_)
  have b6v : b6 = 1 := b6e.trans (by decide)
  subst b6v
  refine Tx.iaddW hC te_39_22 (fun b7 _ b7e => ?_)
  have b7v : b7 = 3 := b7e (by unfold InI; omega)
  subst b7v
  refine Tx.istore_n hC te_39_23 rfl ?_
  refine Tx.iload_n hC te_39_24 rfl ?_
  refine Tx.iload_n hC te_39_25 rfl ?_
  refine Tx.iconst hC te_39_26 rfl ?_
  refine Tx.bits hC (f := (fun (x y : Int32) => (x.toUInt32 >>> (y.toUInt32 &&& Int32.toUInt32 31)).toInt32)) te_39_27 (fun _ _ _ _ => Iff.rfl) (fun b8 b8e _ => ?_)
  have b8v : b8 = 0 := b8e.trans (by decide)
  subst b8v
  refine Tx.iaddW hC te_39_28 (fun b9 _ b9e => ?_)
  have b9v : b9 = 3 := b9e (by unfold InI; omega)
  subst b9v
  refine Tx.ldc_w hC (z := 252645135) te_39_29 rfl rfl rfl rfl ?_
  refine Tx.bits hC (f := (fun (x y : Int32) => x &&& y)) te_39_32 (fun _ _ _ _ => Iff.rfl) (fun b10 b10e _ => ?_)
  have b10v : b10 = 3 := b10e.trans (by decide)
  subst b10v
  refine Tx.istore_n hC te_39_33 rfl ?_
  refine Tx.iload_n hC te_39_34 rfl ?_
  refine Tx.iload_n hC te_39_35 rfl ?_
  refine Tx.bipush hC te_39_36 rfl rfl ?_
  refine Tx.bits hC (f := (fun (x y : Int32) => (x.toUInt32 >>> (y.toUInt32 &&& Int32.toUInt32 31)).toInt32)) te_39_38 (fun _ _ _ _ => Iff.rfl) (fun b11 b11e _ => ?_)
  have b11v : b11 = 0 := b11e.trans (by decide)
  subst b11v
  refine Tx.iaddW hC te_39_39 (fun b12 _ b12e => ?_)
  have b12v : b12 = 3 := b12e (by unfold InI; omega)
  subst b12v
  refine Tx.istore_n hC te_39_40 rfl ?_
  refine Tx.iload_n hC te_39_41 rfl ?_
  refine Tx.iload_n hC te_39_42 rfl ?_
  refine Tx.bipush hC te_39_43 rfl rfl ?_
  refine Tx.bits hC (f := (fun (x y : Int32) => (x.toUInt32 >>> (y.toUInt32 &&& Int32.toUInt32 31)).toInt32)) te_39_45 (fun _ _ _ _ => Iff.rfl) (fun b13 b13e _ => ?_)
  have b13v : b13 = 0 := b13e.trans (by decide)
  subst b13v
  refine Tx.iaddW hC te_39_46 (fun b14 _ b14e => ?_)
  have b14v : b14 = 3 := b14e (by unfold InI; omega)
  subst b14v
  refine Tx.istore_n hC te_39_47 rfl ?_
  refine Tx.iload_n hC te_39_48 rfl ?_
  refine Tx.bipush hC te_39_49 rfl rfl ?_
  refine Tx.bits hC (f := (fun (x y : Int32) => x &&& y)) te_39_51 (fun _ _ _ _ => Iff.rfl) (fun b15 b15e _ => ?_)
  have b15v : b15 = 3 := b15e.trans (by decide)
  subst b15v
  exact Tx.ireturn hC te_39_52 rfl (fun _ => H)
theorem f_39_12 {S : Nat × (Nat → Int32)} {n : Nat} {mem : MM} {K : Int → MM → Prop} {E : Nat → MM → Prop} (H : K 2 mem) : CQI (Ex S (n + 1)) 39 [.inl 12] mem K E := by
  refine CY.of (k := 0) mt_39 rfl rfl (fun _ => ?_)
  have hC := Ex.mono S n
  show Tx (Ex S n) S M_39 (kI K E) 0 0 0 [some (.inl 12)] [] mem
  refine Tx.iload_n hC te_39_0 rfl ?_
  refine Tx.iload_n hC te_39_1 rfl ?_
  refine Tx.iconst hC te_39_2 rfl ?_
  refine Tx.bits hC (f := (fun (x y : Int32) => (x.toUInt32 >>> (y.toUInt32 &&& Int32.toUInt32 31)).toInt32)) te_39_3 (fun _ _ _ _ => Iff.rfl) (fun b1 b1e _ => ?_)
  have b1v : b1 = 6 := b1e.trans (by decide)
  subst b1v
  refine Tx.ldc_w hC (z := 1431655765) te_39_4 rfl rfl rfl rfl ?_
  refine Tx.bits hC (f := (fun (x y : Int32) => x &&& y)) te_39_7 (fun _ _ _ _ => Iff.rfl) (fun b2 b2e _ => ?_)
  have b2v : b2 = 4 := b2e.trans (by decide)
  subst b2v
  refine Tx.isubW hC te_39_8 (fun b3 _ b3e => ?_)
  have b3v : b3 = 8 := b3e (by unfold InI; omega)
  subst b3v
  refine Tx.istore_n hC te_39_9 rfl ?_
  refine Tx.iload_n hC te_39_10 rfl ?_
  refine Tx.ldc_w hC (z := 858993459) te_39_11 rfl rfl rfl rfl ?_
  refine Tx.bits hC (f := (fun (x y : Int32) => x &&& y)) te_39_14 (fun _ _ _ _ => Iff.rfl) (fun b4 b4e _ => ?_)
  have b4v : b4 = 0 := b4e.trans (by decide)
  subst b4v
  refine Tx.iload_n hC te_39_15 rfl ?_
  refine Tx.iconst hC te_39_16 rfl ?_
  refine Tx.bits hC (f := (fun (x y : Int32) => (x.toUInt32 >>> (y.toUInt32 &&& Int32.toUInt32 31)).toInt32)) te_39_17 (fun _ _ _ _ => Iff.rfl) (fun b5 b5e _ => ?_)
  have b5v : b5 = 2 := b5e.trans (by decide)
  subst b5v
  refine Tx.ldc_w hC (z := 858993459) te_39_18 rfl rfl rfl rfl ?_
  refine Tx.bits hC (f := (fun (x y : Int32) => x &&& y)) te_39_21 (fun _ _ _ _ => Iff.rfl) (fun b6 b6e _ => ?_)
  have b6v : b6 = 2 := b6e.trans (by decide)
  subst b6v
  refine Tx.iaddW hC te_39_22 (fun b7 _ b7e => ?_)
  have b7v : b7 = 2 := b7e (by unfold InI; omega)
  subst b7v
  refine Tx.istore_n hC te_39_23 rfl ?_
  refine Tx.iload_n hC te_39_24 rfl ?_
  refine Tx.iload_n hC te_39_25 rfl ?_
  refine Tx.iconst hC te_39_26 rfl ?_
  refine Tx.bits hC (f := (fun (x y : Int32) => (x.toUInt32 >>> (y.toUInt32 &&& Int32.toUInt32 31)).toInt32)) te_39_27 (fun _ _ _ _ => Iff.rfl) (fun b8 b8e _ => ?_)
  have b8v : b8 = 0 := b8e.trans (by decide)
  subst b8v
  refine Tx.iaddW hC te_39_28 (fun b9 _ b9e => ?_)
  have b9v : b9 = 2 := b9e (by unfold InI; omega)
  subst b9v
  refine Tx.ldc_w hC (z := 252645135) te_39_29 rfl rfl rfl rfl ?_
  refine Tx.bits hC (f := (fun (x y : Int32) => x &&& y)) te_39_32 (fun _ _ _ _ => Iff.rfl) (fun b10 b10e _ => ?_)
  have b10v : b10 = 2 := b10e.trans (by decide)
  subst b10v
  refine Tx.istore_n hC te_39_33 rfl ?_
  refine Tx.iload_n hC te_39_34 rfl ?_
  refine Tx.iload_n hC te_39_35 rfl ?_
  refine Tx.bipush hC te_39_36 rfl rfl ?_
  refine Tx.bits hC (f := (fun (x y : Int32) => (x.toUInt32 >>> (y.toUInt32 &&& Int32.toUInt32 31)).toInt32)) te_39_38 (fun _ _ _ _ => Iff.rfl) (fun b11 b11e _ => ?_)
  have b11v : b11 = 0 := b11e.trans (by decide)
  subst b11v
  refine Tx.iaddW hC te_39_39 (fun b12 _ b12e => ?_)
  have b12v : b12 = 2 := b12e (by unfold InI; omega)
  subst b12v
  refine Tx.istore_n hC te_39_40 rfl ?_
  refine Tx.iload_n hC te_39_41 rfl ?_
  refine Tx.iload_n hC te_39_42 rfl ?_
  refine Tx.bipush hC te_39_43 rfl rfl ?_
  refine Tx.bits hC (f := (fun (x y : Int32) => (x.toUInt32 >>> (y.toUInt32 &&& Int32.toUInt32 31)).toInt32)) te_39_45 (fun _ _ _ _ => Iff.rfl) (fun b13 b13e _ => ?_)
  have b13v : b13 = 0 := b13e.trans (by decide)
  subst b13v
  refine Tx.iaddW hC te_39_46 (fun b14 _ b14e => ?_)
  have b14v : b14 = 2 := b14e (by unfold InI; omega)
  subst b14v
  refine Tx.istore_n hC te_39_47 rfl ?_
  refine Tx.iload_n hC te_39_48 rfl ?_
  refine Tx.bipush hC te_39_49 rfl rfl ?_
  refine Tx.bits hC (f := (fun (x y : Int32) => x &&& y)) te_39_51 (fun _ _ _ _ => Iff.rfl) (fun b15 b15e _ => ?_)
  have b15v : b15 = 2 := b15e.trans (by decide)
  subst b15v
  exact Tx.ireturn hC te_39_52 rfl (fun _ => H)
theorem f_39_13 {S : Nat × (Nat → Int32)} {n : Nat} {mem : MM} {K : Int → MM → Prop} {E : Nat → MM → Prop} (H : K 3 mem) : CQI (Ex S (n + 1)) 39 [.inl 13] mem K E := by
  refine CY.of (k := 0) mt_39 rfl rfl (fun _ => ?_)
  have hC := Ex.mono S n
  show Tx (Ex S n) S M_39 (kI K E) 0 0 0 [some (.inl 13)] [] mem
  refine Tx.iload_n hC te_39_0 rfl ?_
  refine Tx.iload_n hC te_39_1 rfl ?_
  refine Tx.iconst hC te_39_2 rfl ?_
  refine Tx.bits hC (f := (fun (x y : Int32) => (x.toUInt32 >>> (y.toUInt32 &&& Int32.toUInt32 31)).toInt32)) te_39_3 (fun _ _ _ _ => Iff.rfl) (fun b1 b1e _ => ?_)
  have b1v : b1 = 6 := b1e.trans (by decide)
  subst b1v
  refine Tx.ldc_w hC (z := 1431655765) te_39_4 rfl rfl rfl rfl ?_
  refine Tx.bits hC (f := (fun (x y : Int32) => x &&& y)) te_39_7 (fun _ _ _ _ => Iff.rfl) (fun b2 b2e _ => ?_)
  have b2v : b2 = 4 := b2e.trans (by decide)
  subst b2v
  refine Tx.isubW hC te_39_8 (fun b3 _ b3e => ?_)
  have b3v : b3 = 9 := b3e (by unfold InI; omega)
  subst b3v
  refine Tx.istore_n hC te_39_9 rfl ?_
  refine Tx.iload_n hC te_39_10 rfl ?_
  refine Tx.ldc_w hC (z := 858993459) te_39_11 rfl rfl rfl rfl ?_
  refine Tx.bits hC (f := (fun (x y : Int32) => x &&& y)) te_39_14 (fun _ _ _ _ => Iff.rfl) (fun b4 b4e _ => ?_)
  have b4v : b4 = 1 := b4e.trans (by decide)
  subst b4v
  refine Tx.iload_n hC te_39_15 rfl ?_
  refine Tx.iconst hC te_39_16 rfl ?_
  refine Tx.bits hC (f := (fun (x y : Int32) => (x.toUInt32 >>> (y.toUInt32 &&& Int32.toUInt32 31)).toInt32)) te_39_17 (fun _ _ _ _ => Iff.rfl) (fun b5 b5e _ => ?_)
  have b5v : b5 = 2 := b5e.trans (by decide)
  subst b5v
  refine Tx.ldc_w hC (z := 858993459) te_39_18 rfl rfl rfl rfl ?_
  refine Tx.bits hC (f := (fun (x y : Int32) => x &&& y)) te_39_21 (fun _ _ _ _ => Iff.rfl) (fun b6 b6e _ => ?_)
  have b6v : b6 = 2 := b6e.trans (by decide)
  subst b6v
  refine Tx.iaddW hC te_39_22 (fun b7 _ b7e => ?_)
  have b7v : b7 = 3 := b7e (by unfold InI; omega)
  subst b7v
  refine Tx.istore_n hC te_39_23 rfl ?_
  refine Tx.iload_n hC te_39_24 rfl ?_
  refine Tx.iload_n hC te_39_25 rfl ?_
  refine Tx.iconst hC te_39_26 rfl ?_
  refine Tx.bits hC (f := (fun (x y : Int32) => (x.toUInt32 >>> (y.toUInt32 &&& Int32.toUInt32 31)).toInt32)) te_39_27 (fun _ _ _ _ => Iff.rfl) (fun b8 b8e _ => ?_)
  have b8v : b8 = 0 := b8e.trans (by decide)
  subst b8v
  refine Tx.iaddW hC te_39_28 (fun b9 _ b9e => ?_)
  have b9v : b9 = 3 := b9e (by unfold InI; omega)
  subst b9v
  refine Tx.ldc_w hC (z := 252645135) te_39_29 rfl rfl rfl rfl ?_
  refine Tx.bits hC (f := (fun (x y : Int32) => x &&& y)) te_39_32 (fun _ _ _ _ => Iff.rfl) (fun b10 b10e _ => ?_)
  have b10v : b10 = 3 := b10e.trans (by decide)
  subst b10v
  refine Tx.istore_n hC te_39_33 rfl ?_
  refine Tx.iload_n hC te_39_34 rfl ?_
  refine Tx.iload_n hC te_39_35 rfl ?_
  refine Tx.bipush hC te_39_36 rfl rfl ?_
  refine Tx.bits hC (f := (fun (x y : Int32) => (x.toUInt32 >>> (y.toUInt32 &&& Int32.toUInt32 31)).toInt32)) te_39_38 (fun _ _ _ _ => Iff.rfl) (fun b11 b11e _ => ?_)
  have b11v : b11 = 0 := b11e.trans (by decide)
  subst b11v
  refine Tx.iaddW hC te_39_39 (fun b12 _ b12e => ?_)
  have b12v : b12 = 3 := b12e (by unfold InI; omega)
  subst b12v
  refine Tx.istore_n hC te_39_40 rfl ?_
  refine Tx.iload_n hC te_39_41 rfl ?_
  refine Tx.iload_n hC te_39_42 rfl ?_
  refine Tx.bipush hC te_39_43 rfl rfl ?_
  refine Tx.bits hC (f := (fun (x y : Int32) => (x.toUInt32 >>> (y.toUInt32 &&& Int32.toUInt32 31)).toInt32)) te_39_45 (fun _ _ _ _ => Iff.rfl) (fun b13 b13e _ => ?_)
  have b13v : b13 = 0 := b13e.trans (by decide)
  subst b13v
  refine Tx.iaddW hC te_39_46 (fun b14 _ b14e => ?_)
  have b14v : b14 = 3 := b14e (by unfold InI; omega)
  subst b14v
  refine Tx.istore_n hC te_39_47 rfl ?_
  refine Tx.iload_n hC te_39_48 rfl ?_
  refine Tx.bipush hC te_39_49 rfl rfl ?_
  refine Tx.bits hC (f := (fun (x y : Int32) => x &&& y)) te_39_51 (fun _ _ _ _ => Iff.rfl) (fun b15 b15e _ => ?_)
  have b15v : b15 = 3 := b15e.trans (by decide)
  subst b15v
  exact Tx.ireturn hC te_39_52 rfl (fun _ => H)
theorem f_39_14 {S : Nat × (Nat → Int32)} {n : Nat} {mem : MM} {K : Int → MM → Prop} {E : Nat → MM → Prop} (H : K 3 mem) : CQI (Ex S (n + 1)) 39 [.inl 14] mem K E := by
  refine CY.of (k := 0) mt_39 rfl rfl (fun _ => ?_)
  have hC := Ex.mono S n
  show Tx (Ex S n) S M_39 (kI K E) 0 0 0 [some (.inl 14)] [] mem
  refine Tx.iload_n hC te_39_0 rfl ?_
  refine Tx.iload_n hC te_39_1 rfl ?_
  refine Tx.iconst hC te_39_2 rfl ?_
  refine Tx.bits hC (f := (fun (x y : Int32) => (x.toUInt32 >>> (y.toUInt32 &&& Int32.toUInt32 31)).toInt32)) te_39_3 (fun _ _ _ _ => Iff.rfl) (fun b1 b1e _ => ?_)
  have b1v : b1 = 7 := b1e.trans (by decide)
  subst b1v
  refine Tx.ldc_w hC (z := 1431655765) te_39_4 rfl rfl rfl rfl ?_
  refine Tx.bits hC (f := (fun (x y : Int32) => x &&& y)) te_39_7 (fun _ _ _ _ => Iff.rfl) (fun b2 b2e _ => ?_)
  have b2v : b2 = 5 := b2e.trans (by decide)
  subst b2v
  refine Tx.isubW hC te_39_8 (fun b3 _ b3e => ?_)
  have b3v : b3 = 9 := b3e (by unfold InI; omega)
  subst b3v
  refine Tx.istore_n hC te_39_9 rfl ?_
  refine Tx.iload_n hC te_39_10 rfl ?_
  refine Tx.ldc_w hC (z := 858993459) te_39_11 rfl rfl rfl rfl ?_
  refine Tx.bits hC (f := (fun (x y : Int32) => x &&& y)) te_39_14 (fun _ _ _ _ => Iff.rfl) (fun b4 b4e _ => ?_)
  have b4v : b4 = 1 := b4e.trans (by decide)
  subst b4v
  refine Tx.iload_n hC te_39_15 rfl ?_
  refine Tx.iconst hC te_39_16 rfl ?_
  refine Tx.bits hC (f := (fun (x y : Int32) => (x.toUInt32 >>> (y.toUInt32 &&& Int32.toUInt32 31)).toInt32)) te_39_17 (fun _ _ _ _ => Iff.rfl) (fun b5 b5e _ => ?_)
  have b5v : b5 = 2 := b5e.trans (by decide)
  subst b5v
  refine Tx.ldc_w hC (z := 858993459) te_39_18 rfl rfl rfl rfl ?_
  refine Tx.bits hC (f := (fun (x y : Int32) => x &&& y)) te_39_21 (fun _ _ _ _ => Iff.rfl) (fun b6 b6e _ => ?_)
  have b6v : b6 = 2 := b6e.trans (by decide)
  subst b6v
  refine Tx.iaddW hC te_39_22 (fun b7 _ b7e => ?_)
  have b7v : b7 = 3 := b7e (by unfold InI; omega)
  subst b7v
  refine Tx.istore_n hC te_39_23 rfl ?_
  refine Tx.iload_n hC te_39_24 rfl ?_
  refine Tx.iload_n hC te_39_25 rfl ?_
  refine Tx.iconst hC te_39_26 rfl ?_
  refine Tx.bits hC (f := (fun (x y : Int32) => (x.toUInt32 >>> (y.toUInt32 &&& Int32.toUInt32 31)).toInt32)) te_39_27 (fun _ _ _ _ => Iff.rfl) (fun b8 b8e _ => ?_)
  have b8v : b8 = 0 := b8e.trans (by decide)
  subst b8v
  refine Tx.iaddW hC te_39_28 (fun b9 _ b9e => ?_)
  have b9v : b9 = 3 := b9e (by unfold InI; omega)
  subst b9v
  refine Tx.ldc_w hC (z := 252645135) te_39_29 rfl rfl rfl rfl ?_
  refine Tx.bits hC (f := (fun (x y : Int32) => x &&& y)) te_39_32 (fun _ _ _ _ => Iff.rfl) (fun b10 b10e _ => ?_)
  have b10v : b10 = 3 := b10e.trans (by decide)
  subst b10v
  refine Tx.istore_n hC te_39_33 rfl ?_
  refine Tx.iload_n hC te_39_34 rfl ?_
  refine Tx.iload_n hC te_39_35 rfl ?_
  refine Tx.bipush hC te_39_36 rfl rfl ?_
  refine Tx.bits hC (f := (fun (x y : Int32) => (x.toUInt32 >>> (y.toUInt32 &&& Int32.toUInt32 31)).toInt32)) te_39_38 (fun _ _ _ _ => Iff.rfl) (fun b11 b11e _ => ?_)
  have b11v : b11 = 0 := b11e.trans (by decide)
  subst b11v
  refine Tx.iaddW hC te_39_39 (fun b12 _ b12e => ?_)
  have b12v : b12 = 3 := b12e (by unfold InI; omega)
  subst b12v
  refine Tx.istore_n hC te_39_40 rfl ?_
  refine Tx.iload_n hC te_39_41 rfl ?_
  refine Tx.iload_n hC te_39_42 rfl ?_
  refine Tx.bipush hC te_39_43 rfl rfl ?_
  refine Tx.bits hC (f := (fun (x y : Int32) => (x.toUInt32 >>> (y.toUInt32 &&& Int32.toUInt32 31)).toInt32)) te_39_45 (fun _ _ _ _ => Iff.rfl) (fun b13 b13e _ => ?_)
  have b13v : b13 = 0 := b13e.trans (by decide)
  subst b13v
  refine Tx.iaddW hC te_39_46 (fun b14 _ b14e => ?_)
  have b14v : b14 = 3 := b14e (by unfold InI; omega)
  subst b14v
  refine Tx.istore_n hC te_39_47 rfl ?_
  refine Tx.iload_n hC te_39_48 rfl ?_
  refine Tx.bipush hC te_39_49 rfl rfl ?_
  refine Tx.bits hC (f := (fun (x y : Int32) => x &&& y)) te_39_51 (fun _ _ _ _ => Iff.rfl) (fun b15 b15e _ => ?_)
  have b15v : b15 = 3 := b15e.trans (by decide)
  subst b15v
  exact Tx.ireturn hC te_39_52 rfl (fun _ => H)
theorem f_39_15 {S : Nat × (Nat → Int32)} {n : Nat} {mem : MM} {K : Int → MM → Prop} {E : Nat → MM → Prop} (H : K 4 mem) : CQI (Ex S (n + 1)) 39 [.inl 15] mem K E := by
  refine CY.of (k := 0) mt_39 rfl rfl (fun _ => ?_)
  have hC := Ex.mono S n
  show Tx (Ex S n) S M_39 (kI K E) 0 0 0 [some (.inl 15)] [] mem
  refine Tx.iload_n hC te_39_0 rfl ?_
  refine Tx.iload_n hC te_39_1 rfl ?_
  refine Tx.iconst hC te_39_2 rfl ?_
  refine Tx.bits hC (f := (fun (x y : Int32) => (x.toUInt32 >>> (y.toUInt32 &&& Int32.toUInt32 31)).toInt32)) te_39_3 (fun _ _ _ _ => Iff.rfl) (fun b1 b1e _ => ?_)
  have b1v : b1 = 7 := b1e.trans (by decide)
  subst b1v
  refine Tx.ldc_w hC (z := 1431655765) te_39_4 rfl rfl rfl rfl ?_
  refine Tx.bits hC (f := (fun (x y : Int32) => x &&& y)) te_39_7 (fun _ _ _ _ => Iff.rfl) (fun b2 b2e _ => ?_)
  have b2v : b2 = 5 := b2e.trans (by decide)
  subst b2v
  refine Tx.isubW hC te_39_8 (fun b3 _ b3e => ?_)
  have b3v : b3 = 10 := b3e (by unfold InI; omega)
  subst b3v
  refine Tx.istore_n hC te_39_9 rfl ?_
  refine Tx.iload_n hC te_39_10 rfl ?_
  refine Tx.ldc_w hC (z := 858993459) te_39_11 rfl rfl rfl rfl ?_
  refine Tx.bits hC (f := (fun (x y : Int32) => x &&& y)) te_39_14 (fun _ _ _ _ => Iff.rfl) (fun b4 b4e _ => ?_)
  have b4v : b4 = 2 := b4e.trans (by decide)
  subst b4v
  refine Tx.iload_n hC te_39_15 rfl ?_
  refine Tx.iconst hC te_39_16 rfl ?_
  refine Tx.bits hC (f := (fun (x y : Int32) => (x.toUInt32 >>> (y.toUInt32 &&& Int32.toUInt32 31)).toInt32)) te_39_17 (fun _ _ _ _ => Iff.rfl) (fun b5 b5e _ => ?_)
  have b5v : b5 = 2 := b5e.trans (by decide)
  subst b5v
  refine Tx.ldc_w hC (z := 858993459) te_39_18 rfl rfl rfl rfl ?_
  refine Tx.bits hC (f := (fun (x y : Int32) => x &&& y)) te_39_21 (fun _ _ _ _ => Iff.rfl) (fun b6 b6e _ => ?_)
  have b6v : b6 = 2 := b6e.trans (by decide)
  subst b6v
  refine Tx.iaddW hC te_39_22 (fun b7 _ b7e => ?_)
  have b7v : b7 = 4 := b7e (by unfold InI; omega)
  subst b7v
  refine Tx.istore_n hC te_39_23 rfl ?_
  refine Tx.iload_n hC te_39_24 rfl ?_
  refine Tx.iload_n hC te_39_25 rfl ?_
  refine Tx.iconst hC te_39_26 rfl ?_
  refine Tx.bits hC (f := (fun (x y : Int32) => (x.toUInt32 >>> (y.toUInt32 &&& Int32.toUInt32 31)).toInt32)) te_39_27 (fun _ _ _ _ => Iff.rfl) (fun b8 b8e _ => ?_)
  have b8v : b8 = 0 := b8e.trans (by decide)
  subst b8v
  refine Tx.iaddW hC te_39_28 (fun b9 _ b9e => ?_)
  have b9v : b9 = 4 := b9e (by unfold InI; omega)
  subst b9v
  refine Tx.ldc_w hC (z := 252645135) te_39_29 rfl rfl rfl rfl ?_
  refine Tx.bits hC (f := (fun (x y : Int32) => x &&& y)) te_39_32 (fun _ _ _ _ => Iff.rfl) (fun b10 b10e _ => ?_)
  have b10v : b10 = 4 := b10e.trans (by decide)
  subst b10v
  refine Tx.istore_n hC te_39_33 rfl ?_
  refine Tx.iload_n hC te_39_34 rfl ?_
  refine Tx.iload_n hC te_39_35 rfl ?_
  refine Tx.bipush hC te_39_36 rfl rfl ?_
  refine Tx.bits hC (f := (fun (x y : Int32) => (x.toUInt32 >>> (y.toUInt32 &&& Int32.toUInt32 31)).toInt32)) te_39_38 (fun _ _ _ _ => Iff.rfl) (fun b11 b11e _ => ?_)
  have b11v : b11 = 0 := b11e.trans (by decide)
  subst b11v
  refine Tx.iaddW hC te_39_39 (fun b12 _ b12e => ?_)
  have b12v : b12 = 4 := b12e (by unfold InI; omega)
  subst b12v
  refine Tx.istore_n hC te_39_40 rfl ?_
  refine Tx.iload_n hC te_39_41 rfl ?_
  refine Tx.iload_n hC te_39_42 rfl ?_
  refine Tx.bipush hC te_39_43 rfl rfl ?_
  refine Tx.bits hC (f := (fun (x y : Int32) => (x.toUInt32 >>> (y.toUInt32 &&& Int32.toUInt32 31)).toInt32)) te_39_45 (fun _ _ _ _ => Iff.rfl) (fun b13 b13e _ => ?_)
  have b13v : b13 = 0 := b13e.trans (by decide)
  subst b13v
  refine Tx.iaddW hC te_39_46 (fun b14 _ b14e => ?_)
  have b14v : b14 = 4 := b14e (by unfold InI; omega)
  subst b14v
  refine Tx.istore_n hC te_39_47 rfl ?_
  refine Tx.iload_n hC te_39_48 rfl ?_
  refine Tx.bipush hC te_39_49 rfl rfl ?_
  refine Tx.bits hC (f := (fun (x y : Int32) => x &&& y)) te_39_51 (fun _ _ _ _ => Iff.rfl) (fun b15 b15e _ => ?_)
  have b15v : b15 = 4 := b15e.trans (by decide)
  subst b15v
  exact Tx.ireturn hC te_39_52 rfl (fun _ => H)
theorem f_39x {S : Nat × (Nat → Int32)} {n : Nat} {mem : MM} {K : Int → MM → Prop} {E : Nat → MM → Prop} {x : Int} (hx : 0 ≤ x ∧ x ≤ 15) (H : ∀ r, r = popI x → K r mem) : CQI (Ex S (n + 1)) 39 [.inl x] mem K E := by
  have a : x = 0 ∨ x = 1 ∨ x = 2 ∨ x = 3 ∨ x = 4 ∨ x = 5 ∨ x = 6 ∨ x = 7 ∨ x = 8 ∨ x = 9 ∨ x = 10 ∨ x = 11 ∨ x = 12 ∨ x = 13 ∨ x = 14 ∨ x = 15 := by omega
  rcases a with rfl | rfl | rfl | rfl | rfl | rfl | rfl | rfl | rfl | rfl | rfl | rfl | rfl | rfl | rfl | rfl
  · exact f_39_0 (H _ rfl)
  · exact f_39_1 (H _ rfl)
  · exact f_39_2 (H _ rfl)
  · exact f_39_3 (H _ rfl)
  · exact f_39_4 (H _ rfl)
  · exact f_39_5 (H _ rfl)
  · exact f_39_6 (H _ rfl)
  · exact f_39_7 (H _ rfl)
  · exact f_39_8 (H _ rfl)
  · exact f_39_9 (H _ rfl)
  · exact f_39_10 (H _ rfl)
  · exact f_39_11 (H _ rfl)
  · exact f_39_12 (H _ rfl)
  · exact f_39_13 (H _ rfl)
  · exact f_39_14 (H _ rfl)
  · exact f_39_15 (H _ rfl)
theorem f_37x {S : Nat × (Nat → Int32)} {n : Nat} {mem : MM} {K : Int → MM → Prop} {E : Nat → MM → Prop} (hB : BodyOK mem) {o : Int} (ho : 0 ≤ o ∧ o < 8) (H : ∀ r, r = cUn mem o.toNat → 0 ≤ r → r ≤ 2 → K r mem) : CQI (Ex S (n + 1)) 37 [.inr 1, .inl o] mem K E := by
  refine CY.of (k := 0) mt_37 rfl rfl (fun hv => ?_)
  have hC := Ex.mono S n
  have ii_o : InI o := hv (.inl o) (by simp)
  unfold InI at ii_o
  clear hv
  show Tx (Ex S n) S M_37 (kI K E) 0 0 0 [some (.inr 1), some (.inl o)] [] mem
  refine Tx.aload_n hC te_37_0 rfl ?_
  refine Tx.getR hC te_37_1 rfl rfl rfl ?_
  refine Tx.aload_n hC te_37_4 rfl ?_
  refine Tx.getR hC te_37_5 rfl rfl rfl ?_
  refine Tx.iload_n hC te_37_8 rfl ?_
  refine Tx.iald hC te_37_9 rfl (by omega) (fun v1 v1e v1i => ?_)
  unfold InI at v1i
  have f2 := hB.kd (o := (Int.toNat o)) (by omega)
  refine Tx.iald hC te_37_10 rfl (by omega) (fun v3 v3e v3i => ?_)
  unfold InI at v3i
  have f4 := hB.un (o := (Int.toNat v1)) (by omega)
  exact Tx.ireturn hC te_37_11 rfl (fun hr => show K v3 mem from H _ (by unfold cUn; simp_all) (by omega) (by omega))
theorem f_38x {S : Nat × (Nat → Int32)} {n : Nat} {mem : MM} {K : Int → MM → Prop} {E : Nat → MM → Prop} (hB : BodyOK mem) {o : Int} (ho : 0 ≤ o ∧ o < 8) (H : ∀ r, r = cBu mem o.toNat → 1 ≤ r → r ≤ 15 → K r mem) : CQI (Ex S (n + 1)) 38 [.inr 1, .inl o] mem K E := by
  refine CY.of (k := 0) mt_38 rfl rfl (fun hv => ?_)
  have hC := Ex.mono S n
  have ii_o : InI o := hv (.inl o) (by simp)
  unfold InI at ii_o
  clear hv
  show Tx (Ex S n) S M_38 (kI K E) 0 0 0 [some (.inr 1), some (.inl o)] [] mem
  refine Tx.aload_n hC te_38_0 rfl ?_
  refine Tx.getR hC te_38_1 rfl rfl rfl ?_
  refine Tx.aload_n hC te_38_4 rfl ?_
  refine Tx.getR hC te_38_5 rfl rfl rfl ?_
  refine Tx.iload_n hC te_38_8 rfl ?_
  refine Tx.iald hC te_38_9 rfl (by omega) (fun v1 v1e v1i => ?_)
  unfold InI at v1i
  have f2 := hB.kd (o := (Int.toNat o)) (by omega)
  refine Tx.iald hC te_38_10 rfl (by omega) (fun v3 v3e v3i => ?_)
  unfold InI at v3i
  have f4 := hB.bu (o := (Int.toNat v1)) (by omega)
  exact Tx.ireturn hC te_38_11 rfl (fun hr => show K v3 mem from H _ (by unfold cBu; simp_all) (by omega) (by omega))
theorem f_36x {S : Nat × (Nat → Int32)} {n : Nat} {mem : MM} {K : Int → MM → Prop} {E : Nat → MM → Prop} (hB : BodyOK mem) {u : Int} (H : ∀ r, r = usC mem u → 0 ≤ r → r ≤ 32 → K r mem) : CQI (Ex S (n + 2)) 36 [.inr 1, .inl u] mem K E := by
  refine CY.of (k := 2) mt_36 rfl rfl (fun hv => ?_)
  have hC := Ex.mono S (n + 1)
  have ii_u : InI u := hv (.inl u) (by simp)
  unfold InI at ii_u
  clear hv
  have h8 := hB.1
  show Tx (Ex S (n + 1)) S M_36 (kI K E) 0 0 0 [some (.inr 1), some (.inl u), none, none] [] mem
  have l_4 : ∀ (N : Nat) (x2 x3 : Int), (0 ≤ x3 ∧ x3 ≤ mem 1 0) → (x2 = usN (cUn mem) (cBu mem) u x3.toNat) → ((8 - x3).toNat) < N → Tx (Ex S (n + 1)) S M_36 (kI K E) 0 0 4 [some (.inr 1), some (.inl u), some (.inl x2), some (.inl x3)] [] mem := by
    intro N
    induction N with
    | zero => intros; omega
    | succ N ih_4 =>
      intro x2 x3 i4_0 i4_1 hN_4 
      have us := usN_rg (f := cUn mem) (g := cBu mem) (u := u) x3.toNat
      have up := popI_rg (x := cBu mem x3.toNat)
      refine Tx.iload_n hC te_36_4 rfl ?_
      refine Tx.aload_n hC te_36_5 rfl ?_
      refine Tx.getI hC te_36_6 rfl rfl rfl (fun v1 v1e v1i => ?_)
      unfold InI at v1i
      refine Tx.icmp hC (t := 38) te_36_9 (by decide) (fun q2 => ?_) (fun q2 => ?_)
      · replace q2 : v1 ≤ (x3 : Int) := q2
        refine Tx.iload_n hC te_36_38 rfl ?_
        exact Tx.ireturn hC te_36_39 rfl (fun hr => show K x2 mem from H _ (by unfold usC; rw [show (mem 1 0).toNat = x3.toNat by omega]; omega) (by omega) (by omega))
      · replace q2 : ¬ (v1 ≤ (x3 : Int)) := q2
        refine Tx.aload_n hC te_36_12 rfl ?_
        refine Tx.iload_n hC te_36_13 rfl ?_
        refine Tx.virtI hC te_36_14 mt_37 (args := [.inr 1, .inl x3]) (rest := []) (c' := 0) (s' := 0) rfl rfl rfl rfl rfl rfl rfl rfl rfl rfl ?_
        refine f_37x hB (by omega) (fun r3 r3e r3a r3b r3i => ?_)
        unfold InI at r3i
        refine Tx.iload_n hC te_36_17 rfl ?_
        refine Tx.icmp hC (t := 32) te_36_18 (by decide) (fun q6 => ?_) (fun q6 => ?_)
        · replace q6 : ¬ (r3 : Int) = u := q6
          refine Tx.iincW hC te_36_32 rfl rfl (fun z7 z7i z7e => ?_)
          unfold InI at z7i z7e
          first | replace z7e := z7e (by omega) | clear z7e
          refine Tx.goto hC (t := 4) te_36_35 (by decide) ?_
          exact ih_4 x2 z7 (by omega) (by
                have w := usN_st (f := cUn mem) (g := cBu mem) (u := u) (o := x3) (by omega)
                rw [show z7 = x3 + 1 by omega, w]
                split <;> omega) (by omega)
        · replace q6 : ¬ (¬ (r3 : Int) = u) := q6
          refine Tx.iload_n hC te_36_21 rfl ?_
          refine Tx.aload_n hC te_36_22 rfl ?_
          refine Tx.iload_n hC te_36_23 rfl ?_
          refine Tx.virtI hC te_36_24 mt_38 (args := [.inr 1, .inl x3]) (rest := [.inl x2]) (c' := 0) (s' := 0) rfl rfl rfl rfl rfl rfl rfl rfl rfl rfl ?_
          refine f_38x hB (by omega) (fun r8 r8e r8a r8b r8i => ?_)
          subst r8e
          refine Tx.statI hC te_36_27 (by decide) mt_39 (args := [.inl (cBu mem (Int.toNat x3))]) (rest := [.inl x2]) (c' := 0) (s' := 0) rfl rfl rfl rfl rfl rfl rfl ?_
          refine f_39x (by omega) (fun r11 r11e r11i => ?_)
          unfold InI at r11i
          refine Tx.iaddW hC te_36_30 (fun z14 z14i z14e => ?_)
          unfold InI at z14i z14e
          first | replace z14e := z14e (by omega) | clear z14e
          refine Tx.istore_n hC te_36_31 rfl ?_
          refine Tx.iincW hC te_36_32 rfl rfl (fun z15 z15i z15e => ?_)
          unfold InI at z15i z15e
          first | replace z15e := z15e (by omega) | clear z15e
          refine Tx.goto hC (t := 4) te_36_35 (by decide) ?_
          exact ih_4 z14 z15 (by omega) (by
                have w := usN_st (f := cUn mem) (g := cBu mem) (u := u) (o := x3) (by omega)
                rw [show z15 = x3 + 1 by omega, w]
                split <;> omega) (by omega)
  refine Tx.iconst hC te_36_0 rfl ?_
  refine Tx.istore_n hC te_36_1 rfl ?_
  refine Tx.iconst hC te_36_2 rfl ?_
  refine Tx.istore_n hC te_36_3 rfl ?_
  exact l_4 _ 0 0 (by omega) (rfl) (Nat.lt_succ_self _)
end
section
/-! laid by wip/hand/tg.py: isSound and need of the class, exactly -/
theorem f_69x {S : Nat × (Nat → Int32)} {n : Nat} {mem : MM} {K : MM → Prop} {E : Nat → MM → Prop} (hI : ClS mem) (H : ∀ m', Rdy m' → Frm pNb mem m' → K m') (HE : ∀ m', ClS m' → Frm pNb mem m' → ¬ SndX m' → E 1 m') : CQV (Ex S (n + 14)) 69 [.inr 0] mem K E := by
  refine CY.of (k := 0) mt_69 rfl rfl (fun hv => ?_)
  have hC := Ex.mono S (n + 13)
  clear hv
  show Tx (Ex S (n + 13)) S M_69 (kV K E) 0 0 0 [some (.inr 0)] [] mem
  refine Tx.aload_n hC te_69_0 rfl ?_
  refine Tx.virtV hC te_69_1 mt_11 (args := [.inr 0]) (rest := []) (c' := 0) (s' := 0) rfl rfl rfl rfl rfl rfl rfl rfl rfl rfl ?_
  refine f_11 hI (fun m2 r1I hF3 => ?_)
  have hF3n : Frm pNb mem m2 := Frm.rf.tr hF3
  refine Tx.aload_n hC te_69_4 rfl ?_
  refine Tx.getI hC te_69_5 rfl rfl rfl (fun v4 v4e v4i => ?_)
  unfold InI at v4i
  have f5 := r1I.1.1.so
  refine Tx.ifc hC (t := 22) te_69_8 (by decide) (fun q6 => ?_) (fun q6 => ?_)
  · replace q6 : ¬ (v4 : Int) = 0 := q6
    exact Tx.vret hC te_69_22 rfl (show K m2 from H _ (r1I.rdy (by omega)) hF3n)
  · replace q6 : ¬ (¬ (v4 : Int) = 0) := q6
    exact Tx.thr hC te_69_11 rfl rfl rfl rfl rfl (show E 1 m2 from HE _ r1I.cs hF3n (fun q => absurd (r1I.1.2.2.2.mpr q) (by omega)))
end
section
/-! laid by wip/hand/tg.py: fold and bestFold of the class -/
theorem mulK {k r c : Int} (hk : 1 ≤ k ∧ k ≤ 4) (hr : 0 ≤ r ∧ r ≤ c) : 0 ≤ k * r ∧ k * r ≤ 4 * c := by
  have a1 : 0 ≤ k * r := Int.mul_nonneg (by omega) hr.1
  have a2 : k * r ≤ 4 * r := Int.mul_le_mul_of_nonneg_right hk.2 hr.1
  omega
def buV (f g : Nat → Int) (k : Int) : Nat → Int
  | 0 => 0
  | u + 1 => max (buV f g k u) (upV (k * f u) (g u))
def foV (f g : Nat → Int) (k U L : Int) : Nat → Int
  | 0 => max 1 (upV (k * U) L)
  | u + 1 => max (foV f g k U L u) (upV (k * f u) (g u))
theorem foV_bu {f g : Nat → Int} {k U L : Int} : ∀ u, foV f g k U L u = max 1 (max (upV (k * U) L) (buV f g k u))
  | 0 => by unfold foV buV; omega
  | u + 1 => by unfold foV buV; rw [foV_bu u]; omega
theorem buV_st {f g : Nat → Int} {k x : Int} (h : 0 ≤ x) : buV f g k (x + 1).toNat = max (buV f g k x.toNat) (upV (k * f x.toNat) (g x.toNat)) := by
  rw [show (x + 1).toNat = x.toNat + 1 by omega]; rfl
def fbC (m : MM) (k : Int) : Int := foV (fun u => usC m (u : Int)) (m 8) k (m 9 5) (m 9 6) 3
def fbR (m : MM) (k : Int) : Int := foV (fun u => usR m (u : Int)) (m 153) k (m 143 31) (m 143 32) 3
theorem f_35x {S : Nat × (Nat → Int32)} {n : Nat} {mem : MM} {K : Int → MM → Prop} {E : Nat → MM → Prop} (hB : BodyOK mem) {u k : Int} (hu : u = -1) (hk : 1 ≤ k ∧ k ≤ 4) (H : ∀ r, r = buV (fun u => usC mem (u : Int)) (mem 8) k 3 → 0 ≤ r → r ≤ 128 → K r mem) : CQI (Ex S (n + 3)) 35 [.inr 1, .inl u, .inl k] mem K E := by
  refine CY.of (k := 3) mt_35 rfl rfl (fun hv => ?_)
  have hC := Ex.mono S (n + 2)
  have ii_u : InI u := hv (.inl u) (by simp)
  unfold InI at ii_u
  have ii_k : InI k := hv (.inl k) (by simp)
  unfold InI at ii_k
  clear hv
  have h8 := hB.1
  show Tx (Ex S (n + 2)) S M_35 (kI K E) 0 0 0 [some (.inr 1), some (.inl u), some (.inl k), none, none, none] [] mem
  have l_5 : ∀ (N : Nat) (x3 x4 : Int), (0 ≤ x4 ∧ x4 ≤ 3) → (x3 = buV (fun u => usC mem (u : Int)) (mem 8) k x4.toNat) → (0 ≤ x3 ∧ x3 ≤ 128) → ((3 - x4).toNat) < N → Tx (Ex S (n + 2)) S M_35 (kI K E) 0 0 5 [some (.inr 1), some (.inl u), some (.inl k), some (.inl x3), some (.inl x4), none] [] mem := by
    intro N
    induction N with
    | zero => intros; omega
    | succ N ih_5 =>
      intro x3 x4 i5_0 i5_1 i5_2 hN_5 
      refine Tx.iload hC te_35_5 rfl ?_
      refine Tx.iconst hC te_35_7 rfl ?_
      refine Tx.icmp hC (t := 62) te_35_8 (by decide) (fun q1 => ?_) (fun q1 => ?_)
      · replace q1 : 3 ≤ (x4 : Int) := q1
        refine Tx.iload_n hC te_35_62 rfl ?_
        exact Tx.ireturn hC te_35_63 rfl (fun hr => show K x3 mem from H _ (by rw [show (3 : Nat) = x4.toNat by omega]; omega) (by omega) (by omega))
      · replace q1 : ¬ (3 ≤ (x4 : Int)) := q1
        refine Tx.iload hC te_35_11 rfl ?_
        refine Tx.iload_n hC te_35_13 rfl ?_
        refine Tx.icmp hC (t := 29) te_35_14 (by decide) (fun q2 => ?_) (fun q2 => ?_)
        · replace q2 : ¬ (x4 : Int) = u := q2
          refine Tx.aload_n hC te_35_29 rfl ?_
          refine Tx.getR hC te_35_30 rfl rfl rfl ?_
          refine Tx.iload hC te_35_33 rfl ?_
          refine Tx.iald hC te_35_35 rfl (by omega) (fun v3 v3e v3i => ?_)
          unfold InI at v3i
          have f4 := hB.cn (o := (Int.toNat x4)) (by omega)
          refine Tx.istore hC te_35_36 rfl ?_
          refine Tx.iload_n hC te_35_38 rfl ?_
          refine Tx.iload_n hC te_35_39 rfl ?_
          refine Tx.aload_n hC te_35_40 rfl ?_
          refine Tx.iload hC te_35_41 rfl ?_
          refine Tx.virtI hC te_35_43 mt_36 (args := [.inr 1, .inl x4]) (rest := [.inl k, .inl x3]) (c' := 0) (s' := 0) rfl rfl rfl rfl rfl rfl rfl rfl rfl rfl ?_
          refine f_36x hB (fun r5 r5e r5a r5b r5i => ?_)
          unfold InI at r5i
          have pm := mulK (r := r5) (c := 32) hk (by omega)
          refine Tx.imulW hC te_35_46 (fun z8 z8i z8e => ?_)
          unfold InI at z8i z8e
          first | replace z8e := z8e (by omega) | clear z8e
          refine Tx.iload hC te_35_47 rfl ?_
          refine Tx.statI hC te_35_49 (by decide) mt_33 (args := [.inl z8, .inl v3]) (rest := [.inl x3]) (c' := 0) (s' := 0) rfl rfl rfl rfl rfl rfl rfl ?_
          refine f_33x (by omega) (by omega) (fun r9 r9e r9i => ?_)
          have r9g := upV_rg (a := z8) (b := v3) (by omega) (by omega)
          have r9u : upV (k * usC mem x4) (mem 8 (Int.toNat x4)) = r9 := by first | (exfalso; omega) | (rw [r9e, z8e, v3e, r5e])
          unfold InI at r9i
          refine Tx.statI hC te_35_52 (by decide) mt_40 (args := [.inl x3, .inl r9]) (rest := []) (c' := 0) (s' := 0) rfl rfl rfl rfl rfl rfl rfl ?_
          refine f_40q (fun r12 r12a r12b r12c r12i => ?_)
          unfold InI at r12i
          refine Tx.istore_n hC te_35_55 rfl ?_
          refine Tx.iincW hC te_35_56 rfl rfl (fun z15 z15i z15e => ?_)
          unfold InI at z15i z15e
          first | replace z15e := z15e (by omega) | clear z15e
          refine Tx.goto hC (t := 5) te_35_59 (by decide) ?_
          exact Tx.weak (by repeat' (first | exact trivial | exact rfl | constructor)) (ih_5 r12 z15 (by omega) (by
                have w := buV_st (f := (fun u => usC mem (u : Int))) (g := mem 8) (k := k) (x := x4) (by omega)
                have w2 : ((x4.toNat : Nat) : Int) = x4 := by omega
                simp only [w2] at w
                rw [show z15 = x4 + 1 by omega, w]
                omega) (by omega) (by omega))
        · replace q2 : ¬ (¬ (x4 : Int) = u) := q2
          refine Tx.aload_n hC te_35_17 rfl ?_
          refine Tx.getR hC te_35_18 rfl rfl rfl ?_
          refine Tx.iload hC te_35_21 rfl ?_
          refine Tx.iald hC te_35_23 rfl (by omega) (fun v16 v16e v16i => ?_)
          unfold InI at v16i
          have f17 := hB.cn (o := (Int.toNat x4)) (by omega)
          refine Tx.iconst hC te_35_24 rfl ?_
          refine Tx.iaddW hC te_35_25 (fun z18 z18i z18e => ?_)
          unfold InI at z18i z18e
          first | replace z18e := z18e (by omega) | clear z18e
          refine Tx.goto hC (t := 36) te_35_26 (by decide) ?_
          refine Tx.istore hC te_35_36 rfl ?_
          refine Tx.iload_n hC te_35_38 rfl ?_
          refine Tx.iload_n hC te_35_39 rfl ?_
          refine Tx.aload_n hC te_35_40 rfl ?_
          refine Tx.iload hC te_35_41 rfl ?_
          refine Tx.virtI hC te_35_43 mt_36 (args := [.inr 1, .inl x4]) (rest := [.inl k, .inl x3]) (c' := 0) (s' := 0) rfl rfl rfl rfl rfl rfl rfl rfl rfl rfl ?_
          refine f_36x hB (fun r19 r19e r19a r19b r19i => ?_)
          unfold InI at r19i
          have pm := mulK (r := r19) (c := 32) hk (by omega)
          refine Tx.imulW hC te_35_46 (fun z22 z22i z22e => ?_)
          unfold InI at z22i z22e
          first | replace z22e := z22e (by omega) | clear z22e
          refine Tx.iload hC te_35_47 rfl ?_
          refine Tx.statI hC te_35_49 (by decide) mt_33 (args := [.inl z22, .inl z18]) (rest := [.inl x3]) (c' := 0) (s' := 0) rfl rfl rfl rfl rfl rfl rfl ?_
          refine f_33x (by omega) (by omega) (fun r23 r23e r23i => ?_)
          have r23g := upV_rg (a := z22) (b := z18) (by omega) (by omega)
          have r23u : upV (k * usC mem x4) (mem 8 (Int.toNat x4)) = r23 := by first | (exfalso; omega) | (rw [r23e, z22e, z18e, r19e])
          unfold InI at r23i
          refine Tx.statI hC te_35_52 (by decide) mt_40 (args := [.inl x3, .inl r23]) (rest := []) (c' := 0) (s' := 0) rfl rfl rfl rfl rfl rfl rfl ?_
          refine f_40q (fun r26 r26a r26b r26c r26i => ?_)
          unfold InI at r26i
          refine Tx.istore_n hC te_35_55 rfl ?_
          refine Tx.iincW hC te_35_56 rfl rfl (fun z29 z29i z29e => ?_)
          unfold InI at z29i z29e
          first | replace z29e := z29e (by omega) | clear z29e
          refine Tx.goto hC (t := 5) te_35_59 (by decide) ?_
          exact Tx.weak (by repeat' (first | exact trivial | exact rfl | constructor)) (ih_5 r26 z29 (by omega) (by
                have w := buV_st (f := (fun u => usC mem (u : Int))) (g := mem 8) (k := k) (x := x4) (by omega)
                have w2 : ((x4.toNat : Nat) : Int) = x4 := by omega
                simp only [w2] at w
                rw [show z29 = x4 + 1 by omega, w]
                omega) (by omega) (by omega))
  refine Tx.iconst hC te_35_0 rfl ?_
  refine Tx.istore_n hC te_35_1 rfl ?_
  refine Tx.iconst hC te_35_2 rfl ?_
  refine Tx.istore hC te_35_3 rfl ?_
  exact l_5 _ 0 0 (by omega) (rfl) (by omega) (Nat.lt_succ_self _)
theorem f_41x {S : Nat × (Nat → Int32)} {n : Nat} {mem : MM} {K : Int → MM → Prop} {E : Nat → MM → Prop} (hB : BodyOK mem) (hT : WtOK mem 9) {k : Int} (hk : 1 ≤ k ∧ k ≤ 4) (H : ∀ r, r = fbC mem k → 0 ≤ r → r ≤ 320 → K r mem) : CQI (Ex S (n + 4)) 41 [.inr 0, .inl k] mem K E := by
  refine CY.of (k := 0) mt_41 rfl rfl (fun hv => ?_)
  have hC := Ex.mono S (n + 3)
  have ii_k : InI k := hv (.inl k) (by simp)
  unfold InI at ii_k
  clear hv
  have hT1 := hT.1
  have hT2 := hT.2
  show Tx (Ex S (n + 3)) S M_41 (kI K E) 0 0 0 [some (.inr 0), some (.inl k)] [] mem
  refine Tx.iconst hC te_41_0 rfl ?_
  refine Tx.iload_n hC te_41_1 rfl ?_
  refine Tx.aload_n hC te_41_2 rfl ?_
  refine Tx.getR hC te_41_3 rfl rfl rfl ?_
  refine Tx.getI hC te_41_6 rfl rfl rfl (fun v1 v1e v1i => ?_)
  unfold InI at v1i
  have pm := mulK (r := v1) (c := 80) hk (by omega)
  have hv1 := v1e
  refine Tx.imulW hC te_41_9 (fun z2 z2i z2e => ?_)
  unfold InI at z2i z2e
  first | replace z2e := z2e (by omega) | clear z2e
  refine Tx.aload_n hC te_41_10 rfl ?_
  refine Tx.getR hC te_41_11 rfl rfl rfl ?_
  refine Tx.getI hC te_41_14 rfl rfl rfl (fun v3 v3e v3i => ?_)
  unfold InI at v3i
  refine Tx.statI hC te_41_17 (by decide) mt_33 (args := [.inl z2, .inl v3]) (rest := [.inl 1]) (c' := 0) (s' := 0) rfl rfl rfl rfl rfl rfl rfl ?_
  refine f_33x (by omega) (by omega) (fun r4 r4e r4i => ?_)
  have r4g := upV_rg (a := z2) (b := v3) (by omega) (by omega)
  have r4u : upV (k * mem 9 5) (mem 9 6) = r4 := by rw [r4e, z2e, v3e, hv1]
  unfold InI at r4i
  refine Tx.aload_n hC te_41_20 rfl ?_
  refine Tx.getR hC te_41_21 rfl rfl rfl ?_
  refine Tx.iconst hC te_41_24 rfl ?_
  refine Tx.iload_n hC te_41_25 rfl ?_
  refine Tx.virtI hC te_41_26 mt_35 (args := [.inr 1, .inl (-1), .inl k]) (rest := [.inl r4, .inl 1]) (c' := 0) (s' := 0) rfl rfl rfl rfl rfl rfl rfl rfl rfl rfl ?_
  refine f_35x hB rfl hk (fun r7 r7e r7a r7b r7i => ?_)
  unfold InI at r7i
  refine Tx.statI hC te_41_29 (by decide) mt_40 (args := [.inl r4, .inl r7]) (rest := [.inl 1]) (c' := 0) (s' := 0) rfl rfl rfl rfl rfl rfl rfl ?_
  refine f_40q (fun r10 r10a r10b r10c r10i => ?_)
  unfold InI at r10i
  refine Tx.statI hC te_41_32 (by decide) mt_40 (args := [.inl 1, .inl r10]) (rest := []) (c' := 0) (s' := 0) rfl rfl rfl rfl rfl rfl rfl ?_
  refine f_40q (fun r13 r13a r13b r13c r13i => ?_)
  unfold InI at r13i
  exact Tx.ireturn hC te_41_35 rfl (fun hr => show K r13 mem from H _ (by unfold fbC; rw [foV_bu]; omega) (by omega) (by omega))
theorem f_192x {S : Nat × (Nat → Int32)} {n : Nat} {mem : MM} {K : Int → MM → Prop} {E : Nat → MM → Prop} (hI : ClS mem) {p0 : Int} (H : 1 ≤ p0 ∧ p0 ≤ 4 → ∀ m', ClS m' → Frm pNb mem m' → SndX m' → WbX m' → ∀ r, r = fbC m' p0 → K r m') (HE0 : ¬ (1 ≤ p0 ∧ p0 ≤ 4) → E 0 mem) (HE1 : 1 ≤ p0 ∧ p0 ≤ 4 → ∀ m', ClS m' → Frm pNb mem m' → ¬ SndX m' → E 1 m') : CQI (Ex S (n + 17)) 192 [.inr 0, .inl p0] mem K E := by
  refine CY.of (k := 0) mt_192 rfl rfl (fun hv => ?_)
  have hC := Ex.mono S (n + 16)
  have ii_p0 : InI p0 := hv (.inl p0) (by simp)
  unfold InI at ii_p0
  clear hv
  show Tx (Ex S (n + 16)) S M_192 (kI K E) 0 0 0 [some (.inr 0), some (.inl p0)] [] mem
  refine Tx.iload_n hC te_192_0 rfl ?_
  refine Tx.iconst hC te_192_1 rfl ?_
  refine Tx.icmp hC (t := 10) te_192_2 (by decide) (fun q1 => ?_) (fun q1 => ?_)
  · replace q1 : (p0 : Int) < 1 := q1
    exact Tx.thr hC te_192_10 rfl rfl rfl rfl rfl (show E 0 mem from HE0 (by omega))
  · replace q1 : ¬ ((p0 : Int) < 1) := q1
    refine Tx.iload_n hC te_192_5 rfl ?_
    refine Tx.iconst hC te_192_6 rfl ?_
    refine Tx.icmp hC (t := 21) te_192_7 (by decide) (fun q2 => ?_) (fun q2 => ?_)
    · replace q2 : (p0 : Int) ≤ 4 := q2
      refine Tx.aload_n hC te_192_21 rfl ?_
      refine Tx.virtV hC te_192_22 mt_69 (args := [.inr 0]) (rest := []) (c' := 1) (s' := 6) rfl rfl rfl rfl rfl rfl rfl rfl rfl rfl ?_
      refine f_69x hI (fun m4 r3R hF5 => ?_) (fun m4 r3C hF5 r3s => HE1 (by omega) _ r3C (Frm.rf.tr hF5) r3s)
      have r3w := r3R.1.w.2
      have hF5n : Frm pNb mem m4 := Frm.rf.tr hF5
      refine Tx.aload_n hC te_192_25 rfl ?_
      refine Tx.iload_n hC te_192_26 rfl ?_
      refine Tx.virtI hC te_192_27 mt_41 (args := [.inr 0, .inl p0]) (rest := []) (c' := 1) (s' := 6) rfl rfl rfl rfl rfl rfl rfl rfl rfl rfl ?_
      refine f_41x r3R.cs.1.b r3R.2.2.2.1.2.2.1 (by omega) (fun r6 r6e r6a r6b r6i => ?_)
      unfold InI at r6i
      exact Tx.ireturn hC te_192_30 rfl (fun hr => show K r6 m4 from H (by omega) _ r3R.cs hF5n r3R.2.2.2.2 r3R.2.2.2.1 _ (by assumption))
    · replace q2 : ¬ ((p0 : Int) ≤ 4) := q2
      exact Tx.thr hC te_192_10 rfl rfl rfl rfl rfl (show E 0 mem from HE0 (by omega))
end
section
/-! fold and bestFold of the reference, exactly -/
theorem foV_cg {f g f' g' : Nat → Int} {k U L : Int} : ∀ u, (∀ i, i < u → f i = f' i ∧ g i = g' i) → foV f g k U L u = foV f' g' k U L u
  | 0, _ => rfl
  | u + 1, h => by unfold foV; rw [foV_cg u (fun i hi => h i (by omega)), (h u (by omega)).1, (h u (by omega)).2]
section FR
variable {S : Nat × (Nat → Int32)} {n : Nat} {mem : MM} {K : Int → MM → Prop}
theorem f_266e {x : Int} (h : 0 ≤ x ∧ x ≤ 15) (H : K (popI x) mem) : CWI (Ex S (n + 1)) 266 [.inl x] mem K := by
  have px := popI_rg (x := x)
  have key : ∀ (N : Nat) (c s : Int), 0 ≤ c → 0 ≤ s → s ≤ 15 → c + popI s = popI x → s.toNat < N → Wx (Ex S n) S M_266 (fun r m => ∃ y, r = some y ∧ K y m) 4 [some (.inl x), some (.inl c), some (.inl s)] [] mem := by
    intro N
    induction N with
    | zero => intros; omega
    | succ N ih =>
      intro c s hc hs h15 he hN
      have ps := popI_rg (x := s)
      refine w_266_4 (Ex.mono S n) ⟨fun q _ => ⟨_, rfl, ?_⟩, fun q => ⟨by unfold InI; omega, by unfold InI; omega, fun b e _ => ?_⟩⟩
      · have z : popI s = 0 := by subst q; rfl
        rw [show c = popI x by omega]; exact H
      · obtain ⟨a1, a2, a3⟩ := and1 s (s - 1) ⟨hs, h15⟩ rfl b e (by omega)
        exact ih (c + 1) b (by omega) a2 (by omega) (by omega) (by omega)
  exact CW.of (k := 2) mt_266 rfl rfl (w_266_0 (Ex.mono S n) (key 16 0 x (by omega) h.1 h.2 (by omega) (by omega)))
theorem f_265e (hh : OpsOK mem) {o : Int} (h : 0 ≤ o ∧ o < 8) (H : K (rBu mem o.toNat) mem) : CWI (Ex S (n + 1)) 265 [.inr 143, .inl o] mem K := by
  obtain ⟨h1, h2, -⟩ := hh.2.1 o.toNat (by omega)
  refine CW.of (k := 0) mt_265 rfl rfl (w_265_0 (Ex.mono S n) ⟨h, fun v e _ => ⟨by omega, fun v2 e2 _ _ => ⟨_, rfl, ?_⟩⟩⟩)
  rw [e2, e]; exact H
theorem f_264e (hh : OpsOK mem) {o : Int} (h : 0 ≤ o ∧ o < 8) (H : K (rUn mem o.toNat) mem) : CWI (Ex S (n + 1)) 264 [.inr 143, .inl o] mem K := by
  obtain ⟨h1, h2, -⟩ := hh.2.1 o.toNat (by omega)
  refine CW.of (k := 0) mt_264 rfl rfl (w_264_0 (Ex.mono S n) ⟨h, fun v e _ => ⟨by omega, fun v2 e2 _ _ => ⟨_, rfl, ?_⟩⟩⟩)
  rw [e2, e]; exact H
theorem f_263e (hh : OpsOK mem) (hz : ∀ k, k < 6 → 1 ≤ mem 152 k ∧ mem 152 k ≤ 15) {x : Int} (H : K (usR mem x) mem) : CWI (Ex S (n + 2)) 263 [.inr 143, .inl x] mem K := by
  have h8 := hh.1
  have key : ∀ (N : Nat) (c : Int) (o : Int), 0 ≤ o → o ≤ mem 143 1 → c = usN (rUn mem) (rBu mem) x o.toNat → (mem 143 1 - o).toNat < N → Wx (Ex S (n + 1)) S M_263 (fun r m => ∃ y, r = some y ∧ K y m) 4 [some (.inr 143), some (.inl x), some (.inl c), some (.inl o)] [] mem := by
    intro N
    induction N with
    | zero => intros; omega
    | succ N ih =>
      intro c o ho ho2 hc hN
      have us := usN_rg (f := rUn mem) (g := rBu mem) (u := x) o.toNat
      have st := usN_st (f := rUn mem) (g := rBu mem) (u := x) ho
      refine w_263_4 (Ex.mono S (n + 1)) (fun v1 e1 _ => ⟨fun q _ => ⟨_, rfl, ?_⟩, fun q => f_264e hh ⟨ho, by omega⟩ (fun _ => ⟨fun z => ⟨by unfold InI; omega, by unfold InI; omega, ih (c + 0) (o + 1) (by omega) (by omega) (by rw [st, if_neg z]; omega) (by omega)⟩, fun z => ?_⟩)⟩)
      · have e : c = usR mem x := by
          unfold usR
          rw [hc, show (mem 143 1).toNat = o.toNat by omega]
        rw [e]; exact H
      · obtain ⟨h1, h2, -⟩ := hh.2.1 o.toNat (by omega)
        have hb : 1 ≤ rBu mem o.toNat ∧ rBu mem o.toNat ≤ 15 := hz (mem 144 o.toNat).toNat (by omega)
        have pr := popI_rg (x := rBu mem o.toNat)
        refine f_265e hh ⟨ho, by omega⟩ (fun _ => f_266e ⟨by omega, hb.2⟩ (fun _ => ⟨by unfold InI; omega, by unfold InI; omega, ih (c + popI (rBu mem o.toNat)) (o + 1) (by omega) (by omega) (by rw [st, if_pos (Classical.not_not.mp z)]; omega) (by omega)⟩))
  exact CW.of (k := 2) mt_263 rfl rfl (w_263_0 (Ex.mono S (n + 1)) (key 9 0 0 (by omega) h8.1 rfl (by omega)))
theorem usR_rg {u : Int} (h : 0 ≤ mem 143 1 ∧ mem 143 1 ≤ 8) : 0 ≤ usR mem u ∧ usR mem u ≤ 32 := by
  have := usN_rg (f := rUn mem) (g := rBu mem) (u := u) (mem 143 1).toNat
  unfold usR; omega
theorem f_350e (h : RefOK mem) (hR : RtOK mem) {x : Int} (hx : 1 ≤ x ∧ x ≤ 4) (H : K (fbR mem x) mem) : CWI (Ex S (n + 3)) 350 [.inr 143, .inl x] mem K := by
  obtain ⟨q1, q2, q3, q4⟩ := hR
  have gs : ∀ i, i < 3 → 0 ≤ usR mem (i : Nat) ∧ usR mem (i : Nat) ≤ 32 ∧ 0 < mem 153 i := fun i hi => ⟨(usR_rg h.ops.1).1, (usR_rg h.ops.1).2, by have := h.cn i hi; omega⟩
  have key : ∀ (N : Nat) (c : Int) (o : Nat), o ≤ 3 → c = foV (fun u => usR mem (u : Int)) (mem 153) x (mem 143 31) (mem 143 32) o → 3 - o < N → Wx (Ex S (n + 2)) S M_350 (fun r m => ∃ y, r = some y ∧ K y m) 20 [some (.inr 143), some (.inl x), some (.inl c), some (.inl (o : Int))] [] mem := by
    intro N
    induction N with
    | zero => intros; omega
    | succ N ih =>
      intro c o ho hc hN
      refine w_350_20 (Ex.mono S (n + 2)) ⟨fun q _ => ⟨_, rfl, ?_⟩, fun q => f_263e h.ops h.bz (fun _ => ?_)⟩
      · have e : c = fbR mem x := by
          rw [hc, show o = 3 by omega]; rfl
        rw [e]; exact H
      have g := gs o (by omega)
      have p := mulK (k := x) (r := usR mem (o : Int)) (c := 32) hx ⟨g.1, g.2.1⟩
      refine ⟨by unfold InI; omega, ⟨by omega, by omega⟩, fun v3 e3 _ => ?_⟩
      simp only [Int.toNat_natCast] at e3
      refine f_275 ⟨by omega, by have := h.cn o (by omega); omega⟩ ⟨by omega, by omega⟩ (fun u u1 u2 _ => ?_)
      have ue := upV_of (by omega) u1 u2
      exact f_257 (fun _ _ => ⟨by unfold InI; omega, ih _ (o + 1) (by omega) (by
        show max c u = max (foV (fun u => usR mem (u : Int)) (mem 153) x (mem 143 31) (mem 143 32) o) (upV (x * usR mem (o : Int)) (mem 153 o))
        rw [ue, e3, hc]) (by omega)⟩)
  refine CW.of (k := 2) mt_350 rfl rfl (w_350_0 (Ex.mono S (n + 2)) (fun v1 e1 _ => ?_))
  have p := mulK (k := x) (r := v1) (c := 100) hx ⟨by omega, by omega⟩
  refine ⟨by unfold InI; omega, fun v2 e2 _ => f_275 ⟨by omega, by omega⟩ ⟨by omega, by omega⟩ (fun u u1 u2 _ => ?_)⟩
  have ue := upV_of (by omega) u1 u2
  exact f_257 (fun _ _ => key 4 _ 0 (by omega) (by
    show max 1 u = max 1 (upV (x * mem 143 31) (mem 143 32))
    rw [ue, e1, e2]) (by omega))
end FR
end
section
/-! laid by wip/hand/tg.py: rounds, bounds, counts of the class -/
def TalI (m0 m : MM) (l x : Int) : Prop := R64 m 14 ∧ m 14 0 = (if l < x then x - 1 else x) ∧ ∀ j : Nat, (j : Int) < m 14 0 → cwq m 14 j = cwq m0 9 (if (j : Int) < l then j else j + 1)
theorem TalI.step {m0 m m2 : MM} {l x a y : Int} (h : TalI m0 m l x) (hx : 0 ≤ x) (hl : 0 ≤ l) (ne : ¬ x = l) (ha : a = m 14 0) (hy : y = a + 1) (h0 : m2 14 0 = m 14 0) (hR : R64 m2 14) (e : cwq m2 14 a.toNat = cwq m0 9 x.toNat) (o : ∀ i, ¬ i = a.toNat → cwq m2 14 i = cwq m 14 i) : TalI m0 (upm m2 14 0 y) l (x + 1) := by
  have e0 := h.2.1
  refine ⟨R64.up0 hR, ?_, fun j hj => ?_⟩
  · rw [upm_eq, hy, ha, e0]
    split <;> split <;> omega
  · have ec : cwq (upm m2 14 0 y) 14 j = cwq m2 14 j := by
      unfold cwq
      rw [upm_ne (by omega), upm_ne (by omega), upm_ne (by omega), upm_ne (by omega)]
    rw [upm_eq] at hj
    rw [ec]
    by_cases q : j = a.toNat
    · rw [q, e]
      congr 1
      rw [e0] at ha
      split at ha <;> split <;> omega
    · rw [o j q]
      refine h.2.2 j ?_
      rw [e0] at ha ⊢
      split at ha <;> omega
def TalQ (m : MM) (l : Int) : Prop := m 14 0 = m 9 0 - 1 ∧ ∀ j : Nat, (j : Int) < m 14 0 → cwq m 14 j = cwq m 9 (if (j : Int) < l then j else j + 1)
theorem TalI.q {m0 m : MM} {l : Int} (h : TalI m0 m l (m0 9 0)) (hl : l < m0 9 0) (e : ∀ A i, 9 ≤ A → A ≤ 13 → m A i = m0 A i) : TalQ m l := by
  refine ⟨by rw [h.2.1, if_pos hl, e 9 0 (by omega) (by omega)], fun j hj => ?_⟩
  rw [h.2.2 j hj]
  unfold cwq
  rw [e (9 + 1) _ (by omega) (by omega), e (9 + 2) _ (by omega) (by omega), e (9 + 3) _ (by omega) (by omega), e (9 + 4) _ (by omega) (by omega)]
theorem TalQ.fr {m m' : MM} {l : Int} (h : TalQ m l) (e : ∀ A i, (9 ≤ A ∧ A ≤ 13) ∨ (A = 14 ∧ i = 0) ∨ (15 ≤ A ∧ A ≤ 18) → m' A i = m A i) : TalQ m' l := by
  refine ⟨by rw [e 14 0 (by omega), e 9 0 (by omega)]; exact h.1, fun j hj => ?_⟩
  rw [e 14 0 (by omega)] at hj
  have w := h.2 j hj
  unfold cwq at w ⊢
  rw [e (14 + 1) _ (by omega), e (14 + 2) _ (by omega), e (14 + 3) _ (by omega), e (14 + 4) _ (by omega), e (9 + 1) _ (by omega), e (9 + 2) _ (by omega), e (9 + 3) _ (by omega), e (9 + 4) _ (by omega)]
  exact w
end
section
/-! bounds and counts of the reference, exactly -/
theorem usR.fr {m m' : MM} (e : ∀ A i, (A = 143 ∧ i = 1) ∨ A = 144 ∨ A = 150 ∨ A = 152 ∨ A = 153 → m' A i = m A i) : usR m' = usR m := funext fun u => by
  unfold usR
  rw [e 143 1 (by omega)]
  exact usN_eq _ (fun o _ => ⟨by unfold rUn; rw [e 144 o (by omega), e 150 _ (by omega)], by unfold rBu; rw [e 144 o (by omega), e 152 _ (by omega)]⟩)
def byR (m : MM) : Int := buV (fun u => usR m (u : Int)) (m 153) 1 3
theorem byR.fr {m m' : MM} (e : ∀ A i, (A = 143 ∧ i = 1) ∨ A = 144 ∨ A = 150 ∨ A = 152 ∨ A = 153 → m' A i = m A i) : byR m' = byR m := by
  unfold byR
  rw [usR.fr e, show m' 153 = m 153 from funext fun i => e 153 i (by omega)]
section RB
variable {S : Nat × (Nat → Int32)} {n : Nat} {mem : MM} {K : Int → MM → Prop}
def NdRd (m m' : MM) (r : Int) : Prop := NdsOK m' ∧ Enum (rq m') (m' 143 12).toNat (NdF m) ∧ 0 ≤ r ∧ RdsM (NdE m') r
def OfN (m m' : MM) (x r : Int) : Prop := (¬ SoundM m ∧ r = -1) ∨ (SoundM m ∧ ∃ R, NdRd m m' R ∧ (x = 1 → r = m' 143 12) ∧ (x = 2 → r = R) ∧ (x = 3 → r = byR m) ∧ (x = 4 → r = max 1 (max R (byR m))))
theorem NdRd.th {m m' : MM} {z r : Int} (h : NdRd (upm m 143 0 z) m' r) : NdRd m m' r := h
theorem OfN.th {m m' : MM} {z x r : Int} (h : OfN (upm m 143 0 z) m' x r) : OfN m m' x r := by
  have eb : byR (upm m 143 0 z) = byR m := byR.fr (fun A i q => upm_ne (by omega))
  unfold OfN at h
  rw [eb] at h
  exact h
end RB
end
section
/-! laid by wip/hand/tg.py: far, height, bare of the class -/
theorem WyV.rg {E : Nat → Nat → Int → Prop} {k : Nat} {nn w : Int} {a b : Nat} (h : WyV E nn a b w) (hE : FwH E k) : w = nn ∨ (-801 ≤ w ∧ w ≤ 54) := by
  rcases h with ⟨e, -⟩ | ⟨-, ⟨p, g⟩, u⟩
  · exact Or.inl e
  · obtain ⟨p', v', g1, -, g3, g4⟩ := Wk.red hE.2.1 p a b w g
    have r := hE.rg g1 g3
    have := u _ _ g3
    have := hE.up g
    exact Or.inr (by omega)
end
section
/-! far, height, bare of the reference, exactly -/
theorem NoUp.mono {c : Nat → Q4} {n o : Nat} {r d : Int} (ho : o ≤ 8) (hV : EdV c n o) (h : NoUp (EdQ c n r)) (hr : r ≤ d) : NoUp (EdQ c n d) := by
  refine (rings_noup ho hV).mp (fun x hx => ?_)
  have w := (rings_noup ho hV).mpr h x hx
  have q := ring_dist hV hx
  have := Int.mul_le_mul_of_nonneg_right hr (show 0 ≤ x.2.1 by omega)
  omega
def NoM (m m' : MM) (d : Int) : Prop := ¬ SoundM m ∨ (SoundM m ∧ ∃ r, NdRd m m' r ∧ d < r)
section RFW
variable {S : Nat × (Nat → Int32)} {n : Nat} {mem : MM} {K : Int → MM → Prop} {d : Int}
theorem NoM.th {m m' : MM} {z : Int} (h : NoM m m' d) : NoM m (upm m' 143 0 z) d := h
end RFW
end
section
/-! slots of the reference, exactly -/
def RPb (m : MM) (d : Int) : Prb := ((m 143 1).toNat, rUn m, rBu m, fun u => m 153 u, d, EdQ (rq m) (m 143 12).toNat d)
theorem RPb.cg {m m' : MM} {d : Int} (h : ∀ A i, (A = 143 ∧ ¬ i = 0) ∨ (144 ≤ A ∧ A ≤ 157) → m' A i = m A i) : RPb m' d = RPb m d := by
  have e1 : rUn m' = rUn m := funext fun o => by
    unfold rUn
    rw [h 144 o (by omega), h 150 _ (by omega)]
  have e2 : rBu m' = rBu m := funext fun o => by
    unfold rBu
    rw [h 144 o (by omega), h 152 _ (by omega)]
  have e3 : (fun u => m' 153 u) = fun u => m 153 u := funext fun u => h 153 u (by omega)
  have e4 : rq m' = rq m := funext fun i => by
    unfold rq
    rw [h 154 i (by omega), h 155 i (by omega), h 156 i (by omega), h 157 i (by omega)]
  unfold RPb
  rw [e1, e2, e3, e4, h 143 1 (by omega), h 143 12 (by omega)]
def WaT (W : Nat → Nat → Int) (nn : Int) (s : Nat → Int) (d : Int) (k : Nat) (t : Nat → Int) : Prop := ∀ a b, a < k → b < k → ¬ W a b = nn → s a + d * t a + W a b ≤ s b + d * t b
theorem WaT.cg {W : Nat → Nat → Int} {nn : Int} {s s' : Nat → Int} {d : Int} {k : Nat} {t : Nat → Int} (h : WaT W nn s d k t) (e : ∀ o, o < k → s o = s' o) : WaT W nn s' d k t := fun a b ha hb w => by
  rw [← e a ha, ← e b hb]; exact h a b ha hb w
def HgW (W : Nat → Nat → Int) (nn : Int) (k : Nat) : Prop := ∃ φ : Nat → Int, (∀ b, 0 ≤ φ b ∧ φ b ≤ 42) ∧ ∀ a b, a < k → b < k → ¬ W a b = nn → φ a + W a b ≤ φ b
def WyW (m : MM) (d : Int) : Prop := (∀ a b, a < (m 143 1).toNat → b < (m 143 1).toNat → -5000 ≤ WM m 158 a b ∧ WM m 158 a b ≤ 5000) ∧ HgW (WM m 158) (-1000) (m 143 1).toNat ∧ (∀ a b x, (RPb m d).E a b x → (a < (m 143 1).toNat ∧ b < (m 143 1).toNat) ∧ ¬ WM m 158 a b = -1000 ∧ x ≤ WM m 158 a b) ∧ ∀ s t, TuP (RPb m d) s t → WaT (WM m 158) (-1000) s d (m 143 1).toNat t
theorem us_cg {p : Prb} {s s' : Nat → Int} {u k : Int} {j : Nat} (h : ∀ o, o < j → s o = s' o) : p.us s u k j = p.us s' u k j := usM_cg j (fun o ho _ => ⟨Iff.rfl, fun _ => h o ho⟩)
section RSL
variable {S : Nat × (Nat → Int32)} {n : Nat} {mem : MM} {d : Int}
def UsI (p : Prb) (m : MM) (j : Nat) : Prop := ∀ u k : Nat, u < 3 → k < 12 → m 159 (12 * u + k) = p.us (m 160) u k j
def FitI (p : Prb) (m : MM) (j : Nat) : Prop := ∀ u k : Int, 0 ≤ u → u < 3 → 0 ≤ k → k < p.d → p.us (m 160) u k j ≤ p.ct u.toNat
def LexI (p : Prb) (m : MM) (j : Nat) : Prop := ∀ v, Fsb p v → ∀ i, i < j → (∀ l, l < i → v l = m 160 l) → m 160 i ≤ v i
theorem UsI.cg {p : Prb} {m m' : MM} {j : Nat} (h : UsI p m j) (e1 : ∀ i, m' 159 i = m 159 i) (e2 : ∀ o, o < j → m' 160 o = m 160 o) : UsI p m' j := fun u k hu hk => by
  rw [e1, h u k hu hk]
  exact (us_cg e2).symm
theorem FitI.cg {p : Prb} {m m' : MM} {j : Nat} (h : FitI p m j) (e2 : ∀ o, o < j → m' 160 o = m 160 o) : FitI p m' j := fun u k a b c e => by
  rw [us_cg e2]; exact h u k a b c e
theorem LexI.cg {p : Prb} {m m' : MM} {j : Nat} (h : LexI p m j) (e2 : ∀ o, o < j → m' 160 o = m 160 o) : LexI p m' j := fun v hv i hi hl => by
  rw [e2 i hi]
  exact h v hv i hi (fun l h2 => by rw [← e2 l (by omega)]; exact hl l h2)
end RSL
end
section
/-! findsSlots, laysTimes, fitsBy of the reference, exactly -/
section RFT
variable {S : Nat × (Nat → Int32)} {n : Nat} {mem : MM} {d : Int}
theorem WyW.cg {m m' : MM} (h : WyW m d) (e : ∀ A i, (A = 143 ∧ ¬ i = 0) ∨ (144 ≤ A ∧ A ≤ 158) → m' A i = m A i) : WyW m' d := by
  have e1 : RPb m' d = RPb m d := RPb.cg (fun A i q => e A i (by omega))
  have e2 : WM m' 158 = WM m 158 := funext fun a => funext fun b => e 158 _ (by omega)
  unfold WyW
  rw [e1, e2, e 143 1 (by omega)]
  exact h
end RFT
end
section
/-! a loop turn by turn: the model, and sums that go round told exactly -/
def wr (t : Int) : Int := (Int32.ofInt t).toInt
abbrev Acc : Type := (Nat → Int) × (Nat → Int) × (Nat → Int) × (Nat → Int) × (Nat → Nat → Int) × (Nat → Nat → Int)
abbrev PSt : Type := (Nat → Nat → Int) × (Nat → Nat → Int)
def lkM (A : Acc) (cm : Nat → Nat → Int) (o k : Nat) (t : Int) : Int := if A.2.2.2.2.1 o k = -1 then t else if A.2.2.2.2.1 o k = -2 then A.2.2.2.2.2 o k else if t - A.2.2.2.2.2 o k < 0 then A.2.2.2.1 (A.2.2.2.2.1 o k).toNat else cm (A.2.2.2.2.1 o k).toNat (t - A.2.2.2.2.2 o k).toNat
def opM (k a b : Int) : Int := if k = 0 then wr (a + b) else if k = 1 then wr (a - b) else if k = 2 then wr (a * b) else min a b
def acM (A : Acc) (s : PSt) (o t : Nat) : Int := if A.1 o = 4 then s.1 (A.2.1 o).toNat (t + A.2.2.1 o).toNat else if A.1 o = 5 then lkM A s.2 o 0 t else opM (A.1 o) (lkM A s.2 o 0 t) (lkM A s.2 o 1 t)
def up2 (f : Nat → Nat → Int) (a b : Nat) (v : Int) : Nat → Nat → Int := fun i j => if i = a ∧ j = b then v else f i j
def stM (A : Acc) (s : PSt) (o t : Nat) : PSt := (if A.1 o = 5 then up2 s.1 (A.2.1 o).toNat (t + A.2.2.1 o).toNat (acM A s o t) else s.1, up2 s.2 o t (acM A s o t))
def opsM (A : Acc) (s : PSt) (t : Nat) : Nat → PSt
  | 0 => s
  | o + 1 => stM A (opsM A s t o) o t
def trM (A : Acc) (N : Nat) : Nat → PSt
  | 0 => (fun r p => if r = 0 then 3 * (p : Int) + 1 else 7 * (p : Int) - 5, fun _ _ => 0)
  | t + 1 => opsM A (trM A N t) t N
def dn (N t o o' t' : Nat) : Prop := o' < N ∧ (t' < t ∨ (t' = t ∧ o' < o))
theorem lkM.cg {A B : Acc} {cm : Nat → Nat → Int} {o k : Nat} {t : Int} (h1 : A.2.2.2.2.1 o k = B.2.2.2.2.1 o k) (h2 : A.2.2.2.2.2 o k = B.2.2.2.2.2 o k) (h3 : 0 ≤ A.2.2.2.2.1 o k → A.2.2.2.1 (A.2.2.2.2.1 o k).toNat = B.2.2.2.1 (A.2.2.2.2.1 o k).toNat) (h4 : -2 ≤ A.2.2.2.2.1 o k) : lkM A cm o k t = lkM B cm o k t := by
  unfold lkM
  rw [← h1, ← h2]
  by_cases a : A.2.2.2.2.1 o k = -1
  · rw [if_pos a, if_pos a]
  · rw [if_neg a, if_neg a]
    by_cases b : A.2.2.2.2.1 o k = -2
    · rw [if_pos b, if_pos b]
    · rw [if_neg b, if_neg b, h3 (by omega)]
def AgO (A B : Acc) (o : Nat) : Prop := A.1 o = B.1 o ∧ (A.1 o = 4 ∨ A.1 o = 5 → A.2.1 o = B.2.1 o ∧ A.2.2.1 o = B.2.2.1 o) ∧ ∀ k, k < 2 → A.2.2.2.2.1 o k = B.2.2.2.2.1 o k ∧ A.2.2.2.2.2 o k = B.2.2.2.2.2 o k ∧ (0 ≤ A.2.2.2.2.1 o k → A.2.2.2.1 (A.2.2.2.2.1 o k).toNat = B.2.2.2.1 (A.2.2.2.2.1 o k).toNat) ∧ -2 ≤ A.2.2.2.2.1 o k
theorem AgO.lk {A B : Acc} {o : Nat} (h : AgO A B o) {cm : Nat → Nat → Int} {k : Nat} (hk : k < 2) {t : Int} : lkM A cm o k t = lkM B cm o k t := by
  have q := h.2.2 k hk
  exact lkM.cg q.1 q.2.1 q.2.2.1 q.2.2.2
theorem AgO.ac {A B : Acc} {o : Nat} (h : AgO A B o) {s : PSt} {t : Nat} : acM A s o t = acM B s o t := by
  unfold acM
  rw [← h.1, h.lk (k := 0) (by omega), h.lk (k := 1) (by omega)]
  by_cases a : A.1 o = 4
  · rw [if_pos a, if_pos a, (h.2.1 (Or.inl a)).1, (h.2.1 (Or.inl a)).2]
  · rw [if_neg a, if_neg a]
theorem AgO.st {A B : Acc} {o : Nat} (h : AgO A B o) {s : PSt} {t : Nat} : stM A s o t = stM B s o t := by
  unfold stM
  rw [h.ac, ← h.1]
  by_cases a : A.1 o = 5
  · rw [if_pos a, if_pos a, (h.2.1 (Or.inr a)).1, (h.2.1 (Or.inr a)).2]
  · rw [if_neg a, if_neg a]
theorem opsM.cg {A B : Acc} {s : PSt} {t : Nat} : ∀ n, (∀ o, o < n → AgO A B o) → opsM A s t n = opsM B s t n
  | 0, _ => rfl
  | n + 1, h => by
    show stM A (opsM A s t n) n t = stM B (opsM B s t n) n t
    rw [opsM.cg n (fun o ho => h o (by omega)), (h n (by omega)).st]
theorem trM.cg {A B : Acc} {N : Nat} (h : ∀ o, o < N → AgO A B o) : ∀ t, trM A N t = trM B N t
  | 0 => rfl
  | t + 1 => by
    show opsM A (trM A N t) t N = opsM B (trM B N t) t N
    rw [trM.cg h t, opsM.cg N h]
def acsC (m : MM) : Acc := (m 2, rowB m, plcB m, m 4, fun o k => m 3 (4 * o + 2 * k), fun o k => m 3 (4 * o + 2 * k + 1))
def acsR (m : MM) : Acc := (m 144, rowF m, plcF m, m 149, fun o k => srcA m o k, fun o k => srcB m o k)
def SrcK (A : Acc) (N : Nat) (o k : Nat) : Prop := A.2.2.2.2.1 o k < 0 ∨ (A.2.2.2.2.1 o k < N ∧ (0 < A.2.2.2.2.2 o k ∨ A.2.2.2.2.1 o k < o) ∧ 0 ≤ A.2.2.2.2.2 o k)
theorem lkM.dnq {A : Acc} {N o k t : Nat} {cm cm2 : Nat → Nat → Int} (hs : SrcK A N o k) (h2 : -2 ≤ A.2.2.2.2.1 o k) (ho : o < N) (h : ∀ o' t', dn N t o o' t' → cm o' t' = cm2 o' t') : lkM A cm o k t = lkM A cm2 o k t := by
  unfold lkM SrcK at *
  by_cases a : A.2.2.2.2.1 o k = -1
  · rw [if_pos a, if_pos a]
  · rw [if_neg a, if_neg a]
    by_cases b : A.2.2.2.2.1 o k = -2
    · rw [if_pos b, if_pos b]
    · rw [if_neg b, if_neg b]
      by_cases c : (t : Int) - A.2.2.2.2.2 o k < 0
      · rw [if_pos c, if_pos c]
      · rw [if_neg c, if_neg c, h]
        unfold dn
        omega
def PlC (m : MM) (s : PSt) (N t o : Nat) : Prop := (∀ r p : Nat, r < 2 → p < 64 → m (136 + r) p = s.1 r p) ∧ ∀ o' t' : Nat, dn N t o o' t' → m 138 (40 * o' + t') = s.2 o' t'
def PlR (m : MM) (s : PSt) (N t o : Nat) : Prop := (∀ r p : Nat, r < 2 → p < 64 → m 165 (64 * r + p) = s.1 r p) ∧ ∀ o' t' : Nat, dn N t o o' t' → m 167 (41 * o' + t') = s.2 o' t'
def acC (m : MM) (o t : Nat) : Int := acM (acsC m) (fun r p => m (136 + r) p, fun o t => m 138 (40 * o + t)) o t
def acR (m : MM) (o t : Nat) : Int := acM (acsR m) (fun r p => m 165 (64 * r + p), fun o t => m 167 (41 * o + t)) o t
theorem acM.eq {A : Acc} {s s2 : PSt} {N t o : Nat} (ho : o < N) (hs : ¬ A.1 o = 4 → SrcK A N o 0 ∧ (¬ A.1 o = 5 → SrcK A N o 1)) (h2 : ¬ A.1 o = 4 → -2 ≤ A.2.2.2.2.1 o 0 ∧ (¬ A.1 o = 5 → -2 ≤ A.2.2.2.2.1 o 1)) (hr : A.1 o = 4 → s.1 (A.2.1 o).toNat (t + A.2.2.1 o).toNat = s2.1 (A.2.1 o).toNat (t + A.2.2.1 o).toNat) (h : ∀ o' t', dn N t o o' t' → s.2 o' t' = s2.2 o' t') : acM A s o t = acM A s2 o t := by
  unfold acM
  by_cases a : A.1 o = 4
  · rw [if_pos a, if_pos a, hr a]
  · rw [if_neg a, if_neg a]
    have q := hs a
    rw [lkM.dnq q.1 (h2 a).1 ho h]
    by_cases b : A.1 o = 5
    · rw [if_pos b, if_pos b]
    · rw [if_neg b, if_neg b, lkM.dnq (q.2 b) ((h2 a).2 b) ho h]
end
section
/-! laid by wip/hand/tg.py: a loop turn by turn -/
theorem dn_next {N t o o' t' : Nat} (h : dn N t (o + 1) o' t') : dn N t o o' t' ∨ (o' = o ∧ t' = t) := by unfold dn at *; omega
theorem acsC_fr {m m' : MM} (e : ∀ A i, 0 < A → A < 9 → m' A i = m A i) : acsC m' = acsC m := by
  have h := bd_fr (q := 0) (fun A i a b _ => e A i a b)
  unfold acsC
  rw [h.2.1, h.2.2.1, show m' 2 = m 2 from funext fun i => e 2 i (by omega) (by omega), show m' 4 = m 4 from funext fun i => e 4 i (by omega) (by omega), show m' 3 = m 3 from funext fun i => e 3 i (by omega) (by omega)]
theorem PlC.ac {m m0 : MM} {N t o : Nat} {s : PSt} (h : PlC m s N t o) (hB : BodyOK m0) (hs : SndX m0) (e : ∀ A i, 0 < A → A < 9 → m A i = m0 A i) (hN : N = (m0 1 0).toNat) (ho : o < N) (ht : t < 40) : acC m o t = acM (acsC m0) s o t := by
  have h8 := hB.1
  have hop := hB.2.1 o (by omega)
  unfold acC
  rw [acsC_fr e]
  unfold BOp at hop
  have sk : ∀ k : Nat, (k : Int) < csN m0 o → SrcK (acsC m0) N o k := fun k hk => by
    have q := hs o k (by omega) hk
    have w := hB.src (o := o) (k := k) (by omega) hk
    unfold SrcC at q
    unfold srcOK at w
    unfold SrcK acsC
    simp only
    omega
  refine acM.eq ho (fun k4 => ⟨sk 0 ?_, fun k5 => sk 1 ?_⟩) (fun k4 => ⟨?_, fun k5 => ?_⟩) (fun k4 => ?_) (fun o' t' hd => h.2 o' t' hd)
  · have k4 : ¬ m0 2 o = 4 := k4
    unfold csN; rw [if_neg k4]; split <;> omega
  · have k4 : ¬ m0 2 o = 4 := k4
    have k5 : ¬ m0 2 o = 5 := k5
    unfold csN; rw [if_neg k4, if_neg k5]; omega
  · have k4 : ¬ m0 2 o = 4 := k4
    show -2 ≤ m0 3 (4 * o)
    unfold srcOK at hop
    omega
  · have k4 : ¬ m0 2 o = 4 := k4
    have k5 : ¬ m0 2 o = 5 := k5
    show -2 ≤ m0 3 (4 * o + 2)
    unfold srcOK at hop
    omega
  · have k4 : m0 2 o = 4 := k4
    have w := hop.2.2.1 k4
    have er : rowB m0 o = m0 3 (4 * o) := by unfold rowB; rw [if_neg (by omega)]
    have ep : plcB m0 o = m0 3 (4 * o + 1) := by unfold plcB; rw [if_neg (by omega)]
    exact h.1 (rowB m0 o).toNat ((t : Int) + plcB m0 o).toNat (by omega) (by omega)
theorem PlC.step {m m0 : MM} {N t o : Nat} {s : PSt} (h : PlC m s N t o) (hB : BodyOK m0) (hs : SndX m0) (e : ∀ A i, 0 < A → A < 9 → m A i = m0 A i) (hN : N = (m0 1 0).toNat) (ho : o < N) (ht : t < 40) {m2 : MM} (h2 : m2 = upm (if m 2 o = 5 then upm m (136 + (rowB m o).toNat) ((t : Int) + plcB m o).toNat (acC m o t) else m) 138 (40 * o + t) (acC m o t)) : PlC m2 (stM (acsC m0) s o t) N t (o + 1) := by
  have h8 := hB.1
  have hop := hB.2.1 o (by omega)
  have ea := h.ac hB hs e hN ho ht
  have ek := e 2 o (by omega) (by omega)
  have eb := bd_fr (q := 0) (fun A i a b _ => e A i a b)
  unfold BOp at hop
  rw [ea, ek, eb.2.1, eb.2.2.1] at h2
  generalize acM (acsC m0) s o t = v at h2 ea ⊢
  have hv : stM (acsC m0) s o t = (if m0 2 o = 5 then up2 s.1 (rowB m0 o).toNat ((t : Int) + plcB m0 o).toNat v else s.1, up2 s.2 o t v) := by
    have ea2 := h.ac hB hs e hN ho ht
    unfold stM
    rw [← ea2, ea]
    rfl
  rw [hv]
  refine ⟨fun r p hr hp => ?_, fun o' t' hd => ?_⟩
  · rw [h2, upm_ne (by omega)]
    by_cases k5 : m0 2 o = 5
    · rw [if_pos k5]
      show _ = (if m0 2 o = 5 then up2 s.1 (rowB m0 o).toNat ((t : Int) + plcB m0 o).toNat v else s.1) r p
      rw [if_pos k5]
      unfold up2
      by_cases w : r = (rowB m0 o).toNat ∧ p = ((t : Int) + plcB m0 o).toNat
      · rw [if_pos w, w.1, w.2]; exact upm_eq
      · rw [if_neg w, upm_ne (by omega)]; exact h.1 r p hr hp
    · rw [if_neg k5]
      show _ = (if m0 2 o = 5 then up2 s.1 (rowB m0 o).toNat ((t : Int) + plcB m0 o).toNat v else s.1) r p
      rw [if_neg k5]; exact h.1 r p hr hp
  · rw [h2]
    show _ = up2 s.2 o t v o' t'
    unfold up2
    have hd' := hd
    unfold dn at hd'
    by_cases w : o' = o ∧ t' = t
    · rw [if_pos w, w.1, w.2]; exact upm_eq
    · rw [if_neg w, upm_ne (by omega)]
      have hd2 := (dn_next hd).resolve_right w
      by_cases k5 : m0 2 o = 5
      · rw [if_pos k5]
        have q := hop.2.2.2 k5
        have er : rowB m0 o = m0 3 (4 * o + 2) := by unfold rowB; rw [if_pos k5]
        rw [upm_ne (by omega)]; exact h.2 o' t' hd2
      · rw [if_neg k5]; exact h.2 o' t' hd2
theorem RefOK.rw {m : MM} (h : RefOK m) {o : Nat} (ho : o < 8) (hk : m 144 o = 4 ∨ m 144 o = 5) : (0 ≤ rowF m o ∧ rowF m o ≤ 1) ∧ 0 ≤ plcF m o ∧ plcF m o ≤ 7 := by
  have q := h.ops.2.1 o ho
  unfold OpOK at q
  unfold rowF plcF
  rcases hk with k | k
  · have := q.2.2.2.1 k
    rw [if_pos k, if_pos k]; omega
  · have := q.2.2.2.2 k
    rw [if_neg (by omega), if_neg (by omega)]; omega
theorem acsR_fr {m m' : MM} (e : ∀ A i, 143 < A → A < 154 → m' A i = m A i) : acsR m' = acsR m := by
  unfold acsR rowF plcF srcA srcB
  rw [show m' 144 = m 144 from funext fun i => e 144 i (by omega) (by omega), show m' 145 = m 145 from funext fun i => e 145 i (by omega) (by omega), show m' 146 = m 146 from funext fun i => e 146 i (by omega) (by omega), show m' 147 = m 147 from funext fun i => e 147 i (by omega) (by omega), show m' 148 = m 148 from funext fun i => e 148 i (by omega) (by omega), show m' 149 = m 149 from funext fun i => e 149 i (by omega) (by omega)]
theorem PlR.ac {m m0 : MM} {N t o : Nat} {s : PSt} (h : PlR m s N t o) (hr : RefOK m0) (hs : SoundM m0) (e : ∀ A i, 143 < A → A < 154 → m A i = m0 A i) (hN : N = (m0 143 1).toNat) (ho : o < N) (ht : t < 40) : acR m o t = acM (acsR m0) s o t := by
  have h8 := hr.ops.1
  have hop := hr.ops.2.1 o (by omega)
  have hab := hr.ab o (by omega)
  unfold acR
  rw [acsR_fr e]
  unfold OpOK at hop
  have sk : ∀ k : Nat, (k : Int) < srcN m0 o → SrcK (acsR m0) N o k := fun k hk => by
    have q := hs o (by omega) k (by omega) hk
    have w := hr.ops.src (o := o) (by omega) (k := (k : Int)) (by omega) hk
    unfold SrcS at q
    unfold srcOK at w
    unfold SrcK acsR
    simp only
    omega
  refine acM.eq ho (fun k4 => ⟨sk 0 ?_, fun k5 => sk 1 ?_⟩) (fun _ => ⟨hab.1.1, fun _ => hab.2.1⟩) (fun k4 => ?_) (fun o' t' hd => h.2 o' t' hd)
  · have k4 : ¬ m0 144 o = 4 := k4
    unfold srcN; rw [if_neg k4]; split <;> omega
  · have k4 : ¬ m0 144 o = 4 := k4
    have k5 : ¬ m0 144 o = 5 := k5
    unfold srcN; rw [if_neg k4, if_neg k5]; omega
  · have k4 : m0 144 o = 4 := k4
    have w := hr.rw (o := o) (by omega) (Or.inl k4)
    exact h.1 (rowF m0 o).toNat ((t : Int) + plcF m0 o).toNat (by omega) (by omega)
theorem PlR.step {m m0 : MM} {N t o : Nat} {s : PSt} (h : PlR m s N t o) (hr : RefOK m0) (hs : SoundM m0) (e : ∀ A i, 143 < A → A < 154 → m A i = m0 A i) (hN : N = (m0 143 1).toNat) (ho : o < N) (ht : t < 40) {m2 : MM} (h2 : m2 = if m 144 o = 5 then upm (upm m 167 (41 * o + t) (acR m o t)) 165 (64 * (rowF m o).toNat + ((t : Int) + plcF m o).toNat) (acR m o t) else upm m 167 (41 * o + t) (acR m o t)) : PlR m2 (stM (acsR m0) s o t) N t (o + 1) := by
  have h8 := hr.ops.1
  have ea := h.ac hr hs e hN ho ht
  have ek := e 144 o (by omega) (by omega)
  have eb : rowF m o = rowF m0 o ∧ plcF m o = plcF m0 o := by
    have q := acsR_fr e
    exact ⟨congrFun (congrArg (fun A : Acc => A.2.1) q) o, congrFun (congrArg (fun A : Acc => A.2.2.1) q) o⟩
  rw [ea, ek, eb.1, eb.2] at h2
  generalize hvv : acM (acsR m0) s o t = v at h2 ea
  have hv : stM (acsR m0) s o t = (if m0 144 o = 5 then up2 s.1 (rowF m0 o).toNat ((t : Int) + plcF m0 o).toNat v else s.1, up2 s.2 o t v) := by
    unfold stM
    rw [hvv]
    rfl
  rw [hv]
  have hw : m0 144 o = 5 → (0 ≤ rowF m0 o ∧ rowF m0 o ≤ 1) ∧ 0 ≤ plcF m0 o ∧ plcF m0 o ≤ 7 := fun k5 => hr.rw (o := o) (by omega) (Or.inr k5)
  refine ⟨fun r p hr2 hp => ?_, fun o' t' hd => ?_⟩
  · by_cases k5 : m0 144 o = 5
    · have q := hw k5
      rw [h2, if_pos k5]
      show _ = (if m0 144 o = 5 then up2 s.1 (rowF m0 o).toNat ((t : Int) + plcF m0 o).toNat v else s.1) r p
      rw [if_pos k5]
      unfold up2
      by_cases w : r = (rowF m0 o).toNat ∧ p = ((t : Int) + plcF m0 o).toNat
      · rw [if_pos w, w.1, w.2]; exact upm_eq
      · rw [if_neg w, upm_ne (by omega), upm_ne (by omega)]; exact h.1 r p hr2 hp
    · rw [h2, if_neg k5, upm_ne (by omega)]
      show _ = (if m0 144 o = 5 then up2 s.1 (rowF m0 o).toNat ((t : Int) + plcF m0 o).toNat v else s.1) r p
      rw [if_neg k5]; exact h.1 r p hr2 hp
  · show _ = up2 s.2 o t v o' t'
    unfold up2
    have hd' := hd
    unfold dn at hd'
    have eA : m2 167 (41 * o' + t') = upm m 167 (41 * o + t) v 167 (41 * o' + t') := by
      by_cases k5 : m0 144 o = 5
      · rw [h2, if_pos k5, upm_ne (by omega)]
      · rw [h2, if_neg k5]
    rw [eA]
    by_cases w : o' = o ∧ t' = t
    · rw [if_pos w, w.1, w.2]; exact upm_eq
    · rw [if_neg w, upm_ne (by omega)]; exact h.2 o' t' ((dn_next hd).resolve_right w)
end
section
/-! what holds of the heap between the law's calls, with what both sides tell of ops -/
def LM (h : PH) (m : MM) (g : Nat → Int64) : Prop := RA h ∧ h[173]? = some (.inl (1, 1, .inr (.inl g))) ∧ RH h h m
def LR (h : PH) : Prop := ∃ m g, LM h m g ∧ ClS m ∧ RefOK m ∧ RelB m
theorem RH.self {h0 h : PH} {mem : MM} (H : RH h0 h mem) : RH h h mem := ⟨fun _ _ => rfl, H.2⟩
theorem LM.step {h h' : PH} {m m' : MM} {g : Nat → Int64} (hL : LM h m g) (H : RH h h' m') : LM h' m' g := by
  obtain ⟨h1, h2, -⟩ := hL
  exact ⟨RA.at h1 H, by rw [H.1 173 rfl]; exact h2, H.self⟩
theorem LM.out {h : PH} {m : MM} {g g2 : Nat → Int64} (hL : LM h m g) : LM (h.set 173 (.inl (1, 1, .inr (.inl g2)))) m g2 := by
  obtain ⟨h1, h2, H⟩ := hL
  have hl := (List.getElem?_eq_some_iff.mp h2).1
  have e : ∀ A, ¬ A = 173 → (h.set 173 (.inl (1, 1, .inr (.inl g2))))[A]? = h[A]? := fun A q => List.getElem?_set_ne (fun z => q z.symm)
  refine ⟨?_, List.getElem?_set_self hl, ⟨fun _ _ => rfl, fun A s hA => ?_⟩⟩
  · unfold RA
    rw [e 37 (by decide), e 135 (by decide)]; exact h1
  · obtain ⟨y, a, b⟩ := H.2 A s hA
    exact ⟨y, by rw [e A (fun z => by rw [z] at hA; cases hA)]; exact a, b⟩
theorem LM.obj {h : PH} {m : MM} {g : Nat → Int64} (hL : LM h m g) {A ci : Nat} {fs : List (Option Nat)} (hA : shA A = some (.inr (ci, fs))) : ∃ gs, h[A]? = some (.inr (ci, gs)) := by
  obtain ⟨gs, g, -⟩ := hL.2.2.obj hA
  exact ⟨gs, g⟩
theorem callQM {S : Nat × (Nat → Int32)} {n μ : Nat} {args : List WV} {h : PH} {m : MM} {g : Nat → Int64} {K : Int → MM → Prop} {E : Nat → MM → Prop} (ha : ∀ v ∈ args, vOK v) (hL : LM h m g) (spec : CQI (Ex S n) μ args m K E) : Ex S n μ (args.map wv) h (fun r h' => (∃ y m', r = .inl (some (.int (Int32.ofInt y))) ∧ InI y ∧ LM h' m' g ∧ K y m') ∨ ∃ e m', r = .inr e ∧ LM h' m' g ∧ E e m') := by
  refine Ex.mono S n _ _ _ _ _ ?_ (spec ha h h hL.1 hL.2.2)
  rintro r h' ⟨x, m', rfl, k2, k3, k4⟩
  cases x with
  | inr e => exact Or.inr ⟨e, m', rfl, hL.step k3, k4⟩
  | inl o => cases o with
    | none => exact False.elim k4
    | some v => cases v with
      | inr A => exact False.elim k4
      | inl y => exact Or.inl ⟨y, m', rfl, k2, hL.step k3, k4⟩
theorem callQV {S : Nat × (Nat → Int32)} {n μ : Nat} {args : List WV} {h : PH} {m : MM} {g : Nat → Int64} {K : MM → Prop} {E : Nat → MM → Prop} (ha : ∀ v ∈ args, vOK v) (hL : LM h m g) (spec : CQV (Ex S n) μ args m K E) : Ex S n μ (args.map wv) h (fun r h' => (∃ m', r = .inl none ∧ LM h' m' g ∧ K m') ∨ ∃ e m', r = .inr e ∧ LM h' m' g ∧ E e m') := by
  refine Ex.mono S n _ _ _ _ _ ?_ (spec ha h h hL.1 hL.2.2)
  rintro r h' ⟨x, m', rfl, k2, k3, k4⟩
  cases x with
  | inr e => exact Or.inr ⟨e, m', rfl, hL.step k3, k4⟩
  | inl o => cases o with
    | some v => cases v <;> exact False.elim k4
    | none => exact Or.inl ⟨m', rfl, hL.step k3, k4⟩
def pRf (A _i : Nat) : Prop := 143 ≤ A
theorem CJ.e_ref {m m' : MM} (h : CJ m) (hF : Frm pRf m m') : CJ m' := by
  exact ⟨h.b.fr (fun A i a b => hF A i (by unfold pRf; omega)), h.w.fr (fun A i a b => hF A i (by unfold pRf; omega)), h.w2.fr (fun A i a b => hF A i (by unfold pRf; omega)), by rw [hF 19 0 (by unfold pRf; omega)]; exact h.r, h.hs.fr (fun A i a b => hF A i (by unfold pRf; omega)), fun o ho => by rw [hF 24 o (by unfold pRf; omega), hF 22 o (by unfold pRf; omega)]; exact h.us o ho, fun Q' hQ' => (h.ch Q' hQ').fr3 (fun A i q => hF A i (by have := hQ'.rg; unfold pRf; omega)), by rw [hF 0 10 (by unfold pRf; omega)]; exact h.so, by rw [hF 0 11 (by unfold pRf; omega)]; exact h.st⟩
theorem Rdy.e_ref {m m' : MM} (h : Rdy m) (hF : Frm pRf m m') : Rdy m' := by
  exact ⟨CJ.e_ref h.1 hF , ⟨by rw [hF 0 11 (by unfold pRf; omega)]; exact h.2.1.1, h.2.1.2.fr (fun A i q => hF A i (by unfold pRf; omega))⟩, by rw [hF 0 10 (by unfold pRf; omega)]; exact h.2.2.1, h.2.2.2.1.fr (fun A i q => hF A i (by unfold pRf; omega)), h.2.2.2.2.fr (fun A i a b => hF A i (by unfold pRf; omega))⟩
theorem RfC.e_ref {m m' : MM} (h : RfC m) (hF : Frm pRf m m') : RfC m' := by
  exact ⟨CJ.e_ref h.1 hF , by rw [hF 0 11 (by unfold pRf; omega)]; exact h.2.1, fun z => by
    rw [hF 0 10 (by unfold pRf; omega)] at z
    exact (h.2.2.1 z).fr (fun A i q => hF A i (by unfold pRf; omega)), SX.fr h.2.2.2 (hF 0 10 (by unfold pRf; omega)) (fun A i a b => hF A i (by unfold pRf; omega))⟩
theorem ClS.ref {m m' : MM} (h : ClS m) (hF : Frm pRf m m') : ClS m' := ⟨CJ.e_ref h.1 hF, fun a b => by
  rw [hF 0 11 (by unfold pRf; omega)] at a
  rw [hF 0 10 (by unfold pRf; omega)] at b
  exact ⟨(h.2.1 a b).1.fr (fun A i q => hF A i (by unfold pRf; omega)), (h.2.1 a b).2.fr (fun A i q => hF A i (by unfold pRf; omega))⟩, fun a => SX.fr (h.2.2 (by rw [hF 0 11 (by unfold pRf; omega)] at a; exact a)) (hF 0 10 (by unfold pRf; omega)) (fun A i a b => hF A i (by unfold pRf; omega))⟩
theorem RefOK.fr {m m' : MM} (h : RefOK m) (e : ∀ A i, 143 ≤ A → A ≤ 172 → m' A i = m A i) : RefOK m' :=
  Kp.rest (fun A i q => e A i (by omega) (by omega)) h (fun o ho => by rw [e 160 o (by omega) (by omega)]; exact h.sl o ho) (fun j hj => by rw [e _ _ (by omega) (by omega), e _ _ (by omega) (by omega), e _ _ (by omega) (by omega), e _ _ (by omega) (by omega)]; exact h.r48 j hj) (by rw [e 143 12 (by omega) (by omega)]; exact h.nd)
theorem p_call_mk {C : CXW} {M N : PM} {hd : List (Nat × Nat × Nat × Int)} {Q : Rs → PH → Prop} {K : Kt} {pc μ : Nat} {virt : Bool} {lv : LV} {av rest : List Value} {h : PH} {c s : Nat} (hN : MT[μ]? = some N) (hl : av.length = pN N) (hr : (rest.map Value.category).sum ≤ 8) (hc : c + pC N ≤ pC M) (hs : s + pS N ≤ pS M) (hv : virt = true → ∃ a fs, av[0]? = some (.ref a) ∧ h[a]? = some (.inr (pO N, fs))) (H : C μ av h (p_back M hd Q K pc lv rest (c + pC N) (s + pS N))) : p_call C M hd Q K pc μ virt lv (av.reverse ++ rest) h c s := by
  unfold p_call
  rw [hN]
  have el : av.reverse.length = pN N := by rw [List.length_reverse]; exact hl
  have e1 : (av.reverse ++ rest).take (pN N) = av.reverse := by rw [← el, List.take_left]
  have e2 : (av.reverse ++ rest).drop (pN N) = rest := by rw [← el, List.drop_left]
  simp only [e1, e2, List.reverse_reverse]
  refine ⟨by rw [List.length_append, el]; omega, hr, hc, hs, fun q => ?_, H⟩
  obtain ⟨a, fs, g1, g2⟩ := hv q
  exact ⟨a, fs, by rw [List.getLast?_reverse, List.head?_eq_getElem?]; exact g1, g2⟩
theorem vp00 : vp_in (Int32.ofInt 0) 1 := vp_in_iff.mpr (by decide)
theorem st_last {C : CXW} (hC : Cmono C) {S : Nat × (Nat → Int32)} {M : PM} {hd : List (Nat × Nat × Nat × Int)} {Q : Rs → PH → Prop} {pc : Nat} {lv : LV} {r : List Value} {h : PH} {c s : Nat} {x : Int64} {g : Nat → Int64} (ht : (pT M).find? (fun e => e.1 == pc) = some (pc, .lastore, 0, 0)) (hg : h[173]? = some (.inl (1, 1, .inr (.inl g)))) (H : ∀ g2 : Nat → Int64, g2 0 = x → Vx C S M hd Q (pc + 1) lv r (h.set 173 (.inl (1, 1, .inr (.inl g2)))) c s) : Vx C S M hd Q pc lv (.long x :: .int (Int32.ofInt 0) :: .ref 173 :: r) h c s := Vx.go hC ht (show p_last h _ (fun st h => Vx C S M hd Q (pc + 1) lv st h c s) from last_mk hg vp00 (H _ (by
  show vp_updL g (Int32.ofInt 0).toNatClampNeg x 0 = x
  rw [show (Int32.ofInt 0).toNatClampNeg = 0 by decide]
  unfold vp_updL
  simp)))
theorem LR.cls {h' : PH} {m m' : MM} {g' : Nat → Int64} (hL : LM h' m' g') (hr : RefOK m) (hb : RelB m) (hc : ClS m') (hF : Frm pNb m m') : LR h' := ⟨m', g', hL, hc, hr.fr (fun A i a b => hF A i (by unfold pNb; omega)), hb.fr (fun A i q => hF A i (by unfold pNb; omega))⟩
theorem LR.refq {h' : PH} {m m' : MM} {g' : Nat → Int64} (hL : LM h' m' g') (hc : ClS m) (hb : RelB m) (hr : RefOK m') (hF : FrQ m m') : LR h' := ⟨m', g', hL, hc.ref (fun A i q => hF A i (by unfold pRf at q; omega)), hr, hb.fr (fun A i q => hF A i (by omega))⟩
end
