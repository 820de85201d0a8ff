/-! laid by wip/hand/tg.py: op and uses on both sides -/
def opF (m : MM) (o : Nat) (w : Int) : Int := if w = 0 then m 2 o else if w = 5 then m 4 o else m 3 (4 * o + (w - 1).toNat)
def opR (m : MM) (o : Nat) (w : Int) : Int := if w = 0 then m 144 o else if w = 1 then m 145 o else if w = 2 then m 146 o else if w = 3 then m 147 o else if w = 4 then m 148 o else m 149 o
theorem RelB.op {m : MM} (h : RelB m) {o : Nat} {w : Int} (ho : o < 8) (hw : 0 ≤ w ∧ w ≤ 5) : opF m o w = opR m o w := by
  have q := h.2.1 o ho
  have a : w = 0 ∨ w = 1 ∨ w = 2 ∨ w = 3 ∨ w = 4 ∨ w = 5 := by omega
  unfold opF opR
  rcases a with rfl | rfl | rfl | rfl | rfl | rfl
  · exact q.1
  · exact q.2.1
  · exact q.2.2.1
  · exact q.2.2.2.1
  · exact q.2.2.2.2.1
  · exact q.2.2.2.2.2
/-- bits that are set, of 4 -/
def popI (x : Int) : Int := x % 2 + x / 2 % 2 + x / 4 % 2 + x / 8 % 2
/-- uses of a unit by the first ops -/
def usN (f g : Nat → Int) (u : Int) : Nat → Int
  | 0 => 0
  | n + 1 => usN f g u n + if f n = u then popI (g n) else 0
theorem popI_rg {x : Int} : 0 ≤ popI x ∧ popI x ≤ 4 := by unfold popI; omega
theorem usN_rg {f g : Nat → Int} {u : Int} : ∀ n : Nat, 0 ≤ usN f g u n ∧ usN f g u n ≤ 4 * n
  | 0 => by unfold usN; omega
  | n + 1 => by
    have := usN_rg (f := f) (g := g) (u := u) n
    have := popI_rg (x := g n)
    unfold usN
    split <;> omega
theorem usN_eq {f g f2 g2 : Nat → Int} {u : Int} : ∀ n : Nat, (∀ o, o < n → f o = f2 o ∧ g o = g2 o) → usN f g u n = usN f2 g2 u n
  | 0, _ => rfl
  | n + 1, h => by
    unfold usN
    rw [usN_eq n (fun o ho => h o (by omega)), (h n (by omega)).1, (h n (by omega)).2]
def cUn (m : MM) (o : Nat) : Int := m 5 (m 2 o).toNat
def cBu (m : MM) (o : Nat) : Int := m 7 (m 2 o).toNat
def cLa (m : MM) (o : Nat) : Int := m 6 (m 2 o).toNat
def rUn (m : MM) (o : Nat) : Int := m 150 (m 144 o).toNat
def rBu (m : MM) (o : Nat) : Int := m 152 (m 144 o).toNat
theorem RelB.un {m : MM} (h : RelB m) (hB : BodyOK m) {o : Nat} (ho : o < 8) : cUn m o = rUn m o ∧ cBu m o = rBu m o ∧ cLa m o = latF m o := by
  have q := (h.2.1 o ho).1
  have k := hB.kd ho
  have w := h.2.2.1 (m 2 o).toNat (by omega)
  unfold cUn rUn cBu rBu cLa latF
  rw [← q]
  exact ⟨w.1, w.2.2, w.2.1⟩
def usC (m : MM) (u : Int) : Int := usN (cUn m) (cBu m) u (m 1 0).toNat
def usR (m : MM) (u : Int) : Int := usN (rUn m) (rBu m) u (m 143 1).toNat
theorem RelB.uses {m : MM} (h : RelB m) (hB : BodyOK m) (u : Int) : usC m u = usR m u := by
  unfold usC usR
  rw [← h.1]
  have := hB.1
  exact usN_eq _ (fun o ho => ⟨(h.un hB (by omega)).1, (h.un hB (by omega)).2.1⟩)
theorem and1 (x y : Int) (hx : 0 ≤ x ∧ x ≤ 15) (hy : y = x - 1) (b : Int) (hb : b = ((fun (x y : Int32) => x &&& y) (Int32.ofInt x) (Int32.ofInt y)).toInt) (h1 : 1 ≤ x) : popI b = popI x - 1 ∧ 0 ≤ b ∧ b < x := by
  subst hy
  subst hb
  have a : x = 1 ∨ x = 2 ∨ x = 3 ∨ x = 4 ∨ x = 5 ∨ x = 6 ∨ x = 7 ∨ x = 8 ∨ x = 9 ∨ x = 10 ∨ x = 11 ∨ x = 12 ∨ x = 13 ∨ x = 14 ∨ x = 15 := by omega
  clear hx h1
  rcases a with rfl | rfl | rfl | rfl | rfl | rfl | rfl | rfl | rfl | rfl | rfl | rfl | rfl | rfl | rfl <;> decide
theorem usN_st {f g : Nat → Int} {u o : Int} (h : 0 ≤ o) : usN f g u (o + 1).toNat = usN f g u o.toNat + if f o.toNat = u then popI (g o.toNat) else 0 := by
  rw [show (o + 1).toNat = o.toNat + 1 by omega]
  rfl
theorem usR_th {m : MM} {u z : Int} : usR (upm m 143 0 z) u = usR m u := by
  unfold usR
  rw [upm_ne (by omega)]
  refine usN_eq _ (fun o _ => ⟨?_, ?_⟩)
  · unfold rUn; rw [upm_ne (by omega), upm_ne (by omega)]
  · unfold rBu; rw [upm_ne (by omega), upm_ne (by omega)]
theorem f_39_0 {S : Nat × (Nat → Int32)} {n : Nat} {mem : MM} {K : Int → MM → Prop} {E : Nat → MM → Prop} (H : K 0 mem) : CQI (Ex S (n + 1)) 39 [.inl 0] mem K E := by
  refine CY.of (k := 0) mt_39 rfl rfl (fun _ => ?_)
  have hC := Ex.mono S n
  show Tx (Ex S n) S M_39 (kI K E) 0 0 0 [some (.inl 0)] [] mem
  refine Tx.iload_n hC te_39_0 rfl ?_
  refine Tx.iload_n hC te_39_1 rfl ?_
  refine Tx.iconst hC te_39_2 rfl ?_
  refine Tx.bits hC (f := (fun (x y : Int32) => (x.toUInt32 >>> (y.toUInt32 &&& Int32.toUInt32 31)).toInt32)) te_39_3 (fun _ _ _ _ => Iff.rfl) (fun b1 b1e _ => ?_)
  have b1v : b1 = 0 := b1e.trans (by decide)
  subst b1v
  refine Tx.ldc_w hC (z := 1431655765) te_39_4 rfl rfl rfl rfl ?_
  refine Tx.bits hC (f := (fun (x y : Int32) => x &&& y)) te_39_7 (fun _ _ _ _ => Iff.rfl) (fun b2 b2e _ => ?_)
  have b2v : b2 = 0 := b2e.trans (by decide)
  subst b2v
  refine Tx.isubW hC te_39_8 (fun b3 _ b3e => ?_)
  have b3v : b3 = 0 := b3e (by unfold InI; omega)
  subst b3v
  refine Tx.istore_n hC te_39_9 rfl ?_
  refine Tx.iload_n hC te_39_10 rfl ?_
  refine Tx.ldc_w hC (z := 858993459) te_39_11 rfl rfl rfl rfl ?_
  refine Tx.bits hC (f := (fun (x y : Int32) => x &&& y)) te_39_14 (fun _ _ _ _ => Iff.rfl) (fun b4 b4e _ => ?_)
  have b4v : b4 = 0 := b4e.trans (by decide)
  subst b4v
  refine Tx.iload_n hC te_39_15 rfl ?_
  refine Tx.iconst hC te_39_16 rfl ?_
  refine Tx.bits hC (f := (fun (x y : Int32) => (x.toUInt32 >>> (y.toUInt32 &&& Int32.toUInt32 31)).toInt32)) te_39_17 (fun _ _ _ _ => Iff.rfl) (fun b5 b5e _ => ?_)
  have b5v : b5 = 0 := b5e.trans (by decide)
  subst b5v
  refine Tx.ldc_w hC (z := 858993459) te_39_18 rfl rfl rfl rfl ?_
  refine Tx.bits hC (f := (fun (x y : Int32) => x &&& y)) te_39_21 (fun _ _ _ _ => Iff.rfl) (fun b6 b6e _ => ?_)
  have b6v : b6 = 0 := b6e.trans (by decide)
  subst b6v
  refine Tx.iaddW hC te_39_22 (fun b7 _ b7e => ?_)
  have b7v : b7 = 0 := b7e (by unfold InI; omega)
  subst b7v
  refine Tx.istore_n hC te_39_23 rfl ?_
  refine Tx.iload_n hC te_39_24 rfl ?_
  refine Tx.iload_n hC te_39_25 rfl ?_
  refine Tx.iconst hC te_39_26 rfl ?_
  refine Tx.bits hC (f := (fun (x y : Int32) => (x.toUInt32 >>> (y.toUInt32 &&& Int32.toUInt32 31)).toInt32)) te_39_27 (fun _ _ _ _ => Iff.rfl) (fun b8 b8e _ => ?_)
  have b8v : b8 = 0 := b8e.trans (by decide)
  subst b8v
  refine Tx.iaddW hC te_39_28 (fun b9 _ b9e => ?_)
  have b9v : b9 = 0 := b9e (by unfold InI; omega)
  subst b9v
  refine Tx.ldc_w hC (z := 252645135) te_39_29 rfl rfl rfl rfl ?_
  refine Tx.bits hC (f := (fun (x y : Int32) => x &&& y)) te_39_32 (fun _ _ _ _ => Iff.rfl) (fun b10 b10e _ => ?_)
  have b10v : b10 = 0 := b10e.trans (by decide)
  subst b10v
  refine Tx.istore_n hC te_39_33 rfl ?_
  refine Tx.iload_n hC te_39_34 rfl ?_
  refine Tx.iload_n hC te_39_35 rfl ?_
  refine Tx.bipush hC te_39_36 rfl rfl ?_
  refine Tx.bits hC (f := (fun (x y : Int32) => (x.toUInt32 >>> (y.toUInt32 &&& Int32.toUInt32 31)).toInt32)) te_39_38 (fun _ _ _ _ => Iff.rfl) (fun b11 b11e _ => ?_)
  have b11v : b11 = 0 := b11e.trans (by decide)
  subst b11v
  refine Tx.iaddW hC te_39_39 (fun b12 _ b12e => ?_)
  have b12v : b12 = 0 := b12e (by unfold InI; omega)
  subst b12v
  refine Tx.istore_n hC te_39_40 rfl ?_
  refine Tx.iload_n hC te_39_41 rfl ?_
  refine Tx.iload_n hC te_39_42 rfl ?_
  refine Tx.bipush hC te_39_43 rfl rfl ?_
  refine Tx.bits hC (f := (fun (x y : Int32) => (x.toUInt32 >>> (y.toUInt32 &&& Int32.toUInt32 31)).toInt32)) te_39_45 (fun _ _ _ _ => Iff.rfl) (fun b13 b13e _ => ?_)
  have b13v : b13 = 0 := b13e.trans (by decide)
  subst b13v
  refine Tx.iaddW hC te_39_46 (fun b14 _ b14e => ?_)
  have b14v : b14 = 0 := b14e (by unfold InI; omega)
  subst b14v
  refine Tx.istore_n hC te_39_47 rfl ?_
  refine Tx.iload_n hC te_39_48 rfl ?_
  refine Tx.bipush hC te_39_49 rfl rfl ?_
  refine Tx.bits hC (f := (fun (x y : Int32) => x &&& y)) te_39_51 (fun _ _ _ _ => Iff.rfl) (fun b15 b15e _ => ?_)
  have b15v : b15 = 0 := b15e.trans (by decide)
  subst b15v
  exact Tx.ireturn hC te_39_52 rfl (fun _ => H)
theorem f_39_1 {S : Nat × (Nat → Int32)} {n : Nat} {mem : MM} {K : Int → MM → Prop} {E : Nat → MM → Prop} (H : K 1 mem) : CQI (Ex S (n + 1)) 39 [.inl 1] mem K E := by
  refine CY.of (k := 0) mt_39 rfl rfl (fun _ => ?_)
  have hC := Ex.mono S n
  show Tx (Ex S n) S M_39 (kI K E) 0 0 0 [some (.inl 1)] [] mem
  refine Tx.iload_n hC te_39_0 rfl ?_
  refine Tx.iload_n hC te_39_1 rfl ?_
  refine Tx.iconst hC te_39_2 rfl ?_
  refine Tx.bits hC (f := (fun (x y : Int32) => (x.toUInt32 >>> (y.toUInt32 &&& Int32.toUInt32 31)).toInt32)) te_39_3 (fun _ _ _ _ => Iff.rfl) (fun b1 b1e _ => ?_)
  have b1v : b1 = 0 := b1e.trans (by decide)
  subst b1v
  refine Tx.ldc_w hC (z := 1431655765) te_39_4 rfl rfl rfl rfl ?_
  refine Tx.bits hC (f := (fun (x y : Int32) => x &&& y)) te_39_7 (fun _ _ _ _ => Iff.rfl) (fun b2 b2e _ => ?_)
  have b2v : b2 = 0 := b2e.trans (by decide)
  subst b2v
  refine Tx.isubW hC te_39_8 (fun b3 _ b3e => ?_)
  have b3v : b3 = 1 := b3e (by unfold InI; omega)
  subst b3v
  refine Tx.istore_n hC te_39_9 rfl ?_
  refine Tx.iload_n hC te_39_10 rfl ?_
  refine Tx.ldc_w hC (z := 858993459) te_39_11 rfl rfl rfl rfl ?_
  refine Tx.bits hC (f := (fun (x y : Int32) => x &&& y)) te_39_14 (fun _ _ _ _ => Iff.rfl) (fun b4 b4e _ => ?_)
  have b4v : b4 = 1 := b4e.trans (by decide)
  subst b4v
  refine Tx.iload_n hC te_39_15 rfl ?_
  refine Tx.iconst hC te_39_16 rfl ?_
  refine Tx.bits hC (f := (fun (x y : Int32) => (x.toUInt32 >>> (y.toUInt32 &&& Int32.toUInt32 31)).toInt32)) te_39_17 (fun _ _ _ _ => Iff.rfl) (fun b5 b5e _ => ?_)
  have b5v : b5 = 0 := b5e.trans (by decide)
  subst b5v
  refine Tx.ldc_w hC (z := 858993459) te_39_18 rfl rfl rfl rfl ?_
  refine Tx.bits hC (f := (fun (x y : Int32) => x &&& y)) te_39_21 (fun _ _ _ _ => Iff.rfl) (fun b6 b6e _ => ?_)
  have b6v : b6 = 0 := b6e.trans (by decide)
  subst b6v
  refine Tx.iaddW hC te_39_22 (fun b7 _ b7e => ?_)
  have b7v : b7 = 1 := b7e (by unfold InI; omega)
  subst b7v
  refine Tx.istore_n hC te_39_23 rfl ?_
  refine Tx.iload_n hC te_39_24 rfl ?_
  refine Tx.iload_n hC te_39_25 rfl ?_
  refine Tx.iconst hC te_39_26 rfl ?_
  refine Tx.bits hC (f := (fun (x y : Int32) => (x.toUInt32 >>> (y.toUInt32 &&& Int32.toUInt32 31)).toInt32)) te_39_27 (fun _ _ _ _ => Iff.rfl) (fun b8 b8e _ => ?_)
  have b8v : b8 = 0 := b8e.trans (by decide)
  subst b8v
  refine Tx.iaddW hC te_39_28 (fun b9 _ b9e => ?_)
  have b9v : b9 = 1 := b9e (by unfold InI; omega)
  subst b9v
  refine Tx.ldc_w hC (z := 252645135) te_39_29 rfl rfl rfl rfl ?_
  refine Tx.bits hC (f := (fun (x y : Int32) => x &&& y)) te_39_32 (fun _ _ _ _ => Iff.rfl) (fun b10 b10e _ => ?_)
  have b10v : b10 = 1 := b10e.trans (by decide)
  subst b10v
  refine Tx.istore_n hC te_39_33 rfl ?_
  refine Tx.iload_n hC te_39_34 rfl ?_
  refine Tx.iload_n hC te_39_35 rfl ?_
  refine Tx.bipush hC te_39_36 rfl rfl ?_
  refine Tx.bits hC (f := (fun (x y : Int32) => (x.toUInt32 >>> (y.toUInt32 &&& Int32.toUInt32 31)).toInt32)) te_39_38 (fun _ _ _ _ => Iff.rfl) (fun b11 b11e _ => ?_)
  have b11v : b11 = 0 := b11e.trans (by decide)
  subst b11v
  refine Tx.iaddW hC te_39_39 (fun b12 _ b12e => ?_)
  have b12v : b12 = 1 := b12e (by unfold InI; omega)
  subst b12v
  refine Tx.istore_n hC te_39_40 rfl ?_
  refine Tx.iload_n hC te_39_41 rfl ?_
  refine Tx.iload_n hC te_39_42 rfl ?_
  refine Tx.bipush hC te_39_43 rfl rfl ?_
  refine Tx.bits hC (f := (fun (x y : Int32) => (x.toUInt32 >>> (y.toUInt32 &&& Int32.toUInt32 31)).toInt32)) te_39_45 (fun _ _ _ _ => Iff.rfl) (fun b13 b13e _ => ?_)
  have b13v : b13 = 0 := b13e.trans (by decide)
  subst b13v
  refine Tx.iaddW hC te_39_46 (fun b14 _ b14e => ?_)
  have b14v : b14 = 1 := b14e (by unfold InI; omega)
  subst b14v
  refine Tx.istore_n hC te_39_47 rfl ?_
  refine Tx.iload_n hC te_39_48 rfl ?_
  refine Tx.bipush hC te_39_49 rfl rfl ?_
  refine Tx.bits hC (f := (fun (x y : Int32) => x &&& y)) te_39_51 (fun _ _ _ _ => Iff.rfl) (fun b15 b15e _ => ?_)
  have b15v : b15 = 1 := b15e.trans (by decide)
  subst b15v
  exact Tx.ireturn hC te_39_52 rfl (fun _ => H)
theorem f_39_2 {S : Nat × (Nat → Int32)} {n : Nat} {mem : MM} {K : Int → MM → Prop} {E : Nat → MM → Prop} (H : K 1 mem) : CQI (Ex S (n + 1)) 39 [.inl 2] mem K E := by
  refine CY.of (k := 0) mt_39 rfl rfl (fun _ => ?_)
  have hC := Ex.mono S n
  show Tx (Ex S n) S M_39 (kI K E) 0 0 0 [some (.inl 2)] [] mem
  refine Tx.iload_n hC te_39_0 rfl ?_
  refine Tx.iload_n hC te_39_1 rfl ?_
  refine Tx.iconst hC te_39_2 rfl ?_
  refine Tx.bits hC (f := (fun (x y : Int32) => (x.toUInt32 >>> (y.toUInt32 &&& Int32.toUInt32 31)).toInt32)) te_39_3 (fun _ _ _ _ => Iff.rfl) (fun b1 b1e _ => ?_)
  have b1v : b1 = 1 := b1e.trans (by decide)
  subst b1v
  refine Tx.ldc_w hC (z := 1431655765) te_39_4 rfl rfl rfl rfl ?_
  refine Tx.bits hC (f := (fun (x y : Int32) => x &&& y)) te_39_7 (fun _ _ _ _ => Iff.rfl) (fun b2 b2e _ => ?_)
  have b2v : b2 = 1 := b2e.trans (by decide)
  subst b2v
  refine Tx.isubW hC te_39_8 (fun b3 _ b3e => ?_)
  have b3v : b3 = 1 := b3e (by unfold InI; omega)
  subst b3v
  refine Tx.istore_n hC te_39_9 rfl ?_
  refine Tx.iload_n hC te_39_10 rfl ?_
  refine Tx.ldc_w hC (z := 858993459) te_39_11 rfl rfl rfl rfl ?_
  refine Tx.bits hC (f := (fun (x y : Int32) => x &&& y)) te_39_14 (fun _ _ _ _ => Iff.rfl) (fun b4 b4e _ => ?_)
  have b4v : b4 = 1 := b4e.trans (by decide)
  subst b4v
  refine Tx.iload_n hC te_39_15 rfl ?_
  refine Tx.iconst hC te_39_16 rfl ?_
  refine Tx.bits hC (f := (fun (x y : Int32) => (x.toUInt32 >>> (y.toUInt32 &&& Int32.toUInt32 31)).toInt32)) te_39_17 (fun _ _ _ _ => Iff.rfl) (fun b5 b5e _ => ?_)
  have b5v : b5 = 0 := b5e.trans (by decide)
  subst b5v
  refine Tx.ldc_w hC (z := 858993459) te_39_18 rfl rfl rfl rfl ?_
  refine Tx.bits hC (f := (fun (x y : Int32) => x &&& y)) te_39_21 (fun _ _ _ _ => Iff.rfl) (fun b6 b6e _ => ?_)
  have b6v : b6 = 0 := b6e.trans (by decide)
  subst b6v
  refine Tx.iaddW hC te_39_22 (fun b7 _ b7e => ?_)
  have b7v : b7 = 1 := b7e (by unfold InI; omega)
  subst b7v
  refine Tx.istore_n hC te_39_23 rfl ?_
  refine Tx.iload_n hC te_39_24 rfl ?_
  refine Tx.iload_n hC te_39_25 rfl ?_
  refine Tx.iconst hC te_39_26 rfl ?_
  refine Tx.bits hC (f := (fun (x y : Int32) => (x.toUInt32 >>> (y.toUInt32 &&& Int32.toUInt32 31)).toInt32)) te_39_27 (fun _ _ _ _ => Iff.rfl) (fun b8 b8e _ => ?_)
  have b8v : b8 = 0 := b8e.trans (by decide)
  subst b8v
  refine Tx.iaddW hC te_39_28 (fun b9 _ b9e => ?_)
  have b9v : b9 = 1 := b9e (by unfold InI; omega)
  subst b9v
  refine Tx.ldc_w hC (z := 252645135) te_39_29 rfl rfl rfl rfl ?_
  refine Tx.bits hC (f := (fun (x y : Int32) => x &&& y)) te_39_32 (fun _ _ _ _ => Iff.rfl) (fun b10 b10e _ => ?_)
  have b10v : b10 = 1 := b10e.trans (by decide)
  subst b10v
  refine Tx.istore_n hC te_39_33 rfl ?_
  refine Tx.iload_n hC te_39_34 rfl ?_
  refine Tx.iload_n hC te_39_35 rfl ?_
  refine Tx.bipush hC te_39_36 rfl rfl ?_
  refine Tx.bits hC (f := (fun (x y : Int32) => (x.toUInt32 >>> (y.toUInt32 &&& Int32.toUInt32 31)).toInt32)) te_39_38 (fun _ _ _ _ => Iff.rfl) (fun b11 b11e _ => ?_)
  have b11v : b11 = 0 := b11e.trans (by decide)
  subst b11v
  refine Tx.iaddW hC te_39_39 (fun b12 _ b12e => ?_)
  have b12v : b12 = 1 := b12e (by unfold InI; omega)
  subst b12v
  refine Tx.istore_n hC te_39_40 rfl ?_
  refine Tx.iload_n hC te_39_41 rfl ?_
  refine Tx.iload_n hC te_39_42 rfl ?_
  refine Tx.bipush hC te_39_43 rfl rfl ?_
  refine Tx.bits hC (f := (fun (x y : Int32) => (x.toUInt32 >>> (y.toUInt32 &&& Int32.toUInt32 31)).toInt32)) te_39_45 (fun _ _ _ _ => Iff.rfl) (fun b13 b13e _ => ?_)
  have b13v : b13 = 0 := b13e.trans (by decide)
  subst b13v
  refine Tx.iaddW hC te_39_46 (fun b14 _ b14e => ?_)
  have b14v : b14 = 1 := b14e (by unfold InI; omega)
  subst b14v
  refine Tx.istore_n hC te_39_47 rfl ?_
  refine Tx.iload_n hC te_39_48 rfl ?_
  refine Tx.bipush hC te_39_49 rfl rfl ?_
  refine Tx.bits hC (f := (fun (x y : Int32) => x &&& y)) te_39_51 (fun _ _ _ _ => Iff.rfl) (fun b15 b15e _ => ?_)
  have b15v : b15 = 1 := b15e.trans (by decide)
  subst b15v
  exact Tx.ireturn hC te_39_52 rfl (fun _ => H)
theorem f_39_3 {S : Nat × (Nat → Int32)} {n : Nat} {mem : MM} {K : Int → MM → Prop} {E : Nat → MM → Prop} (H : K 2 mem) : CQI (Ex S (n + 1)) 39 [.inl 3] mem K E := by
  refine CY.of (k := 0) mt_39 rfl rfl (fun _ => ?_)
  have hC := Ex.mono S n
  show Tx (Ex S n) S M_39 (kI K E) 0 0 0 [some (.inl 3)] [] mem
  refine Tx.iload_n hC te_39_0 rfl ?_
  refine Tx.iload_n hC te_39_1 rfl ?_
  refine Tx.iconst hC te_39_2 rfl ?_
  refine Tx.bits hC (f := (fun (x y : Int32) => (x.toUInt32 >>> (y.toUInt32 &&& Int32.toUInt32 31)).toInt32)) te_39_3 (fun _ _ _ _ => Iff.rfl) (fun b1 b1e _ => ?_)
  have b1v : b1 = 1 := b1e.trans (by decide)
  subst b1v
  refine Tx.ldc_w hC (z := 1431655765) te_39_4 rfl rfl rfl rfl ?_
  refine Tx.bits hC (f := (fun (x y : Int32) => x &&& y)) te_39_7 (fun _ _ _ _ => Iff.rfl) (fun b2 b2e _ => ?_)
  have b2v : b2 = 1 := b2e.trans (by decide)
  subst b2v
  refine Tx.isubW hC te_39_8 (fun b3 _ b3e => ?_)
  have b3v : b3 = 2 := b3e (by unfold InI; omega)
  subst b3v
  refine Tx.istore_n hC te_39_9 rfl ?_
  refine Tx.iload_n hC te_39_10 rfl ?_
  refine Tx.ldc_w hC (z := 858993459) te_39_11 rfl rfl rfl rfl ?_
  refine Tx.bits hC (f := (fun (x y : Int32) => x &&& y)) te_39_14 (fun _ _ _ _ => Iff.rfl) (fun b4 b4e _ => ?_)
  have b4v : b4 = 2 := b4e.trans (by decide)
  subst b4v
  refine Tx.iload_n hC te_39_15 rfl ?_
  refine Tx.iconst hC te_39_16 rfl ?_
  refine Tx.bits hC (f := (fun (x y : Int32) => (x.toUInt32 >>> (y.toUInt32 &&& Int32.toUInt32 31)).toInt32)) te_39_17 (fun _ _ _ _ => Iff.rfl) (fun b5 b5e _ => ?_)
  have b5v : b5 = 0 := b5e.trans (by decide)
  subst b5v
  refine Tx.ldc_w hC (z := 858993459) te_39_18 rfl rfl rfl rfl ?_
  refine Tx.bits hC (f := (fun (x y : Int32) => x &&& y)) te_39_21 (fun _ _ _ _ => Iff.rfl) (fun b6 b6e _ => ?_)
  have b6v : b6 = 0 := b6e.trans (by decide)
  subst b6v
  refine Tx.iaddW hC te_39_22 (fun b7 _ b7e => ?_)
  have b7v : b7 = 2 := b7e (by unfold InI; omega)
  subst b7v
  refine Tx.istore_n hC te_39_23 rfl ?_
  refine Tx.iload_n hC te_39_24 rfl ?_
  refine Tx.iload_n hC te_39_25 rfl ?_
  refine Tx.iconst hC te_39_26 rfl ?_
  refine Tx.bits hC (f := (fun (x y : Int32) => (x.toUInt32 >>> (y.toUInt32 &&& Int32.toUInt32 31)).toInt32)) te_39_27 (fun _ _ _ _ => Iff.rfl) (fun b8 b8e _ => ?_)
  have b8v : b8 = 0 := b8e.trans (by decide)
  subst b8v
  refine Tx.iaddW hC te_39_28 (fun b9 _ b9e => ?_)
  have b9v : b9 = 2 := b9e (by unfold InI; omega)
  subst b9v
  refine Tx.ldc_w hC (z := 252645135) te_39_29 rfl rfl rfl rfl ?_
  refine Tx.bits hC (f := (fun (x y : Int32) => x &&& y)) te_39_32 (fun _ _ _ _ => Iff.rfl) (fun b10 b10e _ => ?_)
  have b10v : b10 = 2 := b10e.trans (by decide)
  subst b10v
  refine Tx.istore_n hC te_39_33 rfl ?_
  refine Tx.iload_n hC te_39_34 rfl ?_
  refine Tx.iload_n hC te_39_35 rfl ?_
  refine Tx.bipush hC te_39_36 rfl rfl ?_
  refine Tx.bits hC (f := (fun (x y : Int32) => (x.toUInt32 >>> (y.toUInt32 &&& Int32.toUInt32 31)).toInt32)) te_39_38 (fun _ _ _ _ => Iff.rfl) (fun b11 b11e _ => ?_)
  have b11v : b11 = 0 := b11e.trans (by decide)
  subst b11v
  refine Tx.iaddW hC te_39_39 (fun b12 _ b12e => ?_)
  have b12v : b12 = 2 := b12e (by unfold InI; omega)
  subst b12v
  refine Tx.istore_n hC te_39_40 rfl ?_
  refine Tx.iload_n hC te_39_41 rfl ?_
  refine Tx.iload_n hC te_39_42 rfl ?_
  refine Tx.bipush hC te_39_43 rfl rfl ?_
  refine Tx.bits hC (f := (fun (x y : Int32) => (x.toUInt32 >>> (y.toUInt32 &&& Int32.toUInt32 31)).toInt32)) te_39_45 (fun _ _ _ _ => Iff.rfl) (fun b13 b13e _ => ?_)
  have b13v : b13 = 0 := b13e.trans (by decide)
  subst b13v
  refine Tx.iaddW hC te_39_46 (fun b14 _ b14e => ?_)
  have b14v : b14 = 2 := b14e (by unfold InI; omega)
  subst b14v
  refine Tx.istore_n hC te_39_47 rfl ?_
  refine Tx.iload_n hC te_39_48 rfl ?_
  refine Tx.bipush hC te_39_49 rfl rfl ?_
  refine Tx.bits hC (f := (fun (x y : Int32) => x &&& y)) te_39_51 (fun _ _ _ _ => Iff.rfl) (fun b15 b15e _ => ?_)
  have b15v : b15 = 2 := b15e.trans (by decide)
  subst b15v
  exact Tx.ireturn hC te_39_52 rfl (fun _ => H)
theorem f_39_4 {S : Nat × (Nat → Int32)} {n : Nat} {mem : MM} {K : Int → MM → Prop} {E : Nat → MM → Prop} (H : K 1 mem) : CQI (Ex S (n + 1)) 39 [.inl 4] mem K E := by
  refine CY.of (k := 0) mt_39 rfl rfl (fun _ => ?_)
  have hC := Ex.mono S n
  show Tx (Ex S n) S M_39 (kI K E) 0 0 0 [some (.inl 4)] [] mem
  refine Tx.iload_n hC te_39_0 rfl ?_
  refine Tx.iload_n hC te_39_1 rfl ?_
  refine Tx.iconst hC te_39_2 rfl ?_
  refine Tx.bits hC (f := (fun (x y : Int32) => (x.toUInt32 >>> (y.toUInt32 &&& Int32.toUInt32 31)).toInt32)) te_39_3 (fun _ _ _ _ => Iff.rfl) (fun b1 b1e _ => ?_)
  have b1v : b1 = 2 := b1e.trans (by decide)
  subst b1v
  refine Tx.ldc_w hC (z := 1431655765) te_39_4 rfl rfl rfl rfl ?_
  refine Tx.bits hC (f := (fun (x y : Int32) => x &&& y)) te_39_7 (fun _ _ _ _ => Iff.rfl) (fun b2 b2e _ => ?_)
  have b2v : b2 = 0 := b2e.trans (by decide)
  subst b2v
  refine Tx.isubW hC te_39_8 (fun b3 _ b3e => ?_)
  have b3v : b3 = 4 := b3e (by unfold InI; omega)
  subst b3v
  refine Tx.istore_n hC te_39_9 rfl ?_
  refine Tx.iload_n hC te_39_10 rfl ?_
  refine Tx.ldc_w hC (z := 858993459) te_39_11 rfl rfl rfl rfl ?_
  refine Tx.bits hC (f := (fun (x y : Int32) => x &&& y)) te_39_14 (fun _ _ _ _ => Iff.rfl) (fun b4 b4e _ => ?_)
  have b4v : b4 = 0 := b4e.trans (by decide)
  subst b4v
  refine Tx.iload_n hC te_39_15 rfl ?_
  refine Tx.iconst hC te_39_16 rfl ?_
  refine Tx.bits hC (f := (fun (x y : Int32) => (x.toUInt32 >>> (y.toUInt32 &&& Int32.toUInt32 31)).toInt32)) te_39_17 (fun _ _ _ _ => Iff.rfl) (fun b5 b5e _ => ?_)
  have b5v : b5 = 1 := b5e.trans (by decide)
  subst b5v
  refine Tx.ldc_w hC (z := 858993459) te_39_18 rfl rfl rfl rfl ?_
  refine Tx.bits hC (f := (fun (x y : Int32) => x &&& y)) te_39_21 (fun _ _ _ _ => Iff.rfl) (fun b6 b6e _ => ?_)
  have b6v : b6 = 1 := b6e.trans (by decide)
  subst b6v
  refine Tx.iaddW hC te_39_22 (fun b7 _ b7e => ?_)
  have b7v : b7 = 1 := b7e (by unfold InI; omega)
  subst b7v
  refine Tx.istore_n hC te_39_23 rfl ?_
  refine Tx.iload_n hC te_39_24 rfl ?_
  refine Tx.iload_n hC te_39_25 rfl ?_
  refine Tx.iconst hC te_39_26 rfl ?_
  refine Tx.bits hC (f := (fun (x y : Int32) => (x.toUInt32 >>> (y.toUInt32 &&& Int32.toUInt32 31)).toInt32)) te_39_27 (fun _ _ _ _ => Iff.rfl) (fun b8 b8e _ => ?_)
  have b8v : b8 = 0 := b8e.trans (by decide)
  subst b8v
  refine Tx.iaddW hC te_39_28 (fun b9 _ b9e => ?_)
  have b9v : b9 = 1 := b9e (by unfold InI; omega)
  subst b9v
  refine Tx.ldc_w hC (z := 252645135) te_39_29 rfl rfl rfl rfl ?_
  refine Tx.bits hC (f := (fun (x y : Int32) => x &&& y)) te_39_32 (fun _ _ _ _ => Iff.rfl) (fun b10 b10e _ => ?_)
  have b10v : b10 = 1 := b10e.trans (by decide)
  subst b10v
  refine Tx.istore_n hC te_39_33 rfl ?_
  refine Tx.iload_n hC te_39_34 rfl ?_
  refine Tx.iload_n hC te_39_35 rfl ?_
  refine Tx.bipush hC te_39_36 rfl rfl ?_
  refine Tx.bits hC (f := (fun (x y : Int32) => (x.toUInt32 >>> (y.toUInt32 &&& Int32.toUInt32 31)).toInt32)) te_39_38 (fun _ _ _ _ => Iff.rfl) (fun b11 b11e _ => ?_)
  have b11v : b11 = 0 := b11e.trans (by decide)
  subst b11v
  refine Tx.iaddW hC te_39_39 (fun b12 _ b12e => ?_)
  have b12v : b12 = 1 := b12e (by unfold InI; omega)
  subst b12v
  refine Tx.istore_n hC te_39_40 rfl ?_
  refine Tx.iload_n hC te_39_41 rfl ?_
  refine Tx.iload_n hC te_39_42 rfl ?_
  refine Tx.bipush hC te_39_43 rfl rfl ?_
  refine Tx.bits hC (f := (fun (x y : Int32) => (x.toUInt32 >>> (y.toUInt32 &&& Int32.toUInt32 31)).toInt32)) te_39_45 (fun _ _ _ _ => Iff.rfl) (fun b13 b13e _ => ?_)
  have b13v : b13 = 0 := b13e.trans (by decide)
  subst b13v
  refine Tx.iaddW hC te_39_46 (fun b14 _ b14e => ?_)
  have b14v : b14 = 1 := b14e (by unfold InI; omega)
  subst b14v
  refine Tx.istore_n hC te_39_47 rfl ?_
  refine Tx.iload_n hC te_39_48 rfl ?_
  refine Tx.bipush hC te_39_49 rfl rfl ?_
  refine Tx.bits hC (f := (fun (x y : Int32) => x &&& y)) te_39_51 (fun _ _ _ _ => Iff.rfl) (fun b15 b15e _ => ?_)
  have b15v : b15 = 1 := b15e.trans (by decide)
  subst b15v
  exact Tx.ireturn hC te_39_52 rfl (fun _ => H)
theorem f_39_5 {S : Nat × (Nat → Int32)} {n : Nat} {mem : MM} {K : Int → MM → Prop} {E : Nat → MM → Prop} (H : K 2 mem) : CQI (Ex S (n + 1)) 39 [.inl 5] mem K E := by
  refine CY.of (k := 0) mt_39 rfl rfl (fun _ => ?_)
  have hC := Ex.mono S n
  show Tx (Ex S n) S M_39 (kI K E) 0 0 0 [some (.inl 5)] [] mem
  refine Tx.iload_n hC te_39_0 rfl ?_
  refine Tx.iload_n hC te_39_1 rfl ?_
  refine Tx.iconst hC te_39_2 rfl ?_
  refine Tx.bits hC (f := (fun (x y : Int32) => (x.toUInt32 >>> (y.toUInt32 &&& Int32.toUInt32 31)).toInt32)) te_39_3 (fun _ _ _ _ => Iff.rfl) (fun b1 b1e _ => ?_)
  have b1v : b1 = 2 := b1e.trans (by decide)
  subst b1v
  refine Tx.ldc_w hC (z := 1431655765) te_39_4 rfl rfl rfl rfl ?_
  refine Tx.bits hC (f := (fun (x y : Int32) => x &&& y)) te_39_7 (fun _ _ _ _ => Iff.rfl) (fun b2 b2e _ => ?_)
  have b2v : b2 = 0 := b2e.trans (by decide)
  subst b2v
  refine Tx.isubW hC te_39_8 (fun b3 _ b3e => ?_)
  have b3v : b3 = 5 := b3e (by unfold InI; omega)
  subst b3v
  refine Tx.istore_n hC te_39_9 rfl ?_
  refine Tx.iload_n hC te_39_10 rfl ?_
  refine Tx.ldc_w hC (z := 858993459) te_39_11 rfl rfl rfl rfl ?_
  refine Tx.bits hC (f := (fun (x y : Int32) => x &&& y)) te_39_14 (fun _ _ _ _ => Iff.rfl) (fun b4 b4e _ => ?_)
  have b4v : b4 = 1 := b4e.trans (by decide)
  subst b4v
  refine Tx.iload_n hC te_39_15 rfl ?_
  refine Tx.iconst hC te_39_16 rfl ?_
  refine Tx.bits hC (f := (fun (x y : Int32) => (x.toUInt32 >>> (y.toUInt32 &&& Int32.toUInt32 31)).toInt32)) te_39_17 (fun _ _ _ _ => Iff.rfl) (fun b5 b5e _ => ?_)
  have b5v : b5 = 1 := b5e.trans (by decide)
  subst b5v
  refine Tx.ldc_w hC (z := 858993459) te_39_18 rfl rfl rfl rfl ?_
  refine Tx.bits hC (f := (fun (x y : Int32) => x &&& y)) te_39_21 (fun _ _ _ _ => Iff.rfl) (fun b6 b6e _ => ?_)
  have b6v : b6 = 1 := b6e.trans (by decide)
  subst b6v
  refine Tx.iaddW hC te_39_22 (fun b7 _ b7e => ?_)
  have b7v : b7 = 2 := b7e (by unfold InI; omega)
  subst b7v
  refine Tx.istore_n hC te_39_23 rfl ?_
  refine Tx.iload_n hC te_39_24 rfl ?_
  refine Tx.iload_n hC te_39_25 rfl ?_
  refine Tx.iconst hC te_39_26 rfl ?_
  refine Tx.bits hC (f := (fun (x y : Int32) => (x.toUInt32 >>> (y.toUInt32 &&& Int32.toUInt32 31)).toInt32)) te_39_27 (fun _ _ _ _ => Iff.rfl) (fun b8 b8e _ => ?_)
  have b8v : b8 = 0 := b8e.trans (by decide)
  subst b8v
  refine Tx.iaddW hC te_39_28 (fun b9 _ b9e => ?_)
  have b9v : b9 = 2 := b9e (by unfold InI; omega)
  subst b9v
  refine Tx.ldc_w hC (z := 252645135) te_39_29 rfl rfl rfl rfl ?_
  refine Tx.bits hC (f := (fun (x y : Int32) => x &&& y)) te_39_32 (fun _ _ _ _ => Iff.rfl) (fun b10 b10e _ => ?_)
  have b10v : b10 = 2 := b10e.trans (by decide)
  subst b10v
  refine Tx.istore_n hC te_39_33 rfl ?_
  refine Tx.iload_n hC te_39_34 rfl ?_
  refine Tx.iload_n hC te_39_35 rfl ?_
  refine Tx.bipush hC te_39_36 rfl rfl ?_
  refine Tx.bits hC (f := (fun (x y : Int32) => (x.toUInt32 >>> (y.toUInt32 &&& Int32.toUInt32 31)).toInt32)) te_39_38 (fun _ _ _ _ => Iff.rfl) (fun b11 b11e _ => ?_)
  have b11v : b11 = 0 := b11e.trans (by decide)
  subst b11v
  refine Tx.iaddW hC te_39_39 (fun b12 _ b12e => ?_)
  have b12v : b12 = 2 := b12e (by unfold InI; omega)
  subst b12v
  refine Tx.istore_n hC te_39_40 rfl ?_
  refine Tx.iload_n hC te_39_41 rfl ?_
  refine Tx.iload_n hC te_39_42 rfl ?_
  refine Tx.bipush hC te_39_43 rfl rfl ?_
  refine Tx.bits hC (f := (fun (x y : Int32) => (x.toUInt32 >>> (y.toUInt32 &&& Int32.toUInt32 31)).toInt32)) te_39_45 (fun _ _ _ _ => Iff.rfl) (fun b13 b13e _ => ?_)
  have b13v : b13 = 0 := b13e.trans (by decide)
  subst b13v
  refine Tx.iaddW hC te_39_46 (fun b14 _ b14e => ?_)
  have b14v : b14 = 2 := b14e (by unfold InI; omega)
  subst b14v
  refine Tx.istore_n hC te_39_47 rfl ?_
  refine Tx.iload_n hC te_39_48 rfl ?_
  refine Tx.bipush hC te_39_49 rfl rfl ?_
  refine Tx.bits hC (f := (fun (x y : Int32) => x &&& y)) te_39_51 (fun _ _ _ _ => Iff.rfl) (fun b15 b15e _ => ?_)
  have b15v : b15 = 2 := b15e.trans (by decide)
  subst b15v
  exact Tx.ireturn hC te_39_52 rfl (fun _ => H)
theorem f_39_6 {S : Nat × (Nat → Int32)} {n : Nat} {mem : MM} {K : Int → MM → Prop} {E : Nat → MM → Prop} (H : K 2 mem) : CQI (Ex S (n + 1)) 39 [.inl 6] mem K E := by
  refine CY.of (k := 0) mt_39 rfl rfl (fun _ => ?_)
  have hC := Ex.mono S n
  show Tx (Ex S n) S M_39 (kI K E) 0 0 0 [some (.inl 6)] [] mem
  refine Tx.iload_n hC te_39_0 rfl ?_
  refine Tx.iload_n hC te_39_1 rfl ?_
  refine Tx.iconst hC te_39_2 rfl ?_
  refine Tx.bits hC (f := (fun (x y : Int32) => (x.toUInt32 >>> (y.toUInt32 &&& Int32.toUInt32 31)).toInt32)) te_39_3 (fun _ _ _ _ => Iff.rfl) (fun b1 b1e _ => ?_)
  have b1v : b1 = 3 := b1e.trans (by decide)
  subst b1v
  refine Tx.ldc_w hC (z := 1431655765) te_39_4 rfl rfl rfl rfl ?_
  refine Tx.bits hC (f := (fun (x y : Int32) => x &&& y)) te_39_7 (fun _ _ _ _ => Iff.rfl) (fun b2 b2e _ => ?_)
  have b2v : b2 = 1 := b2e.trans (by decide)
  subst b2v
  refine Tx.isubW hC te_39_8 (fun b3 _ b3e => ?_)
  have b3v : b3 = 5 := b3e (by unfold InI; omega)
  subst b3v
  refine Tx.istore_n hC te_39_9 rfl ?_
  refine Tx.iload_n hC te_39_10 rfl ?_
  refine Tx.ldc_w hC (z := 858993459) te_39_11 rfl rfl rfl rfl ?_
  refine Tx.bits hC (f := (fun (x y : Int32) => x &&& y)) te_39_14 (fun _ _ _ _ => Iff.rfl) (fun b4 b4e _ => ?_)
  have b4v : b4 = 1 := b4e.trans (by decide)
  subst b4v
  refine Tx.iload_n hC te_39_15 rfl ?_
  refine Tx.iconst hC te_39_16 rfl ?_
  refine Tx.bits hC (f := (fun (x y : Int32) => (x.toUInt32 >>> (y.toUInt32 &&& Int32.toUInt32 31)).toInt32)) te_39_17 (fun _ _ _ _ => Iff.rfl) (fun b5 b5e _ => ?_)
  have b5v : b5 = 1 := b5e.trans (by decide)
  subst b5v
  refine Tx.ldc_w hC (z := 858993459) te_39_18 rfl rfl rfl rfl ?_
  refine Tx.bits hC (f := (fun (x y : Int32) => x &&& y)) te_39_21 (fun _ _ _ _ => Iff.rfl) (fun b6 b6e _ => ?_)
  have b6v : b6 = 1 := b6e.trans (by decide)
  subst b6v
  refine Tx.iaddW hC te_39_22 (fun b7 _ b7e => ?_)
  have b7v : b7 = 2 := b7e (by unfold InI; omega)
  subst b7v
  refine Tx.istore_n hC te_39_23 rfl ?_
  refine Tx.iload_n hC te_39_24 rfl ?_
  refine Tx.iload_n hC te_39_25 rfl ?_
  refine Tx.iconst hC te_39_26 rfl ?_
  refine Tx.bits hC (f := (fun (x y : Int32) => (x.toUInt32 >>> (y.toUInt32 &&& Int32.toUInt32 31)).toInt32)) te_39_27 (fun _ _ _ _ => Iff.rfl) (fun b8 b8e _ => ?_)
  have b8v : b8 = 0 := b8e.trans (by decide)
  subst b8v
  refine Tx.iaddW hC te_39_28 (fun b9 _ b9e => ?_)
  have b9v : b9 = 2 := b9e (by unfold InI; omega)
  subst b9v
  refine Tx.ldc_w hC (z := 252645135) te_39_29 rfl rfl rfl rfl ?_
  refine Tx.bits hC (f := (fun (x y : Int32) => x &&& y)) te_39_32 (fun _ _ _ _ => Iff.rfl) (fun b10 b10e _ => ?_)
  have b10v : b10 = 2 := b10e.trans (by decide)
  subst b10v
  refine Tx.istore_n hC te_39_33 rfl ?_
  refine Tx.iload_n hC te_39_34 rfl ?_
  refine Tx.iload_n hC te_39_35 rfl ?_
  refine Tx.bipush hC te_39_36 rfl rfl ?_
  refine Tx.bits hC (f := (fun (x y : Int32) => (x.toUInt32 >>> (y.toUInt32 &&& Int32.toUInt32 31)).toInt32)) te_39_38 (fun _ _ _ _ => Iff.rfl) (fun b11 b11e _ => ?_)
  have b11v : b11 = 0 := b11e.trans (by decide)
  subst b11v
  refine Tx.iaddW hC te_39_39 (fun b12 _ b12e => ?_)
  have b12v : b12 = 2 := b12e (by unfold InI; omega)
  subst b12v
  refine Tx.istore_n hC te_39_40 rfl ?_
  refine Tx.iload_n hC te_39_41 rfl ?_
  refine Tx.iload_n hC te_39_42 rfl ?_
  refine Tx.bipush hC te_39_43 rfl rfl ?_
  refine Tx.bits hC (f := (fun (x y : Int32) => (x.toUInt32 >>> (y.toUInt32 &&& Int32.toUInt32 31)).toInt32)) te_39_45 (fun _ _ _ _ => Iff.rfl) (fun b13 b13e _ => ?_)
  have b13v : b13 = 0 := b13e.trans (by decide)
  subst b13v
  refine Tx.iaddW hC te_39_46 (fun b14 _ b14e => ?_)
  have b14v : b14 = 2 := b14e (by unfold InI; omega)
  subst b14v
  refine Tx.istore_n hC te_39_47 rfl ?_
  refine Tx.iload_n hC te_39_48 rfl ?_
  refine Tx.bipush hC te_39_49 rfl rfl ?_
  refine Tx.bits hC (f := (fun (x y : Int32) => x &&& y)) te_39_51 (fun _ _ _ _ => Iff.rfl) (fun b15 b15e _ => ?_)
  have b15v : b15 = 2 := b15e.trans (by decide)
  subst b15v
  exact Tx.ireturn hC te_39_52 rfl (fun _ => H)
theorem f_39_7 {S : Nat × (Nat → Int32)} {n : Nat} {mem : MM} {K : Int → MM → Prop} {E : Nat → MM → Prop} (H : K 3 mem) : CQI (Ex S (n + 1)) 39 [.inl 7] mem K E := by
  refine CY.of (k := 0) mt_39 rfl rfl (fun _ => ?_)
  have hC := Ex.mono S n
  show Tx (Ex S n) S M_39 (kI K E) 0 0 0 [some (.inl 7)] [] mem
  refine Tx.iload_n hC te_39_0 rfl ?_
  refine Tx.iload_n hC te_39_1 rfl ?_
  refine Tx.iconst hC te_39_2 rfl ?_
  refine Tx.bits hC (f := (fun (x y : Int32) => (x.toUInt32 >>> (y.toUInt32 &&& Int32.toUInt32 31)).toInt32)) te_39_3 (fun _ _ _ _ => Iff.rfl) (fun b1 b1e _ => ?_)
  have b1v : b1 = 3 := b1e.trans (by decide)
  subst b1v
  refine Tx.ldc_w hC (z := 1431655765) te_39_4 rfl rfl rfl rfl ?_
  refine Tx.bits hC (f := (fun (x y : Int32) => x &&& y)) te_39_7 (fun _ _ _ _ => Iff.rfl) (fun b2 b2e _ => ?_)
  have b2v : b2 = 1 := b2e.trans (by decide)
  subst b2v
  refine Tx.isubW hC te_39_8 (fun b3 _ b3e => ?_)
  have b3v : b3 = 6 := b3e (by unfold InI; omega)
  subst b3v
  refine Tx.istore_n hC te_39_9 rfl ?_
  refine Tx.iload_n hC te_39_10 rfl ?_
  refine Tx.ldc_w hC (z := 858993459) te_39_11 rfl rfl rfl rfl ?_
  refine Tx.bits hC (f := (fun (x y : Int32) => x &&& y)) te_39_14 (fun _ _ _ _ => Iff.rfl) (fun b4 b4e _ => ?_)
  have b4v : b4 = 2 := b4e.trans (by decide)
  subst b4v
  refine Tx.iload_n hC te_39_15 rfl ?_
  refine Tx.iconst hC te_39_16 rfl ?_
  refine Tx.bits hC (f := (fun (x y : Int32) => (x.toUInt32 >>> (y.toUInt32 &&& Int32.toUInt32 31)).toInt32)) te_39_17 (fun _ _ _ _ => Iff.rfl) (fun b5 b5e _ => ?_)
  have b5v : b5 = 1 := b5e.trans (by decide)
  subst b5v
  refine Tx.ldc_w hC (z := 858993459) te_39_18 rfl rfl rfl rfl ?_
  refine Tx.bits hC (f := (fun (x y : Int32) => x &&& y)) te_39_21 (fun _ _ _ _ => Iff.rfl) (fun b6 b6e _ => ?_)
  have b6v : b6 = 1 := b6e.trans (by decide)
  subst b6v
  refine Tx.iaddW hC te_39_22 (fun b7 _ b7e => ?_)
  have b7v : b7 = 3 := b7e (by unfold InI; omega)
  subst b7v
  refine Tx.istore_n hC te_39_23 rfl ?_
  refine Tx.iload_n hC te_39_24 rfl ?_
  refine Tx.iload_n hC te_39_25 rfl ?_
  refine Tx.iconst hC te_39_26 rfl ?_
  refine Tx.bits hC (f := (fun (x y : Int32) => (x.toUInt32 >>> (y.toUInt32 &&& Int32.toUInt32 31)).toInt32)) te_39_27 (fun _ _ _ _ => Iff.rfl) (fun b8 b8e _ => ?_)
  have b8v : b8 = 0 := b8e.trans (by decide)
  subst b8v
  refine Tx.iaddW hC te_39_28 (fun b9 _ b9e => ?_)
  have b9v : b9 = 3 := b9e (by unfold InI; omega)
  subst b9v
  refine Tx.ldc_w hC (z := 252645135) te_39_29 rfl rfl rfl rfl ?_
  refine Tx.bits hC (f := (fun (x y : Int32) => x &&& y)) te_39_32 (fun _ _ _ _ => Iff.rfl) (fun b10 b10e _ => ?_)
  have b10v : b10 = 3 := b10e.trans (by decide)
  subst b10v
  refine Tx.istore_n hC te_39_33 rfl ?_
  refine Tx.iload_n hC te_39_34 rfl ?_
  refine Tx.iload_n hC te_39_35 rfl ?_
  refine Tx.bipush hC te_39_36 rfl rfl ?_
  refine Tx.bits hC (f := (fun (x y : Int32) => (x.toUInt32 >>> (y.toUInt32 &&& Int32.toUInt32 31)).toInt32)) te_39_38 (fun _ _ _ _ => Iff.rfl) (fun b11 b11e _ => ?_)
  have b11v : b11 = 0 := b11e.trans (by decide)
  subst b11v
  refine Tx.iaddW hC te_39_39 (fun b12 _ b12e => ?_)
  have b12v : b12 = 3 := b12e (by unfold InI; omega)
  subst b12v
  refine Tx.istore_n hC te_39_40 rfl ?_
  refine Tx.iload_n hC te_39_41 rfl ?_
  refine Tx.iload_n hC te_39_42 rfl ?_
  refine Tx.bipush hC te_39_43 rfl rfl ?_
  refine Tx.bits hC (f := (fun (x y : Int32) => (x.toUInt32 >>> (y.toUInt32 &&& Int32.toUInt32 31)).toInt32)) te_39_45 (fun _ _ _ _ => Iff.rfl) (fun b13 b13e _ => ?_)
  have b13v : b13 = 0 := b13e.trans (by decide)
  subst b13v
  refine Tx.iaddW hC te_39_46 (fun b14 _ b14e => ?_)
  have b14v : b14 = 3 := b14e (by unfold InI; omega)
  subst b14v
  refine Tx.istore_n hC te_39_47 rfl ?_
  refine Tx.iload_n hC te_39_48 rfl ?_
  refine Tx.bipush hC te_39_49 rfl rfl ?_
  refine Tx.bits hC (f := (fun (x y : Int32) => x &&& y)) te_39_51 (fun _ _ _ _ => Iff.rfl) (fun b15 b15e _ => ?_)
  have b15v : b15 = 3 := b15e.trans (by decide)
  subst b15v
  exact Tx.ireturn hC te_39_52 rfl (fun _ => H)
theorem f_39_8 {S : Nat × (Nat → Int32)} {n : Nat} {mem : MM} {K : Int → MM → Prop} {E : Nat → MM → Prop} (H : K 1 mem) : CQI (Ex S (n + 1)) 39 [.inl 8] mem K E := by
  refine CY.of (k := 0) mt_39 rfl rfl (fun _ => ?_)
  have hC := Ex.mono S n
  show Tx (Ex S n) S M_39 (kI K E) 0 0 0 [some (.inl 8)] [] mem
  refine Tx.iload_n hC te_39_0 rfl ?_
  refine Tx.iload_n hC te_39_1 rfl ?_
  refine Tx.iconst hC te_39_2 rfl ?_
  refine Tx.bits hC (f := (fun (x y : Int32) => (x.toUInt32 >>> (y.toUInt32 &&& Int32.toUInt32 31)).toInt32)) te_39_3 (fun _ _ _ _ => Iff.rfl) (fun b1 b1e _ => ?_)
  have b1v : b1 = 4 := b1e.trans (by decide)
  subst b1v
  refine Tx.ldc_w hC (z := 1431655765) te_39_4 rfl rfl rfl rfl ?_
  refine Tx.bits hC (f := (fun (x y : Int32) => x &&& y)) te_39_7 (fun _ _ _ _ => Iff.rfl) (fun b2 b2e _ => ?_)
  have b2v : b2 = 4 := b2e.trans (by decide)
  subst b2v
  refine Tx.isubW hC te_39_8 (fun b3 _ b3e => ?_)
  have b3v : b3 = 4 := b3e (by unfold InI; omega)
  subst b3v
  refine Tx.istore_n hC te_39_9 rfl ?_
  refine Tx.iload_n hC te_39_10 rfl ?_
  refine Tx.ldc_w hC (z := 858993459) te_39_11 rfl rfl rfl rfl ?_
  refine Tx.bits hC (f := (fun (x y : Int32) => x &&& y)) te_39_14 (fun _ _ _ _ => Iff.rfl) (fun b4 b4e _ => ?_)
  have b4v : b4 = 0 := b4e.trans (by decide)
  subst b4v
  refine Tx.iload_n hC te_39_15 rfl ?_
  refine Tx.iconst hC te_39_16 rfl ?_
  refine Tx.bits hC (f := (fun (x y : Int32) => (x.toUInt32 >>> (y.toUInt32 &&& Int32.toUInt32 31)).toInt32)) te_39_17 (fun _ _ _ _ => Iff.rfl) (fun b5 b5e _ => ?_)
  have b5v : b5 = 1 := b5e.trans (by decide)
  subst b5v
  refine Tx.ldc_w hC (z := 858993459) te_39_18 rfl rfl rfl rfl ?_
  refine Tx.bits hC (f := (fun (x y : Int32) => x &&& y)) te_39_21 (fun _ _ _ _ => Iff.rfl) (fun b6 b6e _ => ?_)
  have b6v : b6 = 1 := b6e.trans (by decide)
  subst b6v
  refine Tx.iaddW hC te_39_22 (fun b7 _ b7e => ?_)
  have b7v : b7 = 1 := b7e (by unfold InI; omega)
  subst b7v
  refine Tx.istore_n hC te_39_23 rfl ?_
  refine Tx.iload_n hC te_39_24 rfl ?_
  refine Tx.iload_n hC te_39_25 rfl ?_
  refine Tx.iconst hC te_39_26 rfl ?_
  refine Tx.bits hC (f := (fun (x y : Int32) => (x.toUInt32 >>> (y.toUInt32 &&& Int32.toUInt32 31)).toInt32)) te_39_27 (fun _ _ _ _ => Iff.rfl) (fun b8 b8e _ => ?_)
  have b8v : b8 = 0 := b8e.trans (by decide)
  subst b8v
  refine Tx.iaddW hC te_39_28 (fun b9 _ b9e => ?_)
  have b9v : b9 = 1 := b9e (by unfold InI; omega)
  subst b9v
  refine Tx.ldc_w hC (z := 252645135) te_39_29 rfl rfl rfl rfl ?_
  refine Tx.bits hC (f := (fun (x y : Int32) => x &&& y)) te_39_32 (fun _ _ _ _ => Iff.rfl) (fun b10 b10e _ => ?_)
  have b10v : b10 = 1 := b10e.trans (by decide)
  subst b10v
  refine Tx.istore_n hC te_39_33 rfl ?_
  refine Tx.iload_n hC te_39_34 rfl ?_
  refine Tx.iload_n hC te_39_35 rfl ?_
  refine Tx.bipush hC te_39_36 rfl rfl ?_
  refine Tx.bits hC (f := (fun (x y : Int32) => (x.toUInt32 >>> (y.toUInt32 &&& Int32.toUInt32 31)).toInt32)) te_39_38 (fun _ _ _ _ => Iff.rfl) (fun b11 b11e _ => ?_)
  have b11v : b11 = 0 := b11e.trans (by decide)
  subst b11v
  refine Tx.iaddW hC te_39_39 (fun b12 _ b12e => ?_)
  have b12v : b12 = 1 := b12e (by unfold InI; omega)
  subst b12v
  refine Tx.istore_n hC te_39_40 rfl ?_
  refine Tx.iload_n hC te_39_41 rfl ?_
  refine Tx.iload_n hC te_39_42 rfl ?_
  refine Tx.bipush hC te_39_43 rfl rfl ?_
  refine Tx.bits hC (f := (fun (x y : Int32) => (x.toUInt32 >>> (y.toUInt32 &&& Int32.toUInt32 31)).toInt32)) te_39_45 (fun _ _ _ _ => Iff.rfl) (fun b13 b13e _ => ?_)
  have b13v : b13 = 0 := b13e.trans (by decide)
  subst b13v
  refine Tx.iaddW hC te_39_46 (fun b14 _ b14e => ?_)
  have b14v : b14 = 1 := b14e (by unfold InI; omega)
  subst b14v
  refine Tx.istore_n hC te_39_47 rfl ?_
  refine Tx.iload_n hC te_39_48 rfl ?_
  refine Tx.bipush hC te_39_49 rfl rfl ?_
  refine Tx.bits hC (f := (fun (x y : Int32) => x &&& y)) te_39_51 (fun _ _ _ _ => Iff.rfl) (fun b15 b15e _ => ?_)
  have b15v : b15 = 1 := b15e.trans (by decide)
  subst b15v
  exact Tx.ireturn hC te_39_52 rfl (fun _ => H)
theorem f_39_9 {S : Nat × (Nat → Int32)} {n : Nat} {mem : MM} {K : Int → MM → Prop} {E : Nat → MM → Prop} (H : K 2 mem) : CQI (Ex S (n + 1)) 39 [.inl 9] mem K E := by
  refine CY.of (k := 0) mt_39 rfl rfl (fun _ => ?_)
  have hC := Ex.mono S n
  show Tx (Ex S n) S M_39 (kI K E) 0 0 0 [some (.inl 9)] [] mem
  refine Tx.iload_n hC te_39_0 rfl ?_
  refine Tx.iload_n hC te_39_1 rfl ?_
  refine Tx.iconst hC te_39_2 rfl ?_
  refine Tx.bits hC (f := (fun (x y : Int32) => (x.toUInt32 >>> (y.toUInt32 &&& Int32.toUInt32 31)).toInt32)) te_39_3 (fun _ _ _ _ => Iff.rfl) (fun b1 b1e _ => ?_)
  have b1v : b1 = 4 := b1e.trans (by decide)
  subst b1v
  refine Tx.ldc_w hC (z := 1431655765) te_39_4 rfl rfl rfl rfl ?_
  refine Tx.bits hC (f := (fun (x y : Int32) => x &&& y)) te_39_7 (fun _ _ _ _ => Iff.rfl) (fun b2 b2e _ => ?_)
  have b2v : b2 = 4 := b2e.trans (by decide)
  subst b2v
  refine Tx.isubW hC te_39_8 (fun b3 _ b3e => ?_)
  have b3v : b3 = 5 := b3e (by unfold InI; omega)
  subst b3v
  refine Tx.istore_n hC te_39_9 rfl ?_
  refine Tx.iload_n hC te_39_10 rfl ?_
  refine Tx.ldc_w hC (z := 858993459) te_39_11 rfl rfl rfl rfl ?_
  refine Tx.bits hC (f := (fun (x y : Int32) => x &&& y)) te_39_14 (fun _ _ _ _ => Iff.rfl) (fun b4 b4e _ => ?_)
  have b4v : b4 = 1 := b4e.trans (by decide)
  subst b4v
  refine Tx.iload_n hC te_39_15 rfl ?_
  refine Tx.iconst hC te_39_16 rfl ?_
  refine Tx.bits hC (f := (fun (x y : Int32) => (x.toUInt32 >>> (y.toUInt32 &&& Int32.toUInt32 31)).toInt32)) te_39_17 (fun _ _ _ _ => Iff.rfl) (fun b5 b5e _ => ?_)
  have b5v : b5 = 1 := b5e.trans (by decide)
  subst b5v
  refine Tx.ldc_w hC (z := 858993459) te_39_18 rfl rfl rfl rfl ?_
  refine Tx.bits hC (f := (fun (x y : Int32) => x &&& y)) te_39_21 (fun _ _ _ _ => Iff.rfl) (fun b6 b6e _ => ?_)
  have b6v : b6 = 1 := b6e.trans (by decide)
  subst b6v
  refine Tx.iaddW hC te_39_22 (fun b7 _ b7e => ?_)
  have b7v : b7 = 2 := b7e (by unfold InI; omega)
  subst b7v
  refine Tx.istore_n hC te_39_23 rfl ?_
  refine Tx.iload_n hC te_39_24 rfl ?_
  refine Tx.iload_n hC te_39_25 rfl ?_
  refine Tx.iconst hC te_39_26 rfl ?_
  refine Tx.bits hC (f := (fun (x y : Int32) => (x.toUInt32 >>> (y.toUInt32 &&& Int32.toUInt32 31)).toInt32)) te_39_27 (fun _ _ _ _ => Iff.rfl) (fun b8 b8e _ => ?_)
  have b8v : b8 = 0 := b8e.trans (by decide)
  subst b8v
  refine Tx.iaddW hC te_39_28 (fun b9 _ b9e => ?_)
  have b9v : b9 = 2 := b9e (by unfold InI; omega)
  subst b9v
  refine Tx.ldc_w hC (z := 252645135) te_39_29 rfl rfl rfl rfl ?_
  refine Tx.bits hC (f := (fun (x y : Int32) => x &&& y)) te_39_32 (fun _ _ _ _ => Iff.rfl) (fun b10 b10e _ => ?_)
  have b10v : b10 = 2 := b10e.trans (by decide)
  subst b10v
  refine Tx.istore_n hC te_39_33 rfl ?_
  refine Tx.iload_n hC te_39_34 rfl ?_
  refine Tx.iload_n hC te_39_35 rfl ?_
  refine Tx.bipush hC te_39_36 rfl rfl ?_
  refine Tx.bits hC (f := (fun (x y : Int32) => (x.toUInt32 >>> (y.toUInt32 &&& Int32.toUInt32 31)).toInt32)) te_39_38 (fun _ _ _ _ => Iff.rfl) (fun b11 b11e _ => ?_)
  have b11v : b11 = 0 := b11e.trans (by decide)
  subst b11v
  refine Tx.iaddW hC te_39_39 (fun b12 _ b12e => ?_)
  have b12v : b12 = 2 := b12e (by unfold InI; omega)
  subst b12v
  refine Tx.istore_n hC te_39_40 rfl ?_
  refine Tx.iload_n hC te_39_41 rfl ?_
  refine Tx.iload_n hC te_39_42 rfl ?_
  refine Tx.bipush hC te_39_43 rfl rfl ?_
  refine Tx.bits hC (f := (fun (x y : Int32) => (x.toUInt32 >>> (y.toUInt32 &&& Int32.toUInt32 31)).toInt32)) te_39_45 (fun _ _ _ _ => Iff.rfl) (fun b13 b13e _ => ?_)
  have b13v : b13 = 0 := b13e.trans (by decide)
  subst b13v
  refine Tx.iaddW hC te_39_46 (fun b14 _ b14e => ?_)
  have b14v : b14 = 2 := b14e (by unfold InI; omega)
  subst b14v
  refine Tx.istore_n hC te_39_47 rfl ?_
  refine Tx.iload_n hC te_39_48 rfl ?_
  refine Tx.bipush hC te_39_49 rfl rfl ?_
  refine Tx.bits hC (f := (fun (x y : Int32) => x &&& y)) te_39_51 (fun _ _ _ _ => Iff.rfl) (fun b15 b15e _ => ?_)
  have b15v : b15 = 2 := b15e.trans (by decide)
  subst b15v
  exact Tx.ireturn hC te_39_52 rfl (fun _ => H)
theorem f_39_10 {S : Nat × (Nat → Int32)} {n : Nat} {mem : MM} {K : Int → MM → Prop} {E : Nat → MM → Prop} (H : K 2 mem) : CQI (Ex S (n + 1)) 39 [.inl 10] mem K E := by
  refine CY.of (k := 0) mt_39 rfl rfl (fun _ => ?_)
  have hC := Ex.mono S n
  show Tx (Ex S n) S M_39 (kI K E) 0 0 0 [some (.inl 10)] [] mem
  refine Tx.iload_n hC te_39_0 rfl ?_
  refine Tx.iload_n hC te_39_1 rfl ?_
  refine Tx.iconst hC te_39_2 rfl ?_
  refine Tx.bits hC (f := (fun (x y : Int32) => (x.toUInt32 >>> (y.toUInt32 &&& Int32.toUInt32 31)).toInt32)) te_39_3 (fun _ _ _ _ => Iff.rfl) (fun b1 b1e _ => ?_)
  have b1v : b1 = 5 := b1e.trans (by decide)
  subst b1v
  refine Tx.ldc_w hC (z := 1431655765) te_39_4 rfl rfl rfl rfl ?_
  refine Tx.bits hC (f := (fun (x y : Int32) => x &&& y)) te_39_7 (fun _ _ _ _ => Iff.rfl) (fun b2 b2e _ => ?_)
  have b2v : b2 = 5 := b2e.trans (by decide)
  subst b2v
  refine Tx.isubW hC te_39_8 (fun b3 _ b3e => ?_)
  have b3v : b3 = 5 := b3e (by unfold InI; omega)
  subst b3v
  refine Tx.istore_n hC te_39_9 rfl ?_
  refine Tx.iload_n hC te_39_10 rfl ?_
  refine Tx.ldc_w hC (z := 858993459) te_39_11 rfl rfl rfl rfl ?_
  refine Tx.bits hC (f := (fun (x y : Int32) => x &&& y)) te_39_14 (fun _ _ _ _ => Iff.rfl) (fun b4 b4e _ => ?_)
  have b4v : b4 = 1 := b4e.trans (by decide)
  subst b4v
  refine Tx.iload_n hC te_39_15 rfl ?_
  refine Tx.iconst hC te_39_16 rfl ?_
  refine Tx.bits hC (f := (fun (x y : Int32) => (x.toUInt32 >>> (y.toUInt32 &&& Int32.toUInt32 31)).toInt32)) te_39_17 (fun _ _ _ _ => Iff.rfl) (fun b5 b5e _ => ?_)
  have b5v : b5 = 1 := b5e.trans (by decide)
  subst b5v
  refine Tx.ldc_w hC (z := 858993459) te_39_18 rfl rfl rfl rfl ?_
  refine Tx.bits hC (f := (fun (x y : Int32) => x &&& y)) te_39_21 (fun _ _ _ _ => Iff.rfl) (fun b6 b6e _ => ?_)
  have b6v : b6 = 1 := b6e.trans (by decide)
  subst b6v
  refine Tx.iaddW hC te_39_22 (fun b7 _ b7e => ?_)
  have b7v : b7 = 2 := b7e (by unfold InI; omega)
  subst b7v
  refine Tx.istore_n hC te_39_23 rfl ?_
  refine Tx.iload_n hC te_39_24 rfl ?_
  refine Tx.iload_n hC te_39_25 rfl ?_
  refine Tx.iconst hC te_39_26 rfl ?_
  refine Tx.bits hC (f := (fun (x y : Int32) => (x.toUInt32 >>> (y.toUInt32 &&& Int32.toUInt32 31)).toInt32)) te_39_27 (fun _ _ _ _ => Iff.rfl) (fun b8 b8e _ => ?_)
  have b8v : b8 = 0 := b8e.trans (by decide)
  subst b8v
  refine Tx.iaddW hC te_39_28 (fun b9 _ b9e => ?_)
  have b9v : b9 = 2 := b9e (by unfold InI; omega)
  subst b9v
  refine Tx.ldc_w hC (z := 252645135) te_39_29 rfl rfl rfl rfl ?_
  refine Tx.bits hC (f := (fun (x y : Int32) => x &&& y)) te_39_32 (fun _ _ _ _ => Iff.rfl) (fun b10 b10e _ => ?_)
  have b10v : b10 = 2 := b10e.trans (by decide)
  subst b10v
  refine Tx.istore_n hC te_39_33 rfl ?_
  refine Tx.iload_n hC te_39_34 rfl ?_
  refine Tx.iload_n hC te_39_35 rfl ?_
  refine Tx.bipush hC te_39_36 rfl rfl ?_
  refine Tx.bits hC (f := (fun (x y : Int32) => (x.toUInt32 >>> (y.toUInt32 &&& Int32.toUInt32 31)).toInt32)) te_39_38 (fun _ _ _ _ => Iff.rfl) (fun b11 b11e _ => ?_)
  have b11v : b11 = 0 := b11e.trans (by decide)
  subst b11v
  refine Tx.iaddW hC te_39_39 (fun b12 _ b12e => ?_)
  have b12v : b12 = 2 := b12e (by unfold InI; omega)
  subst b12v
  refine Tx.istore_n hC te_39_40 rfl ?_
  refine Tx.iload_n hC te_39_41 rfl ?_
  refine Tx.iload_n hC te_39_42 rfl ?_
  refine Tx.bipush hC te_39_43 rfl rfl ?_
  refine Tx.bits hC (f := (fun (x y : Int32) => (x.toUInt32 >>> (y.toUInt32 &&& Int32.toUInt32 31)).toInt32)) te_39_45 (fun _ _ _ _ => Iff.rfl) (fun b13 b13e _ => ?_)
  have b13v : b13 = 0 := b13e.trans (by decide)
  subst b13v
  refine Tx.iaddW hC te_39_46 (fun b14 _ b14e => ?_)
  have b14v : b14 = 2 := b14e (by unfold InI; omega)
  subst b14v
  refine Tx.istore_n hC te_39_47 rfl ?_
  refine Tx.iload_n hC te_39_48 rfl ?_
  refine Tx.bipush hC te_39_49 rfl rfl ?_
  refine Tx.bits hC (f := (fun (x y : Int32) => x &&& y)) te_39_51 (fun _ _ _ _ => Iff.rfl) (fun b15 b15e _ => ?_)
  have b15v : b15 = 2 := b15e.trans (by decide)
  subst b15v
  exact Tx.ireturn hC te_39_52 rfl (fun _ => H)
theorem f_39_11 {S : Nat × (Nat → Int32)} {n : Nat} {mem : MM} {K : Int → MM → Prop} {E : Nat → MM → Prop} (H : K 3 mem) : CQI (Ex S (n + 1)) 39 [.inl 11] mem K E := by
  refine CY.of (k := 0) mt_39 rfl rfl (fun _ => ?_)
  have hC := Ex.mono S n
  show Tx (Ex S n) S M_39 (kI K E) 0 0 0 [some (.inl 11)] [] mem
  refine Tx.iload_n hC te_39_0 rfl ?_
  refine Tx.iload_n hC te_39_1 rfl ?_
  refine Tx.iconst hC te_39_2 rfl ?_
  refine Tx.bits hC (f := (fun (x y : Int32) => (x.toUInt32 >>> (y.toUInt32 &&& Int32.toUInt32 31)).toInt32)) te_39_3 (fun _ _ _ _ => Iff.rfl) (fun b1 b1e _ => ?_)
  have b1v : b1 = 5 := b1e.trans (by decide)
  subst b1v
  refine Tx.ldc_w hC (z := 1431655765) te_39_4 rfl rfl rfl rfl ?_
  refine Tx.bits hC (f := (fun (x y : Int32) => x &&& y)) te_39_7 (fun _ _ _ _ => Iff.rfl) (fun b2 b2e _ => ?_)
  have b2v : b2 = 5 := b2e.trans (by decide)
  subst b2v
  refine Tx.isubW hC te_39_8 (fun b3 _ b3e => ?_)
  have b3v : b3 = 6 := b3e (by unfold InI; omega)
  subst b3v
  refine Tx.istore_n hC te_39_9 rfl ?_
  refine Tx.iload_n hC te_39_10 rfl ?_
  refine Tx.ldc_w hC (z := 858993459) te_39_11 rfl rfl rfl rfl ?_
  refine Tx.bits hC (f := (fun (x y : Int32) => x &&& y)) te_39_14 (fun _ _ _ _ => Iff.rfl) (fun b4 b4e _ => ?_)
  have b4v : b4 = 2 := b4e.trans (by decide)
  subst b4v
  refine Tx.iload_n hC te_39_15 rfl ?_
  refine Tx.iconst hC te_39_16 rfl ?_
  refine Tx.bits hC (f := (fun (x y : Int32) => (x.toUInt32 >>> (y.toUInt32 &&& Int32.toUInt32 31)).toInt32)) te_39_17 (fun _ _ _ _ => Iff.rfl) (fun b5 b5e _ => ?_)
  have b5v : b5 = 1 := b5e.trans (by decide)
  subst b5v
  refine Tx.ldc_w hC (z := 858993459) te_39_18 rfl rfl rfl rfl ?_
  refine Tx.bits hC (f := (fun (x y : Int32) => x &&& y)) te_39_21 (fun _ _ _ _ => Iff.rfl) (fun b6 b6e _ => ?_)
  have b6v : b6 = 1 := b6e.trans (by decide)
  subst b6v
  refine Tx.iaddW hC te_39_22 (fun b7 _ b7e => ?_)
  have b7v : b7 = 3 := b7e (by unfold InI; omega)
  subst b7v
  refine Tx.istore_n hC te_39_23 rfl ?_
  refine Tx.iload_n hC te_39_24 rfl ?_
  refine Tx.iload_n hC te_39_25 rfl ?_
  refine Tx.iconst hC te_39_26 rfl ?_
  refine Tx.bits hC (f := (fun (x y : Int32) => (x.toUInt32 >>> (y.toUInt32 &&& Int32.toUInt32 31)).toInt32)) te_39_27 (fun _ _ _ _ => Iff.rfl) (fun b8 b8e _ => ?_)
  have b8v : b8 = 0 := b8e.trans (by decide)
  subst b8v
  refine Tx.iaddW hC te_39_28 (fun b9 _ b9e => ?_)
  have b9v : b9 = 3 := b9e (by unfold InI; omega)
  subst b9v
  refine Tx.ldc_w hC (z := 252645135) te_39_29 rfl rfl rfl rfl ?_
  refine Tx.bits hC (f := (fun (x y : Int32) => x &&& y)) te_39_32 (fun _ _ _ _ => Iff.rfl) (fun b10 b10e _ => ?_)
  have b10v : b10 = 3 := b10e.trans (by decide)
  subst b10v
  refine Tx.istore_n hC te_39_33 rfl ?_
  refine Tx.iload_n hC te_39_34 rfl ?_
  refine Tx.iload_n hC te_39_35 rfl ?_
  refine Tx.bipush hC te_39_36 rfl rfl ?_
  refine Tx.bits hC (f := (fun (x y : Int32) => (x.toUInt32 >>> (y.toUInt32 &&& Int32.toUInt32 31)).toInt32)) te_39_38 (fun _ _ _ _ => Iff.rfl) (fun b11 b11e _ => ?_)
  have b11v : b11 = 0 := b11e.trans (by decide)
  subst b11v
  refine Tx.iaddW hC te_39_39 (fun b12 _ b12e => ?_)
  have b12v : b12 = 3 := b12e (by unfold InI; omega)
  subst b12v
  refine Tx.istore_n hC te_39_40 rfl ?_
  refine Tx.iload_n hC te_39_41 rfl ?_
  refine Tx.iload_n hC te_39_42 rfl ?_
  refine Tx.bipush hC te_39_43 rfl rfl ?_
  refine Tx.bits hC (f := (fun (x y : Int32) => (x.toUInt32 >>> (y.toUInt32 &&& Int32.toUInt32 31)).toInt32)) te_39_45 (fun _ _ _ _ => Iff.rfl) (fun b13 b13e _ => ?_)
  have b13v : b13 = 0 := b13e.trans (by decide)
  subst b13v
  refine Tx.iaddW hC te_39_46 (fun b14 _ b14e => ?_)
  have b14v : b14 = 3 := b14e (by unfold InI; omega)
  subst b14v
  refine Tx.istore_n hC te_39_47 rfl ?_
  refine Tx.iload_n hC te_39_48 rfl ?_
  refine Tx.bipush hC te_39_49 rfl rfl ?_
  refine Tx.bits hC (f := (fun (x y : Int32) => x &&& y)) te_39_51 (fun _ _ _ _ => Iff.rfl) (fun b15 b15e _ => ?_)
  have b15v : b15 = 3 := b15e.trans (by decide)
  subst b15v
  exact Tx.ireturn hC te_39_52 rfl (fun _ => H)
theorem f_39_12 {S : Nat × (Nat → Int32)} {n : Nat} {mem : MM} {K : Int → MM → Prop} {E : Nat → MM → Prop} (H : K 2 mem) : CQI (Ex S (n + 1)) 39 [.inl 12] mem K E := by
  refine CY.of (k := 0) mt_39 rfl rfl (fun _ => ?_)
  have hC := Ex.mono S n
  show Tx (Ex S n) S M_39 (kI K E) 0 0 0 [some (.inl 12)] [] mem
  refine Tx.iload_n hC te_39_0 rfl ?_
  refine Tx.iload_n hC te_39_1 rfl ?_
  refine Tx.iconst hC te_39_2 rfl ?_
  refine Tx.bits hC (f := (fun (x y : Int32) => (x.toUInt32 >>> (y.toUInt32 &&& Int32.toUInt32 31)).toInt32)) te_39_3 (fun _ _ _ _ => Iff.rfl) (fun b1 b1e _ => ?_)
  have b1v : b1 = 6 := b1e.trans (by decide)
  subst b1v
  refine Tx.ldc_w hC (z := 1431655765) te_39_4 rfl rfl rfl rfl ?_
  refine Tx.bits hC (f := (fun (x y : Int32) => x &&& y)) te_39_7 (fun _ _ _ _ => Iff.rfl) (fun b2 b2e _ => ?_)
  have b2v : b2 = 4 := b2e.trans (by decide)
  subst b2v
  refine Tx.isubW hC te_39_8 (fun b3 _ b3e => ?_)
  have b3v : b3 = 8 := b3e (by unfold InI; omega)
  subst b3v
  refine Tx.istore_n hC te_39_9 rfl ?_
  refine Tx.iload_n hC te_39_10 rfl ?_
  refine Tx.ldc_w hC (z := 858993459) te_39_11 rfl rfl rfl rfl ?_
  refine Tx.bits hC (f := (fun (x y : Int32) => x &&& y)) te_39_14 (fun _ _ _ _ => Iff.rfl) (fun b4 b4e _ => ?_)
  have b4v : b4 = 0 := b4e.trans (by decide)
  subst b4v
  refine Tx.iload_n hC te_39_15 rfl ?_
  refine Tx.iconst hC te_39_16 rfl ?_
  refine Tx.bits hC (f := (fun (x y : Int32) => (x.toUInt32 >>> (y.toUInt32 &&& Int32.toUInt32 31)).toInt32)) te_39_17 (fun _ _ _ _ => Iff.rfl) (fun b5 b5e _ => ?_)
  have b5v : b5 = 2 := b5e.trans (by decide)
  subst b5v
  refine Tx.ldc_w hC (z := 858993459) te_39_18 rfl rfl rfl rfl ?_
  refine Tx.bits hC (f := (fun (x y : Int32) => x &&& y)) te_39_21 (fun _ _ _ _ => Iff.rfl) (fun b6 b6e _ => ?_)
  have b6v : b6 = 2 := b6e.trans (by decide)
  subst b6v
  refine Tx.iaddW hC te_39_22 (fun b7 _ b7e => ?_)
  have b7v : b7 = 2 := b7e (by unfold InI; omega)
  subst b7v
  refine Tx.istore_n hC te_39_23 rfl ?_
  refine Tx.iload_n hC te_39_24 rfl ?_
  refine Tx.iload_n hC te_39_25 rfl ?_
  refine Tx.iconst hC te_39_26 rfl ?_
  refine Tx.bits hC (f := (fun (x y : Int32) => (x.toUInt32 >>> (y.toUInt32 &&& Int32.toUInt32 31)).toInt32)) te_39_27 (fun _ _ _ _ => Iff.rfl) (fun b8 b8e _ => ?_)
  have b8v : b8 = 0 := b8e.trans (by decide)
  subst b8v
  refine Tx.iaddW hC te_39_28 (fun b9 _ b9e => ?_)
  have b9v : b9 = 2 := b9e (by unfold InI; omega)
  subst b9v
  refine Tx.ldc_w hC (z := 252645135) te_39_29 rfl rfl rfl rfl ?_
  refine Tx.bits hC (f := (fun (x y : Int32) => x &&& y)) te_39_32 (fun _ _ _ _ => Iff.rfl) (fun b10 b10e _ => ?_)
  have b10v : b10 = 2 := b10e.trans (by decide)
  subst b10v
  refine Tx.istore_n hC te_39_33 rfl ?_
  refine Tx.iload_n hC te_39_34 rfl ?_
  refine Tx.iload_n hC te_39_35 rfl ?_
  refine Tx.bipush hC te_39_36 rfl rfl ?_
  refine Tx.bits hC (f := (fun (x y : Int32) => (x.toUInt32 >>> (y.toUInt32 &&& Int32.toUInt32 31)).toInt32)) te_39_38 (fun _ _ _ _ => Iff.rfl) (fun b11 b11e _ => ?_)
  have b11v : b11 = 0 := b11e.trans (by decide)
  subst b11v
  refine Tx.iaddW hC te_39_39 (fun b12 _ b12e => ?_)
  have b12v : b12 = 2 := b12e (by unfold InI; omega)
  subst b12v
  refine Tx.istore_n hC te_39_40 rfl ?_
  refine Tx.iload_n hC te_39_41 rfl ?_
  refine Tx.iload_n hC te_39_42 rfl ?_
  refine Tx.bipush hC te_39_43 rfl rfl ?_
  refine Tx.bits hC (f := (fun (x y : Int32) => (x.toUInt32 >>> (y.toUInt32 &&& Int32.toUInt32 31)).toInt32)) te_39_45 (fun _ _ _ _ => Iff.rfl) (fun b13 b13e _ => ?_)
  have b13v : b13 = 0 := b13e.trans (by decide)
  subst b13v
  refine Tx.iaddW hC te_39_46 (fun b14 _ b14e => ?_)
  have b14v : b14 = 2 := b14e (by unfold InI; omega)
  subst b14v
  refine Tx.istore_n hC te_39_47 rfl ?_
  refine Tx.iload_n hC te_39_48 rfl ?_
  refine Tx.bipush hC te_39_49 rfl rfl ?_
  refine Tx.bits hC (f := (fun (x y : Int32) => x &&& y)) te_39_51 (fun _ _ _ _ => Iff.rfl) (fun b15 b15e _ => ?_)
  have b15v : b15 = 2 := b15e.trans (by decide)
  subst b15v
  exact Tx.ireturn hC te_39_52 rfl (fun _ => H)
theorem f_39_13 {S : Nat × (Nat → Int32)} {n : Nat} {mem : MM} {K : Int → MM → Prop} {E : Nat → MM → Prop} (H : K 3 mem) : CQI (Ex S (n + 1)) 39 [.inl 13] mem K E := by
  refine CY.of (k := 0) mt_39 rfl rfl (fun _ => ?_)
  have hC := Ex.mono S n
  show Tx (Ex S n) S M_39 (kI K E) 0 0 0 [some (.inl 13)] [] mem
  refine Tx.iload_n hC te_39_0 rfl ?_
  refine Tx.iload_n hC te_39_1 rfl ?_
  refine Tx.iconst hC te_39_2 rfl ?_
  refine Tx.bits hC (f := (fun (x y : Int32) => (x.toUInt32 >>> (y.toUInt32 &&& Int32.toUInt32 31)).toInt32)) te_39_3 (fun _ _ _ _ => Iff.rfl) (fun b1 b1e _ => ?_)
  have b1v : b1 = 6 := b1e.trans (by decide)
  subst b1v
  refine Tx.ldc_w hC (z := 1431655765) te_39_4 rfl rfl rfl rfl ?_
  refine Tx.bits hC (f := (fun (x y : Int32) => x &&& y)) te_39_7 (fun _ _ _ _ => Iff.rfl) (fun b2 b2e _ => ?_)
  have b2v : b2 = 4 := b2e.trans (by decide)
  subst b2v
  refine Tx.isubW hC te_39_8 (fun b3 _ b3e => ?_)
  have b3v : b3 = 9 := b3e (by unfold InI; omega)
  subst b3v
  refine Tx.istore_n hC te_39_9 rfl ?_
  refine Tx.iload_n hC te_39_10 rfl ?_
  refine Tx.ldc_w hC (z := 858993459) te_39_11 rfl rfl rfl rfl ?_
  refine Tx.bits hC (f := (fun (x y : Int32) => x &&& y)) te_39_14 (fun _ _ _ _ => Iff.rfl) (fun b4 b4e _ => ?_)
  have b4v : b4 = 1 := b4e.trans (by decide)
  subst b4v
  refine Tx.iload_n hC te_39_15 rfl ?_
  refine Tx.iconst hC te_39_16 rfl ?_
  refine Tx.bits hC (f := (fun (x y : Int32) => (x.toUInt32 >>> (y.toUInt32 &&& Int32.toUInt32 31)).toInt32)) te_39_17 (fun _ _ _ _ => Iff.rfl) (fun b5 b5e _ => ?_)
  have b5v : b5 = 2 := b5e.trans (by decide)
  subst b5v
  refine Tx.ldc_w hC (z := 858993459) te_39_18 rfl rfl rfl rfl ?_
  refine Tx.bits hC (f := (fun (x y : Int32) => x &&& y)) te_39_21 (fun _ _ _ _ => Iff.rfl) (fun b6 b6e _ => ?_)
  have b6v : b6 = 2 := b6e.trans (by decide)
  subst b6v
  refine Tx.iaddW hC te_39_22 (fun b7 _ b7e => ?_)
  have b7v : b7 = 3 := b7e (by unfold InI; omega)
  subst b7v
  refine Tx.istore_n hC te_39_23 rfl ?_
  refine Tx.iload_n hC te_39_24 rfl ?_
  refine Tx.iload_n hC te_39_25 rfl ?_
  refine Tx.iconst hC te_39_26 rfl ?_
  refine Tx.bits hC (f := (fun (x y : Int32) => (x.toUInt32 >>> (y.toUInt32 &&& Int32.toUInt32 31)).toInt32)) te_39_27 (fun _ _ _ _ => Iff.rfl) (fun b8 b8e _ => ?_)
  have b8v : b8 = 0 := b8e.trans (by decide)
  subst b8v
  refine Tx.iaddW hC te_39_28 (fun b9 _ b9e => ?_)
  have b9v : b9 = 3 := b9e (by unfold InI; omega)
  subst b9v
  refine Tx.ldc_w hC (z := 252645135) te_39_29 rfl rfl rfl rfl ?_
  refine Tx.bits hC (f := (fun (x y : Int32) => x &&& y)) te_39_32 (fun _ _ _ _ => Iff.rfl) (fun b10 b10e _ => ?_)
  have b10v : b10 = 3 := b10e.trans (by decide)
  subst b10v
  refine Tx.istore_n hC te_39_33 rfl ?_
  refine Tx.iload_n hC te_39_34 rfl ?_
  refine Tx.iload_n hC te_39_35 rfl ?_
  refine Tx.bipush hC te_39_36 rfl rfl ?_
  refine Tx.bits hC (f := (fun (x y : Int32) => (x.toUInt32 >>> (y.toUInt32 &&& Int32.toUInt32 31)).toInt32)) te_39_38 (fun _ _ _ _ => Iff.rfl) (fun b11 b11e _ => ?_)
  have b11v : b11 = 0 := b11e.trans (by decide)
  subst b11v
  refine Tx.iaddW hC te_39_39 (fun b12 _ b12e => ?_)
  have b12v : b12 = 3 := b12e (by unfold InI; omega)
  subst b12v
  refine Tx.istore_n hC te_39_40 rfl ?_
  refine Tx.iload_n hC te_39_41 rfl ?_
  refine Tx.iload_n hC te_39_42 rfl ?_
  refine Tx.bipush hC te_39_43 rfl rfl ?_
  refine Tx.bits hC (f := (fun (x y : Int32) => (x.toUInt32 >>> (y.toUInt32 &&& Int32.toUInt32 31)).toInt32)) te_39_45 (fun _ _ _ _ => Iff.rfl) (fun b13 b13e _ => ?_)
  have b13v : b13 = 0 := b13e.trans (by decide)
  subst b13v
  refine Tx.iaddW hC te_39_46 (fun b14 _ b14e => ?_)
  have b14v : b14 = 3 := b14e (by unfold InI; omega)
  subst b14v
  refine Tx.istore_n hC te_39_47 rfl ?_
  refine Tx.iload_n hC te_39_48 rfl ?_
  refine Tx.bipush hC te_39_49 rfl rfl ?_
  refine Tx.bits hC (f := (fun (x y : Int32) => x &&& y)) te_39_51 (fun _ _ _ _ => Iff.rfl) (fun b15 b15e _ => ?_)
  have b15v : b15 = 3 := b15e.trans (by decide)
  subst b15v
  exact Tx.ireturn hC te_39_52 rfl (fun _ => H)
theorem f_39_14 {S : Nat × (Nat → Int32)} {n : Nat} {mem : MM} {K : Int → MM → Prop} {E : Nat → MM → Prop} (H : K 3 mem) : CQI (Ex S (n + 1)) 39 [.inl 14] mem K E := by
  refine CY.of (k := 0) mt_39 rfl rfl (fun _ => ?_)
  have hC := Ex.mono S n
  show Tx (Ex S n) S M_39 (kI K E) 0 0 0 [some (.inl 14)] [] mem
  refine Tx.iload_n hC te_39_0 rfl ?_
  refine Tx.iload_n hC te_39_1 rfl ?_
  refine Tx.iconst hC te_39_2 rfl ?_
  refine Tx.bits hC (f := (fun (x y : Int32) => (x.toUInt32 >>> (y.toUInt32 &&& Int32.toUInt32 31)).toInt32)) te_39_3 (fun _ _ _ _ => Iff.rfl) (fun b1 b1e _ => ?_)
  have b1v : b1 = 7 := b1e.trans (by decide)
  subst b1v
  refine Tx.ldc_w hC (z := 1431655765) te_39_4 rfl rfl rfl rfl ?_
  refine Tx.bits hC (f := (fun (x y : Int32) => x &&& y)) te_39_7 (fun _ _ _ _ => Iff.rfl) (fun b2 b2e _ => ?_)
  have b2v : b2 = 5 := b2e.trans (by decide)
  subst b2v
  refine Tx.isubW hC te_39_8 (fun b3 _ b3e => ?_)
  have b3v : b3 = 9 := b3e (by unfold InI; omega)
  subst b3v
  refine Tx.istore_n hC te_39_9 rfl ?_
  refine Tx.iload_n hC te_39_10 rfl ?_
  refine Tx.ldc_w hC (z := 858993459) te_39_11 rfl rfl rfl rfl ?_
  refine Tx.bits hC (f := (fun (x y : Int32) => x &&& y)) te_39_14 (fun _ _ _ _ => Iff.rfl) (fun b4 b4e _ => ?_)
  have b4v : b4 = 1 := b4e.trans (by decide)
  subst b4v
  refine Tx.iload_n hC te_39_15 rfl ?_
  refine Tx.iconst hC te_39_16 rfl ?_
  refine Tx.bits hC (f := (fun (x y : Int32) => (x.toUInt32 >>> (y.toUInt32 &&& Int32.toUInt32 31)).toInt32)) te_39_17 (fun _ _ _ _ => Iff.rfl) (fun b5 b5e _ => ?_)
  have b5v : b5 = 2 := b5e.trans (by decide)
  subst b5v
  refine Tx.ldc_w hC (z := 858993459) te_39_18 rfl rfl rfl rfl ?_
  refine Tx.bits hC (f := (fun (x y : Int32) => x &&& y)) te_39_21 (fun _ _ _ _ => Iff.rfl) (fun b6 b6e _ => ?_)
  have b6v : b6 = 2 := b6e.trans (by decide)
  subst b6v
  refine Tx.iaddW hC te_39_22 (fun b7 _ b7e => ?_)
  have b7v : b7 = 3 := b7e (by unfold InI; omega)
  subst b7v
  refine Tx.istore_n hC te_39_23 rfl ?_
  refine Tx.iload_n hC te_39_24 rfl ?_
  refine Tx.iload_n hC te_39_25 rfl ?_
  refine Tx.iconst hC te_39_26 rfl ?_
  refine Tx.bits hC (f := (fun (x y : Int32) => (x.toUInt32 >>> (y.toUInt32 &&& Int32.toUInt32 31)).toInt32)) te_39_27 (fun _ _ _ _ => Iff.rfl) (fun b8 b8e _ => ?_)
  have b8v : b8 = 0 := b8e.trans (by decide)
  subst b8v
  refine Tx.iaddW hC te_39_28 (fun b9 _ b9e => ?_)
  have b9v : b9 = 3 := b9e (by unfold InI; omega)
  subst b9v
  refine Tx.ldc_w hC (z := 252645135) te_39_29 rfl rfl rfl rfl ?_
  refine Tx.bits hC (f := (fun (x y : Int32) => x &&& y)) te_39_32 (fun _ _ _ _ => Iff.rfl) (fun b10 b10e _ => ?_)
  have b10v : b10 = 3 := b10e.trans (by decide)
  subst b10v
  refine Tx.istore_n hC te_39_33 rfl ?_
  refine Tx.iload_n hC te_39_34 rfl ?_
  refine Tx.iload_n hC te_39_35 rfl ?_
  refine Tx.bipush hC te_39_36 rfl rfl ?_
  refine Tx.bits hC (f := (fun (x y : Int32) => (x.toUInt32 >>> (y.toUInt32 &&& Int32.toUInt32 31)).toInt32)) te_39_38 (fun _ _ _ _ => Iff.rfl) (fun b11 b11e _ => ?_)
  have b11v : b11 = 0 := b11e.trans (by decide)
  subst b11v
  refine Tx.iaddW hC te_39_39 (fun b12 _ b12e => ?_)
  have b12v : b12 = 3 := b12e (by unfold InI; omega)
  subst b12v
  refine Tx.istore_n hC te_39_40 rfl ?_
  refine Tx.iload_n hC te_39_41 rfl ?_
  refine Tx.iload_n hC te_39_42 rfl ?_
  refine Tx.bipush hC te_39_43 rfl rfl ?_
  refine Tx.bits hC (f := (fun (x y : Int32) => (x.toUInt32 >>> (y.toUInt32 &&& Int32.toUInt32 31)).toInt32)) te_39_45 (fun _ _ _ _ => Iff.rfl) (fun b13 b13e _ => ?_)
  have b13v : b13 = 0 := b13e.trans (by decide)
  subst b13v
  refine Tx.iaddW hC te_39_46 (fun b14 _ b14e => ?_)
  have b14v : b14 = 3 := b14e (by unfold InI; omega)
  subst b14v
  refine Tx.istore_n hC te_39_47 rfl ?_
  refine Tx.iload_n hC te_39_48 rfl ?_
  refine Tx.bipush hC te_39_49 rfl rfl ?_
  refine Tx.bits hC (f := (fun (x y : Int32) => x &&& y)) te_39_51 (fun _ _ _ _ => Iff.rfl) (fun b15 b15e _ => ?_)
  have b15v : b15 = 3 := b15e.trans (by decide)
  subst b15v
  exact Tx.ireturn hC te_39_52 rfl (fun _ => H)
theorem f_39_15 {S : Nat × (Nat → Int32)} {n : Nat} {mem : MM} {K : Int → MM → Prop} {E : Nat → MM → Prop} (H : K 4 mem) : CQI (Ex S (n + 1)) 39 [.inl 15] mem K E := by
  refine CY.of (k := 0) mt_39 rfl rfl (fun _ => ?_)
  have hC := Ex.mono S n
  show Tx (Ex S n) S M_39 (kI K E) 0 0 0 [some (.inl 15)] [] mem
  refine Tx.iload_n hC te_39_0 rfl ?_
  refine Tx.iload_n hC te_39_1 rfl ?_
  refine Tx.iconst hC te_39_2 rfl ?_
  refine Tx.bits hC (f := (fun (x y : Int32) => (x.toUInt32 >>> (y.toUInt32 &&& Int32.toUInt32 31)).toInt32)) te_39_3 (fun _ _ _ _ => Iff.rfl) (fun b1 b1e _ => ?_)
  have b1v : b1 = 7 := b1e.trans (by decide)
  subst b1v
  refine Tx.ldc_w hC (z := 1431655765) te_39_4 rfl rfl rfl rfl ?_
  refine Tx.bits hC (f := (fun (x y : Int32) => x &&& y)) te_39_7 (fun _ _ _ _ => Iff.rfl) (fun b2 b2e _ => ?_)
  have b2v : b2 = 5 := b2e.trans (by decide)
  subst b2v
  refine Tx.isubW hC te_39_8 (fun b3 _ b3e => ?_)
  have b3v : b3 = 10 := b3e (by unfold InI; omega)
  subst b3v
  refine Tx.istore_n hC te_39_9 rfl ?_
  refine Tx.iload_n hC te_39_10 rfl ?_
  refine Tx.ldc_w hC (z := 858993459) te_39_11 rfl rfl rfl rfl ?_
  refine Tx.bits hC (f := (fun (x y : Int32) => x &&& y)) te_39_14 (fun _ _ _ _ => Iff.rfl) (fun b4 b4e _ => ?_)
  have b4v : b4 = 2 := b4e.trans (by decide)
  subst b4v
  refine Tx.iload_n hC te_39_15 rfl ?_
  refine Tx.iconst hC te_39_16 rfl ?_
  refine Tx.bits hC (f := (fun (x y : Int32) => (x.toUInt32 >>> (y.toUInt32 &&& Int32.toUInt32 31)).toInt32)) te_39_17 (fun _ _ _ _ => Iff.rfl) (fun b5 b5e _ => ?_)
  have b5v : b5 = 2 := b5e.trans (by decide)
  subst b5v
  refine Tx.ldc_w hC (z := 858993459) te_39_18 rfl rfl rfl rfl ?_
  refine Tx.bits hC (f := (fun (x y : Int32) => x &&& y)) te_39_21 (fun _ _ _ _ => Iff.rfl) (fun b6 b6e _ => ?_)
  have b6v : b6 = 2 := b6e.trans (by decide)
  subst b6v
  refine Tx.iaddW hC te_39_22 (fun b7 _ b7e => ?_)
  have b7v : b7 = 4 := b7e (by unfold InI; omega)
  subst b7v
  refine Tx.istore_n hC te_39_23 rfl ?_
  refine Tx.iload_n hC te_39_24 rfl ?_
  refine Tx.iload_n hC te_39_25 rfl ?_
  refine Tx.iconst hC te_39_26 rfl ?_
  refine Tx.bits hC (f := (fun (x y : Int32) => (x.toUInt32 >>> (y.toUInt32 &&& Int32.toUInt32 31)).toInt32)) te_39_27 (fun _ _ _ _ => Iff.rfl) (fun b8 b8e _ => ?_)
  have b8v : b8 = 0 := b8e.trans (by decide)
  subst b8v
  refine Tx.iaddW hC te_39_28 (fun b9 _ b9e => ?_)
  have b9v : b9 = 4 := b9e (by unfold InI; omega)
  subst b9v
  refine Tx.ldc_w hC (z := 252645135) te_39_29 rfl rfl rfl rfl ?_
  refine Tx.bits hC (f := (fun (x y : Int32) => x &&& y)) te_39_32 (fun _ _ _ _ => Iff.rfl) (fun b10 b10e _ => ?_)
  have b10v : b10 = 4 := b10e.trans (by decide)
  subst b10v
  refine Tx.istore_n hC te_39_33 rfl ?_
  refine Tx.iload_n hC te_39_34 rfl ?_
  refine Tx.iload_n hC te_39_35 rfl ?_
  refine Tx.bipush hC te_39_36 rfl rfl ?_
  refine Tx.bits hC (f := (fun (x y : Int32) => (x.toUInt32 >>> (y.toUInt32 &&& Int32.toUInt32 31)).toInt32)) te_39_38 (fun _ _ _ _ => Iff.rfl) (fun b11 b11e _ => ?_)
  have b11v : b11 = 0 := b11e.trans (by decide)
  subst b11v
  refine Tx.iaddW hC te_39_39 (fun b12 _ b12e => ?_)
  have b12v : b12 = 4 := b12e (by unfold InI; omega)
  subst b12v
  refine Tx.istore_n hC te_39_40 rfl ?_
  refine Tx.iload_n hC te_39_41 rfl ?_
  refine Tx.iload_n hC te_39_42 rfl ?_
  refine Tx.bipush hC te_39_43 rfl rfl ?_
  refine Tx.bits hC (f := (fun (x y : Int32) => (x.toUInt32 >>> (y.toUInt32 &&& Int32.toUInt32 31)).toInt32)) te_39_45 (fun _ _ _ _ => Iff.rfl) (fun b13 b13e _ => ?_)
  have b13v : b13 = 0 := b13e.trans (by decide)
  subst b13v
  refine Tx.iaddW hC te_39_46 (fun b14 _ b14e => ?_)
  have b14v : b14 = 4 := b14e (by unfold InI; omega)
  subst b14v
  refine Tx.istore_n hC te_39_47 rfl ?_
  refine Tx.iload_n hC te_39_48 rfl ?_
  refine Tx.bipush hC te_39_49 rfl rfl ?_
  refine Tx.bits hC (f := (fun (x y : Int32) => x &&& y)) te_39_51 (fun _ _ _ _ => Iff.rfl) (fun b15 b15e _ => ?_)
  have b15v : b15 = 4 := b15e.trans (by decide)
  subst b15v
  exact Tx.ireturn hC te_39_52 rfl (fun _ => H)
theorem f_39x {S : Nat × (Nat → Int32)} {n : Nat} {mem : MM} {K : Int → MM → Prop} {E : Nat → MM → Prop} {x : Int} (hx : 0 ≤ x ∧ x ≤ 15) (H : ∀ r, r = popI x → K r mem) : CQI (Ex S (n + 1)) 39 [.inl x] mem K E := by
  have a : x = 0 ∨ x = 1 ∨ x = 2 ∨ x = 3 ∨ x = 4 ∨ x = 5 ∨ x = 6 ∨ x = 7 ∨ x = 8 ∨ x = 9 ∨ x = 10 ∨ x = 11 ∨ x = 12 ∨ x = 13 ∨ x = 14 ∨ x = 15 := by omega
  rcases a with rfl | rfl | rfl | rfl | rfl | rfl | rfl | rfl | rfl | rfl | rfl | rfl | rfl | rfl | rfl | rfl
  · exact f_39_0 (H _ rfl)
  · exact f_39_1 (H _ rfl)
  · exact f_39_2 (H _ rfl)
  · exact f_39_3 (H _ rfl)
  · exact f_39_4 (H _ rfl)
  · exact f_39_5 (H _ rfl)
  · exact f_39_6 (H _ rfl)
  · exact f_39_7 (H _ rfl)
  · exact f_39_8 (H _ rfl)
  · exact f_39_9 (H _ rfl)
  · exact f_39_10 (H _ rfl)
  · exact f_39_11 (H _ rfl)
  · exact f_39_12 (H _ rfl)
  · exact f_39_13 (H _ rfl)
  · exact f_39_14 (H _ rfl)
  · exact f_39_15 (H _ rfl)
theorem f_66n {S : Nat × (Nat → Int32)} {n : Nat} {mem : MM} {K : MM → Prop} {E : Nat → MM → Prop} {w l : Int} (H : 0 ≤ w ∧ w ≤ l → K mem) (HE : ¬ (0 ≤ w ∧ w ≤ l) → E 3 mem) : CQV (Ex S (n + 1)) 66 [.inl w, .inl l] mem K E := by
  refine CY.of (k := 0) mt_66 rfl rfl (fun hv => ?_)
  have hC := Ex.mono S n
  have ii_w : InI w := hv (.inl w) (by simp)
  unfold InI at ii_w
  have ii_l : InI l := hv (.inl l) (by simp)
  unfold InI at ii_l
  clear hv
  show Tx (Ex S n) S M_66 (kV K E) 0 0 0 [some (.inl w), some (.inl l)] [] mem
  refine Tx.iload_n hC te_66_0 rfl ?_
  refine Tx.ifc hC (t := 9) te_66_1 (by decide) (fun q1 => ?_) (fun q1 => ?_)
  · replace q1 : (w : Int) < 0 := q1
    exact Tx.thr hC te_66_9 rfl rfl rfl rfl rfl (show E 3 mem from HE (by omega))
  · replace q1 : ¬ ((w : Int) < 0) := q1
    refine Tx.iload_n hC te_66_4 rfl ?_
    refine Tx.iload_n hC te_66_5 rfl ?_
    refine Tx.icmp hC (t := 20) te_66_6 (by decide) (fun q2 => ?_) (fun q2 => ?_)
    · replace q2 : (w : Int) ≤ l := q2
      exact Tx.vret hC te_66_20 rfl (show K mem from H (by omega))
    · replace q2 : ¬ ((w : Int) ≤ l) := q2
      exact Tx.thr hC te_66_9 rfl rfl rfl rfl rfl (show E 3 mem from HE (by omega))
theorem f_65x {S : Nat × (Nat → Int32)} {n : Nat} {mem : MM} {K : Int → MM → Prop} {E : Nat → MM → Prop} (hI : ClS mem) {p0 p1 : Int} (H : 0 ≤ p0 ∧ p0 < mem 1 0 → 0 ≤ p1 ∧ p1 ≤ 5 → ∀ r, r = opF mem p0.toNat p1 → K r mem) (HE2 : ¬ (0 ≤ p0 ∧ p0 < mem 1 0) → E 2 mem) (HE3 : 0 ≤ p0 ∧ p0 < mem 1 0 → ¬ (0 ≤ p1 ∧ p1 ≤ 5) → E 3 mem) : CQI (Ex S (n + 2)) 65 [.inr 0, .inl p0, .inl p1] mem K E := by
  refine CY.of (k := 0) mt_65 rfl rfl (fun hv => ?_)
  have hC := Ex.mono S (n + 1)
  have ii_p0 : InI p0 := hv (.inl p0) (by simp)
  unfold InI at ii_p0
  have ii_p1 : InI p1 := hv (.inl p1) (by simp)
  unfold InI at ii_p1
  clear hv
  have h8 := hI.1.b.1
  show Tx (Ex S (n + 1)) S M_65 (kI K E) 0 0 0 [some (.inr 0), some (.inl p0), some (.inl p1)] [] mem
  refine Tx.aload_n hC te_65_0 rfl ?_
  refine Tx.iload_n hC te_65_1 rfl ?_
  refine Tx.virtV hC te_65_2 mt_57 (args := [.inr 0, .inl p0]) (rest := []) (c' := 1) (s' := 6) rfl rfl rfl rfl rfl rfl rfl rfl rfl rfl ?_
  refine f_57n (fun r1a => ?_) (fun r1n => HE2 r1n)
  refine Tx.iload_n hC te_65_5 rfl ?_
  refine Tx.iconst hC te_65_6 rfl ?_
  refine Tx.statV hC te_65_7 (by decide) mt_66 (args := [.inl p1, .inl 5]) (rest := []) (c' := 2) (s' := 12) rfl rfl rfl rfl rfl rfl rfl ?_
  refine f_66n (fun r4a => ?_) (fun r4n => HE3 (by omega) r4n)
  refine Tx.iload_n hC te_65_10 rfl ?_
  refine Tx.ifc hC (t := 24) te_65_11 (by decide) (fun q7 => ?_) (fun q7 => ?_)
  · replace q7 : ¬ (p1 : Int) = 0 := q7
    refine Tx.iload_n hC te_65_24 rfl ?_
    refine Tx.iconst hC te_65_25 rfl ?_
    refine Tx.icmp hC (t := 39) te_65_26 (by decide) (fun q8 => ?_) (fun q8 => ?_)
    · replace q8 : ¬ (p1 : Int) = 5 := q8
      refine Tx.aload_n hC te_65_39 rfl ?_
      refine Tx.getR hC te_65_40 rfl rfl rfl ?_
      refine Tx.getR hC te_65_43 rfl rfl rfl ?_
      refine Tx.iload_n hC te_65_46 rfl ?_
      refine Tx.iconst hC te_65_47 rfl ?_
      refine Tx.imulW hC te_65_48 (fun z9 z9i z9e => ?_)
      unfold InI at z9i z9e
      first | replace z9e := z9e (by omega) | clear z9e
      refine Tx.iload_n hC te_65_49 rfl ?_
      refine Tx.iaddW hC te_65_50 (fun z10 z10i z10e => ?_)
      unfold InI at z10i z10e
      first | replace z10e := z10e (by omega) | clear z10e
      refine Tx.iconst hC te_65_51 rfl ?_
      refine Tx.isubW hC te_65_52 (fun z11 z11i z11e => ?_)
      unfold InI at z11i z11e
      first | replace z11e := z11e (by omega) | clear z11e
      refine Tx.iald hC te_65_53 rfl (by omega) (fun v12 v12e v12i => ?_)
      unfold InI at v12i
      exact Tx.ireturn hC te_65_54 rfl (fun hr => show K v12 mem from H (by omega) (by omega) _ (by unfold opF; first | (rw [if_pos (by omega)]; assumption) | (rw [if_neg (by omega), if_pos (by omega)]; assumption) | (rw [if_neg (by omega), if_neg (by omega), v12e]; congr 1; omega)))
    · replace q8 : ¬ (¬ (p1 : Int) = 5) := q8
      refine Tx.aload_n hC te_65_29 rfl ?_
      refine Tx.getR hC te_65_30 rfl rfl rfl ?_
      refine Tx.getR hC te_65_33 rfl rfl rfl ?_
      refine Tx.iload_n hC te_65_36 rfl ?_
      refine Tx.iald hC te_65_37 rfl (by omega) (fun v13 v13e v13i => ?_)
      unfold InI at v13i
      exact Tx.ireturn hC te_65_38 rfl (fun hr => show K v13 mem from H (by omega) (by omega) _ (by unfold opF; first | (rw [if_pos (by omega)]; assumption) | (rw [if_neg (by omega), if_pos (by omega)]; assumption) | (rw [if_neg (by omega), if_neg (by omega), v13e]; congr 1; omega)))
  · replace q7 : ¬ (¬ (p1 : Int) = 0) := q7
    refine Tx.aload_n hC te_65_14 rfl ?_
    refine Tx.getR hC te_65_15 rfl rfl rfl ?_
    refine Tx.getR hC te_65_18 rfl rfl rfl ?_
    refine Tx.iload_n hC te_65_21 rfl ?_
    refine Tx.iald hC te_65_22 rfl (by omega) (fun v14 v14e v14i => ?_)
    unfold InI at v14i
    exact Tx.ireturn hC te_65_23 rfl (fun hr => show K v14 mem from H (by omega) (by omega) _ (by unfold opF; first | (rw [if_pos (by omega)]; assumption) | (rw [if_neg (by omega), if_pos (by omega)]; assumption) | (rw [if_neg (by omega), if_neg (by omega), v14e]; congr 1; omega)))
theorem f_37x {S : Nat × (Nat → Int32)} {n : Nat} {mem : MM} {K : Int → MM → Prop} {E : Nat → MM → Prop} (hB : BodyOK mem) {o : Int} (ho : 0 ≤ o ∧ o < 8) (H : ∀ r, r = cUn mem o.toNat → 0 ≤ r → r ≤ 2 → K r mem) : CQI (Ex S (n + 1)) 37 [.inr 1, .inl o] mem K E := by
  refine CY.of (k := 0) mt_37 rfl rfl (fun hv => ?_)
  have hC := Ex.mono S n
  have ii_o : InI o := hv (.inl o) (by simp)
  unfold InI at ii_o
  clear hv
  show Tx (Ex S n) S M_37 (kI K E) 0 0 0 [some (.inr 1), some (.inl o)] [] mem
  refine Tx.aload_n hC te_37_0 rfl ?_
  refine Tx.getR hC te_37_1 rfl rfl rfl ?_
  refine Tx.aload_n hC te_37_4 rfl ?_
  refine Tx.getR hC te_37_5 rfl rfl rfl ?_
  refine Tx.iload_n hC te_37_8 rfl ?_
  refine Tx.iald hC te_37_9 rfl (by omega) (fun v1 v1e v1i => ?_)
  unfold InI at v1i
  have f2 := hB.kd (o := (Int.toNat o)) (by omega)
  refine Tx.iald hC te_37_10 rfl (by omega) (fun v3 v3e v3i => ?_)
  unfold InI at v3i
  have f4 := hB.un (o := (Int.toNat v1)) (by omega)
  exact Tx.ireturn hC te_37_11 rfl (fun hr => show K v3 mem from H _ (by unfold cUn; simp_all) (by omega) (by omega))
theorem f_38x {S : Nat × (Nat → Int32)} {n : Nat} {mem : MM} {K : Int → MM → Prop} {E : Nat → MM → Prop} (hB : BodyOK mem) {o : Int} (ho : 0 ≤ o ∧ o < 8) (H : ∀ r, r = cBu mem o.toNat → 1 ≤ r → r ≤ 15 → K r mem) : CQI (Ex S (n + 1)) 38 [.inr 1, .inl o] mem K E := by
  refine CY.of (k := 0) mt_38 rfl rfl (fun hv => ?_)
  have hC := Ex.mono S n
  have ii_o : InI o := hv (.inl o) (by simp)
  unfold InI at ii_o
  clear hv
  show Tx (Ex S n) S M_38 (kI K E) 0 0 0 [some (.inr 1), some (.inl o)] [] mem
  refine Tx.aload_n hC te_38_0 rfl ?_
  refine Tx.getR hC te_38_1 rfl rfl rfl ?_
  refine Tx.aload_n hC te_38_4 rfl ?_
  refine Tx.getR hC te_38_5 rfl rfl rfl ?_
  refine Tx.iload_n hC te_38_8 rfl ?_
  refine Tx.iald hC te_38_9 rfl (by omega) (fun v1 v1e v1i => ?_)
  unfold InI at v1i
  have f2 := hB.kd (o := (Int.toNat o)) (by omega)
  refine Tx.iald hC te_38_10 rfl (by omega) (fun v3 v3e v3i => ?_)
  unfold InI at v3i
  have f4 := hB.bu (o := (Int.toNat v1)) (by omega)
  exact Tx.ireturn hC te_38_11 rfl (fun hr => show K v3 mem from H _ (by unfold cBu; simp_all) (by omega) (by omega))
theorem f_36x {S : Nat × (Nat → Int32)} {n : Nat} {mem : MM} {K : Int → MM → Prop} {E : Nat → MM → Prop} (hB : BodyOK mem) {u : Int} (H : ∀ r, r = usC mem u → 0 ≤ r → r ≤ 32 → K r mem) : CQI (Ex S (n + 2)) 36 [.inr 1, .inl u] mem K E := by
  refine CY.of (k := 2) mt_36 rfl rfl (fun hv => ?_)
  have hC := Ex.mono S (n + 1)
  have ii_u : InI u := hv (.inl u) (by simp)
  unfold InI at ii_u
  clear hv
  have h8 := hB.1
  show Tx (Ex S (n + 1)) S M_36 (kI K E) 0 0 0 [some (.inr 1), some (.inl u), none, none] [] mem
  have l_4 : ∀ (N : Nat) (x2 x3 : Int), (0 ≤ x3 ∧ x3 ≤ mem 1 0) → (x2 = usN (cUn mem) (cBu mem) u x3.toNat) → ((8 - x3).toNat) < N → Tx (Ex S (n + 1)) S M_36 (kI K E) 0 0 4 [some (.inr 1), some (.inl u), some (.inl x2), some (.inl x3)] [] mem := by
    intro N
    induction N with
    | zero => intros; omega
    | succ N ih_4 =>
      intro x2 x3 i4_0 i4_1 hN_4 
      have us := usN_rg (f := cUn mem) (g := cBu mem) (u := u) x3.toNat
      have up := popI_rg (x := cBu mem x3.toNat)
      refine Tx.iload_n hC te_36_4 rfl ?_
      refine Tx.aload_n hC te_36_5 rfl ?_
      refine Tx.getI hC te_36_6 rfl rfl rfl (fun v1 v1e v1i => ?_)
      unfold InI at v1i
      refine Tx.icmp hC (t := 38) te_36_9 (by decide) (fun q2 => ?_) (fun q2 => ?_)
      · replace q2 : v1 ≤ (x3 : Int) := q2
        refine Tx.iload_n hC te_36_38 rfl ?_
        exact Tx.ireturn hC te_36_39 rfl (fun hr => show K x2 mem from H _ (by unfold usC; rw [show (mem 1 0).toNat = x3.toNat by omega]; omega) (by omega) (by omega))
      · replace q2 : ¬ (v1 ≤ (x3 : Int)) := q2
        refine Tx.aload_n hC te_36_12 rfl ?_
        refine Tx.iload_n hC te_36_13 rfl ?_
        refine Tx.virtI hC te_36_14 mt_37 (args := [.inr 1, .inl x3]) (rest := []) (c' := 0) (s' := 0) rfl rfl rfl rfl rfl rfl rfl rfl rfl rfl ?_
        refine f_37x hB (by omega) (fun r3 r3e r3a r3b r3i => ?_)
        unfold InI at r3i
        refine Tx.iload_n hC te_36_17 rfl ?_
        refine Tx.icmp hC (t := 32) te_36_18 (by decide) (fun q6 => ?_) (fun q6 => ?_)
        · replace q6 : ¬ (r3 : Int) = u := q6
          refine Tx.iincW hC te_36_32 rfl rfl (fun z7 z7i z7e => ?_)
          unfold InI at z7i z7e
          first | replace z7e := z7e (by omega) | clear z7e
          refine Tx.goto hC (t := 4) te_36_35 (by decide) ?_
          exact ih_4 x2 z7 (by omega) (by
                have w := usN_st (f := cUn mem) (g := cBu mem) (u := u) (o := x3) (by omega)
                rw [show z7 = x3 + 1 by omega, w]
                split <;> omega) (by omega)
        · replace q6 : ¬ (¬ (r3 : Int) = u) := q6
          refine Tx.iload_n hC te_36_21 rfl ?_
          refine Tx.aload_n hC te_36_22 rfl ?_
          refine Tx.iload_n hC te_36_23 rfl ?_
          refine Tx.virtI hC te_36_24 mt_38 (args := [.inr 1, .inl x3]) (rest := [.inl x2]) (c' := 0) (s' := 0) rfl rfl rfl rfl rfl rfl rfl rfl rfl rfl ?_
          refine f_38x hB (by omega) (fun r8 r8e r8a r8b r8i => ?_)
          subst r8e
          refine Tx.statI hC te_36_27 (by decide) mt_39 (args := [.inl (cBu mem (Int.toNat x3))]) (rest := [.inl x2]) (c' := 0) (s' := 0) rfl rfl rfl rfl rfl rfl rfl ?_
          refine f_39x (by omega) (fun r11 r11e r11i => ?_)
          unfold InI at r11i
          refine Tx.iaddW hC te_36_30 (fun z14 z14i z14e => ?_)
          unfold InI at z14i z14e
          first | replace z14e := z14e (by omega) | clear z14e
          refine Tx.istore_n hC te_36_31 rfl ?_
          refine Tx.iincW hC te_36_32 rfl rfl (fun z15 z15i z15e => ?_)
          unfold InI at z15i z15e
          first | replace z15e := z15e (by omega) | clear z15e
          refine Tx.goto hC (t := 4) te_36_35 (by decide) ?_
          exact ih_4 z14 z15 (by omega) (by
                have w := usN_st (f := cUn mem) (g := cBu mem) (u := u) (o := x3) (by omega)
                rw [show z15 = x3 + 1 by omega, w]
                split <;> omega) (by omega)
  refine Tx.iconst hC te_36_0 rfl ?_
  refine Tx.istore_n hC te_36_1 rfl ?_
  refine Tx.iconst hC te_36_2 rfl ?_
  refine Tx.istore_n hC te_36_3 rfl ?_
  exact l_4 _ 0 0 (by omega) (rfl) (Nat.lt_succ_self _)
theorem f_82x {S : Nat × (Nat → Int32)} {n : Nat} {mem : MM} {K : Int → MM → Prop} {E : Nat → MM → Prop} (hI : ClS mem) {p0 : Int} (H : 0 ≤ p0 ∧ p0 < 3 → ∀ r, r = usC mem p0 → K r mem) (HE2 : ¬ (0 ≤ p0 ∧ p0 < 3) → E 2 mem) : CQI (Ex S (n + 3)) 82 [.inr 0, .inl p0] mem K E := by
  refine CY.of (k := 0) mt_82 rfl rfl (fun hv => ?_)
  have hC := Ex.mono S (n + 2)
  have ii_p0 : InI p0 := hv (.inl p0) (by simp)
  unfold InI at ii_p0
  clear hv
  show Tx (Ex S (n + 2)) S M_82 (kI K E) 0 0 0 [some (.inr 0), some (.inl p0)] [] mem
  refine Tx.aload_n hC te_82_0 rfl ?_
  refine Tx.iload_n hC te_82_1 rfl ?_
  refine Tx.virtV hC te_82_2 mt_63 (args := [.inr 0, .inl p0]) (rest := []) (c' := 1) (s' := 6) rfl rfl rfl rfl rfl rfl rfl rfl rfl rfl ?_
  refine f_63n (fun r1a => ?_) (fun r1n => HE2 r1n)
  refine Tx.aload_n hC te_82_5 rfl ?_
  refine Tx.getR hC te_82_6 rfl rfl rfl ?_
  refine Tx.iload_n hC te_82_9 rfl ?_
  refine Tx.virtI hC te_82_10 mt_36 (args := [.inr 1, .inl p0]) (rest := []) (c' := 1) (s' := 6) rfl rfl rfl rfl rfl rfl rfl rfl rfl rfl ?_
  refine f_36x hI.1.b (fun r4 r4e r4a r4b r4i => ?_)
  unfold InI at r4i
  exact Tx.ireturn hC te_82_13 rfl (fun hr => show K r4 mem from H (by omega) _ (by omega))
theorem f_264x {S : Nat × (Nat → Int32)} {n : Nat} {mem : MM} {K : Int → MM → Prop} {E : Nat → MM → Prop} (h : RefOK mem) {o : Int} (ho : 0 ≤ o ∧ o < 8) (H : ∀ r, r = rUn mem o.toNat → 0 ≤ r → r ≤ 2 → K r mem) : CQI (Ex S (n + 1)) 264 [.inr 143, .inl o] mem K E := by
  refine CY.of (k := 0) mt_264 rfl rfl (fun hv => ?_)
  have hC := Ex.mono S n
  have ii_o : InI o := hv (.inl o) (by simp)
  unfold InI at ii_o
  clear hv
  show Tx (Ex S n) S M_264 (kI K E) 0 0 0 [some (.inr 143), some (.inl o)] [] mem
  refine Tx.aload_n hC te_264_0 rfl ?_
  refine Tx.getR hC te_264_1 rfl rfl rfl ?_
  refine Tx.aload_n hC te_264_4 rfl ?_
  refine Tx.getR hC te_264_5 rfl rfl rfl ?_
  refine Tx.iload_n hC te_264_8 rfl ?_
  refine Tx.iald hC te_264_9 rfl (by omega) (fun v1 v1e v1i => ?_)
  unfold InI at v1i
  have f2 := h.ops.2.1 (Int.toNat o) (by omega)
  unfold OpOK at f2
  refine Tx.iald hC te_264_10 rfl (by omega) (fun v3 v3e v3i => ?_)
  unfold InI at v3i
  have f4 := h.un (Int.toNat v1) (by omega)
  exact Tx.ireturn hC te_264_11 rfl (fun hr => show K v3 mem from H _ (by unfold rUn; simp_all) (by omega) (by omega))
theorem f_265x {S : Nat × (Nat → Int32)} {n : Nat} {mem : MM} {K : Int → MM → Prop} {E : Nat → MM → Prop} (h : RefOK mem) {o : Int} (ho : 0 ≤ o ∧ o < 8) (H : ∀ r, r = rBu mem o.toNat → 1 ≤ r → r ≤ 15 → K r mem) : CQI (Ex S (n + 1)) 265 [.inr 143, .inl o] mem K E := by
  refine CY.of (k := 0) mt_265 rfl rfl (fun hv => ?_)
  have hC := Ex.mono S n
  have ii_o : InI o := hv (.inl o) (by simp)
  unfold InI at ii_o
  clear hv
  show Tx (Ex S n) S M_265 (kI K E) 0 0 0 [some (.inr 143), some (.inl o)] [] mem
  refine Tx.aload_n hC te_265_0 rfl ?_
  refine Tx.getR hC te_265_1 rfl rfl rfl ?_
  refine Tx.aload_n hC te_265_4 rfl ?_
  refine Tx.getR hC te_265_5 rfl rfl rfl ?_
  refine Tx.iload_n hC te_265_8 rfl ?_
  refine Tx.iald hC te_265_9 rfl (by omega) (fun v1 v1e v1i => ?_)
  unfold InI at v1i
  have f2 := h.ops.2.1 (Int.toNat o) (by omega)
  unfold OpOK at f2
  refine Tx.iald hC te_265_10 rfl (by omega) (fun v3 v3e v3i => ?_)
  unfold InI at v3i
  have f4 := h.bz (Int.toNat v1) (by omega)
  exact Tx.ireturn hC te_265_11 rfl (fun hr => show K v3 mem from H _ (by unfold rBu; simp_all) (by omega) (by omega))
theorem f_266x {S : Nat × (Nat → Int32)} {n : Nat} {mem : MM} {K : Int → MM → Prop} {E : Nat → MM → Prop} {x : Int} (hx : 0 ≤ x ∧ x ≤ 15) (H : ∀ r, r = popI x → K r mem) : CQI (Ex S (n + 1)) 266 [.inl x] mem K E := by
  refine CY.of (k := 2) mt_266 rfl rfl (fun hv => ?_)
  have hC := Ex.mono S n
  have ii_x : InI x := hv (.inl x) (by simp)
  unfold InI at ii_x
  clear hv
  show Tx (Ex S n) S M_266 (kI K E) 0 0 0 [some (.inl x), none, none] [] mem
  have l_4 : ∀ (N : Nat) (x1 x2 : Int), (0 ≤ x2 ∧ x2 ≤ 15) → (x1 + popI x2 = popI x) → (0 ≤ x1 ∧ x1 ≤ 15) → (x2.toNat) < N → Tx (Ex S n) S M_266 (kI K E) 0 0 4 [some (.inl x), some (.inl x1), some (.inl x2)] [] mem := by
    intro N
    induction N with
    | zero => intros; omega
    | succ N ih_4 =>
      intro x1 x2 i4_0 i4_1 i4_2 hN_4 
      have up := popI_rg (x := x2)
      have up2 := popI_rg (x := x)
      refine Tx.iload_n hC te_266_4 rfl ?_
      refine Tx.ifc hC (t := 20) te_266_5 (by decide) (fun q1 => ?_) (fun q1 => ?_)
      · replace q1 : (x2 : Int) = 0 := q1
        refine Tx.iload_n hC te_266_20 rfl ?_
        exact Tx.ireturn hC te_266_21 rfl (fun hr => show K x1 mem from H _ (by have z : popI x2 = 0 := by { rw [show x2 = 0 by omega]; rfl }; omega))
      · replace q1 : ¬ ((x2 : Int) = 0) := q1
        refine Tx.iincW hC te_266_8 rfl rfl (fun z2 z2i z2e => ?_)
        unfold InI at z2i z2e
        first | replace z2e := z2e (by omega) | clear z2e
        refine Tx.iload_n hC te_266_11 rfl ?_
        refine Tx.iload_n hC te_266_12 rfl ?_
        refine Tx.iconst hC te_266_13 rfl ?_
        refine Tx.isubW hC te_266_14 (fun z3 z3i z3e => ?_)
        unfold InI at z3i z3e
        first | replace z3e := z3e (by omega) | clear z3e
        refine Tx.bits hC (f := (fun (x y : Int32) => x &&& y)) te_266_15 (fun _ _ _ _ => Iff.rfl) (fun b4 b4e b4i => ?_)
        unfold InI at b4i
        have ae := and1 _ _ (by omega) (by omega) _ b4e (by omega)
        refine Tx.istore_n hC te_266_16 rfl ?_
        refine Tx.goto hC (t := 4) te_266_17 (by decide) ?_
        exact ih_4 z2 b4 (by omega) (by omega) (by omega) (by omega)
  refine Tx.iconst hC te_266_0 rfl ?_
  refine Tx.istore_n hC te_266_1 rfl ?_
  refine Tx.iload_n hC te_266_2 rfl ?_
  refine Tx.istore_n hC te_266_3 rfl ?_
  exact l_4 _ 0 x (by omega) (by omega) (by omega) (Nat.lt_succ_self _)
theorem f_263x {S : Nat × (Nat → Int32)} {n : Nat} {mem : MM} {K : Int → MM → Prop} {E : Nat → MM → Prop} (h : RefOK mem) {u : Int} (H : ∀ r, r = usR mem u → 0 ≤ r → r ≤ 32 → K r mem) : CQI (Ex S (n + 2)) 263 [.inr 143, .inl u] mem K E := by
  refine CY.of (k := 2) mt_263 rfl rfl (fun hv => ?_)
  have hC := Ex.mono S (n + 1)
  have ii_u : InI u := hv (.inl u) (by simp)
  unfold InI at ii_u
  clear hv
  have h8 := h.ops.1
  show Tx (Ex S (n + 1)) S M_263 (kI K E) 0 0 0 [some (.inr 143), some (.inl u), none, none] [] mem
  have l_4 : ∀ (N : Nat) (x2 x3 : Int), (0 ≤ x3 ∧ x3 ≤ mem 143 1) → (x2 = usN (rUn mem) (rBu mem) u x3.toNat) → ((8 - x3).toNat) < N → Tx (Ex S (n + 1)) S M_263 (kI K E) 0 0 4 [some (.inr 143), some (.inl u), some (.inl x2), some (.inl x3)] [] mem := by
    intro N
    induction N with
    | zero => intros; omega
    | succ N ih_4 =>
      intro x2 x3 i4_0 i4_1 hN_4 
      have us := usN_rg (f := rUn mem) (g := rBu mem) (u := u) x3.toNat
      have up := popI_rg (x := rBu mem x3.toNat)
      refine Tx.iload_n hC te_263_4 rfl ?_
      refine Tx.aload_n hC te_263_5 rfl ?_
      refine Tx.getI hC te_263_6 rfl rfl rfl (fun v1 v1e v1i => ?_)
      unfold InI at v1i
      refine Tx.icmp hC (t := 42) te_263_9 (by decide) (fun q2 => ?_) (fun q2 => ?_)
      · replace q2 : v1 ≤ (x3 : Int) := q2
        refine Tx.iload_n hC te_263_42 rfl ?_
        exact Tx.ireturn hC te_263_43 rfl (fun hr => show K x2 mem from H _ (by unfold usR; rw [show (mem 143 1).toNat = x3.toNat by omega]; omega) (by omega) (by omega))
      · replace q2 : ¬ (v1 ≤ (x3 : Int)) := q2
        refine Tx.iload_n hC te_263_12 rfl ?_
        refine Tx.aload_n hC te_263_13 rfl ?_
        refine Tx.iload_n hC te_263_14 rfl ?_
        refine Tx.virtI hC te_263_15 mt_264 (args := [.inr 143, .inl x3]) (rest := [.inl x2]) (c' := 0) (s' := 0) rfl rfl rfl rfl rfl rfl rfl rfl rfl rfl ?_
        refine f_264x h (by omega) (fun r3 r3e r3a r3b r3i => ?_)
        unfold InI at r3i
        refine Tx.iload_n hC te_263_18 rfl ?_
        refine Tx.icmp hC (t := 33) te_263_19 (by decide) (fun q6 => ?_) (fun q6 => ?_)
        · replace q6 : ¬ (r3 : Int) = u := q6
          refine Tx.iconst hC te_263_33 rfl ?_
          refine Tx.iaddW hC te_263_34 (fun z7 z7i z7e => ?_)
          unfold InI at z7i z7e
          first | replace z7e := z7e (by omega) | clear z7e
          refine Tx.istore_n hC te_263_35 rfl ?_
          refine Tx.iincW hC te_263_36 rfl rfl (fun z8 z8i z8e => ?_)
          unfold InI at z8i z8e
          first | replace z8e := z8e (by omega) | clear z8e
          refine Tx.goto hC (t := 4) te_263_39 (by decide) ?_
          exact ih_4 z7 z8 (by omega) (by
                have w := usN_st (f := rUn mem) (g := rBu mem) (u := u) (o := x3) (by omega)
                rw [show z8 = x3 + 1 by omega, w]
                split <;> omega) (by omega)
        · replace q6 : ¬ (¬ (r3 : Int) = u) := q6
          refine Tx.aload_n hC te_263_22 rfl ?_
          refine Tx.iload_n hC te_263_23 rfl ?_
          refine Tx.virtI hC te_263_24 mt_265 (args := [.inr 143, .inl x3]) (rest := [.inl x2]) (c' := 0) (s' := 0) rfl rfl rfl rfl rfl rfl rfl rfl rfl rfl ?_
          refine f_265x h (by omega) (fun r9 r9e r9a r9b r9i => ?_)
          subst r9e
          refine Tx.statI hC te_263_27 (by decide) mt_266 (args := [.inl (rBu mem (Int.toNat x3))]) (rest := [.inl x2]) (c' := 0) (s' := 0) rfl rfl rfl rfl rfl rfl rfl ?_
          refine f_266x (by omega) (fun r12 r12e r12i => ?_)
          unfold InI at r12i
          refine Tx.goto hC (t := 34) te_263_30 (by decide) ?_
          refine Tx.iaddW hC te_263_34 (fun z15 z15i z15e => ?_)
          unfold InI at z15i z15e
          first | replace z15e := z15e (by omega) | clear z15e
          refine Tx.istore_n hC te_263_35 rfl ?_
          refine Tx.iincW hC te_263_36 rfl rfl (fun z16 z16i z16e => ?_)
          unfold InI at z16i z16e
          first | replace z16e := z16e (by omega) | clear z16e
          refine Tx.goto hC (t := 4) te_263_39 (by decide) ?_
          exact ih_4 z15 z16 (by omega) (by
                have w := usN_st (f := rUn mem) (g := rBu mem) (u := u) (o := x3) (by omega)
                rw [show z16 = x3 + 1 by omega, w]
                split <;> omega) (by omega)
  refine Tx.iconst hC te_263_0 rfl ?_
  refine Tx.istore_n hC te_263_1 rfl ?_
  refine Tx.iconst hC te_263_2 rfl ?_
  refine Tx.istore_n hC te_263_3 rfl ?_
  exact l_4 _ 0 0 (by omega) (rfl) (Nat.lt_succ_self _)
theorem f_262x {S : Nat × (Nat → Int32)} {n : Nat} {mem : MM} {K : Int → MM → Prop} {E : Nat → MM → Prop} (h : RefOK mem) {p0 : Int} (H0 : 0 ≤ p0 ∧ p0 < 3 → ∀ r, r = usR mem p0 → K r (upm mem 143 0 0)) (H1 : ¬ (0 ≤ p0 ∧ p0 < 3) → K 0 (upm mem 143 0 1)) : CQI (Ex S (n + 3)) 262 [.inr 143, .inl p0] mem K E := by
  refine CY.of (k := 0) mt_262 rfl rfl (fun hv => ?_)
  have hC := Ex.mono S (n + 2)
  have ii_p0 : InI p0 := hv (.inl p0) (by simp)
  unfold InI at ii_p0
  clear hv
  show Tx (Ex S (n + 2)) S M_262 (kI K E) 0 0 0 [some (.inr 143), some (.inl p0)] [] mem
  refine Tx.aload_n hC te_262_0 rfl ?_
  refine Tx.iload_n hC te_262_1 rfl ?_
  refine Tx.iconst hC te_262_2 rfl ?_
  refine Tx.iconst hC te_262_3 rfl ?_
  refine Tx.statI hC te_262_4 (by decide) mt_227 (args := [.inl p0, .inl 0, .inl 2]) (rest := [.inr 143]) (c' := 0) (s' := 0) rfl rfl rfl rfl rfl rfl rfl ?_
  refine CWI.q hC (f_227 (fun r1a r1b r1i => ?_) (fun r1q r1i => ?_))
  · skip
    refine Tx.ifc hC (t := 14) te_262_7 (by decide) (fun q => absurd q (show ¬ ((1 : Int) = 0) by decide)) (fun q => ?_)
    refine Tx.iconst hC te_262_10 rfl ?_
    refine Tx.goto hC (t := 15) te_262_11 (by decide) ?_
    refine Tx.putI hC te_262_15 rfl rfl rfl rfl ?_
    refine Tx.aload_n hC te_262_18 rfl ?_
    refine Tx.getI hC te_262_19 rfl rfl rfl (fun v5 v5e v5i => ?_)
    rw [upm_eq] at v5e
    subst v5e
    clear v5i
    refine Tx.ifc hC (t := 29) te_262_22 (by decide) (fun q => ?_) (fun q => absurd (show (0 : Int) ≤ 0 by decide) q)
    refine Tx.aload_n hC te_262_29 rfl ?_
    refine Tx.iload_n hC te_262_30 rfl ?_
    refine Tx.virtI hC te_262_31 mt_263 (args := [.inr 143, .inl p0]) (rest := []) (c' := 0) (s' := 0) rfl rfl rfl rfl rfl rfl rfl rfl rfl rfl ?_
    refine f_263x (h.th' (by omega)) (fun r6 r6e r6a r6b r6i => ?_)
    unfold InI at r6i
    exact Tx.ireturn hC te_262_34 rfl (fun hr => show K r6 (upm mem 143 0 0) from H0 (by omega) _ (by rw [← usR_th (z := 0)]; omega))
  · skip
    refine Tx.ifc hC (t := 14) te_262_7 (by decide) (fun q => ?_) (fun q => absurd (show (0 : Int) = 0 by decide) q)
    refine Tx.iconst hC te_262_14 rfl ?_
    refine Tx.putI hC te_262_15 rfl rfl rfl rfl ?_
    refine Tx.aload_n hC te_262_18 rfl ?_
    refine Tx.getI hC te_262_19 rfl rfl rfl (fun v10 v10e v10i => ?_)
    rw [upm_eq] at v10e
    subst v10e
    clear v10i
    refine Tx.ifc hC (t := 29) te_262_22 (by decide) (fun q => absurd q (show ¬ ((1 : Int) ≤ 0) by decide)) (fun q => ?_)
    refine Tx.iconst hC te_262_25 rfl ?_
    refine Tx.goto hC (t := 34) te_262_26 (by decide) ?_
    exact Tx.ireturn hC te_262_34 rfl (fun hr => show K 0 (upm mem 143 0 1) from H1 (by omega))
theorem f_238x {S : Nat × (Nat → Int32)} {n : Nat} {mem : MM} {K : Int → MM → Prop} {E : Nat → MM → Prop} (h8 : 0 ≤ mem 143 1 ∧ mem 143 1 ≤ 8) {p0 p1 : Int} (H0 : 0 ≤ p0 ∧ p0 < mem 143 1 → 0 ≤ p1 ∧ p1 ≤ 5 → ∀ r, r = opR mem p0.toNat p1 → K r (upm mem 143 0 0)) (H1 : ¬ (0 ≤ p0 ∧ p0 < mem 143 1) → K 0 (upm mem 143 0 1)) (H2 : 0 ≤ p0 ∧ p0 < mem 143 1 → ¬ (0 ≤ p1 ∧ p1 ≤ 5) → K 0 (upm mem 143 0 2)) : CQI (Ex S (n + 4)) 238 [.inr 143, .inl p0, .inl p1] mem K E := by
  refine CY.of (k := 0) mt_238 rfl rfl (fun hv => ?_)
  have hC := Ex.mono S (n + 3)
  have ii_p0 : InI p0 := hv (.inl p0) (by simp)
  unfold InI at ii_p0
  have ii_p1 : InI p1 := hv (.inl p1) (by simp)
  unfold InI at ii_p1
  clear hv
  show Tx (Ex S (n + 3)) S M_238 (kI K E) 0 0 0 [some (.inr 143), some (.inl p0), some (.inl p1)] [] mem
  refine Tx.aload_n hC te_238_0 rfl ?_
  refine Tx.aload_n hC te_238_1 rfl ?_
  refine Tx.iload_n hC te_238_2 rfl ?_
  refine Tx.virtI hC te_238_3 mt_235 (args := [.inr 143, .inl p0]) (rest := [.inr 143]) (c' := 0) (s' := 0) rfl rfl rfl rfl rfl rfl rfl rfl rfl rfl ?_
  refine f_235x h8 (fun r1s r1i => ?_) (fun r1s r1i => ?_)
  · skip
    refine Tx.ifc hC (t := 13) te_238_6 (by decide) (fun q => ?_) (fun q => absurd (show ¬ (1 : Int) = 0 by decide) q)
    refine Tx.iload_n hC te_238_13 rfl ?_
    refine Tx.iconst hC te_238_14 rfl ?_
    refine Tx.iconst hC te_238_15 rfl ?_
    refine Tx.statI hC te_238_16 (by decide) mt_227 (args := [.inl p1, .inl 0, .inl 5]) (rest := [.inr 143]) (c' := 0) (s' := 0) rfl rfl rfl rfl rfl rfl rfl ?_
    refine CWI.q hC (f_227 (fun r4a r4b r4i => ?_) (fun r4q r4i => ?_))
    · skip
      refine Tx.ifc hC (t := 26) te_238_19 (by decide) (fun q => ?_) (fun q => absurd (show ¬ (1 : Int) = 0 by decide) q)
      refine Tx.iconst hC te_238_26 rfl ?_
      refine Tx.putI hC te_238_27 rfl rfl rfl rfl ?_
      refine Tx.aload_n hC te_238_30 rfl ?_
      refine Tx.getI hC te_238_31 rfl rfl rfl (fun v8 v8e v8i => ?_)
      rw [upm_eq] at v8e
      subst v8e
      clear v8i
      refine Tx.ifc hC (t := 39) te_238_34 (by decide) (fun q => ?_) (fun q => absurd (show (0 : Int) ≤ 0 by decide) q)
      refine Tx.iload_n hC te_238_39 rfl ?_
      refine Tx.tsw hC (t := 111) (ts := [76, 83, 90, 97, 104]) te_238_40 rfl (by decide) rfl (fun q9 => ?_) (fun i t e q9 => ?_)
      · skip
        refine Tx.aload_n hC te_238_111 rfl ?_
        refine Tx.getR hC te_238_112 rfl rfl rfl ?_
        refine Tx.iload_n hC te_238_115 rfl ?_
        refine Tx.iald hC te_238_116 rfl (by omega) (fun v10 v10e v10i => ?_)
        unfold InI at v10i
        rw [upm_ne (by omega)] at v10e
        exact Tx.ireturn hC te_238_117 rfl (fun hr => show K v10 (upm mem 143 0 0) from H0 (by omega) (by omega) _ (by unfold opR; first | (rw [if_pos (by omega)]; assumption) | (rw [if_neg (by omega), if_pos (by omega)]; assumption) | (rw [if_neg (by omega), if_neg (by omega), if_pos (by omega)]; assumption) | (rw [if_neg (by omega), if_neg (by omega), if_neg (by omega), if_pos (by omega)]; assumption) | (rw [if_neg (by omega), if_neg (by omega), if_neg (by omega), if_neg (by omega), if_pos (by omega)]; assumption) | (rw [if_neg (by omega), if_neg (by omega), if_neg (by omega), if_neg (by omega), if_neg (by omega)]; assumption)))
      · have hi : i = 0 ∨ i = 1 ∨ i = 2 ∨ i = 3 ∨ i = 4 := by
          have := (List.getElem?_eq_some_iff.mp e).1
          simp only [List.length_cons, List.length_nil] at this
          omega
        rcases hi with hi | hi | hi | hi | hi
        · subst hi
          cases (show some 76 = some t from e)
          refine Tx.aload_n hC te_238_76 rfl ?_
          refine Tx.getR hC te_238_77 rfl rfl rfl ?_
          refine Tx.iload_n hC te_238_80 rfl ?_
          refine Tx.iald hC te_238_81 rfl (by omega) (fun v12 v12e v12i => ?_)
          unfold InI at v12i
          rw [upm_ne (by omega)] at v12e
          exact Tx.ireturn hC te_238_82 rfl (fun hr => show K v12 (upm mem 143 0 0) from H0 (by omega) (by omega) _ (by unfold opR; first | (rw [if_pos (by omega)]; assumption) | (rw [if_neg (by omega), if_pos (by omega)]; assumption) | (rw [if_neg (by omega), if_neg (by omega), if_pos (by omega)]; assumption) | (rw [if_neg (by omega), if_neg (by omega), if_neg (by omega), if_pos (by omega)]; assumption) | (rw [if_neg (by omega), if_neg (by omega), if_neg (by omega), if_neg (by omega), if_pos (by omega)]; assumption) | (rw [if_neg (by omega), if_neg (by omega), if_neg (by omega), if_neg (by omega), if_neg (by omega)]; assumption)))
        · subst hi
          cases (show some 83 = some t from e)
          refine Tx.aload_n hC te_238_83 rfl ?_
          refine Tx.getR hC te_238_84 rfl rfl rfl ?_
          refine Tx.iload_n hC te_238_87 rfl ?_
          refine Tx.iald hC te_238_88 rfl (by omega) (fun v14 v14e v14i => ?_)
          unfold InI at v14i
          rw [upm_ne (by omega)] at v14e
          exact Tx.ireturn hC te_238_89 rfl (fun hr => show K v14 (upm mem 143 0 0) from H0 (by omega) (by omega) _ (by unfold opR; first | (rw [if_pos (by omega)]; assumption) | (rw [if_neg (by omega), if_pos (by omega)]; assumption) | (rw [if_neg (by omega), if_neg (by omega), if_pos (by omega)]; assumption) | (rw [if_neg (by omega), if_neg (by omega), if_neg (by omega), if_pos (by omega)]; assumption) | (rw [if_neg (by omega), if_neg (by omega), if_neg (by omega), if_neg (by omega), if_pos (by omega)]; assumption) | (rw [if_neg (by omega), if_neg (by omega), if_neg (by omega), if_neg (by omega), if_neg (by omega)]; assumption)))
        · subst hi
          cases (show some 90 = some t from e)
          refine Tx.aload_n hC te_238_90 rfl ?_
          refine Tx.getR hC te_238_91 rfl rfl rfl ?_
          refine Tx.iload_n hC te_238_94 rfl ?_
          refine Tx.iald hC te_238_95 rfl (by omega) (fun v16 v16e v16i => ?_)
          unfold InI at v16i
          rw [upm_ne (by omega)] at v16e
          exact Tx.ireturn hC te_238_96 rfl (fun hr => show K v16 (upm mem 143 0 0) from H0 (by omega) (by omega) _ (by unfold opR; first | (rw [if_pos (by omega)]; assumption) | (rw [if_neg (by omega), if_pos (by omega)]; assumption) | (rw [if_neg (by omega), if_neg (by omega), if_pos (by omega)]; assumption) | (rw [if_neg (by omega), if_neg (by omega), if_neg (by omega), if_pos (by omega)]; assumption) | (rw [if_neg (by omega), if_neg (by omega), if_neg (by omega), if_neg (by omega), if_pos (by omega)]; assumption) | (rw [if_neg (by omega), if_neg (by omega), if_neg (by omega), if_neg (by omega), if_neg (by omega)]; assumption)))
        · subst hi
          cases (show some 97 = some t from e)
          refine Tx.aload_n hC te_238_97 rfl ?_
          refine Tx.getR hC te_238_98 rfl rfl rfl ?_
          refine Tx.iload_n hC te_238_101 rfl ?_
          refine Tx.iald hC te_238_102 rfl (by omega) (fun v18 v18e v18i => ?_)
          unfold InI at v18i
          rw [upm_ne (by omega)] at v18e
          exact Tx.ireturn hC te_238_103 rfl (fun hr => show K v18 (upm mem 143 0 0) from H0 (by omega) (by omega) _ (by unfold opR; first | (rw [if_pos (by omega)]; assumption) | (rw [if_neg (by omega), if_pos (by omega)]; assumption) | (rw [if_neg (by omega), if_neg (by omega), if_pos (by omega)]; assumption) | (rw [if_neg (by omega), if_neg (by omega), if_neg (by omega), if_pos (by omega)]; assumption) | (rw [if_neg (by omega), if_neg (by omega), if_neg (by omega), if_neg (by omega), if_pos (by omega)]; assumption) | (rw [if_neg (by omega), if_neg (by omega), if_neg (by omega), if_neg (by omega), if_neg (by omega)]; assumption)))
        · subst hi
          cases (show some 104 = some t from e)
          refine Tx.aload_n hC te_238_104 rfl ?_
          refine Tx.getR hC te_238_105 rfl rfl rfl ?_
          refine Tx.iload_n hC te_238_108 rfl ?_
          refine Tx.iald hC te_238_109 rfl (by omega) (fun v20 v20e v20i => ?_)
          unfold InI at v20i
          rw [upm_ne (by omega)] at v20e
          exact Tx.ireturn hC te_238_110 rfl (fun hr => show K v20 (upm mem 143 0 0) from H0 (by omega) (by omega) _ (by unfold opR; first | (rw [if_pos (by omega)]; assumption) | (rw [if_neg (by omega), if_pos (by omega)]; assumption) | (rw [if_neg (by omega), if_neg (by omega), if_pos (by omega)]; assumption) | (rw [if_neg (by omega), if_neg (by omega), if_neg (by omega), if_pos (by omega)]; assumption) | (rw [if_neg (by omega), if_neg (by omega), if_neg (by omega), if_neg (by omega), if_pos (by omega)]; assumption) | (rw [if_neg (by omega), if_neg (by omega), if_neg (by omega), if_neg (by omega), if_neg (by omega)]; assumption)))
    · skip
      refine Tx.ifc hC (t := 26) te_238_19 (by decide) (fun q => absurd q (show ¬ (¬ (0 : Int) = 0) by decide)) (fun q => ?_)
      refine Tx.iconst hC te_238_22 rfl ?_
      refine Tx.goto hC (t := 27) te_238_23 (by decide) ?_
      refine Tx.putI hC te_238_27 rfl rfl rfl rfl ?_
      refine Tx.aload_n hC te_238_30 rfl ?_
      refine Tx.getI hC te_238_31 rfl rfl rfl (fun v23 v23e v23i => ?_)
      rw [upm_eq] at v23e
      subst v23e
      clear v23i
      refine Tx.ifc hC (t := 39) te_238_34 (by decide) (fun q => absurd q (show ¬ ((2 : Int) ≤ 0) by decide)) (fun q => ?_)
      refine Tx.iconst hC te_238_37 rfl ?_
      exact Tx.ireturn hC te_238_38 rfl (fun hr => show K 0 (upm mem 143 0 2) from H2 (by omega) (by omega))
  · skip
    refine Tx.ifc hC (t := 13) te_238_6 (by decide) (fun q => absurd q (show ¬ (¬ (0 : Int) = 0) by decide)) (fun q => ?_)
    refine Tx.iconst hC te_238_9 rfl ?_
    refine Tx.goto hC (t := 27) te_238_10 (by decide) ?_
    refine Tx.putI hC te_238_27 rfl rfl rfl rfl ?_
    refine Tx.aload_n hC te_238_30 rfl ?_
    refine Tx.getI hC te_238_31 rfl rfl rfl (fun v25 v25e v25i => ?_)
    rw [upm_eq] at v25e
    subst v25e
    clear v25i
    refine Tx.ifc hC (t := 39) te_238_34 (by decide) (fun q => absurd q (show ¬ ((1 : Int) ≤ 0) by decide)) (fun q => ?_)
    refine Tx.iconst hC te_238_37 rfl ?_
    exact Tx.ireturn hC te_238_38 rfl (fun hr => show K 0 (upm mem 143 0 1) from H1 (by omega))
