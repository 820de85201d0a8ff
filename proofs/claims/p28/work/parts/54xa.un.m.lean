section
/-! laid by wip/hand/tg.py: units of ops, in the class -/
def popI (x : Int) : Int := x % 2 + x / 2 % 2 + x / 4 % 2 + x / 8 % 2
def usN (f g : Nat → Int) (u : Int) : Nat → Int
  | 0 => 0
  | n + 1 => usN f g u n + if f n = u then popI (g n) else 0
theorem popI_rg {x : Int} : 0 ≤ popI x ∧ popI x ≤ 4 := by unfold popI; omega
theorem usN_rg {f g : Nat → Int} {u : Int} : ∀ n : Nat, 0 ≤ usN f g u n ∧ usN f g u n ≤ 4 * n
  | 0 => by unfold usN; omega
  | n + 1 => by
    have := usN_rg (f := f) (g := g) (u := u) n
    have := popI_rg (x := g n)
    unfold usN
    split <;> omega
theorem usN_eq {f g f2 g2 : Nat → Int} {u : Int} : ∀ n : Nat, (∀ o, o < n → f o = f2 o ∧ g o = g2 o) → usN f g u n = usN f2 g2 u n
  | 0, _ => rfl
  | n + 1, h => by
    unfold usN
    rw [usN_eq n (fun o ho => h o (by omega)), (h n (by omega)).1, (h n (by omega)).2]
def cUn (m : MM) (o : Nat) : Int := m 5 (m 2 o).toNat
def cBu (m : MM) (o : Nat) : Int := m 7 (m 2 o).toNat
def cLa (m : MM) (o : Nat) : Int := m 6 (m 2 o).toNat
def rUn (m : MM) (o : Nat) : Int := m 150 (m 144 o).toNat
def rBu (m : MM) (o : Nat) : Int := m 152 (m 144 o).toNat
def usC (m : MM) (u : Int) : Int := usN (cUn m) (cBu m) u (m 1 0).toNat
theorem usN_st {f g : Nat → Int} {u o : Int} (h : 0 ≤ o) : usN f g u (o + 1).toNat = usN f g u o.toNat + if f o.toNat = u then popI (g o.toNat) else 0 := by
  rw [show (o + 1).toNat = o.toNat + 1 by omega]
  rfl
theorem f_39_0 {S : Nat × (Nat → Int32)} {n : Nat} {mem : MM} {K : Int → MM → Prop} {E : Nat → MM → Prop} (H : K 0 mem) : CQI (Ex S (n + 1)) 39 [.inl 0] mem K E := by
  refine CY.of (k := 0) mt_39 rfl rfl (fun _ => ?_)
  have hC := Ex.mono S n
  show Tx (Ex S n) S M_39 (kI K E) 0 0 0 [some (.inl 0)] [] mem
  refine Tx.iload_n hC te_39_0 rfl ?_
  refine Tx.iload_n hC te_39_1 rfl ?_
  refine Tx.iconst hC te_39_2 rfl ?_
  refine Tx.bits hC (f := (fun (x y : Int32) => (x.toUInt32 >>> (y.toUInt32 &&& Int32.toUInt32 31)).toInt32)) te_39_3 (fun _ _ _ _ => Iff.rfl) (fun b1 b1e _ => ?_)
  have b1v : b1 = 0 := b1e.trans (by decide)
  subst b1v
  refine Tx.ldc_w hC (z := 1431655765) te_39_4 rfl rfl rfl rfl ?_
  refine Tx.bits hC (f := (fun (x y : Int32) => x &&& y)) te_39_7 (fun _ _ _ _ => Iff.rfl) (fun b2 b2e _ => ?_)
  have b2v : b2 = 0 := b2e.trans (by decide)
  subst b2v
  refine Tx.isubW hC te_39_8 (fun b3 _ b3e => ?_)
  have b3v : b3 = 0 := b3e (by unfold InI; omega)
  subst b3v
  refine Tx.istore_n hC te_39_9 rfl ?_
  refine Tx.iload_n hC te_39_10 rfl ?_
  refine Tx.ldc_w hC (z := 858993459) te_39_11 rfl rfl rfl rfl ?_
  refine Tx.bits hC (f := (fun (x y : Int32) => x &&& y)) te_39_14 (fun _ _ _ _ => Iff.rfl) (fun b4 b4e _ => ?_)
  have b4v : b4 = 0 := b4e.trans (by decide)
  subst b4v
  refine Tx.iload_n hC te_39_15 rfl ?_
  refine Tx.iconst hC te_39_16 rfl ?_
  refine Tx.bits hC (f := (fun (x y : Int32) => (x.toUInt32 >>> (y.toUInt32 &&& Int32.toUInt32 31)).toInt32)) te_39_17 (fun _ _ _ _ => Iff.rfl) (fun b5 b5e _ => ?_)
  have b5v : b5 = 0 := b5e.trans (by decide)
  subst b5v
  refine Tx.ldc_w hC (z := 858993459) te_39_18 rfl rfl rfl rfl ?_
  refine Tx.bits hC (f := (fun (x y : Int32) => x &&& y)) te_39_21 (fun _ _ _ _ => Iff.rfl) (fun b6 b6e _ => ?_)
  have b6v : b6 = 0 := b6e.trans (by decide)
  subst b6v
  refine Tx.iaddW hC te_39_22 (fun b7 _ b7e => ?_)
  have b7v : b7 = 0 := b7e (by unfold InI; omega)
  subst b7v
  refine Tx.istore_n hC te_39_23 rfl ?_
  refine Tx.iload_n hC te_39_24 rfl ?_
  refine Tx.iload_n hC te_39_25 rfl ?_
  refine Tx.iconst hC te_39_26 rfl ?_
  refine Tx.bits hC (f := (fun (x y : Int32) => (x.toUInt32 >>> (y.toUInt32 &&& Int32.toUInt32 31)).toInt32)) te_39_27 (fun _ _ _ _ => Iff.rfl) (fun b8 b8e _ => ?_)
  have b8v : b8 = 0 := b8e.trans (by decide)
  subst b8v
  refine Tx.iaddW hC te_39_28 (fun b9 _ b9e => ?_)
  have b9v : b9 = 0 := b9e (by unfold InI; omega)
  subst b9v
  refine Tx.ldc_w hC (z := 252645135) te_39_29 rfl rfl rfl rfl ?_
  refine Tx.bits hC (f := (fun (x y : Int32) => x &&& y)) te_39_32 (fun _ _ _ _ => Iff.rfl) (fun b10 b10e _ => ?_)
  have b10v : b10 = 0 := b10e.trans (by decide)
  subst b10v
  refine Tx.istore_n hC te_39_33 rfl ?_
  refine Tx.iload_n hC te_39_34 rfl ?_
  refine Tx.iload_n hC te_39_35 rfl ?_
  refine Tx.bipush hC te_39_36 rfl rfl ?_
  refine Tx.bits hC (f := (fun (x y : Int32) => (x.toUInt32 >>> (y.toUInt32 &&& Int32.toUInt32 31)).toInt32)) te_39_38 (fun _ _ _ _ => Iff.rfl) (fun b11 b11e _ => ?_)
  have b11v : b11 = 0 := b11e.trans (by decide)
  subst b11v
  refine Tx.iaddW hC te_39_39 (fun b12 _ b12e => ?_)
  have b12v : b12 = 0 := b12e (by unfold InI; omega)
  subst b12v
  refine Tx.istore_n hC te_39_40 rfl ?_
  refine Tx.iload_n hC te_39_41 rfl ?_
  refine Tx.iload_n hC te_39_42 rfl ?_
  refine Tx.bipush hC te_39_43 rfl rfl ?_
  refine Tx.bits hC (f := (fun (x y : Int32) => (x.toUInt32 >>> (y.toUInt32 &&& Int32.toUInt32 31)).toInt32)) te_39_45 (fun _ _ _ _ => Iff.rfl) (fun b13 b13e _ => ?_)
  have b13v : b13 = 0 := b13e.trans (by decide)
  subst b13v
  refine Tx.iaddW hC te_39_46 (fun b14 _ b14e => ?_)
  have b14v : b14 = 0 := b14e (by unfold InI; omega)
  subst b14v
  refine Tx.istore_n hC te_39_47 rfl ?_
  refine Tx.iload_n hC te_39_48 rfl ?_
  refine Tx.bipush hC te_39_49 rfl rfl ?_
  refine Tx.bits hC (f := (fun (x y : Int32) => x &&& y)) te_39_51 (fun _ _ _ _ => Iff.rfl) (fun b15 b15e _ => ?_)
  have b15v : b15 = 0 := b15e.trans (by decide)
  subst b15v
  exact Tx.ireturn hC te_39_52 rfl (fun _ => H)
theorem f_39_1 {S : Nat × (Nat → Int32)} {n : Nat} {mem : MM} {K : Int → MM → Prop} {E : Nat → MM → Prop} (H : K 1 mem) : CQI (Ex S (n + 1)) 39 [.inl 1] mem K E := by
  refine CY.of (k := 0) mt_39 rfl rfl (fun _ => ?_)
  have hC := Ex.mono S n
  show Tx (Ex S n) S M_39 (kI K E) 0 0 0 [some (.inl 1)] [] mem
  refine Tx.iload_n hC te_39_0 rfl ?_
  refine Tx.iload_n hC te_39_1 rfl ?_
  refine Tx.iconst hC te_39_2 rfl ?_
  refine Tx.bits hC (f := (fun (x y : Int32) => (x.toUInt32 >>> (y.toUInt32 &&& Int32.toUInt32 31)).toInt32)) te_39_3 (fun _ _ _ _ => Iff.rfl) (fun b1 b1e _ => ?_)
  have b1v : b1 = 0 := b1e.trans (by decide)
  subst b1v
  refine Tx.ldc_w hC (z := 1431655765) te_39_4 rfl rfl rfl rfl ?_
  refine Tx.bits hC (f := (fun (x y : Int32) => x &&& y)) te_39_7 (fun _ _ _ _ => Iff.rfl) (fun b2 b2e _ => ?_)
  have b2v : b2 = 0 := b2e.trans (by decide)
  subst b2v
  refine Tx.isubW hC te_39_8 (fun b3 _ b3e => ?_)
  have b3v : b3 = 1 := b3e (by unfold InI; omega)
  subst b3v
  refine Tx.istore_n hC te_39_9 rfl ?_
  refine Tx.iload_n hC te_39_10 rfl ?_
  refine Tx.ldc_w hC (z := 858993459) te_39_11 rfl rfl rfl rfl ?_
  refine Tx.bits hC (f := (fun (x y : Int32) => x &&& y)) te_39_14 (fun _ _ _ _ => Iff.rfl) (fun b4 b4e _ => ?_)
  have b4v : b4 = 1 := b4e.trans (by decide)
  subst b4v
  refine Tx.iload_n hC te_39_15 rfl ?_
  refine Tx.iconst hC te_39_16 rfl ?_
  refine Tx.bits hC (f := (fun (x y : Int32) => (x.toUInt32 >>> (y.toUInt32 &&& Int32.toUInt32 31)).toInt32)) te_39_17 (fun _ _ _ _ => Iff.rfl) (fun b5 b5e _ => ?_)
  have b5v : b5 = 0 := b5e.trans (by decide)
  subst b5v
  refine Tx.ldc_w hC (z := 858993459) te_39_18 rfl rfl rfl rfl ?_
  refine Tx.bits hC (f := (fun (x y : Int32) => x &&& y)) te_39_21 (fun _ _ _ _ => Iff.rfl) (fun b6 b6e _ => ?_)
  have b6v : b6 = 0 := b6e.trans (by decide)
  subst b6v
  refine Tx.iaddW hC te_39_22 (fun b7 _ b7e => ?_)
  have b7v : b7 = 1 := b7e (by unfold InI; omega)
  subst b7v
  refine Tx.istore_n hC te_39_23 rfl ?_
  refine Tx.iload_n hC te_39_24 rfl ?_
  refine Tx.iload_n hC te_39_25 rfl ?_
  refine Tx.iconst hC te_39_26 rfl ?_
  refine Tx.bits hC (f := (fun (x y : Int32) => (x.toUInt32 >>> (y.toUInt32 &&& Int32.toUInt32 31)).toInt32)) te_39_27 (fun _ _ _ _ => Iff.rfl) (fun b8 b8e _ => ?_)
  have b8v : b8 = 0 := b8e.trans (by decide)
  subst b8v
  refine Tx.iaddW hC te_39_28 (fun b9 _ b9e => ?_)
  have b9v : b9 = 1 := b9e (by unfold InI; omega)
  subst b9v
  refine Tx.ldc_w hC (z := 252645135) te_39_29 rfl rfl rfl rfl ?_
  refine Tx.bits hC (f := (fun (x y : Int32) => x &&& y)) te_39_32 (fun _ _ _ _ => Iff.rfl) (fun b10 b10e _ => ?_)
  have b10v : b10 = 1 := b10e.trans (by decide)
  subst b10v
  refine Tx.istore_n hC te_39_33 rfl ?_
  refine Tx.iload_n hC te_39_34 rfl ?_
  refine Tx.iload_n hC te_39_35 rfl ?_
  refine Tx.bipush hC te_39_36 rfl rfl ?_
  refine Tx.bits hC (f := (fun (x y : Int32) => (x.toUInt32 >>> (y.toUInt32 &&& Int32.toUInt32 31)).toInt32)) te_39_38 (fun _ _ _ _ => Iff.rfl) (fun b11 b11e _ => ?_)
  have b11v : b11 = 0 := b11e.trans (by decide)
  subst b11v
  refine Tx.iaddW hC te_39_39 (fun b12 _ b12e => ?_)
  have b12v : b12 = 1 := b12e (by unfold InI; omega)
  subst b12v
  refine Tx.istore_n hC te_39_40 rfl ?_
  refine Tx.iload_n hC te_39_41 rfl ?_
  refine Tx.iload_n hC te_39_42 rfl ?_
  refine Tx.bipush hC te_39_43 rfl rfl ?_
  refine Tx.bits hC (f := (fun (x y : Int32) => (x.toUInt32 >>> (y.toUInt32 &&& Int32.toUInt32 31)).toInt32)) te_39_45 (fun _ _ _ _ => Iff.rfl) (fun b13 b13e _ => ?_)
  have b13v : b13 = 0 := b13e.trans (by decide)
  subst b13v
  refine Tx.iaddW hC te_39_46 (fun b14 _ b14e => ?_)
  have b14v : b14 = 1 := b14e (by unfold InI; omega)
  subst b14v
  refine Tx.istore_n hC te_39_47 rfl ?_
  refine Tx.iload_n hC te_39_48 rfl ?_
  refine Tx.bipush hC te_39_49 rfl rfl ?_
  refine Tx.bits hC (f := (fun (x y : Int32) => x &&& y)) te_39_51 (fun _ _ _ _ => Iff.rfl) (fun b15 b15e _ => ?_)
  have b15v : b15 = 1 := b15e.trans (by decide)
  subst b15v
  exact Tx.ireturn hC te_39_52 rfl (fun _ => H)
theorem f_39_2 {S : Nat × (Nat → Int32)} {n : Nat} {mem : MM} {K : Int → MM → Prop} {E : Nat → MM → Prop} (H : K 1 mem) : CQI (Ex S (n + 1)) 39 [.inl 2] mem K E := by
  refine CY.of (k := 0) mt_39 rfl rfl (fun _ => ?_)
  have hC := Ex.mono S n
  show Tx (Ex S n) S M_39 (kI K E) 0 0 0 [some (.inl 2)] [] mem
  refine Tx.iload_n hC te_39_0 rfl ?_
  refine Tx.iload_n hC te_39_1 rfl ?_
  refine Tx.iconst hC te_39_2 rfl ?_
  refine Tx.bits hC (f := (fun (x y : Int32) => (x.toUInt32 >>> (y.toUInt32 &&& Int32.toUInt32 31)).toInt32)) te_39_3 (fun _ _ _ _ => Iff.rfl) (fun b1 b1e _ => ?_)
  have b1v : b1 = 1 := b1e.trans (by decide)
  subst b1v
  refine Tx.ldc_w hC (z := 1431655765) te_39_4 rfl rfl rfl rfl ?_
  refine Tx.bits hC (f := (fun (x y : Int32) => x &&& y)) te_39_7 (fun _ _ _ _ => Iff.rfl) (fun b2 b2e _ => ?_)
  have b2v : b2 = 1 := b2e.trans (by decide)
  subst b2v
  refine Tx.isubW hC te_39_8 (fun b3 _ b3e => ?_)
  have b3v : b3 = 1 := b3e (by unfold InI; omega)
  subst b3v
  refine Tx.istore_n hC te_39_9 rfl ?_
  refine Tx.iload_n hC te_39_10 rfl ?_
  refine Tx.ldc_w hC (z := 858993459) te_39_11 rfl rfl rfl rfl ?_
  refine Tx.bits hC (f := (fun (x y : Int32) => x &&& y)) te_39_14 (fun _ _ _ _ => Iff.rfl) (fun b4 b4e _ => ?_)
  have b4v : b4 = 1 := b4e.trans (by decide)
  subst b4v
  refine Tx.iload_n hC te_39_15 rfl ?_
  refine Tx.iconst hC te_39_16 rfl ?_
  refine Tx.bits hC (f := (fun (x y : Int32) => (x.toUInt32 >>> (y.toUInt32 &&& Int32.toUInt32 31)).toInt32)) te_39_17 (fun _ _ _ _ => Iff.rfl) (fun b5 b5e _ => ?_)
  have b5v : b5 = 0 := b5e.trans (by decide)
  subst b5v
  refine Tx.ldc_w hC (z := 858993459) te_39_18 rfl rfl rfl rfl ?_
  refine Tx.bits hC (f := (fun (x y : Int32) => x &&& y)) te_39_21 (fun _ _ _ _ => Iff.rfl) (fun b6 b6e _ => ?_)
  have b6v : b6 = 0 := b6e.trans (by decide)
  subst b6v
  refine Tx.iaddW hC te_39_22 (fun b7 _ b7e => ?_)
  have b7v : b7 = 1 := b7e (by unfold InI; omega)
  subst b7v
  refine Tx.istore_n hC te_39_23 rfl ?_
  refine Tx.iload_n hC te_39_24 rfl ?_
  refine Tx.iload_n hC te_39_25 rfl ?_
  refine Tx.iconst hC te_39_26 rfl ?_
  refine Tx.bits hC (f := (fun (x y : Int32) => (x.toUInt32 >>> (y.toUInt32 &&& Int32.toUInt32 31)).toInt32)) te_39_27 (fun _ _ _ _ => Iff.rfl) (fun b8 b8e _ => ?_)
  have b8v : b8 = 0 := b8e.trans (by decide)
  subst b8v
  refine Tx.iaddW hC te_39_28 (fun b9 _ b9e => ?_)
  have b9v : b9 = 1 := b9e (by unfold InI; omega)
  subst b9v
  refine Tx.ldc_w hC (z := 252645135) te_39_29 rfl rfl rfl rfl ?_
  refine Tx.bits hC (f := (fun (x y : Int32) => x &&& y)) te_39_32 (fun _ _ _ _ => Iff.rfl) (fun b10 b10e _ => ?_)
  have b10v : b10 = 1 := b10e.trans (by decide)
  subst b10v
  refine Tx.istore_n hC te_39_33 rfl ?_
  refine Tx.iload_n hC te_39_34 rfl ?_
  refine Tx.iload_n hC te_39_35 rfl ?_
  refine Tx.bipush hC te_39_36 rfl rfl ?_
  refine Tx.bits hC (f := (fun (x y : Int32) => (x.toUInt32 >>> (y.toUInt32 &&& Int32.toUInt32 31)).toInt32)) te_39_38 (fun _ _ _ _ => Iff.rfl) (fun b11 b11e _ => ?_)
  have b11v : b11 = 0 := b11e.trans (by decide)
  subst b11v
  refine Tx.iaddW hC te_39_39 (fun b12 _ b12e => ?_)
  have b12v : b12 = 1 := b12e (by unfold InI; omega)
  subst b12v
  refine Tx.istore_n hC te_39_40 rfl ?_
  refine Tx.iload_n hC te_39_41 rfl ?_
  refine Tx.iload_n hC te_39_42 rfl ?_
  refine Tx.bipush hC te_39_43 rfl rfl ?_
  refine Tx.bits hC (f := (fun (x y : Int32) => (x.toUInt32 >>> (y.toUInt32 &&& Int32.toUInt32 31)).toInt32)) te_39_45 (fun _ _ _ _ => Iff.rfl) (fun b13 b13e _ => ?_)
  have b13v : b13 = 0 := b13e.trans (by decide)
  subst b13v
  refine Tx.iaddW hC te_39_46 (fun b14 _ b14e => ?_)
  have b14v : b14 = 1 := b14e (by unfold InI; omega)
  subst b14v
  refine Tx.istore_n hC te_39_47 rfl ?_
  refine Tx.iload_n hC te_39_48 rfl ?_
  refine Tx.bipush hC te_39_49 rfl rfl ?_
  refine Tx.bits hC (f := (fun (x y : Int32) => x &&& y)) te_39_51 (fun _ _ _ _ => Iff.rfl) (fun b15 b15e _ => ?_)
  have b15v : b15 = 1 := b15e.trans (by decide)
  subst b15v
  exact Tx.ireturn hC te_39_52 rfl (fun _ => H)
theorem f_39_3 {S : Nat × (Nat → Int32)} {n : Nat} {mem : MM} {K : Int → MM → Prop} {E : Nat → MM → Prop} (H : K 2 mem) : CQI (Ex S (n + 1)) 39 [.inl 3] mem K E := by
  refine CY.of (k := 0) mt_39 rfl rfl (fun _ => ?_)
  have hC := Ex.mono S n
  show Tx (Ex S n) S M_39 (kI K E) 0 0 0 [some (.inl 3)] [] mem
  refine Tx.iload_n hC te_39_0 rfl ?_
  refine Tx.iload_n hC te_39_1 rfl ?_
  refine Tx.iconst hC te_39_2 rfl ?_
  refine Tx.bits hC (f := (fun (x y : Int32) => (x.toUInt32 >>> (y.toUInt32 &&& Int32.toUInt32 31)).toInt32)) te_39_3 (fun _ _ _ _ => Iff.rfl) (fun b1 b1e _ => ?_)
  have b1v : b1 = 1 := b1e.trans (by decide)
  subst b1v
  refine Tx.ldc_w hC (z := 1431655765) te_39_4 rfl rfl rfl rfl ?_
  refine Tx.bits hC (f := (fun (x y : Int32) => x &&& y)) te_39_7 (fun _ _ _ _ => Iff.rfl) (fun b2 b2e _ => ?_)
  have b2v : b2 = 1 := b2e.trans (by decide)
  subst b2v
  refine Tx.isubW hC te_39_8 (fun b3 _ b3e => ?_)
  have b3v : b3 = 2 := b3e (by unfold InI; omega)
  subst b3v
  refine Tx.istore_n hC te_39_9 rfl ?_
  refine Tx.iload_n hC te_39_10 rfl ?_
  refine Tx.ldc_w hC (z := 858993459) te_39_11 rfl rfl rfl rfl ?_
  refine Tx.bits hC (f := (fun (x y : Int32) => x &&& y)) te_39_14 (fun _ _ _ _ => Iff.rfl) (fun b4 b4e _ => ?_)
  have b4v : b4 = 2 := b4e.trans (by decide)
  subst b4v
  refine Tx.iload_n hC te_39_15 rfl ?_
  refine Tx.iconst hC te_39_16 rfl ?_
  refine Tx.bits hC (f := (fun (x y : Int32) => (x.toUInt32 >>> (y.toUInt32 &&& Int32.toUInt32 31)).toInt32)) te_39_17 (fun _ _ _ _ => Iff.rfl) (fun b5 b5e _ => ?_)
  have b5v : b5 = 0 := b5e.trans (by decide)
  subst b5v
  refine Tx.ldc_w hC (z := 858993459) te_39_18 rfl rfl rfl rfl ?_
  refine Tx.bits hC (f := (fun (x y : Int32) => x &&& y)) te_39_21 (fun _ _ _ _ => Iff.rfl) (fun b6 b6e _ => ?_)
  have b6v : b6 = 0 := b6e.trans (by decide)
  subst b6v
  refine Tx.iaddW hC te_39_22 (fun b7 _ b7e => ?_)
  have b7v : b7 = 2 := b7e (by unfold InI; omega)
  subst b7v
  refine Tx.istore_n hC te_39_23 rfl ?_
  refine Tx.iload_n hC te_39_24 rfl ?_
  refine Tx.iload_n hC te_39_25 rfl ?_
  refine Tx.iconst hC te_39_26 rfl ?_
  refine Tx.bits hC (f := (fun (x y : Int32) => (x.toUInt32 >>> (y.toUInt32 &&& Int32.toUInt32 31)).toInt32)) te_39_27 (fun _ _ _ _ => Iff.rfl) (fun b8 b8e _ => ?_)
  have b8v : b8 = 0 := b8e.trans (by decide)
  subst b8v
  refine Tx.iaddW hC te_39_28 (fun b9 _ b9e => ?_)
  have b9v : b9 = 2 := b9e (by unfold InI; omega)
  subst b9v
  refine Tx.ldc_w hC (z := 252645135) te_39_29 rfl rfl rfl rfl ?_
  refine Tx.bits hC (f := (fun (x y : Int32) => x &&& y)) te_39_32 (fun _ _ _ _ => Iff.rfl) (fun b10 b10e _ => ?_)
  have b10v : b10 = 2 := b10e.trans (by decide)
  subst b10v
  refine Tx.istore_n hC te_39_33 rfl ?_
  refine Tx.iload_n hC te_39_34 rfl ?_
  refine Tx.iload_n hC te_39_35 rfl ?_
  refine Tx.bipush hC te_39_36 rfl rfl ?_
  refine Tx.bits hC (f := (fun (x y : Int32) => (x.toUInt32 >>> (y.toUInt32 &&& Int32.toUInt32 31)).toInt32)) te_39_38 (fun _ _ _ _ => Iff.rfl) (fun b11 b11e _ => ?_)
  have b11v : b11 = 0 := b11e.trans (by decide)
  subst b11v
  refine Tx.iaddW hC te_39_39 (fun b12 _ b12e => ?_)
  have b12v : b12 = 2 := b12e (by unfold InI; omega)
  subst b12v
  refine Tx.istore_n hC te_39_40 rfl ?_
  refine Tx.iload_n hC te_39_41 rfl ?_
  refine Tx.iload_n hC te_39_42 rfl ?_
  refine Tx.bipush hC te_39_43 rfl rfl ?_
  refine Tx.bits hC (f := (fun (x y : Int32) => (x.toUInt32 >>> (y.toUInt32 &&& Int32.toUInt32 31)).toInt32)) te_39_45 (fun _ _ _ _ => Iff.rfl) (fun b13 b13e _ => ?_)
  have b13v : b13 = 0 := b13e.trans (by decide)
  subst b13v
  refine Tx.iaddW hC te_39_46 (fun b14 _ b14e => ?_)
  have b14v : b14 = 2 := b14e (by unfold InI; omega)
  subst b14v
  refine Tx.istore_n hC te_39_47 rfl ?_
  refine Tx.iload_n hC te_39_48 rfl ?_
  refine Tx.bipush hC te_39_49 rfl rfl ?_
  refine Tx.bits hC (f := (fun (x y : Int32) => x &&& y)) te_39_51 (fun _ _ _ _ => Iff.rfl) (fun b15 b15e _ => ?_)
  have b15v : b15 = 2 := b15e.trans (by decide)
  subst b15v
  exact Tx.ireturn hC te_39_52 rfl (fun _ => H)
theorem f_39_4 {S : Nat × (Nat → Int32)} {n : Nat} {mem : MM} {K : Int → MM → Prop} {E : Nat → MM → Prop} (H : K 1 mem) : CQI (Ex S (n + 1)) 39 [.inl 4] mem K E := by
  refine CY.of (k := 0) mt_39 rfl rfl (fun _ => ?_)
  have hC := Ex.mono S n
  show Tx (Ex S n) S M_39 (kI K E) 0 0 0 [some (.inl 4)] [] mem
  refine Tx.iload_n hC te_39_0 rfl ?_
  refine Tx.iload_n hC te_39_1 rfl ?_
  refine Tx.iconst hC te_39_2 rfl ?_
  refine Tx.bits hC (f := (fun (x y : Int32) => (x.toUInt32 >>> (y.toUInt32 &&& Int32.toUInt32 31)).toInt32)) te_39_3 (fun _ _ _ _ => Iff.rfl) (fun b1 b1e _ => ?_)
  have b1v : b1 = 2 := b1e.trans (by decide)
  subst b1v
  refine Tx.ldc_w hC (z := 1431655765) te_39_4 rfl rfl rfl rfl ?_
  refine Tx.bits hC (f := (fun (x y : Int32) => x &&& y)) te_39_7 (fun _ _ _ _ => Iff.rfl) (fun b2 b2e _ => ?_)
  have b2v : b2 = 0 := b2e.trans (by decide)
  subst b2v
  refine Tx.isubW hC te_39_8 (fun b3 _ b3e => ?_)
  have b3v : b3 = 4 := b3e (by unfold InI; omega)
  subst b3v
  refine Tx.istore_n hC te_39_9 rfl ?_
  refine Tx.iload_n hC te_39_10 rfl ?_
  refine Tx.ldc_w hC (z := 858993459) te_39_11 rfl rfl rfl rfl ?_
  refine Tx.bits hC (f := (fun (x y : Int32) => x &&& y)) te_39_14 (fun _ _ _ _ => Iff.rfl) (fun b4 b4e _ => ?_)
  have b4v : b4 = 0 := b4e.trans (by decide)
  subst b4v
  refine Tx.iload_n hC te_39_15 rfl ?_
  refine Tx.iconst hC te_39_16 rfl ?_
  refine Tx.bits hC (f := (fun (x y : Int32) => (x.toUInt32 >>> (y.toUInt32 &&& Int32.toUInt32 31)).toInt32)) te_39_17 (fun _ _ _ _ => Iff.rfl) (fun b5 b5e _ => ?_)
  have b5v : b5 = 1 := b5e.trans (by decide)
  subst b5v
  refine Tx.ldc_w hC (z := 858993459) te_39_18 rfl rfl rfl rfl ?_
  refine Tx.bits hC (f := (fun (x y : Int32) => x &&& y)) te_39_21 (fun _ _ _ _ => Iff.rfl) (fun b6 b6e _ => ?_)
  have b6v : b6 = 1 := b6e.trans (by decide)
  subst b6v
  refine Tx.iaddW hC te_39_22 (fun b7 _ b7e => ?_)
  have b7v : b7 = 1 := b7e (by unfold InI; omega)
  subst b7v
  refine Tx.istore_n hC te_39_23 rfl ?_
  refine Tx.iload_n hC te_39_24 rfl ?_
  refine Tx.iload_n hC te_39_25 rfl ?_
  refine Tx.iconst hC te_39_26 rfl ?_
  refine Tx.bits hC (f := (fun (x y : Int32) => (x.toUInt32 >>> (y.toUInt32 &&& Int32.toUInt32 31)).toInt32)) te_39_27 (fun _ _ _ _ => Iff.rfl) (fun b8 b8e _ => ?_)
  have b8v : b8 = 0 := b8e.trans (by decide)
  subst b8v
  refine Tx.iaddW hC te_39_28 (fun b9 _ b9e => ?_)
  have b9v : b9 = 1 := b9e (by unfold InI; omega)
  subst b9v
  refine Tx.ldc_w hC (z := 252645135) te_39_29 rfl rfl rfl rfl ?_
  refine Tx.bits hC (f := (fun (x y : Int32) => x &&& y)) te_39_32 (fun _ _ _ _ => Iff.rfl) (fun b10 b10e _ => ?_)
  have b10v : b10 = 1 := b10e.trans (by decide)
  subst b10v
  refine Tx.istore_n hC te_39_33 rfl ?_
  refine Tx.iload_n hC te_39_34 rfl ?_
  refine Tx.iload_n hC te_39_35 rfl ?_
  refine Tx.bipush hC te_39_36 rfl rfl ?_
  refine Tx.bits hC (f := (fun (x y : Int32) => (x.toUInt32 >>> (y.toUInt32 &&& Int32.toUInt32 31)).toInt32)) te_39_38 (fun _ _ _ _ => Iff.rfl) (fun b11 b11e _ => ?_)
  have b11v : b11 = 0 := b11e.trans (by decide)
  subst b11v
  refine Tx.iaddW hC te_39_39 (fun b12 _ b12e => ?_)
  have b12v : b12 = 1 := b12e (by unfold InI; omega)
  subst b12v
  refine Tx.istore_n hC te_39_40 rfl ?_
  refine Tx.iload_n hC te_39_41 rfl ?_
  refine Tx.iload_n hC te_39_42 rfl ?_
  refine Tx.bipush hC te_39_43 rfl rfl ?_
  refine Tx.bits hC (f := (fun (x y : Int32) => (x.toUInt32 >>> (y.toUInt32 &&& Int32.toUInt32 31)).toInt32)) te_39_45 (fun _ _ _ _ => Iff.rfl) (fun b13 b13e _ => ?_)
  have b13v : b13 = 0 := b13e.trans (by decide)
  subst b13v
  refine Tx.iaddW hC te_39_46 (fun b14 _ b14e => ?_)
  have b14v : b14 = 1 := b14e (by unfold InI; omega)
  subst b14v
  refine Tx.istore_n hC te_39_47 rfl ?_
  refine Tx.iload_n hC te_39_48 rfl ?_
  refine Tx.bipush hC te_39_49 rfl rfl ?_
  refine Tx.bits hC (f := (fun (x y : Int32) => x &&& y)) te_39_51 (fun _ _ _ _ => Iff.rfl) (fun b15 b15e _ => ?_)
  have b15v : b15 = 1 := b15e.trans (by decide)
  subst b15v
  exact Tx.ireturn hC te_39_52 rfl (fun _ => H)
theorem f_39_5 {S : Nat × (Nat → Int32)} {n : Nat} {mem : MM} {K : Int → MM → Prop} {E : Nat → MM → Prop} (H : K 2 mem) : CQI (Ex S (n + 1)) 39 [.inl 5] mem K E := by
  refine CY.of (k := 0) mt_39 rfl rfl (fun _ => ?_)
  have hC := Ex.mono S n
  show Tx (Ex S n) S M_39 (kI K E) 0 0 0 [some (.inl 5)] [] mem
  refine Tx.iload_n hC te_39_0 rfl ?_
  refine Tx.iload_n hC te_39_1 rfl ?_
  refine Tx.iconst hC te_39_2 rfl ?_
  refine Tx.bits hC (f := (fun (x y : Int32) => (x.toUInt32 >>> (y.toUInt32 &&& Int32.toUInt32 31)).toInt32)) te_39_3 (fun _ _ _ _ => Iff.rfl) (fun b1 b1e _ => ?_)
  have b1v : b1 = 2 := b1e.trans (by decide)
  subst b1v
  refine Tx.ldc_w hC (z := 1431655765) te_39_4 rfl rfl rfl rfl ?_
  refine Tx.bits hC (f := (fun (x y : Int32) => x &&& y)) te_39_7 (fun _ _ _ _ => Iff.rfl) (fun b2 b2e _ => ?_)
  have b2v : b2 = 0 := b2e.trans (by decide)
  subst b2v
  refine Tx.isubW hC te_39_8 (fun b3 _ b3e => ?_)
  have b3v : b3 = 5 := b3e (by unfold InI; omega)
  subst b3v
  refine Tx.istore_n hC te_39_9 rfl ?_
  refine Tx.iload_n hC te_39_10 rfl ?_
  refine Tx.ldc_w hC (z := 858993459) te_39_11 rfl rfl rfl rfl ?_
  refine Tx.bits hC (f := (fun (x y : Int32) => x &&& y)) te_39_14 (fun _ _ _ _ => Iff.rfl) (fun b4 b4e _ => ?_)
  have b4v : b4 = 1 := b4e.trans (by decide)
  subst b4v
  refine Tx.iload_n hC te_39_15 rfl ?_
  refine Tx.iconst hC te_39_16 rfl ?_
  refine Tx.bits hC (f := (fun (x y : Int32) => (x.toUInt32 >>> (y.toUInt32 &&& Int32.toUInt32 31)).toInt32)) te_39_17 (fun _ _ _ _ => Iff.rfl) (fun b5 b5e _ => ?_)
  have b5v : b5 = 1 := b5e.trans (by decide)
  subst b5v
  refine Tx.ldc_w hC (z := 858993459) te_39_18 rfl rfl rfl rfl ?_
  refine Tx.bits hC (f := (fun (x y : Int32) => x &&& y)) te_39_21 (fun _ _ _ _ => Iff.rfl) (fun b6 b6e _ => ?_)
  have b6v : b6 = 1 := b6e.trans (by decide)
  subst b6v
  refine Tx.iaddW hC te_39_22 (fun b7 _ b7e => ?_)
  have b7v : b7 = 2 := b7e (by unfold InI; omega)
  subst b7v
  refine Tx.istore_n hC te_39_23 rfl ?_
  refine Tx.iload_n hC te_39_24 rfl ?_
  refine Tx.iload_n hC te_39_25 rfl ?_
  refine Tx.iconst hC te_39_26 rfl ?_
  refine Tx.bits hC (f := (fun (x y : Int32) => (x.toUInt32 >>> (y.toUInt32 &&& Int32.toUInt32 31)).toInt32)) te_39_27 (fun _ _ _ _ => Iff.rfl) (fun b8 b8e _ => ?_)
  have b8v : b8 = 0 := b8e.trans (by decide)
  subst b8v
  refine Tx.iaddW hC te_39_28 (fun b9 _ b9e => ?_)
  have b9v : b9 = 2 := b9e (by unfold InI; omega)
  subst b9v
  refine Tx.ldc_w hC (z := 252645135) te_39_29 rfl rfl rfl rfl ?_
  refine Tx.bits hC (f := (fun (x y : Int32) => x &&& y)) te_39_32 (fun _ _ _ _ => Iff.rfl) (fun b10 b10e _ => ?_)
  have b10v : b10 = 2 := b10e.trans (by decide)
  subst b10v
  refine Tx.istore_n hC te_39_33 rfl ?_
  refine Tx.iload_n hC te_39_34 rfl ?_
  refine Tx.iload_n hC te_39_35 rfl ?_
  refine Tx.bipush hC te_39_36 rfl rfl ?_
  refine Tx.bits hC (f := (fun (x y : Int32) => (x.toUInt32 >>> (y.toUInt32 &&& Int32.toUInt32 31)).toInt32)) te_39_38 (fun _ _ _ _ => Iff.rfl) (fun b11 b11e _ => ?_)
  have b11v : b11 = 0 := b11e.trans (by decide)
  subst b11v
  refine Tx.iaddW hC te_39_39 (fun b12 _ b12e => ?_)
  have b12v : b12 = 2 := b12e (by unfold InI; omega)
  subst b12v
  refine Tx.istore_n hC te_39_40 rfl ?_
  refine Tx.iload_n hC te_39_41 rfl ?_
  refine Tx.iload_n hC te_39_42 rfl ?_
  refine Tx.bipush hC te_39_43 rfl rfl ?_
  refine Tx.bits hC (f := (fun (x y : Int32) => (x.toUInt32 >>> (y.toUInt32 &&& Int32.toUInt32 31)).toInt32)) te_39_45 (fun _ _ _ _ => Iff.rfl) (fun b13 b13e _ => ?_)
  have b13v : b13 = 0 := b13e.trans (by decide)
  subst b13v
  refine Tx.iaddW hC te_39_46 (fun b14 _ b14e => ?_)
  have b14v : b14 = 2 := b14e (by unfold InI; omega)
  subst b14v
  refine Tx.istore_n hC te_39_47 rfl ?_
  refine Tx.iload_n hC te_39_48 rfl ?_
  refine Tx.bipush hC te_39_49 rfl rfl ?_
  refine Tx.bits hC (f := (fun (x y : Int32) => x &&& y)) te_39_51 (fun _ _ _ _ => Iff.rfl) (fun b15 b15e _ => ?_)
  have b15v : b15 = 2 := b15e.trans (by decide)
  subst b15v
  exact Tx.ireturn hC te_39_52 rfl (fun _ => H)
theorem f_39_6 {S : Nat × (Nat → Int32)} {n : Nat} {mem : MM} {K : Int → MM → Prop} {E : Nat → MM → Prop} (H : K 2 mem) : CQI (Ex S (n + 1)) 39 [.inl 6] mem K E := by
  refine CY.of (k := 0) mt_39 rfl rfl (fun _ => ?_)
  have hC := Ex.mono S n
  show Tx (Ex S n) S M_39 (kI K E) 0 0 0 [some (.inl 6)] [] mem
  refine Tx.iload_n hC te_39_0 rfl ?_
  refine Tx.iload_n hC te_39_1 rfl ?_
  refine Tx.iconst hC te_39_2 rfl ?_
  refine Tx.bits hC (f := (fun (x y : Int32) => (x.toUInt32 >>> (y.toUInt32 &&& Int32.toUInt32 31)).toInt32)) te_39_3 (fun _ _ _ _ => Iff.rfl) (fun b1 b1e _ => ?_)
  have b1v : b1 = 3 := b1e.trans (by decide)
  subst b1v
  refine Tx.ldc_w hC (z := 1431655765) te_39_4 rfl rfl rfl rfl ?_
  refine Tx.bits hC (f := (fun (x y : Int32) => x &&& y)) te_39_7 (fun _ _ _ _ => Iff.rfl) (fun b2 b2e _ => ?_)
  have b2v : b2 = 1 := b2e.trans (by decide)
  subst b2v
  refine Tx.isubW hC te_39_8 (fun b3 _ b3e => ?_)
  have b3v : b3 = 5 := b3e (by unfold InI; omega)
  subst b3v
  refine Tx.istore_n hC te_39_9 rfl ?_
  refine Tx.iload_n hC te_39_10 rfl ?_
  refine Tx.ldc_w hC (z := 858993459) te_39_11 rfl rfl rfl rfl ?_
  refine Tx.bits hC (f := (fun (x y : Int32) => x &&& y)) te_39_14 (fun _ _ _ _ => Iff.rfl) (fun b4 b4e _ => ?_)
  have b4v : b4 = 1 := b4e.trans (by decide)
  subst b4v
  refine Tx.iload_n hC te_39_15 rfl ?_
  refine Tx.iconst hC te_39_16 rfl ?_
  refine Tx.bits hC (f := (fun (x y : Int32) => (x.toUInt32 >>> (y.toUInt32 &&& Int32.toUInt32 31)).toInt32)) te_39_17 (fun _ _ _ _ => Iff.rfl) (fun b5 b5e _ => ?_)
  have b5v : b5 = 1 := b5e.trans (by decide)
  subst b5v
  refine Tx.ldc_w hC (z := 858993459) te_39_18 rfl rfl rfl rfl ?_
  refine Tx.bits hC (f := (fun (x y : Int32) => x &&& y)) te_39_21 (fun _ _ _ _ => Iff.rfl) (fun b6 b6e _ => ?_)
  have b6v : b6 = 1 := b6e.trans (by decide)
  subst b6v
  refine Tx.iaddW hC te_39_22 (fun b7 _ b7e => ?_)
  have b7v : b7 = 2 := b7e (by unfold InI; omega)
  subst b7v
  refine Tx.istore_n hC te_39_23 rfl ?_
  refine Tx.iload_n hC te_39_24 rfl ?_
  refine Tx.iload_n hC te_39_25 rfl ?_
  refine Tx.iconst hC te_39_26 rfl ?_
  refine Tx.bits hC (f := (fun (x y : Int32) => (x.toUInt32 >>> (y.toUInt32 &&& Int32.toUInt32 31)).toInt32)) te_39_27 (fun _ _ _ _ => Iff.rfl) (fun b8 b8e _ => ?_)
  have b8v : b8 = 0 := b8e.trans (by decide)
  subst b8v
  refine Tx.iaddW hC te_39_28 (fun b9 _ b9e => ?_)
  have b9v : b9 = 2 := b9e (by unfold InI; omega)
  subst b9v
  refine Tx.ldc_w hC (z := 252645135) te_39_29 rfl rfl rfl rfl ?_
  refine Tx.bits hC (f := (fun (x y : Int32) => x &&& y)) te_39_32 (fun _ _ _ _ => Iff.rfl) (fun b10 b10e _ => ?_)
  have b10v : b10 = 2 := b10e.trans (by decide)
  subst b10v
  refine Tx.istore_n hC te_39_33 rfl ?_
  refine Tx.iload_n hC te_39_34 rfl ?_
  refine Tx.iload_n hC te_39_35 rfl ?_
  refine Tx.bipush hC te_39_36 rfl rfl ?_
  refine Tx.bits hC (f := (fun (x y : Int32) => (x.toUInt32 >>> (y.toUInt32 &&& Int32.toUInt32 31)).toInt32)) te_39_38 (fun _ _ _ _ => Iff.rfl) (fun b11 b11e _ => ?_)
  have b11v : b11 = 0 := b11e.trans (by decide)
  subst b11v
  refine Tx.iaddW hC te_39_39 (fun b12 _ b12e => ?_)
  have b12v : b12 = 2 := b12e (by unfold InI; omega)
  subst b12v
  refine Tx.istore_n hC te_39_40 rfl ?_
  refine Tx.iload_n hC te_39_41 rfl ?_
  refine Tx.iload_n hC te_39_42 rfl ?_
  refine Tx.bipush hC te_39_43 rfl rfl ?_
  refine Tx.bits hC (f := (fun (x y : Int32) => (x.toUInt32 >>> (y.toUInt32 &&& Int32.toUInt32 31)).toInt32)) te_39_45 (fun _ _ _ _ => Iff.rfl) (fun b13 b13e _ => ?_)
  have b13v : b13 = 0 := b13e.trans (by decide)
  subst b13v
  refine Tx.iaddW hC te_39_46 (fun b14 _ b14e => ?_)
  have b14v : b14 = 2 := b14e (by unfold InI; omega)
  subst b14v
  refine Tx.istore_n hC te_39_47 rfl ?_
  refine Tx.iload_n hC te_39_48 rfl ?_
  refine Tx.bipush hC te_39_49 rfl rfl ?_
  refine Tx.bits hC (f := (fun (x y : Int32) => x &&& y)) te_39_51 (fun _ _ _ _ => Iff.rfl) (fun b15 b15e _ => ?_)
  have b15v : b15 = 2 := b15e.trans (by decide)
  subst b15v
  exact Tx.ireturn hC te_39_52 rfl (fun _ => H)
theorem f_39_7 {S : Nat × (Nat → Int32)} {n : Nat} {mem : MM} {K : Int → MM → Prop} {E : Nat → MM → Prop} (H : K 3 mem) : CQI (Ex S (n + 1)) 39 [.inl 7] mem K E := by
  refine CY.of (k := 0) mt_39 rfl rfl (fun _ => ?_)
  have hC := Ex.mono S n
  show Tx (Ex S n) S M_39 (kI K E) 0 0 0 [some (.inl 7)] [] mem
  refine Tx.iload_n hC te_39_0 rfl ?_
  refine Tx.iload_n hC te_39_1 rfl ?_
  refine Tx.iconst hC te_39_2 rfl ?_
  refine Tx.bits hC (f := (fun (x y : Int32) => (x.toUInt32 >>> (y.toUInt32 &&& Int32.toUInt32 31)).toInt32)) te_39_3 (fun _ _ _ _ => Iff.rfl) (fun b1 b1e _ => ?_)
  have b1v : b1 = 3 := b1e.trans (by decide)
  subst b1v
  refine Tx.ldc_w hC (z := 1431655765) te_39_4 rfl rfl rfl rfl ?_
  refine Tx.bits hC (f := (fun (x y : Int32) => x &&& y)) te_39_7 (fun _ _ _ _ => Iff.rfl) (fun b2 b2e _ => ?_)
  have b2v : b2 = 1 := b2e.trans (by decide)
  subst b2v
  refine Tx.isubW hC te_39_8 (fun b3 _ b3e => ?_)
  have b3v : b3 = 6 := b3e (by unfold InI; omega)
  subst b3v
  refine Tx.istore_n hC te_39_9 rfl ?_
  refine Tx.iload_n hC te_39_10 rfl ?_
  refine Tx.ldc_w hC (z := 858993459) te_39_11 rfl rfl rfl rfl ?_
  refine Tx.bits hC (f := (fun (x y : Int32) => x &&& y)) te_39_14 (fun _ _ _ _ => Iff.rfl) (fun b4 b4e _ => ?_)
  have b4v : b4 = 2 := b4e.trans (by decide)
  subst b4v
  refine Tx.iload_n hC te_39_15 rfl ?_
  refine Tx.iconst hC te_39_16 rfl ?_
  refine Tx.bits hC (f := (fun (x y : Int32) => (x.toUInt32 >>> (y.toUInt32 &&& Int32.toUInt32 31)).toInt32)) te_39_17 (fun _ _ _ _ => Iff.rfl) (fun b5 b5e _ => ?_)
  have b5v : b5 = 1 := b5e.trans (by decide)
  subst b5v
  refine Tx.ldc_w hC (z := 858993459) te_39_18 rfl rfl rfl rfl ?_
  refine Tx.bits hC (f := (fun (x y : Int32) => x &&& y)) te_39_21 (fun _ _ _ _ => Iff.rfl) (fun b6 b6e _ => ?_)
  have b6v : b6 = 1 := b6e.trans (by decide)
  subst b6v
  refine Tx.iaddW hC te_39_22 (fun b7 _ b7e => ?_)
  have b7v : b7 = 3 := b7e (by unfold InI; omega)
  subst b7v
  refine Tx.istore_n hC te_39_23 rfl ?_
  refine Tx.iload_n hC te_39_24 rfl ?_
  refine Tx.iload_n hC te_39_25 rfl ?_
  refine Tx.iconst hC te_39_26 rfl ?_
  refine Tx.bits hC (f := (fun (x y : Int32) => (x.toUInt32 >>> (y.toUInt32 &&& Int32.toUInt32 31)).toInt32)) te_39_27 (fun _ _ _ _ => Iff.rfl) (fun b8 b8e _ => ?_)
  have b8v : b8 = 0 := b8e.trans (by decide)
  subst b8v
  refine Tx.iaddW hC te_39_28 (fun b9 _ b9e => ?_)
  have b9v : b9 = 3 := b9e (by unfold InI; omega)
  subst b9v
  refine Tx.ldc_w hC (z := 252645135) te_39_29 rfl rfl rfl rfl ?_
  refine Tx.bits hC (f := (fun (x y : Int32) => x &&& y)) te_39_32 (fun _ _ _ _ => Iff.rfl) (fun b10 b10e _ => ?_)
  have b10v : b10 = 3 := b10e.trans (by decide)
  subst b10v
  refine Tx.istore_n hC te_39_33 rfl ?_
  refine Tx.iload_n hC te_39_34 rfl ?_
  refine Tx.iload_n hC te_39_35 rfl ?_
  refine Tx.bipush hC te_39_36 rfl rfl ?_
  refine Tx.bits hC (f := (fun (x y : Int32) => (x.toUInt32 >>> (y.toUInt32 &&& Int32.toUInt32 31)).toInt32)) te_39_38 (fun _ _ _ _ => Iff.rfl) (fun b11 b11e _ => ?_)
  have b11v : b11 = 0 := b11e.trans (by decide)
  subst b11v
  refine Tx.iaddW hC te_39_39 (fun b12 _ b12e => ?_)
  have b12v : b12 = 3 := b12e (by unfold InI; omega)
  subst b12v
  refine Tx.istore_n hC te_39_40 rfl ?_
  refine Tx.iload_n hC te_39_41 rfl ?_
  refine Tx.iload_n hC te_39_42 rfl ?_
  refine Tx.bipush hC te_39_43 rfl rfl ?_
  refine Tx.bits hC (f := (fun (x y : Int32) => (x.toUInt32 >>> (y.toUInt32 &&& Int32.toUInt32 31)).toInt32)) te_39_45 (fun _ _ _ _ => Iff.rfl) (fun b13 b13e _ => ?_)
  have b13v : b13 = 0 := b13e.trans (by decide)
  subst b13v
  refine Tx.iaddW hC te_39_46 (fun b14 _ b14e => ?_)
  have b14v : b14 = 3 := b14e (by unfold InI; omega)
  subst b14v
  refine Tx.istore_n hC te_39_47 rfl ?_
  refine Tx.iload_n hC te_39_48 rfl ?_
  refine Tx.bipush hC te_39_49 rfl rfl ?_
  refine Tx.bits hC (f := (fun (x y : Int32) => x &&& y)) te_39_51 (fun _ _ _ _ => Iff.rfl) (fun b15 b15e _ => ?_)
  have b15v : b15 = 3 := b15e.trans (by decide)
  subst b15v
  exact Tx.ireturn hC te_39_52 rfl (fun _ => H)
theorem f_39_8 {S : Nat × (Nat → Int32)} {n : Nat} {mem : MM} {K : Int → MM → Prop} {E : Nat → MM → Prop} (H : K 1 mem) : CQI (Ex S (n + 1)) 39 [.inl 8] mem K E := by
  refine CY.of (k := 0) mt_39 rfl rfl (fun _ => ?_)
  have hC := Ex.mono S n
  show Tx (Ex S n) S M_39 (kI K E) 0 0 0 [some (.inl 8)] [] mem
  refine Tx.iload_n hC te_39_0 rfl ?_
  refine Tx.iload_n hC te_39_1 rfl ?_
  refine Tx.iconst hC te_39_2 rfl ?_
  refine Tx.bits hC (f := (fun (x y : Int32) => (x.toUInt32 >>> (y.toUInt32 &&& Int32.toUInt32 31)).toInt32)) te_39_3 (fun _ _ _ _ => Iff.rfl) (fun b1 b1e _ => ?_)
  have b1v : b1 = 4 := b1e.trans (by decide)
  subst b1v
  refine Tx.ldc_w hC (z := 1431655765) te_39_4 rfl rfl rfl rfl ?_
  refine Tx.bits hC (f := (fun (x y : Int32) => x &&& y)) te_39_7 (fun _ _ _ _ => Iff.rfl) (fun b2 b2e _ => ?_)
  have b2v : b2 = 4 := b2e.trans (by decide)
  subst b2v
  refine Tx.isubW hC te_39_8 (fun b3 _ b3e => ?_)
  have b3v : b3 = 4 := b3e (by unfold InI; omega)
  subst b3v
  refine Tx.istore_n hC te_39_9 rfl ?_
  refine Tx.iload_n hC te_39_10 rfl ?_
  refine Tx.ldc_w hC (z := 858993459) te_39_11 rfl rfl rfl rfl ?_
  refine Tx.bits hC (f := (fun (x y : Int32) => x &&& y)) te_39_14 (fun _ _ _ _ => Iff.rfl) (fun b4 b4e _ => ?_)
  have b4v : b4 = 0 := b4e.trans (by decide)
  subst b4v
  refine Tx.iload_n hC te_39_15 rfl ?_
  refine Tx.iconst hC te_39_16 rfl ?_
  refine Tx.bits hC (f := (fun (x y : Int32) => (x.toUInt32 >>> (y.toUInt32 &&& Int32.toUInt32 31)).toInt32)) te_39_17 (fun _ _ _ _ => Iff.rfl) (fun b5 b5e _ => ?_)
  have b5v : b5 = 1 := b5e.trans (by decide)
  subst b5v
  refine Tx.ldc_w hC (z := 858993459) te_39_18 rfl rfl rfl rfl ?_
  refine Tx.bits hC (f := (fun (x y : Int32) => x &&& y)) te_39_21 (fun _ _ _ _ => Iff.rfl) (fun b6 b6e _ => ?_)
  have b6v : b6 = 1 := b6e.trans (by decide)
  subst b6v
  refine Tx.iaddW hC te_39_22 (fun b7 _ b7e => ?_)
  have b7v : b7 = 1 := b7e (by unfold InI; omega)
  subst b7v
  refine Tx.istore_n hC te_39_23 rfl ?_
  refine Tx.iload_n hC te_39_24 rfl ?_
  refine Tx.iload_n hC te_39_25 rfl ?_
  refine Tx.iconst hC te_39_26 rfl ?_
  refine Tx.bits hC (f := (fun (x y : Int32) => (x.toUInt32 >>> (y.toUInt32 &&& Int32.toUInt32 31)).toInt32)) te_39_27 (fun _ _ _ _ => Iff.rfl) (fun b8 b8e _ => ?_)
  have b8v : b8 = 0 := b8e.trans (by decide)
  subst b8v
  refine Tx.iaddW hC te_39_28 (fun b9 _ b9e => ?_)
  have b9v : b9 = 1 := b9e (by unfold InI; omega)
  subst b9v
  refine Tx.ldc_w hC (z := 252645135) te_39_29 rfl rfl rfl rfl ?_
  refine Tx.bits hC (f := (fun (x y : Int32) => x &&& y)) te_39_32 (fun _ _ _ _ => Iff.rfl) (fun b10 b10e _ => ?_)
  have b10v : b10 = 1 := b10e.trans (by decide)
  subst b10v
  refine Tx.istore_n hC te_39_33 rfl ?_
  refine Tx.iload_n hC te_39_34 rfl ?_
  refine Tx.iload_n hC te_39_35 rfl ?_
  refine Tx.bipush hC te_39_36 rfl rfl ?_
  refine Tx.bits hC (f := (fun (x y : Int32) => (x.toUInt32 >>> (y.toUInt32 &&& Int32.toUInt32 31)).toInt32)) te_39_38 (fun _ _ _ _ => Iff.rfl) (fun b11 b11e _ => ?_)
  have b11v : b11 = 0 := b11e.trans (by decide)
  subst b11v
  refine Tx.iaddW hC te_39_39 (fun b12 _ b12e => ?_)
  have b12v : b12 = 1 := b12e (by unfold InI; omega)
  subst b12v
  refine Tx.istore_n hC te_39_40 rfl ?_
  refine Tx.iload_n hC te_39_41 rfl ?_
  refine Tx.iload_n hC te_39_42 rfl ?_
  refine Tx.bipush hC te_39_43 rfl rfl ?_
  refine Tx.bits hC (f := (fun (x y : Int32) => (x.toUInt32 >>> (y.toUInt32 &&& Int32.toUInt32 31)).toInt32)) te_39_45 (fun _ _ _ _ => Iff.rfl) (fun b13 b13e _ => ?_)
  have b13v : b13 = 0 := b13e.trans (by decide)
  subst b13v
  refine Tx.iaddW hC te_39_46 (fun b14 _ b14e => ?_)
  have b14v : b14 = 1 := b14e (by unfold InI; omega)
  subst b14v
  refine Tx.istore_n hC te_39_47 rfl ?_
  refine Tx.iload_n hC te_39_48 rfl ?_
  refine Tx.bipush hC te_39_49 rfl rfl ?_
  refine Tx.bits hC (f := (fun (x y : Int32) => x &&& y)) te_39_51 (fun _ _ _ _ => Iff.rfl) (fun b15 b15e _ => ?_)
  have b15v : b15 = 1 := b15e.trans (by decide)
  subst b15v
  exact Tx.ireturn hC te_39_52 rfl (fun _ => H)
theorem f_39_9 {S : Nat × (Nat → Int32)} {n : Nat} {mem : MM} {K : Int → MM → Prop} {E : Nat → MM → Prop} (H : K 2 mem) : CQI (Ex S (n + 1)) 39 [.inl 9] mem K E := by
  refine CY.of (k := 0) mt_39 rfl rfl (fun _ => ?_)
  have hC := Ex.mono S n
  show Tx (Ex S n) S M_39 (kI K E) 0 0 0 [some (.inl 9)] [] mem
  refine Tx.iload_n hC te_39_0 rfl ?_
  refine Tx.iload_n hC te_39_1 rfl ?_
  refine Tx.iconst hC te_39_2 rfl ?_
  refine Tx.bits hC (f := (fun (x y : Int32) => (x.toUInt32 >>> (y.toUInt32 &&& Int32.toUInt32 31)).toInt32)) te_39_3 (fun _ _ _ _ => Iff.rfl) (fun b1 b1e _ => ?_)
  have b1v : b1 = 4 := b1e.trans (by decide)
  subst b1v
  refine Tx.ldc_w hC (z := 1431655765) te_39_4 rfl rfl rfl rfl ?_
  refine Tx.bits hC (f := (fun (x y : Int32) => x &&& y)) te_39_7 (fun _ _ _ _ => Iff.rfl) (fun b2 b2e _ => ?_)
  have b2v : b2 = 4 := b2e.trans (by decide)
  subst b2v
  refine Tx.isubW hC te_39_8 (fun b3 _ b3e => ?_)
  have b3v : b3 = 5 := b3e (by unfold InI; omega)
  subst b3v
  refine Tx.istore_n hC te_39_9 rfl ?_
  refine Tx.iload_n hC te_39_10 rfl ?_
  refine Tx.ldc_w hC (z := 858993459) te_39_11 rfl rfl rfl rfl ?_
  refine Tx.bits hC (f := (fun (x y : Int32) => x &&& y)) te_39_14 (fun _ _ _ _ => Iff.rfl) (fun b4 b4e _ => ?_)
  have b4v : b4 = 1 := b4e.trans (by decide)
  subst b4v
  refine Tx.iload_n hC te_39_15 rfl ?_
  refine Tx.iconst hC te_39_16 rfl ?_
  refine Tx.bits hC (f := (fun (x y : Int32) => (x.toUInt32 >>> (y.toUInt32 &&& Int32.toUInt32 31)).toInt32)) te_39_17 (fun _ _ _ _ => Iff.rfl) (fun b5 b5e _ => ?_)
  have b5v : b5 = 1 := b5e.trans (by decide)
  subst b5v
  refine Tx.ldc_w hC (z := 858993459) te_39_18 rfl rfl rfl rfl ?_
  refine Tx.bits hC (f := (fun (x y : Int32) => x &&& y)) te_39_21 (fun _ _ _ _ => Iff.rfl) (fun b6 b6e _ => ?_)
  have b6v : b6 = 1 := b6e.trans (by decide)
  subst b6v
  refine Tx.iaddW hC te_39_22 (fun b7 _ b7e => ?_)
  have b7v : b7 = 2 := b7e (by unfold InI; omega)
  subst b7v
  refine Tx.istore_n hC te_39_23 rfl ?_
  refine Tx.iload_n hC te_39_24 rfl ?_
  refine Tx.iload_n hC te_39_25 rfl ?_
  refine Tx.iconst hC te_39_26 rfl ?_
  refine Tx.bits hC (f := (fun (x y : Int32) => (x.toUInt32 >>> (y.toUInt32 &&& Int32.toUInt32 31)).toInt32)) te_39_27 (fun _ _ _ _ => Iff.rfl) (fun b8 b8e _ => ?_)
  have b8v : b8 = 0 := b8e.trans (by decide)
  subst b8v
  refine Tx.iaddW hC te_39_28 (fun b9 _ b9e => ?_)
  have b9v : b9 = 2 := b9e (by unfold InI; omega)
  subst b9v
  refine Tx.ldc_w hC (z := 252645135) te_39_29 rfl rfl rfl rfl ?_
  refine Tx.bits hC (f := (fun (x y : Int32) => x &&& y)) te_39_32 (fun _ _ _ _ => Iff.rfl) (fun b10 b10e _ => ?_)
  have b10v : b10 = 2 := b10e.trans (by decide)
  subst b10v
  refine Tx.istore_n hC te_39_33 rfl ?_
  refine Tx.iload_n hC te_39_34 rfl ?_
  refine Tx.iload_n hC te_39_35 rfl ?_
  refine Tx.bipush hC te_39_36 rfl rfl ?_
  refine Tx.bits hC (f := (fun (x y : Int32) => (x.toUInt32 >>> (y.toUInt32 &&& Int32.toUInt32 31)).toInt32)) te_39_38 (fun _ _ _ _ => Iff.rfl) (fun b11 b11e _ => ?_)
  have b11v : b11 = 0 := b11e.trans (by decide)
  subst b11v
  refine Tx.iaddW hC te_39_39 (fun b12 _ b12e => ?_)
  have b12v : b12 = 2 := b12e (by unfold InI; omega)
  subst b12v
  refine Tx.istore_n hC te_39_40 rfl ?_
  refine Tx.iload_n hC te_39_41 rfl ?_
  refine Tx.iload_n hC te_39_42 rfl ?_
  refine Tx.bipush hC te_39_43 rfl rfl ?_
  refine Tx.bits hC (f := (fun (x y : Int32) => (x.toUInt32 >>> (y.toUInt32 &&& Int32.toUInt32 31)).toInt32)) te_39_45 (fun _ _ _ _ => Iff.rfl) (fun b13 b13e _ => ?_)
  have b13v : b13 = 0 := b13e.trans (by decide)
  subst b13v
  refine Tx.iaddW hC te_39_46 (fun b14 _ b14e => ?_)
  have b14v : b14 = 2 := b14e (by unfold InI; omega)
  subst b14v
  refine Tx.istore_n hC te_39_47 rfl ?_
  refine Tx.iload_n hC te_39_48 rfl ?_
  refine Tx.bipush hC te_39_49 rfl rfl ?_
  refine Tx.bits hC (f := (fun (x y : Int32) => x &&& y)) te_39_51 (fun _ _ _ _ => Iff.rfl) (fun b15 b15e _ => ?_)
  have b15v : b15 = 2 := b15e.trans (by decide)
  subst b15v
  exact Tx.ireturn hC te_39_52 rfl (fun _ => H)
theorem f_39_10 {S : Nat × (Nat → Int32)} {n : Nat} {mem : MM} {K : Int → MM → Prop} {E : Nat → MM → Prop} (H : K 2 mem) : CQI (Ex S (n + 1)) 39 [.inl 10] mem K E := by
  refine CY.of (k := 0) mt_39 rfl rfl (fun _ => ?_)
  have hC := Ex.mono S n
  show Tx (Ex S n) S M_39 (kI K E) 0 0 0 [some (.inl 10)] [] mem
  refine Tx.iload_n hC te_39_0 rfl ?_
  refine Tx.iload_n hC te_39_1 rfl ?_
  refine Tx.iconst hC te_39_2 rfl ?_
  refine Tx.bits hC (f := (fun (x y : Int32) => (x.toUInt32 >>> (y.toUInt32 &&& Int32.toUInt32 31)).toInt32)) te_39_3 (fun _ _ _ _ => Iff.rfl) (fun b1 b1e _ => ?_)
  have b1v : b1 = 5 := b1e.trans (by decide)
  subst b1v
  refine Tx.ldc_w hC (z := 1431655765) te_39_4 rfl rfl rfl rfl ?_
  refine Tx.bits hC (f := (fun (x y : Int32) => x &&& y)) te_39_7 (fun _ _ _ _ => Iff.rfl) (fun b2 b2e _ => ?_)
  have b2v : b2 = 5 := b2e.trans (by decide)
  subst b2v
  refine Tx.isubW hC te_39_8 (fun b3 _ b3e => ?_)
  have b3v : b3 = 5 := b3e (by unfold InI; omega)
  subst b3v
  refine Tx.istore_n hC te_39_9 rfl ?_
  refine Tx.iload_n hC te_39_10 rfl ?_
  refine Tx.ldc_w hC (z := 858993459) te_39_11 rfl rfl rfl rfl ?_
  refine Tx.bits hC (f := (fun (x y : Int32) => x &&& y)) te_39_14 (fun _ _ _ _ => Iff.rfl) (fun b4 b4e _ => ?_)
  have b4v : b4 = 1 := b4e.trans (by decide)
  subst b4v
  refine Tx.iload_n hC te_39_15 rfl ?_
  refine Tx.iconst hC te_39_16 rfl ?_
  refine Tx.bits hC (f := (fun (x y : Int32) => (x.toUInt32 >>> (y.toUInt32 &&& Int32.toUInt32 31)).toInt32)) te_39_17 (fun _ _ _ _ => Iff.rfl) (fun b5 b5e _ => ?_)
  have b5v : b5 = 1 := b5e.trans (by decide)
  subst b5v
  refine Tx.ldc_w hC (z := 858993459) te_39_18 rfl rfl rfl rfl ?_
  refine Tx.bits hC (f := (fun (x y : Int32) => x &&& y)) te_39_21 (fun _ _ _ _ => Iff.rfl) (fun b6 b6e _ => ?_)
  have b6v : b6 = 1 := b6e.trans (by decide)
  subst b6v
  refine Tx.iaddW hC te_39_22 (fun b7 _ b7e => ?_)
  have b7v : b7 = 2 := b7e (by unfold InI; omega)
  subst b7v
  refine Tx.istore_n hC te_39_23 rfl ?_
  refine Tx.iload_n hC te_39_24 rfl ?_
  refine Tx.iload_n hC te_39_25 rfl ?_
  refine Tx.iconst hC te_39_26 rfl ?_
  refine Tx.bits hC (f := (fun (x y : Int32) => (x.toUInt32 >>> (y.toUInt32 &&& Int32.toUInt32 31)).toInt32)) te_39_27 (fun _ _ _ _ => Iff.rfl) (fun b8 b8e _ => ?_)
  have b8v : b8 = 0 := b8e.trans (by decide)
  subst b8v
  refine Tx.iaddW hC te_39_28 (fun b9 _ b9e => ?_)
  have b9v : b9 = 2 := b9e (by unfold InI; omega)
  subst b9v
  refine Tx.ldc_w hC (z := 252645135) te_39_29 rfl rfl rfl rfl ?_
  refine Tx.bits hC (f := (fun (x y : Int32) => x &&& y)) te_39_32 (fun _ _ _ _ => Iff.rfl) (fun b10 b10e _ => ?_)
  have b10v : b10 = 2 := b10e.trans (by decide)
  subst b10v
  refine Tx.istore_n hC te_39_33 rfl ?_
  refine Tx.iload_n hC te_39_34 rfl ?_
  refine Tx.iload_n hC te_39_35 rfl ?_
  refine Tx.bipush hC te_39_36 rfl rfl ?_
  refine Tx.bits hC (f := (fun (x y : Int32) => (x.toUInt32 >>> (y.toUInt32 &&& Int32.toUInt32 31)).toInt32)) te_39_38 (fun _ _ _ _ => Iff.rfl) (fun b11 b11e _ => ?_)
  have b11v : b11 = 0 := b11e.trans (by decide)
  subst b11v
  refine Tx.iaddW hC te_39_39 (fun b12 _ b12e => ?_)
  have b12v : b12 = 2 := b12e (by unfold InI; omega)
  subst b12v
  refine Tx.istore_n hC te_39_40 rfl ?_
  refine Tx.iload_n hC te_39_41 rfl ?_
  refine Tx.iload_n hC te_39_42 rfl ?_
  refine Tx.bipush hC te_39_43 rfl rfl ?_
  refine Tx.bits hC (f := (fun (x y : Int32) => (x.toUInt32 >>> (y.toUInt32 &&& Int32.toUInt32 31)).toInt32)) te_39_45 (fun _ _ _ _ => Iff.rfl) (fun b13 b13e _ => ?_)
  have b13v : b13 = 0 := b13e.trans (by decide)
  subst b13v
  refine Tx.iaddW hC te_39_46 (fun b14 _ b14e => ?_)
  have b14v : b14 = 2 := b14e (by unfold InI; omega)
  subst b14v
  refine Tx.istore_n hC te_39_47 rfl ?_
  refine Tx.iload_n hC te_39_48 rfl ?_
  refine Tx.bipush hC te_39_49 rfl rfl ?_
  refine Tx.bits hC (f := (fun (x y : Int32) => x &&& y)) te_39_51 (fun _ _ _ _ => Iff.rfl) (fun b15 b15e _ => ?_)
  have b15v : b15 = 2 := b15e.trans (by decide)
  subst b15v
  exact Tx.ireturn hC te_39_52 rfl (fun _ => H)
theorem f_39_11 {S : Nat × (Nat → Int32)} {n : Nat} {mem : MM} {K : Int → MM → Prop} {E : Nat → MM → Prop} (H : K 3 mem) : CQI (Ex S (n + 1)) 39 [.inl 11] mem K E := by
  refine CY.of (k := 0) mt_39 rfl rfl (fun _ => ?_)
  have hC := Ex.mono S n
  show Tx (Ex S n) S M_39 (kI K E) 0 0 0 [some (.inl 11)] [] mem
  refine Tx.iload_n hC te_39_0 rfl ?_
  refine Tx.iload_n hC te_39_1 rfl ?_
  refine Tx.iconst hC te_39_2 rfl ?_
  refine Tx.bits hC (f := (fun (x y : Int32) => (x.toUInt32 >>> (y.toUInt32 &&& Int32.toUInt32 31)).toInt32)) te_39_3 (fun _ _ _ _ => Iff.rfl) (fun b1 b1e _ => ?_)
  have b1v : b1 = 5 := b1e.trans (by decide)
  subst b1v
  refine Tx.ldc_w hC (z := 1431655765) te_39_4 rfl rfl rfl rfl ?_
  refine Tx.bits hC (f := (fun (x y : Int32) => x &&& y)) te_39_7 (fun _ _ _ _ => Iff.rfl) (fun b2 b2e _ => ?_)
  have b2v : b2 = 5 := b2e.trans (by decide)
  subst b2v
  refine Tx.isubW hC te_39_8 (fun b3 _ b3e => ?_)
  have b3v : b3 = 6 := b3e (by unfold InI; omega)
  subst b3v
  refine Tx.istore_n hC te_39_9 rfl ?_
  refine Tx.iload_n hC te_39_10 rfl ?_
  refine Tx.ldc_w hC (z := 858993459) te_39_11 rfl rfl rfl rfl ?_
  refine Tx.bits hC (f := (fun (x y : Int32) => x &&& y)) te_39_14 (fun _ _ _ _ => Iff.rfl) (fun b4 b4e _ => ?_)
  have b4v : b4 = 2 := b4e.trans (by decide)
  subst b4v
  refine Tx.iload_n hC te_39_15 rfl ?_
  refine Tx.iconst hC te_39_16 rfl ?_
  refine Tx.bits hC (f := (fun (x y : Int32) => (x.toUInt32 >>> (y.toUInt32 &&& Int32.toUInt32 31)).toInt32)) te_39_17 (fun _ _ _ _ => Iff.rfl) (fun b5 b5e _ => ?_)
  have b5v : b5 = 1 := b5e.trans (by decide)
  subst b5v
  refine Tx.ldc_w hC (z := 858993459) te_39_18 rfl rfl rfl rfl ?_
  refine Tx.bits hC (f := (fun (x y : Int32) => x &&& y)) te_39_21 (fun _ _ _ _ => Iff.rfl) (fun b6 b6e _ => ?_)
  have b6v : b6 = 1 := b6e.trans (by decide)
  subst b6v
  refine Tx.iaddW hC te_39_22 (fun b7 _ b7e => ?_)
  have b7v : b7 = 3 := b7e (by unfold InI; omega)
  subst b7v
  refine Tx.istore_n hC te_39_23 rfl ?_
  refine Tx.iload_n hC te_39_24 rfl ?_
  refine Tx.iload_n hC te_39_25 rfl ?_
  refine Tx.iconst hC te_39_26 rfl ?_
  refine Tx.bits hC (f := (fun (x y : Int32) => (x.toUInt32 >>> (y.toUInt32 &&& Int32.toUInt32 31)).toInt32)) te_39_27 (fun _ _ _ _ => Iff.rfl) (fun b8 b8e _ => ?_)
  have b8v : b8 = 0 := b8e.trans (by decide)
  subst b8v
  refine Tx.iaddW hC te_39_28 (fun b9 _ b9e => ?_)
  have b9v : b9 = 3 := b9e (by unfold InI; omega)
  subst b9v
  refine Tx.ldc_w hC (z := 252645135) te_39_29 rfl rfl rfl rfl ?_
  refine Tx.bits hC (f := (fun (x y : Int32) => x &&& y)) te_39_32 (fun _ _ _ _ => Iff.rfl) (fun b10 b10e _ => ?_)
  have b10v : b10 = 3 := b10e.trans (by decide)
  subst b10v
  refine Tx.istore_n hC te_39_33 rfl ?_
  refine Tx.iload_n hC te_39_34 rfl ?_
  refine Tx.iload_n hC te_39_35 rfl ?_
  refine Tx.bipush hC te_39_36 rfl rfl ?_
  refine Tx.bits hC (f := (fun (x y : Int32) => (x.toUInt32 >>> (y.toUInt32 &&& Int32.toUInt32 31)).toInt32)) te_39_38 (fun _ _ _ _ => Iff.rfl) (fun b11 b11e _ => ?_)
  have b11v : b11 = 0 := b11e.trans (by decide)
  subst b11v
  refine Tx.iaddW hC te_39_39 (fun b12 _ b12e => ?_)
  have b12v : b12 = 3 := b12e (by unfold InI; omega)
  subst b12v
  refine Tx.istore_n hC te_39_40 rfl ?_
  refine Tx.iload_n hC te_39_41 rfl ?_
  refine Tx.iload_n hC te_39_42 rfl ?_
  refine Tx.bipush hC te_39_43 rfl rfl ?_
  refine Tx.bits hC (f := (fun (x y : Int32) => (x.toUInt32 >>> (y.toUInt32 &&& Int32.toUInt32 31)).toInt32)) te_39_45 (fun _ _ _ _ => Iff.rfl) (fun b13 b13e _ => ?_)
  have b13v : b13 = 0 := b13e.trans (by decide)
  subst b13v
  refine Tx.iaddW hC te_39_46 (fun b14 _ b14e => ?_)
  have b14v : b14 = 3 := b14e (by unfold InI; omega)
  subst b14v
  refine Tx.istore_n hC te_39_47 rfl ?_
  refine Tx.iload_n hC te_39_48 rfl ?_
  refine Tx.bipush hC te_39_49 rfl rfl ?_
  refine Tx.bits hC (f := (fun (x y : Int32) => x &&& y)) te_39_51 (fun _ _ _ _ => Iff.rfl) (fun b15 b15e _ => ?_)
  have b15v : b15 = 3 := b15e.trans (by decide)
  subst b15v
  exact Tx.ireturn hC te_39_52 rfl (fun _ => H)
theorem f_39_12 {S : Nat × (Nat → Int32)} {n : Nat} {mem : MM} {K : Int → MM → Prop} {E : Nat → MM → Prop} (H : K 2 mem) : CQI (Ex S (n + 1)) 39 [.inl 12] mem K E := by
  refine CY.of (k := 0) mt_39 rfl rfl (fun _ => ?_)
  have hC := Ex.mono S n
  show Tx (Ex S n) S M_39 (kI K E) 0 0 0 [some (.inl 12)] [] mem
  refine Tx.iload_n hC te_39_0 rfl ?_
  refine Tx.iload_n hC te_39_1 rfl ?_
  refine Tx.iconst hC te_39_2 rfl ?_
  refine Tx.bits hC (f := (fun (x y : Int32) => (x.toUInt32 >>> (y.toUInt32 &&& Int32.toUInt32 31)).toInt32)) te_39_3 (fun _ _ _ _ => Iff.rfl) (fun b1 b1e _ => ?_)
  have b1v : b1 = 6 := b1e.trans (by decide)
  subst b1v
  refine Tx.ldc_w hC (z := 1431655765) te_39_4 rfl rfl rfl rfl ?_
  refine Tx.bits hC (f := (fun (x y : Int32) => x &&& y)) te_39_7 (fun _ _ _ _ => Iff.rfl) (fun b2 b2e _ => ?_)
  have b2v : b2 = 4 := b2e.trans (by decide)
  subst b2v
  refine Tx.isubW hC te_39_8 (fun b3 _ b3e => ?_)
  have b3v : b3 = 8 := b3e (by unfold InI; omega)
  subst b3v
  refine Tx.istore_n hC te_39_9 rfl ?_
  refine Tx.iload_n hC te_39_10 rfl ?_
  refine Tx.ldc_w hC (z := 858993459) te_39_11 rfl rfl rfl rfl ?_
  refine Tx.bits hC (f := (fun (x y : Int32) => x &&& y)) te_39_14 (fun _ _ _ _ => Iff.rfl) (fun b4 b4e _ => ?_)
  have b4v : b4 = 0 := b4e.trans (by decide)
  subst b4v
  refine Tx.iload_n hC te_39_15 rfl ?_
  refine Tx.iconst hC te_39_16 rfl ?_
  refine Tx.bits hC (f := (fun (x y : Int32) => (x.toUInt32 >>> (y.toUInt32 &&& Int32.toUInt32 31)).toInt32)) te_39_17 (fun _ _ _ _ => Iff.rfl) (fun b5 b5e _ => ?_)
  have b5v : b5 = 2 := b5e.trans (by decide)
  subst b5v
  refine Tx.ldc_w hC (z := 858993459) te_39_18 rfl rfl rfl rfl ?_
  refine Tx.bits hC (f := (fun (x y : Int32) => x &&& y)) te_39_21 (fun _ _ _ _ => Iff.rfl) (fun b6 b6e _ => ?_)
  have b6v : b6 = 2 := b6e.trans (by decide)
  subst b6v
  refine Tx.iaddW hC te_39_22 (fun b7 _ b7e => ?_)
  have b7v : b7 = 2 := b7e (by unfold InI; omega)
  subst b7v
  refine Tx.istore_n hC te_39_23 rfl ?_
  refine Tx.iload_n hC te_39_24 rfl ?_
  refine Tx.iload_n hC te_39_25 rfl ?_
  refine Tx.iconst hC te_39_26 rfl ?_
  refine Tx.bits hC (f := (fun (x y : Int32) => (x.toUInt32 >>> (y.toUInt32 &&& Int32.toUInt32 31)).toInt32)) te_39_27 (fun _ _ _ _ => Iff.rfl) (fun b8 b8e _ => ?_)
  have b8v : b8 = 0 := b8e.trans (by decide)
  subst b8v
  refine Tx.iaddW hC te_39_28 (fun b9 _ b9e => ?_)
  have b9v : b9 = 2 := b9e (by unfold InI; omega)
  subst b9v
  refine Tx.ldc_w hC (z := 252645135) te_39_29 rfl rfl rfl rfl ?_
  refine Tx.bits hC (f := (fun (x y : Int32) => x &&& y)) te_39_32 (fun _ _ _ _ => Iff.rfl) (fun b10 b10e _ => ?_)
  have b10v : b10 = 2 := b10e.trans (by decide)
  subst b10v
  refine Tx.istore_n hC te_39_33 rfl ?_
  refine Tx.iload_n hC te_39_34 rfl ?_
  refine Tx.iload_n hC te_39_35 rfl ?_
  refine Tx.bipush hC te_39_36 rfl rfl ?_
  refine Tx.bits hC (f := (fun (x y : Int32) => (x.toUInt32 >>> (y.toUInt32 &&& Int32.toUInt32 31)).toInt32)) te_39_38 (fun _ _ _ _ => Iff.rfl) (fun b11 b11e _ => ?_)
  have b11v : b11 = 0 := b11e.trans (by decide)
  subst b11v
  refine Tx.iaddW hC te_39_39 (fun b12 _ b12e => ?_)
  have b12v : b12 = 2 := b12e (by unfold InI; omega)
  subst b12v
  refine Tx.istore_n hC te_39_40 rfl ?_
  refine Tx.iload_n hC te_39_41 rfl ?_
  refine Tx.iload_n hC te_39_42 rfl ?_
  refine Tx.bipush hC te_39_43 rfl rfl ?_
  refine Tx.bits hC (f := (fun (x y : Int32) => (x.toUInt32 >>> (y.toUInt32 &&& Int32.toUInt32 31)).toInt32)) te_39_45 (fun _ _ _ _ => Iff.rfl) (fun b13 b13e _ => ?_)
  have b13v : b13 = 0 := b13e.trans (by decide)
  subst b13v
  refine Tx.iaddW hC te_39_46 (fun b14 _ b14e => ?_)
  have b14v : b14 = 2 := b14e (by unfold InI; omega)
  subst b14v
  refine Tx.istore_n hC te_39_47 rfl ?_
  refine Tx.iload_n hC te_39_48 rfl ?_
  refine Tx.bipush hC te_39_49 rfl rfl ?_
  refine Tx.bits hC (f := (fun (x y : Int32) => x &&& y)) te_39_51 (fun _ _ _ _ => Iff.rfl) (fun b15 b15e _ => ?_)
  have b15v : b15 = 2 := b15e.trans (by decide)
  subst b15v
  exact Tx.ireturn hC te_39_52 rfl (fun _ => H)
theorem f_39_13 {S : Nat × (Nat → Int32)} {n : Nat} {mem : MM} {K : Int → MM → Prop} {E : Nat → MM → Prop} (H : K 3 mem) : CQI (Ex S (n + 1)) 39 [.inl 13] mem K E := by
  refine CY.of (k := 0) mt_39 rfl rfl (fun _ => ?_)
  have hC := Ex.mono S n
  show Tx (Ex S n) S M_39 (kI K E) 0 0 0 [some (.inl 13)] [] mem
  refine Tx.iload_n hC te_39_0 rfl ?_
  refine Tx.iload_n hC te_39_1 rfl ?_
  refine Tx.iconst hC te_39_2 rfl ?_
  refine Tx.bits hC (f := (fun (x y : Int32) => (x.toUInt32 >>> (y.toUInt32 &&& Int32.toUInt32 31)).toInt32)) te_39_3 (fun _ _ _ _ => Iff.rfl) (fun b1 b1e _ => ?_)
  have b1v : b1 = 6 := b1e.trans (by decide)
  subst b1v
  refine Tx.ldc_w hC (z := 1431655765) te_39_4 rfl rfl rfl rfl ?_
  refine Tx.bits hC (f := (fun (x y : Int32) => x &&& y)) te_39_7 (fun _ _ _ _ => Iff.rfl) (fun b2 b2e _ => ?_)
  have b2v : b2 = 4 := b2e.trans (by decide)
  subst b2v
  refine Tx.isubW hC te_39_8 (fun b3 _ b3e => ?_)
  have b3v : b3 = 9 := b3e (by unfold InI; omega)
  subst b3v
  refine Tx.istore_n hC te_39_9 rfl ?_
  refine Tx.iload_n hC te_39_10 rfl ?_
  refine Tx.ldc_w hC (z := 858993459) te_39_11 rfl rfl rfl rfl ?_
  refine Tx.bits hC (f := (fun (x y : Int32) => x &&& y)) te_39_14 (fun _ _ _ _ => Iff.rfl) (fun b4 b4e _ => ?_)
  have b4v : b4 = 1 := b4e.trans (by decide)
  subst b4v
  refine Tx.iload_n hC te_39_15 rfl ?_
  refine Tx.iconst hC te_39_16 rfl ?_
  refine Tx.bits hC (f := (fun (x y : Int32) => (x.toUInt32 >>> (y.toUInt32 &&& Int32.toUInt32 31)).toInt32)) te_39_17 (fun _ _ _ _ => Iff.rfl) (fun b5 b5e _ => ?_)
  have b5v : b5 = 2 := b5e.trans (by decide)
  subst b5v
  refine Tx.ldc_w hC (z := 858993459) te_39_18 rfl rfl rfl rfl ?_
  refine Tx.bits hC (f := (fun (x y : Int32) => x &&& y)) te_39_21 (fun _ _ _ _ => Iff.rfl) (fun b6 b6e _ => ?_)
  have b6v : b6 = 2 := b6e.trans (by decide)
  subst b6v
  refine Tx.iaddW hC te_39_22 (fun b7 _ b7e => ?_)
  have b7v : b7 = 3 := b7e (by unfold InI; omega)
  subst b7v
  refine Tx.istore_n hC te_39_23 rfl ?_
  refine Tx.iload_n hC te_39_24 rfl ?_
  refine Tx.iload_n hC te_39_25 rfl ?_
  refine Tx.iconst hC te_39_26 rfl ?_
  refine Tx.bits hC (f := (fun (x y : Int32) => (x.toUInt32 >>> (y.toUInt32 &&& Int32.toUInt32 31)).toInt32)) te_39_27 (fun _ _ _ _ => Iff.rfl) (fun b8 b8e _ => ?_)
  have b8v : b8 = 0 := b8e.trans (by decide)
  subst b8v
  refine Tx.iaddW hC te_39_28 (fun b9 _ b9e => ?_)
  have b9v : b9 = 3 := b9e (by unfold InI; omega)
  subst b9v
  refine Tx.ldc_w hC (z := 252645135) te_39_29 rfl rfl rfl rfl ?_
  refine Tx.bits hC (f := (fun (x y : Int32) => x &&& y)) te_39_32 (fun _ _ _ _ => Iff.rfl) (fun b10 b10e _ => ?_)
  have b10v : b10 = 3 := b10e.trans (by decide)
  subst b10v
  refine Tx.istore_n hC te_39_33 rfl ?_
  refine Tx.iload_n hC te_39_34 rfl ?_
  refine Tx.iload_n hC te_39_35 rfl ?_
  refine Tx.bipush hC te_39_36 rfl rfl ?_
  refine Tx.bits hC (f := (fun (x y : Int32) => (x.toUInt32 >>> (y.toUInt32 &&& Int32.toUInt32 31)).toInt32)) te_39_38 (fun _ _ _ _ => Iff.rfl) (fun b11 b11e _ => ?_)
  have b11v : b11 = 0 := b11e.trans (by decide)
  subst b11v
  refine Tx.iaddW hC te_39_39 (fun b12 _ b12e => ?_)
  have b12v : b12 = 3 := b12e (by unfold InI; omega)
  subst b12v
  refine Tx.istore_n hC te_39_40 rfl ?_
  refine Tx.iload_n hC te_39_41 rfl ?_
  refine Tx.iload_n hC te_39_42 rfl ?_
  refine Tx.bipush hC te_39_43 rfl rfl ?_
  refine Tx.bits hC (f := (fun (x y : Int32) => (x.toUInt32 >>> (y.toUInt32 &&& Int32.toUInt32 31)).toInt32)) te_39_45 (fun _ _ _ _ => Iff.rfl) (fun b13 b13e _ => ?_)
  have b13v : b13 = 0 := b13e.trans (by decide)
  subst b13v
  refine Tx.iaddW hC te_39_46 (fun b14 _ b14e => ?_)
  have b14v : b14 = 3 := b14e (by unfold InI; omega)
  subst b14v
  refine Tx.istore_n hC te_39_47 rfl ?_
  refine Tx.iload_n hC te_39_48 rfl ?_
  refine Tx.bipush hC te_39_49 rfl rfl ?_
  refine Tx.bits hC (f := (fun (x y : Int32) => x &&& y)) te_39_51 (fun _ _ _ _ => Iff.rfl) (fun b15 b15e _ => ?_)
  have b15v : b15 = 3 := b15e.trans (by decide)
  subst b15v
  exact Tx.ireturn hC te_39_52 rfl (fun _ => H)
theorem f_39_14 {S : Nat × (Nat → Int32)} {n : Nat} {mem : MM} {K : Int → MM → Prop} {E : Nat → MM → Prop} (H : K 3 mem) : CQI (Ex S (n + 1)) 39 [.inl 14] mem K E := by
  refine CY.of (k := 0) mt_39 rfl rfl (fun _ => ?_)
  have hC := Ex.mono S n
  show Tx (Ex S n) S M_39 (kI K E) 0 0 0 [some (.inl 14)] [] mem
  refine Tx.iload_n hC te_39_0 rfl ?_
  refine Tx.iload_n hC te_39_1 rfl ?_
  refine Tx.iconst hC te_39_2 rfl ?_
  refine Tx.bits hC (f := (fun (x y : Int32) => (x.toUInt32 >>> (y.toUInt32 &&& Int32.toUInt32 31)).toInt32)) te_39_3 (fun _ _ _ _ => Iff.rfl) (fun b1 b1e _ => ?_)
  have b1v : b1 = 7 := b1e.trans (by decide)
  subst b1v
  refine Tx.ldc_w hC (z := 1431655765) te_39_4 rfl rfl rfl rfl ?_
  refine Tx.bits hC (f := (fun (x y : Int32) => x &&& y)) te_39_7 (fun _ _ _ _ => Iff.rfl) (fun b2 b2e _ => ?_)
  have b2v : b2 = 5 := b2e.trans (by decide)
  subst b2v
  refine Tx.isubW hC te_39_8 (fun b3 _ b3e => ?_)
  have b3v : b3 = 9 := b3e (by unfold InI; omega)
  subst b3v
  refine Tx.istore_n hC te_39_9 rfl ?_
  refine Tx.iload_n hC te_39_10 rfl ?_
  refine Tx.ldc_w hC (z := 858993459) te_39_11 rfl rfl rfl rfl ?_
  refine Tx.bits hC (f := (fun (x y : Int32) => x &&& y)) te_39_14 (fun _ _ _ _ => Iff.rfl) (fun b4 b4e _ => ?_)
  have b4v : b4 = 1 := b4e.trans (by decide)
  subst b4v
  refine Tx.iload_n hC te_39_15 rfl ?_
  refine Tx.iconst hC te_39_16 rfl ?_
  refine Tx.bits hC (f := (fun (x y : Int32) => (x.toUInt32 >>> (y.toUInt32 &&& Int32.toUInt32 31)).toInt32)) te_39_17 (fun _ _ _ _ => Iff.rfl) (fun b5 b5e _ => ?_)
  have b5v : b5 = 2 := b5e.trans (by decide)
  subst b5v
  refine Tx.ldc_w hC (z := 858993459) te_39_18 rfl rfl rfl rfl ?_
  refine Tx.bits hC (f := (fun (x y : Int32) => x &&& y)) te_39_21 (fun _ _ _ _ => Iff.rfl) (fun b6 b6e _ => ?_)
  have b6v : b6 = 2 := b6e.trans (by decide)
  subst b6v
  refine Tx.iaddW hC te_39_22 (fun b7 _ b7e => ?_)
  have b7v : b7 = 3 := b7e (by unfold InI; omega)
  subst b7v
  refine Tx.istore_n hC te_39_23 rfl ?_
  refine Tx.iload_n hC te_39_24 rfl ?_
  refine Tx.iload_n hC te_39_25 rfl ?_
  refine Tx.iconst hC te_39_26 rfl ?_
  refine Tx.bits hC (f := (fun (x y : Int32) => (x.toUInt32 >>> (y.toUInt32 &&& Int32.toUInt32 31)).toInt32)) te_39_27 (fun _ _ _ _ => Iff.rfl) (fun b8 b8e _ => ?_)
  have b8v : b8 = 0 := b8e.trans (by decide)
  subst b8v
  refine Tx.iaddW hC te_39_28 (fun b9 _ b9e => ?_)
  have b9v : b9 = 3 := b9e (by unfold InI; omega)
  subst b9v
  refine Tx.ldc_w hC (z := 252645135) te_39_29 rfl rfl rfl rfl ?_
  refine Tx.bits hC (f := (fun (x y : Int32) => x &&& y)) te_39_32 (fun _ _ _ _ => Iff.rfl) (fun b10 b10e _ => ?_)
  have b10v : b10 = 3 := b10e.trans (by decide)
  subst b10v
  refine Tx.istore_n hC te_39_33 rfl ?_
  refine Tx.iload_n hC te_39_34 rfl ?_
  refine Tx.iload_n hC te_39_35 rfl ?_
  refine Tx.bipush hC te_39_36 rfl rfl ?_
  refine Tx.bits hC (f := (fun (x y : Int32) => (x.toUInt32 >>> (y.toUInt32 &&& Int32.toUInt32 31)).toInt32)) te_39_38 (fun _ _ _ _ => Iff.rfl) (fun b11 b11e _ => ?_)
  have b11v : b11 = 0 := b11e.trans (by decide)
  subst b11v
  refine Tx.iaddW hC te_39_39 (fun b12 _ b12e => ?_)
  have b12v : b12 = 3 := b12e (by unfold InI; omega)
  subst b12v
  refine Tx.istore_n hC te_39_40 rfl ?_
  refine Tx.iload_n hC te_39_41 rfl ?_
  refine Tx.iload_n hC te_39_42 rfl ?_
  refine Tx.bipush hC te_39_43 rfl rfl ?_
  refine Tx.bits hC (f := (fun (x y : Int32) => (x.toUInt32 >>> (y.toUInt32 &&& Int32.toUInt32 31)).toInt32)) te_39_45 (fun _ _ _ _ => Iff.rfl) (fun b13 b13e _ => ?_)
  have b13v : b13 = 0 := b13e.trans (by decide)
  subst b13v
  refine Tx.iaddW hC te_39_46 (fun b14 _ b14e => ?_)
  have b14v : b14 = 3 := b14e (by unfold InI; omega)
  subst b14v
  refine Tx.istore_n hC te_39_47 rfl ?_
  refine Tx.iload_n hC te_39_48 rfl ?_
  refine Tx.bipush hC te_39_49 rfl rfl ?_
  refine Tx.bits hC (f := (fun (x y : Int32) => x &&& y)) te_39_51 (fun _ _ _ _ => Iff.rfl) (fun b15 b15e _ => ?_)
  have b15v : b15 = 3 := b15e.trans (by decide)
  subst b15v
  exact Tx.ireturn hC te_39_52 rfl (fun _ => H)
theorem f_39_15 {S : Nat × (Nat → Int32)} {n : Nat} {mem : MM} {K : Int → MM → Prop} {E : Nat → MM → Prop} (H : K 4 mem) : CQI (Ex S (n + 1)) 39 [.inl 15] mem K E := by
  refine CY.of (k := 0) mt_39 rfl rfl (fun _ => ?_)
  have hC := Ex.mono S n
  show Tx (Ex S n) S M_39 (kI K E) 0 0 0 [some (.inl 15)] [] mem
  refine Tx.iload_n hC te_39_0 rfl ?_
  refine Tx.iload_n hC te_39_1 rfl ?_
  refine Tx.iconst hC te_39_2 rfl ?_
  refine Tx.bits hC (f := (fun (x y : Int32) => (x.toUInt32 >>> (y.toUInt32 &&& Int32.toUInt32 31)).toInt32)) te_39_3 (fun _ _ _ _ => Iff.rfl) (fun b1 b1e _ => ?_)
  have b1v : b1 = 7 := b1e.trans (by decide)
  subst b1v
  refine Tx.ldc_w hC (z := 1431655765) te_39_4 rfl rfl rfl rfl ?_
  refine Tx.bits hC (f := (fun (x y : Int32) => x &&& y)) te_39_7 (fun _ _ _ _ => Iff.rfl) (fun b2 b2e _ => ?_)
  have b2v : b2 = 5 := b2e.trans (by decide)
  subst b2v
  refine Tx.isubW hC te_39_8 (fun b3 _ b3e => ?_)
  have b3v : b3 = 10 := b3e (by unfold InI; omega)
  subst b3v
  refine Tx.istore_n hC te_39_9 rfl ?_
  refine Tx.iload_n hC te_39_10 rfl ?_
  refine Tx.ldc_w hC (z := 858993459) te_39_11 rfl rfl rfl rfl ?_
  refine Tx.bits hC (f := (fun (x y : Int32) => x &&& y)) te_39_14 (fun _ _ _ _ => Iff.rfl) (fun b4 b4e _ => ?_)
  have b4v : b4 = 2 := b4e.trans (by decide)
  subst b4v
  refine Tx.iload_n hC te_39_15 rfl ?_
  refine Tx.iconst hC te_39_16 rfl ?_
  refine Tx.bits hC (f := (fun (x y : Int32) => (x.toUInt32 >>> (y.toUInt32 &&& Int32.toUInt32 31)).toInt32)) te_39_17 (fun _ _ _ _ => Iff.rfl) (fun b5 b5e _ => ?_)
  have b5v : b5 = 2 := b5e.trans (by decide)
  subst b5v
  refine Tx.ldc_w hC (z := 858993459) te_39_18 rfl rfl rfl rfl ?_
  refine Tx.bits hC (f := (fun (x y : Int32) => x &&& y)) te_39_21 (fun _ _ _ _ => Iff.rfl) (fun b6 b6e _ => ?_)
  have b6v : b6 = 2 := b6e.trans (by decide)
  subst b6v
  refine Tx.iaddW hC te_39_22 (fun b7 _ b7e => ?_)
  have b7v : b7 = 4 := b7e (by unfold InI; omega)
  subst b7v
  refine Tx.istore_n hC te_39_23 rfl ?_
  refine Tx.iload_n hC te_39_24 rfl ?_
  refine Tx.iload_n hC te_39_25 rfl ?_
  refine Tx.iconst hC te_39_26 rfl ?_
  refine Tx.bits hC (f := (fun (x y : Int32) => (x.toUInt32 >>> (y.toUInt32 &&& Int32.toUInt32 31)).toInt32)) te_39_27 (fun _ _ _ _ => Iff.rfl) (fun b8 b8e _ => ?_)
  have b8v : b8 = 0 := b8e.trans (by decide)
  subst b8v
  refine Tx.iaddW hC te_39_28 (fun b9 _ b9e => ?_)
  have b9v : b9 = 4 := b9e (by unfold InI; omega)
  subst b9v
  refine Tx.ldc_w hC (z := 252645135) te_39_29 rfl rfl rfl rfl ?_
  refine Tx.bits hC (f := (fun (x y : Int32) => x &&& y)) te_39_32 (fun _ _ _ _ => Iff.rfl) (fun b10 b10e _ => ?_)
  have b10v : b10 = 4 := b10e.trans (by decide)
  subst b10v
  refine Tx.istore_n hC te_39_33 rfl ?_
  refine Tx.iload_n hC te_39_34 rfl ?_
  refine Tx.iload_n hC te_39_35 rfl ?_
  refine Tx.bipush hC te_39_36 rfl rfl ?_
  refine Tx.bits hC (f := (fun (x y : Int32) => (x.toUInt32 >>> (y.toUInt32 &&& Int32.toUInt32 31)).toInt32)) te_39_38 (fun _ _ _ _ => Iff.rfl) (fun b11 b11e _ => ?_)
  have b11v : b11 = 0 := b11e.trans (by decide)
  subst b11v
  refine Tx.iaddW hC te_39_39 (fun b12 _ b12e => ?_)
  have b12v : b12 = 4 := b12e (by unfold InI; omega)
  subst b12v
  refine Tx.istore_n hC te_39_40 rfl ?_
  refine Tx.iload_n hC te_39_41 rfl ?_
  refine Tx.iload_n hC te_39_42 rfl ?_
  refine Tx.bipush hC te_39_43 rfl rfl ?_
  refine Tx.bits hC (f := (fun (x y : Int32) => (x.toUInt32 >>> (y.toUInt32 &&& Int32.toUInt32 31)).toInt32)) te_39_45 (fun _ _ _ _ => Iff.rfl) (fun b13 b13e _ => ?_)
  have b13v : b13 = 0 := b13e.trans (by decide)
  subst b13v
  refine Tx.iaddW hC te_39_46 (fun b14 _ b14e => ?_)
  have b14v : b14 = 4 := b14e (by unfold InI; omega)
  subst b14v
  refine Tx.istore_n hC te_39_47 rfl ?_
  refine Tx.iload_n hC te_39_48 rfl ?_
  refine Tx.bipush hC te_39_49 rfl rfl ?_
  refine Tx.bits hC (f := (fun (x y : Int32) => x &&& y)) te_39_51 (fun _ _ _ _ => Iff.rfl) (fun b15 b15e _ => ?_)
  have b15v : b15 = 4 := b15e.trans (by decide)
  subst b15v
  exact Tx.ireturn hC te_39_52 rfl (fun _ => H)
theorem f_39x {S : Nat × (Nat → Int32)} {n : Nat} {mem : MM} {K : Int → MM → Prop} {E : Nat → MM → Prop} {x : Int} (hx : 0 ≤ x ∧ x ≤ 15) (H : ∀ r, r = popI x → K r mem) : CQI (Ex S (n + 1)) 39 [.inl x] mem K E := by
  have a : x = 0 ∨ x = 1 ∨ x = 2 ∨ x = 3 ∨ x = 4 ∨ x = 5 ∨ x = 6 ∨ x = 7 ∨ x = 8 ∨ x = 9 ∨ x = 10 ∨ x = 11 ∨ x = 12 ∨ x = 13 ∨ x = 14 ∨ x = 15 := by omega
  rcases a with rfl | rfl | rfl | rfl | rfl | rfl | rfl | rfl | rfl | rfl | rfl | rfl | rfl | rfl | rfl | rfl
  · exact f_39_0 (H _ rfl)
  · exact f_39_1 (H _ rfl)
  · exact f_39_2 (H _ rfl)
  · exact f_39_3 (H _ rfl)
  · exact f_39_4 (H _ rfl)
  · exact f_39_5 (H _ rfl)
  · exact f_39_6 (H _ rfl)
  · exact f_39_7 (H _ rfl)
  · exact f_39_8 (H _ rfl)
  · exact f_39_9 (H _ rfl)
  · exact f_39_10 (H _ rfl)
  · exact f_39_11 (H _ rfl)
  · exact f_39_12 (H _ rfl)
  · exact f_39_13 (H _ rfl)
  · exact f_39_14 (H _ rfl)
  · exact f_39_15 (H _ rfl)
theorem f_37x {S : Nat × (Nat → Int32)} {n : Nat} {mem : MM} {K : Int → MM → Prop} {E : Nat → MM → Prop} (hB : BodyOK mem) {o : Int} (ho : 0 ≤ o ∧ o < 8) (H : ∀ r, r = cUn mem o.toNat → 0 ≤ r → r ≤ 2 → K r mem) : CQI (Ex S (n + 1)) 37 [.inr 1, .inl o] mem K E := by
  refine CY.of (k := 0) mt_37 rfl rfl (fun hv => ?_)
  have hC := Ex.mono S n
  have ii_o : InI o := hv (.inl o) (by simp)
  unfold InI at ii_o
  clear hv
  show Tx (Ex S n) S M_37 (kI K E) 0 0 0 [some (.inr 1), some (.inl o)] [] mem
  refine Tx.aload_n hC te_37_0 rfl ?_
  refine Tx.getR hC te_37_1 rfl rfl rfl ?_
  refine Tx.aload_n hC te_37_4 rfl ?_
  refine Tx.getR hC te_37_5 rfl rfl rfl ?_
  refine Tx.iload_n hC te_37_8 rfl ?_
  refine Tx.iald hC te_37_9 rfl (by omega) (fun v1 v1e v1i => ?_)
  unfold InI at v1i
  have f2 := hB.kd (o := (Int.toNat o)) (by omega)
  refine Tx.iald hC te_37_10 rfl (by omega) (fun v3 v3e v3i => ?_)
  unfold InI at v3i
  have f4 := hB.un (o := (Int.toNat v1)) (by omega)
  exact Tx.ireturn hC te_37_11 rfl (fun hr => show K v3 mem from H _ (by unfold cUn; simp_all) (by omega) (by omega))
theorem f_38x {S : Nat × (Nat → Int32)} {n : Nat} {mem : MM} {K : Int → MM → Prop} {E : Nat → MM → Prop} (hB : BodyOK mem) {o : Int} (ho : 0 ≤ o ∧ o < 8) (H : ∀ r, r = cBu mem o.toNat → 1 ≤ r → r ≤ 15 → K r mem) : CQI (Ex S (n + 1)) 38 [.inr 1, .inl o] mem K E := by
  refine CY.of (k := 0) mt_38 rfl rfl (fun hv => ?_)
  have hC := Ex.mono S n
  have ii_o : InI o := hv (.inl o) (by simp)
  unfold InI at ii_o
  clear hv
  show Tx (Ex S n) S M_38 (kI K E) 0 0 0 [some (.inr 1), some (.inl o)] [] mem
  refine Tx.aload_n hC te_38_0 rfl ?_
  refine Tx.getR hC te_38_1 rfl rfl rfl ?_
  refine Tx.aload_n hC te_38_4 rfl ?_
  refine Tx.getR hC te_38_5 rfl rfl rfl ?_
  refine Tx.iload_n hC te_38_8 rfl ?_
  refine Tx.iald hC te_38_9 rfl (by omega) (fun v1 v1e v1i => ?_)
  unfold InI at v1i
  have f2 := hB.kd (o := (Int.toNat o)) (by omega)
  refine Tx.iald hC te_38_10 rfl (by omega) (fun v3 v3e v3i => ?_)
  unfold InI at v3i
  have f4 := hB.bu (o := (Int.toNat v1)) (by omega)
  exact Tx.ireturn hC te_38_11 rfl (fun hr => show K v3 mem from H _ (by unfold cBu; simp_all) (by omega) (by omega))
theorem f_36x {S : Nat × (Nat → Int32)} {n : Nat} {mem : MM} {K : Int → MM → Prop} {E : Nat → MM → Prop} (hB : BodyOK mem) {u : Int} (H : ∀ r, r = usC mem u → 0 ≤ r → r ≤ 32 → K r mem) : CQI (Ex S (n + 2)) 36 [.inr 1, .inl u] mem K E := by
  refine CY.of (k := 2) mt_36 rfl rfl (fun hv => ?_)
  have hC := Ex.mono S (n + 1)
  have ii_u : InI u := hv (.inl u) (by simp)
  unfold InI at ii_u
  clear hv
  have h8 := hB.1
  show Tx (Ex S (n + 1)) S M_36 (kI K E) 0 0 0 [some (.inr 1), some (.inl u), none, none] [] mem
  have l_4 : ∀ (N : Nat) (x2 x3 : Int), (0 ≤ x3 ∧ x3 ≤ mem 1 0) → (x2 = usN (cUn mem) (cBu mem) u x3.toNat) → ((8 - x3).toNat) < N → Tx (Ex S (n + 1)) S M_36 (kI K E) 0 0 4 [some (.inr 1), some (.inl u), some (.inl x2), some (.inl x3)] [] mem := by
    intro N
    induction N with
    | zero => intros; omega
    | succ N ih_4 =>
      intro x2 x3 i4_0 i4_1 hN_4 
      have us := usN_rg (f := cUn mem) (g := cBu mem) (u := u) x3.toNat
      have up := popI_rg (x := cBu mem x3.toNat)
      refine Tx.iload_n hC te_36_4 rfl ?_
      refine Tx.aload_n hC te_36_5 rfl ?_
      refine Tx.getI hC te_36_6 rfl rfl rfl (fun v1 v1e v1i => ?_)
      unfold InI at v1i
      refine Tx.icmp hC (t := 38) te_36_9 (by decide) (fun q2 => ?_) (fun q2 => ?_)
      · replace q2 : v1 ≤ (x3 : Int) := q2
        refine Tx.iload_n hC te_36_38 rfl ?_
        exact Tx.ireturn hC te_36_39 rfl (fun hr => show K x2 mem from H _ (by unfold usC; rw [show (mem 1 0).toNat = x3.toNat by omega]; omega) (by omega) (by omega))
      · replace q2 : ¬ (v1 ≤ (x3 : Int)) := q2
        refine Tx.aload_n hC te_36_12 rfl ?_
        refine Tx.iload_n hC te_36_13 rfl ?_
        refine Tx.virtI hC te_36_14 mt_37 (args := [.inr 1, .inl x3]) (rest := []) (c' := 0) (s' := 0) rfl rfl rfl rfl rfl rfl rfl rfl rfl rfl ?_
        refine f_37x hB (by omega) (fun r3 r3e r3a r3b r3i => ?_)
        unfold InI at r3i
        refine Tx.iload_n hC te_36_17 rfl ?_
        refine Tx.icmp hC (t := 32) te_36_18 (by decide) (fun q6 => ?_) (fun q6 => ?_)
        · replace q6 : ¬ (r3 : Int) = u := q6
          refine Tx.iincW hC te_36_32 rfl rfl (fun z7 z7i z7e => ?_)
          unfold InI at z7i z7e
          first | replace z7e := z7e (by omega) | clear z7e
          refine Tx.goto hC (t := 4) te_36_35 (by decide) ?_
          exact ih_4 x2 z7 (by omega) (by
                have w := usN_st (f := cUn mem) (g := cBu mem) (u := u) (o := x3) (by omega)
                rw [show z7 = x3 + 1 by omega, w]
                split <;> omega) (by omega)
        · replace q6 : ¬ (¬ (r3 : Int) = u) := q6
          refine Tx.iload_n hC te_36_21 rfl ?_
          refine Tx.aload_n hC te_36_22 rfl ?_
          refine Tx.iload_n hC te_36_23 rfl ?_
          refine Tx.virtI hC te_36_24 mt_38 (args := [.inr 1, .inl x3]) (rest := [.inl x2]) (c' := 0) (s' := 0) rfl rfl rfl rfl rfl rfl rfl rfl rfl rfl ?_
          refine f_38x hB (by omega) (fun r8 r8e r8a r8b r8i => ?_)
          subst r8e
          refine Tx.statI hC te_36_27 (by decide) mt_39 (args := [.inl (cBu mem (Int.toNat x3))]) (rest := [.inl x2]) (c' := 0) (s' := 0) rfl rfl rfl rfl rfl rfl rfl ?_
          refine f_39x (by omega) (fun r11 r11e r11i => ?_)
          unfold InI at r11i
          refine Tx.iaddW hC te_36_30 (fun z14 z14i z14e => ?_)
          unfold InI at z14i z14e
          first | replace z14e := z14e (by omega) | clear z14e
          refine Tx.istore_n hC te_36_31 rfl ?_
          refine Tx.iincW hC te_36_32 rfl rfl (fun z15 z15i z15e => ?_)
          unfold InI at z15i z15e
          first | replace z15e := z15e (by omega) | clear z15e
          refine Tx.goto hC (t := 4) te_36_35 (by decide) ?_
          exact ih_4 z14 z15 (by omega) (by
                have w := usN_st (f := cUn mem) (g := cBu mem) (u := u) (o := x3) (by omega)
                rw [show z15 = x3 + 1 by omega, w]
                split <;> omega) (by omega)
  refine Tx.iconst hC te_36_0 rfl ?_
  refine Tx.istore_n hC te_36_1 rfl ?_
  refine Tx.iconst hC te_36_2 rfl ?_
  refine Tx.istore_n hC te_36_3 rfl ?_
  exact l_4 _ 0 0 (by omega) (rfl) (Nat.lt_succ_self _)
end
section
/-! laid by wip/hand/tg.py: the seeker, exactly -/
theorem fm_a {x y z : Int} (e : z = x.tmod y) (h : 0 ≤ x ∨ z = 0) : z = x % y := by
  rcases h with h | h
  · rw [e]; exact Int.tmod_eq_emod_of_nonneg h
  · have q := Int.tmod_add_mul_tdiv x y
    rw [← e, h, Int.zero_add] at q
    rw [h, ← q, Int.mul_emod_right]
theorem fm_b {x y z w : Int} (hy : 0 < y) (e : z = x.tmod y) (h : -y < z ∧ z < 0) (hw : w = z + y) : w = x % y := by
  have q := Int.tmod_add_mul_tdiv x y
  have q2 : (x.tmod y + y * x.tdiv y) % y = x.tmod y % y := Int.add_mul_emod_self_left _ _ _
  rw [q, ← e] at q2
  rw [q2, hw, ← Int.add_emod_right, Int.emod_eq_of_lt (by omega) (by omega)]
theorem em_neg {z d : Int} (h : -d ≤ z ∧ z < 0) : z % d = z + d := by
  rw [← Int.add_emod_right, Int.emod_eq_of_lt (by omega) (by omega)]
/-! bitCount of a byte -/
def sU (a b : Int) : Int := ((fun (x y : Int32) => (x.toUInt32 >>> (y.toUInt32 &&& Int32.toUInt32 31)).toInt32) (Int32.ofInt a) (Int32.ofInt b)).toInt
def sA (a b : Int) : Int := ((fun (x y : Int32) => x &&& y) (Int32.ofInt a) (Int32.ofInt b)).toInt
def pF1 (x : Int) : Int := x - sA (sU x 1) 1431655765
def pF2 (x : Int) : Int := sA (pF1 x) 858993459 + sA (sU (pF1 x) 2) 858993459
def pF3 (x : Int) : Int := pF2 x + sU (pF2 x) 4
def pF4 (x : Int) : Int := sA (pF3 x) 252645135
def pF5 (x : Int) : Int := pF4 x + sU (pF4 x) 8
def pF6 (x : Int) : Int := pF5 x + sU (pF5 x) 16
def pcn (x : Int) : Int := sA (pF6 x) 63
theorem pF_rn : ∀ x, x < 256 → ((0 ≤ pF1 ((x : Nat) : Int) ∧ pF1 (x : Int) ≤ 10000) ∧ (0 ≤ pF2 (x : Int) ∧ pF2 (x : Int) ≤ 10000)) ∧ ((0 ≤ pF3 (x : Int) ∧ pF3 (x : Int) ≤ 10000) ∧ (0 ≤ pF5 (x : Int) ∧ pF5 (x : Int) ≤ 10000)) ∧ (0 ≤ pF6 (x : Int) ∧ pF6 (x : Int) ≤ 10000) := by decide +kernel
theorem pF_rg {x : Int} (hx : 0 ≤ x ∧ x < 256) : ((0 ≤ pF1 x ∧ pF1 x ≤ 10000) ∧ (0 ≤ pF2 x ∧ pF2 x ≤ 10000)) ∧ ((0 ≤ pF3 x ∧ pF3 x ≤ 10000) ∧ (0 ≤ pF5 x ∧ pF5 x ≤ 10000)) ∧ (0 ≤ pF6 x ∧ pF6 x ≤ 10000) := by
  have h := pF_rn x.toNat (by omega)
  rw [show ((x.toNat : Nat) : Int) = x by omega] at h
  exact h
theorem pcn_n : ∀ x, x < 256 → (2 ≤ pcn ((x : Nat) : Int) ↔ ∃ i, i < 8 ∧ ∃ j, j < 8 ∧ ¬ i = j ∧ (Int32.ofInt (x : Int)).toBitVec.getLsbD i = true ∧ (Int32.ofInt (x : Int)).toBitVec.getLsbD j = true) := by decide +kernel
theorem pcn_2 {x : Int} (hx : 0 ≤ x ∧ x < 256) : 2 ≤ pcn x ↔ ∃ i, i < 8 ∧ ∃ j, j < 8 ∧ ¬ i = j ∧ Bt x i ∧ Bt x j := by
  have h := pcn_n x.toNat (by omega)
  rw [show ((x.toNat : Nat) : Int) = x by omega] at h
  exact h
theorem trn {d f b y w b1 b4 b5 b7 : Int} (hd : 1 ≤ d ∧ d ≤ 12) (hf : ∀ i : Nat, Bt f i ↔ (i : Int) < d) (hb : ∀ i : Nat, Bt b i → (i : Int) < d) (hy : 0 ≤ y ∧ y ≤ d) (hw : w = d - y) (e1 : b1 = ((fun (x y : Int32) => x <<< (y &&& 31)) (Int32.ofInt b) (Int32.ofInt y)).toInt) (e4 : b4 = ((fun (x y : Int32) => x >>> (y &&& 31)) (Int32.ofInt b) (Int32.ofInt w)).toInt) (e5 : b5 = ((fun (x y : Int32) => x ||| y) (Int32.ofInt b1) (Int32.ofInt b4)).toInt) (e7 : b7 = ((fun (x y : Int32) => x &&& y) (Int32.ofInt b5) (Int32.ofInt f)).toInt) : ∀ i : Nat, Bt b7 i ↔ (i : Int) < d ∧ Bt b (((i : Int) - y) % d).toNat := by
  intro i
  rw [Bt_and e7, hf, Bt_or e5, Bt_shl (by omega) e1, Bt_shr (fun z => by have := hb 31 z; omega) (by omega) e4]
  by_cases hi : (i : Int) < d
  · by_cases q : y ≤ (i : Int)
    · have e : ((i : Int) - y) % d = i - y := Int.emod_eq_of_lt (by omega) (by omega)
      rw [e, show ((i : Int) - y).toNat = i - y.toNat by omega]
      constructor
      · rintro ⟨⟨-, -, h⟩ | h, -⟩
        · exact ⟨hi, h⟩
        · have := hb _ h; omega
      · exact fun ⟨_, h⟩ => ⟨Or.inl ⟨by omega, by omega, h⟩, hi⟩
    · have e : ((i : Int) - y) % d = i - y + d := em_neg (by omega)
      rw [e, show ((i : Int) - y + d).toNat = i + w.toNat by omega]
      constructor
      · rintro ⟨⟨h, -, -⟩ | h, -⟩
        · omega
        · exact ⟨hi, h⟩
      · exact fun ⟨_, h⟩ => ⟨Or.inr h, hi⟩
  · exact ⟨fun h => absurd h.2 hi, fun h => absurd h.1 hi⟩
def Win (d lo hi : Int) (i : Int) : Prop := ∃ q, lo ≤ i + d * q ∧ i + d * q ≤ hi
theorem Win.all {d lo hi i : Int} (hd : 0 < d) (h : lo + d ≤ hi + 1) : Win d lo hi i := by
  obtain ⟨q, h1, h2⟩ := ceil_ex (lo - i) hd
  rw [Int.mul_sub, Int.mul_one] at h1
  exact ⟨q, by omega, by omega⟩
theorem Win.none {d lo hi i : Int} (h : hi < lo) : ¬ Win d lo hi i := fun ⟨q, h1, h2⟩ => by omega
theorem Win.mod {d lo w i : Int} (hw : 0 < w ∧ w < d) : (i - lo % d) % d < w ↔ Win d lo (lo + w - 1) i := by
  have e0 : (i - lo % d) % d = (i - lo) % d := by rw [Int.sub_emod_emod]
  rw [e0]
  have e1 := Int.mul_ediv_add_emod (i - lo) d
  have r1 := Int.emod_nonneg (i - lo) (show d ≠ 0 by omega)
  constructor
  · intro h
    exact ⟨-((i - lo) / d), by rw [Int.mul_neg]; omega, by rw [Int.mul_neg]; omega⟩
  · rintro ⟨q, h1, h2⟩
    have e2 : (i + d * q - lo) % d = (i - lo) % d := by
      rw [show i + d * q - lo = i - lo + d * q by omega, Int.add_mul_emod_self_left]
    rw [← e2, Int.emod_eq_of_lt (by omega) (by omega)]
    omega
theorem shl13 : ∀ k, k < 14 → (1 ≤ (Int32.ofInt 1 <<< (Int32.ofInt ((k : Nat) : Int) &&& 31)).toInt ∧ (Int32.ofInt 1 <<< (Int32.ofInt (k : Int) &&& 31)).toInt ≤ 8192) := by decide +kernel
theorem shl1_rg {y b : Int} (e : b = ((fun (x y : Int32) => x <<< (y &&& 31)) (Int32.ofInt 1) (Int32.ofInt y)).toInt) (hy : 0 ≤ y ∧ y < 14) : 1 ≤ b ∧ b ≤ 8192 := by
  have h := shl13 y.toNat (by omega)
  rw [show ((y.toNat : Nat) : Int) = y by omega] at h
  rw [e]
  exact h
theorem Bt_ext {x y : Int} (hx : InI x) (hy : InI y) (h : ∀ i : Nat, i < 32 → (Bt x i ↔ Bt y i)) : x = y := by
  have e : Int32.ofInt x = Int32.ofInt y := Int32.toBitVec_inj.1 (BitVec.eq_of_getLsbD_eq (fun i hi => Bool.eq_iff_iff.mpr (h i hi)))
  rw [← wi hx, e, wi hy]
theorem byte_rg {x : Int} (hx : InI x) (h : ∀ j, Bt x j → j < 8) : 0 ≤ x ∧ x < 256 := by
  have h1 : (Int32.ofInt x).toBitVec.toNat < 2 ^ 8 := Nat.lt_pow_two_of_testBit _ (fun i hi => by
    by_cases q : Bt x i
    · exact absurd (h i q) (by omega)
    · exact Bool.eq_false_iff.mpr q)
  have h2 := BitVec.toInt_eq_toNat_of_lt (x := (Int32.ofInt x).toBitVec) (by omega)
  have h3 : (Int32.ofInt x).toBitVec.toInt = x := wi hx
  omega
theorem win_f {d f lo hi : Int} (hd : 1 ≤ d ∧ d ≤ 12) (hf : ∀ i : Nat, Bt f i ↔ (i : Int) < d) (h : lo + d ≤ hi + 1) : ∀ i : Nat, Bt f i ↔ (i : Int) < d ∧ Win d lo hi i := fun i => by
  rw [hf]
  exact ⟨fun q => ⟨q, Win.all (by omega) h⟩, fun q => q.1⟩
theorem win_0 {d f lo hi y w b1 b4 b5 b7 : Int} (hd : 1 ≤ d ∧ d ≤ 12) (hf : ∀ i : Nat, Bt f i ↔ (i : Int) < d) (h : hi < lo) (hy : 0 ≤ y ∧ y ≤ d) (hw : w = d - y) (e1 : b1 = ((fun (x y : Int32) => x <<< (y &&& 31)) (Int32.ofInt 0) (Int32.ofInt y)).toInt) (e4 : b4 = ((fun (x y : Int32) => x >>> (y &&& 31)) (Int32.ofInt 0) (Int32.ofInt w)).toInt) (e5 : b5 = ((fun (x y : Int32) => x ||| y) (Int32.ofInt b1) (Int32.ofInt b4)).toInt) (e7 : b7 = ((fun (x y : Int32) => x &&& y) (Int32.ofInt b5) (Int32.ofInt f)).toInt) : ∀ i : Nat, Bt b7 i ↔ (i : Int) < d ∧ Win d lo hi i := fun i => by
  rw [trn hd hf (fun i q => absurd q Bt_0) hy hw e1 e4 e5 e7]
  exact ⟨fun q => absurd q.2 Bt_0, fun q => absurd q.2 (Win.none h)⟩
theorem win_a {d f lo hi b v y w b1 b4 b5 b7 : Int} (hd : 1 ≤ d ∧ d ≤ 12) (hf : ∀ i : Nat, Bt f i ↔ (i : Int) < d) (hv : 0 < v ∧ v < d) (hb : ∀ i : Nat, Bt b i ↔ (i : Int) < v) (hh : hi = lo + v - 1) (hy : y = lo % d) (hw : w = d - y) (e1 : b1 = ((fun (x y : Int32) => x <<< (y &&& 31)) (Int32.ofInt b) (Int32.ofInt y)).toInt) (e4 : b4 = ((fun (x y : Int32) => x >>> (y &&& 31)) (Int32.ofInt b) (Int32.ofInt w)).toInt) (e5 : b5 = ((fun (x y : Int32) => x ||| y) (Int32.ofInt b1) (Int32.ofInt b4)).toInt) (e7 : b7 = ((fun (x y : Int32) => x &&& y) (Int32.ofInt b5) (Int32.ofInt f)).toInt) : ∀ i : Nat, Bt b7 i ↔ (i : Int) < d ∧ Win d lo hi i := fun i => by
  have y1 := Int.emod_nonneg lo (show d ≠ 0 by omega)
  have y2 := Int.emod_lt_of_pos lo (show 0 < d by omega)
  have z1 := Int.emod_nonneg ((i : Int) - y) (show d ≠ 0 by omega)
  rw [trn hd hf (fun i q => by have := (hb i).mp q; omega) (by omega) hw e1 e4 e5 e7, hb, show ((((i : Int) - y) % d).toNat : Int) = ((i : Int) - y) % d by omega, hy, Win.mod hv, hh]
theorem f_94e {S : Nat × (Nat → Int32)} {n : Nat} {mem : MM} {K : Int → MM → Prop} {E : Nat → MM → Prop} {x y : Int} (hy : 0 < y) (H : K (x % y) mem) : CQI (Ex S (n + 1)) 94 [.inl x, .inl y] mem K E := by
  refine CY.of (k := 1) mt_94 rfl rfl (fun hv => ?_)
  have hC := Ex.mono S n
  have ii_x : InI x := hv (.inl x) (by simp)
  unfold InI at ii_x
  have ii_y : InI y := hv (.inl y) (by simp)
  unfold InI at ii_y
  clear hv
  show Tx (Ex S n) S M_94 (kI K E) 0 0 0 [some (.inl x), some (.inl y), none] [] mem
  refine Tx.iload_n hC te_94_0 rfl ?_
  refine Tx.iload_n hC te_94_1 rfl ?_
  refine Tx.iremW hC te_94_2 (by omega) (fun z1 z1i z1e z1f => ?_)
  unfold InI at z1i
  refine Tx.istore_n hC te_94_3 rfl ?_
  refine Tx.iload_n hC te_94_4 rfl ?_
  refine Tx.iload_n hC te_94_5 rfl ?_
  refine Tx.bits hC (f := (fun (x y : Int32) => x ^^^ y)) te_94_6 (fun _ _ _ _ => Iff.rfl) (fun b2 b2e b2i => ?_)
  unfold InI at b2i
  have xs := xor_neg (by unfold InI; omega) (by unfold InI; omega) hy b2e
  refine Tx.ifc hC (t := 18) te_94_7 (by decide) (fun q3 => ?_) (fun q3 => ?_)
  · replace q3 : 0 ≤ (b2 : Int) := q3
    refine Tx.iload_n hC te_94_18 rfl ?_
    have fa := fm_a z1e (by omega)
    exact Tx.ireturn hC te_94_19 rfl (fun hr => show K z1 mem from by rw [fa]; exact H)
  · replace q3 : ¬ (0 ≤ (b2 : Int)) := q3
    refine Tx.iload_n hC te_94_10 rfl ?_
    refine Tx.ifc hC (t := 18) te_94_11 (by decide) (fun q4 => ?_) (fun q4 => ?_)
    · replace q4 : (z1 : Int) = 0 := q4
      refine Tx.iload_n hC te_94_18 rfl ?_
      have fa := fm_a z1e (by omega)
      exact Tx.ireturn hC te_94_19 rfl (fun hr => show K z1 mem from by rw [fa]; exact H)
    · replace q4 : ¬ ((z1 : Int) = 0) := q4
      refine Tx.iload_n hC te_94_14 rfl ?_
      refine Tx.iload_n hC te_94_15 rfl ?_
      refine Tx.iaddW hC te_94_16 (fun z5 z5i z5e => ?_)
      unfold InI at z5i z5e
      first | replace z5e := z5e (by omega) | clear z5e
      have fb := fm_b hy z1e (by omega) z5e
      exact Tx.ireturn hC te_94_17 rfl (fun hr => show K z5 mem from by rw [fb]; exact H)
theorem f_39b {S : Nat × (Nat → Int32)} {n : Nat} {mem : MM} {K : Int → MM → Prop} {E : Nat → MM → Prop} {x : Int} (hx : 0 ≤ x ∧ x < 256) (H : ∀ r, r = pcn x → K r mem) : CQI (Ex S (n + 1)) 39 [.inl x] mem K E := by
  refine CY.of (k := 0) mt_39 rfl rfl (fun hv => ?_)
  have hC := Ex.mono S n
  have ii_x : InI x := hv (.inl x) (by simp)
  unfold InI at ii_x
  clear hv
  have pg := pF_rg hx
  show Tx (Ex S n) S M_39 (kI K E) 0 0 0 [some (.inl x)] [] mem
  refine Tx.iload_n hC te_39_0 rfl ?_
  refine Tx.iload_n hC te_39_1 rfl ?_
  refine Tx.iconst hC te_39_2 rfl ?_
  refine Tx.bits hC (f := (fun (x y : Int32) => (x.toUInt32 >>> (y.toUInt32 &&& Int32.toUInt32 31)).toInt32)) te_39_3 (fun _ _ _ _ => Iff.rfl) (fun b1 b1e b1i => ?_)
  unfold InI at b1i
  refine Tx.ldc_w hC (z := 1431655765) te_39_4 rfl rfl rfl rfl ?_
  refine Tx.bits hC (f := (fun (x y : Int32) => x &&& y)) te_39_7 (fun _ _ _ _ => Iff.rfl) (fun b2 b2e b2i => ?_)
  unfold InI at b2i
  have e8 : x - b2 = pF1 x := by rw [b2e, b1e]; rfl
  refine Tx.isubW hC te_39_8 (fun z3 z3i z3e => ?_)
  unfold InI at z3i z3e
  first | replace z3e := z3e (by omega) | clear z3e
  refine Tx.istore_n hC te_39_9 rfl ?_
  have e3 : z3 = pF1 x := by omega
  refine Tx.iload_n hC te_39_10 rfl ?_
  refine Tx.ldc_w hC (z := 858993459) te_39_11 rfl rfl rfl rfl ?_
  refine Tx.bits hC (f := (fun (x y : Int32) => x &&& y)) te_39_14 (fun _ _ _ _ => Iff.rfl) (fun b4 b4e b4i => ?_)
  unfold InI at b4i
  refine Tx.iload_n hC te_39_15 rfl ?_
  refine Tx.iconst hC te_39_16 rfl ?_
  refine Tx.bits hC (f := (fun (x y : Int32) => (x.toUInt32 >>> (y.toUInt32 &&& Int32.toUInt32 31)).toInt32)) te_39_17 (fun _ _ _ _ => Iff.rfl) (fun b5 b5e b5i => ?_)
  unfold InI at b5i
  refine Tx.ldc_w hC (z := 858993459) te_39_18 rfl rfl rfl rfl ?_
  refine Tx.bits hC (f := (fun (x y : Int32) => x &&& y)) te_39_21 (fun _ _ _ _ => Iff.rfl) (fun b6 b6e b6i => ?_)
  unfold InI at b6i
  have e22 : b4 + b6 = pF2 x := by rw [b4e, b6e, b5e, e3]; rfl
  refine Tx.iaddW hC te_39_22 (fun z7 z7i z7e => ?_)
  unfold InI at z7i z7e
  first | replace z7e := z7e (by omega) | clear z7e
  refine Tx.istore_n hC te_39_23 rfl ?_
  have e7 : z7 = pF2 x := by omega
  refine Tx.iload_n hC te_39_24 rfl ?_
  refine Tx.iload_n hC te_39_25 rfl ?_
  refine Tx.iconst hC te_39_26 rfl ?_
  refine Tx.bits hC (f := (fun (x y : Int32) => (x.toUInt32 >>> (y.toUInt32 &&& Int32.toUInt32 31)).toInt32)) te_39_27 (fun _ _ _ _ => Iff.rfl) (fun b8 b8e b8i => ?_)
  unfold InI at b8i
  have e28 : z7 + b8 = pF3 x := by rw [b8e, e7]; rfl
  refine Tx.iaddW hC te_39_28 (fun z9 z9i z9e => ?_)
  unfold InI at z9i z9e
  first | replace z9e := z9e (by omega) | clear z9e
  refine Tx.ldc_w hC (z := 252645135) te_39_29 rfl rfl rfl rfl ?_
  refine Tx.bits hC (f := (fun (x y : Int32) => x &&& y)) te_39_32 (fun _ _ _ _ => Iff.rfl) (fun b10 b10e b10i => ?_)
  unfold InI at b10i
  refine Tx.istore_n hC te_39_33 rfl ?_
  have e10 : b10 = pF4 x := by
    have e9 : z9 = pF3 x := by omega
    rw [b10e, e9]; rfl
  refine Tx.iload_n hC te_39_34 rfl ?_
  refine Tx.iload_n hC te_39_35 rfl ?_
  refine Tx.bipush hC te_39_36 rfl rfl ?_
  refine Tx.bits hC (f := (fun (x y : Int32) => (x.toUInt32 >>> (y.toUInt32 &&& Int32.toUInt32 31)).toInt32)) te_39_38 (fun _ _ _ _ => Iff.rfl) (fun b11 b11e b11i => ?_)
  unfold InI at b11i
  have e39 : b10 + b11 = pF5 x := by rw [b11e, e10]; rfl
  refine Tx.iaddW hC te_39_39 (fun z12 z12i z12e => ?_)
  unfold InI at z12i z12e
  first | replace z12e := z12e (by omega) | clear z12e
  refine Tx.istore_n hC te_39_40 rfl ?_
  have e12 : z12 = pF5 x := by omega
  refine Tx.iload_n hC te_39_41 rfl ?_
  refine Tx.iload_n hC te_39_42 rfl ?_
  refine Tx.bipush hC te_39_43 rfl rfl ?_
  refine Tx.bits hC (f := (fun (x y : Int32) => (x.toUInt32 >>> (y.toUInt32 &&& Int32.toUInt32 31)).toInt32)) te_39_45 (fun _ _ _ _ => Iff.rfl) (fun b13 b13e b13i => ?_)
  unfold InI at b13i
  have e46 : z12 + b13 = pF6 x := by rw [b13e, e12]; rfl
  refine Tx.iaddW hC te_39_46 (fun z14 z14i z14e => ?_)
  unfold InI at z14i z14e
  first | replace z14e := z14e (by omega) | clear z14e
  refine Tx.istore_n hC te_39_47 rfl ?_
  have e14 : z14 = pF6 x := by omega
  refine Tx.iload_n hC te_39_48 rfl ?_
  refine Tx.bipush hC te_39_49 rfl rfl ?_
  refine Tx.bits hC (f := (fun (x y : Int32) => x &&& y)) te_39_51 (fun _ _ _ _ => Iff.rfl) (fun b15 b15e b15i => ?_)
  unfold InI at b15i
  exact Tx.ireturn hC te_39_52 rfl (fun hr => show K b15 mem from H _ (by rw [b15e, e14]; rfl))
theorem f_92e {S : Nat × (Nat → Int32)} {n : Nat} {mem : MM} {K : Int → MM → Prop} {E : Nat → MM → Prop} {o : Int} (ho : 0 ≤ o ∧ o < 8) (hb : ∀ j, Bt (mem 34 o.toNat) j → j < 8) (H1 : (∃ i, i < 8 ∧ ∃ j, j < 8 ∧ ¬ i = j ∧ Bt (mem 34 o.toNat) i ∧ Bt (mem 34 o.toNat) j) → K 1 mem) (H0 : (¬ ∃ i, i < 8 ∧ ∃ j, j < 8 ∧ ¬ i = j ∧ Bt (mem 34 o.toNat) i ∧ Bt (mem 34 o.toNat) j) → K 0 mem) : CQI (Ex S (n + 2)) 92 [.inr 21, .inl o] mem K E := by
  refine CY.of (k := 0) mt_92 rfl rfl (fun hv => ?_)
  have hC := Ex.mono S (n + 1)
  have ii_o : InI o := hv (.inl o) (by simp)
  unfold InI at ii_o
  clear hv
  show Tx (Ex S (n + 1)) S M_92 (kI K E) 0 0 0 [some (.inr 21), some (.inl o)] [] mem
  refine Tx.aload_n hC te_92_0 rfl ?_
  refine Tx.getR hC te_92_1 rfl rfl rfl ?_
  refine Tx.iload_n hC te_92_4 rfl ?_
  refine Tx.iald hC te_92_5 rfl (by omega) (fun v1 v1e v1i => ?_)
  unfold InI at v1i
  have rg := byte_rg (x := v1) (by unfold InI; omega) (by rw [v1e]; exact hb)
  refine Tx.statI hC te_92_6 (by decide) mt_39 (args := [.inl v1]) (rest := []) (c' := 0) (s' := 0) rfl rfl rfl rfl rfl rfl rfl ?_
  refine f_39b (by omega) (fun r2 r2e r2i => ?_)
  have p2 := pcn_2 rg
  rw [v1e] at p2 r2e
  unfold InI at r2i
  refine Tx.iconst hC te_92_9 rfl ?_
  refine Tx.icmp hC (t := 17) te_92_10 (by decide) (fun q5 => ?_) (fun q5 => ?_)
  · replace q5 : (r2 : Int) < 2 := q5
    refine Tx.iconst hC te_92_17 rfl ?_
    exact Tx.bret hC te_92_18 rfl (by omega) (show K 0 mem from H0 (by rw [← p2]; omega))
  · replace q5 : ¬ ((r2 : Int) < 2) := q5
    refine Tx.iconst hC te_92_13 rfl ?_
    refine Tx.goto hC (t := 18) te_92_14 (by decide) ?_
    exact Tx.bret hC te_92_18 rfl (by omega) (show K 1 mem from H1 (by rw [← p2]; omega))
theorem f_98e {S : Nat × (Nat → Int32)} {n : Nat} {mem : MM} {K : Int → MM → Prop} {E : Nat → MM → Prop} {b y : Int} (hd : 1 ≤ mem 21 1 ∧ mem 21 1 ≤ 12) (hf : ∀ i : Nat, Bt (mem 21 2) i ↔ (i : Int) < mem 21 1) (hb : ∀ i : Nat, Bt b i → (i : Int) < mem 21 1) (hy : 0 ≤ y ∧ y ≤ mem 21 1) (H : ∀ r, (∀ i : Nat, Bt r i ↔ (i : Int) < mem 21 1 ∧ Bt b (((i : Int) - y) % mem 21 1).toNat) → K r mem) : CQI (Ex S (n + 1)) 98 [.inr 21, .inl b, .inl y] mem K E := by
  refine CY.of (k := 0) mt_98 rfl rfl (fun hv => ?_)
  have hC := Ex.mono S n
  have ii_b : InI b := hv (.inl b) (by simp)
  unfold InI at ii_b
  have ii_y : InI y := hv (.inl y) (by simp)
  unfold InI at ii_y
  clear hv
  show Tx (Ex S n) S M_98 (kI K E) 0 0 0 [some (.inr 21), some (.inl b), some (.inl y)] [] mem
  refine Tx.iload_n hC te_98_0 rfl ?_
  refine Tx.iload_n hC te_98_1 rfl ?_
  refine Tx.bits hC (f := (fun (x y : Int32) => x <<< (y &&& 31))) te_98_2 (fun _ _ _ _ => Iff.rfl) (fun b1 b1e b1i => ?_)
  unfold InI at b1i
  refine Tx.iload_n hC te_98_3 rfl ?_
  refine Tx.aload_n hC te_98_4 rfl ?_
  refine Tx.getI hC te_98_5 rfl rfl rfl (fun v2 v2e v2i => ?_)
  unfold InI at v2i
  refine Tx.iload_n hC te_98_8 rfl ?_
  refine Tx.isubW hC te_98_9 (fun z3 z3i z3e => ?_)
  unfold InI at z3i z3e
  first | replace z3e := z3e (by omega) | clear z3e
  refine Tx.bits hC (f := (fun (x y : Int32) => x >>> (y &&& 31))) te_98_10 (fun _ _ _ _ => Iff.rfl) (fun b4 b4e b4i => ?_)
  unfold InI at b4i
  refine Tx.bits hC (f := (fun (x y : Int32) => x ||| y)) te_98_11 (fun _ _ _ _ => Iff.rfl) (fun b5 b5e b5i => ?_)
  unfold InI at b5i
  refine Tx.aload_n hC te_98_12 rfl ?_
  refine Tx.getI hC te_98_13 rfl rfl rfl (fun v6 v6e v6i => ?_)
  unfold InI at v6i
  refine Tx.bits hC (f := (fun (x y : Int32) => x &&& y)) te_98_16 (fun _ _ _ _ => Iff.rfl) (fun b7 b7e b7i => ?_)
  unfold InI at b7i
  exact Tx.ireturn hC te_98_17 rfl (fun hr => show K b7 mem from H _ (trn hd (by rw [v6e]; exact hf) hb hy (by omega) b1e b4e b5e b7e))
theorem f_99e {S : Nat × (Nat → Int32)} {n : Nat} {mem : MM} {K : Int → MM → Prop} {E : Nat → MM → Prop} {o p : Int} (hd : 1 ≤ mem 21 1 ∧ mem 21 1 ≤ 12) (hf : ∀ i : Nat, Bt (mem 21 2) i ↔ (i : Int) < mem 21 1) (ho : 0 ≤ o ∧ o < 8) (hp : 0 ≤ p ∧ p < 8) (hs : 0 ≤ mem 22 p.toNat ∧ mem 22 p.toNat ≤ 11) (h1 : -900 ≤ mem 30 (8 * p.toNat + o.toNat) ∧ mem 30 (8 * p.toNat + o.toNat) ≤ 5000) (h2 : -900 ≤ mem 30 (8 * o.toNat + p.toNat) ∧ mem 30 (8 * o.toNat + p.toNat) ≤ 5000) (H : ∀ r, (∀ i : Nat, Bt r i ↔ (i : Int) < mem 21 1 ∧ Win (mem 21 1) (mem 22 p.toNat + mem 30 (8 * p.toNat + o.toNat)) (mem 22 p.toNat - mem 30 (8 * o.toNat + p.toNat)) i) → K r mem) : CQI (Ex S (n + 2)) 99 [.inr 21, .inl o, .inl p] mem K E := by
  refine CY.of (k := 4) mt_99 rfl rfl (fun hv => ?_)
  have hC := Ex.mono S (n + 1)
  have ii_o : InI o := hv (.inl o) (by simp)
  unfold InI at ii_o
  have ii_p : InI p := hv (.inl p) (by simp)
  unfold InI at ii_p
  clear hv
  show Tx (Ex S (n + 1)) S M_99 (kI K E) 0 0 0 [some (.inr 21), some (.inl o), some (.inl p), none, none, none, none] [] mem
  refine Tx.aload_n hC te_99_0 rfl ?_
  refine Tx.getR hC te_99_1 rfl rfl rfl ?_
  refine Tx.iload_n hC te_99_4 rfl ?_
  refine Tx.bipush hC te_99_5 rfl rfl ?_
  refine Tx.imulW hC te_99_7 (fun z1 z1i z1e => ?_)
  unfold InI at z1i z1e
  first | replace z1e := z1e (by omega) | clear z1e
  refine Tx.iload_n hC te_99_8 rfl ?_
  refine Tx.iaddW hC te_99_9 (fun z2 z2i z2e => ?_)
  unfold InI at z2i z2e
  first | replace z2e := z2e (by omega) | clear z2e
  refine Tx.iald hC te_99_10 rfl (by omega) (fun v3 v3e v3i => ?_)
  unfold InI at v3i
  have l3 : v3 = mem 30 (8 * p.toNat + o.toNat) := by rw [v3e]; congr 1; omega
  refine Tx.istore_n hC te_99_11 rfl ?_
  refine Tx.iconst hC te_99_12 rfl ?_
  refine Tx.aload_n hC te_99_13 rfl ?_
  refine Tx.getR hC te_99_14 rfl rfl rfl ?_
  refine Tx.iload_n hC te_99_17 rfl ?_
  refine Tx.bipush hC te_99_18 rfl rfl ?_
  refine Tx.imulW hC te_99_20 (fun z4 z4i z4e => ?_)
  unfold InI at z4i z4e
  first | replace z4e := z4e (by omega) | clear z4e
  refine Tx.iload_n hC te_99_21 rfl ?_
  refine Tx.iaddW hC te_99_22 (fun z5 z5i z5e => ?_)
  unfold InI at z5i z5e
  first | replace z5e := z5e (by omega) | clear z5e
  refine Tx.iald hC te_99_23 rfl (by omega) (fun v6 v6e v6i => ?_)
  unfold InI at v6i
  have l6 : v6 = mem 30 (8 * o.toNat + p.toNat) := by rw [v6e]; congr 1; omega
  refine Tx.isubW hC te_99_24 (fun z7 z7i z7e => ?_)
  unfold InI at z7i z7e
  first | replace z7e := z7e (by omega) | clear z7e
  refine Tx.iload_n hC te_99_25 rfl ?_
  refine Tx.isubW hC te_99_26 (fun z8 z8i z8e => ?_)
  unfold InI at z8i z8e
  first | replace z8e := z8e (by omega) | clear z8e
  refine Tx.istore hC te_99_27 rfl ?_
  refine Tx.iload hC te_99_29 rfl ?_
  refine Tx.aload_n hC te_99_31 rfl ?_
  refine Tx.getI hC te_99_32 rfl rfl rfl (fun v9 v9e v9i => ?_)
  unfold InI at v9i
  refine Tx.icmp hC (t := 43) te_99_35 (by decide) (fun q10 => ?_) (fun q10 => ?_)
  · replace q10 : (z8 : Int) < v9 := q10
    refine Tx.aload_n hC te_99_43 rfl ?_
    refine Tx.getR hC te_99_44 rfl rfl rfl ?_
    refine Tx.iload_n hC te_99_47 rfl ?_
    refine Tx.iald hC te_99_48 rfl (by omega) (fun v11 v11e v11i => ?_)
    unfold InI at v11i
    refine Tx.iload_n hC te_99_49 rfl ?_
    refine Tx.iaddW hC te_99_50 (fun z12 z12i z12e => ?_)
    unfold InI at z12i z12e
    first | replace z12e := z12e (by omega) | clear z12e
    refine Tx.aload_n hC te_99_51 rfl ?_
    refine Tx.getI hC te_99_52 rfl rfl rfl (fun v13 v13e v13i => ?_)
    unfold InI at v13i
    refine Tx.statI hC te_99_55 (by decide) mt_94 (args := [.inl z12, .inl v13]) (rest := []) (c' := 0) (s' := 0) rfl rfl rfl rfl rfl rfl rfl ?_
    refine f_94e (by omega) (fun r14i => ?_)
    have hst : z12 % v13 = (mem 22 p.toNat + mem 30 (8 * p.toNat + o.toNat)) % mem 21 1 := by
      rw [v13e, show z12 = mem 22 p.toNat + mem 30 (8 * p.toNat + o.toNat) by omega]
    have hs2 := Int.emod_nonneg z12 (show v13 ≠ 0 by omega)
    have hs3 := Int.emod_lt_of_pos z12 (show 0 < v13 by omega)
    refine Tx.istore hC te_99_58 rfl ?_
    refine Tx.iload hC te_99_60 rfl ?_
    refine Tx.ifc hC (t := 69) te_99_62 (by decide) (fun q17 => ?_) (fun q17 => ?_)
    · replace q17 : 0 < (z8 : Int) := q17
      refine Tx.iconst hC te_99_69 rfl ?_
      refine Tx.iload hC te_99_70 rfl ?_
      refine Tx.bits hC (f := (fun (x y : Int32) => x <<< (y &&& 31))) te_99_72 (fun _ _ _ _ => Iff.rfl) (fun b18 b18e b18i => ?_)
      unfold InI at b18i
      refine Tx.iconst hC te_99_73 rfl ?_
      have g74 := shl1_rg b18e (by omega)
      refine Tx.isubW hC te_99_74 (fun z19 z19i z19e => ?_)
      unfold InI at z19i z19e
      first | replace z19e := z19e (by omega) | clear z19e
      refine Tx.istore hC te_99_75 rfl ?_
      refine Tx.iload hC te_99_77 rfl ?_
      refine Tx.iload hC te_99_79 rfl ?_
      refine Tx.bits hC (f := (fun (x y : Int32) => x <<< (y &&& 31))) te_99_81 (fun _ _ _ _ => Iff.rfl) (fun b20 b20e b20i => ?_)
      unfold InI at b20i
      refine Tx.iload hC te_99_82 rfl ?_
      refine Tx.aload_n hC te_99_84 rfl ?_
      refine Tx.getI hC te_99_85 rfl rfl rfl (fun v21 v21e v21i => ?_)
      unfold InI at v21i
      refine Tx.iload hC te_99_88 rfl ?_
      refine Tx.isubW hC te_99_90 (fun z22 z22i z22e => ?_)
      unfold InI at z22i z22e
      first | replace z22e := z22e (by omega) | clear z22e
      refine Tx.bits hC (f := (fun (x y : Int32) => x >>> (y &&& 31))) te_99_91 (fun _ _ _ _ => Iff.rfl) (fun b23 b23e b23i => ?_)
      unfold InI at b23i
      refine Tx.bits hC (f := (fun (x y : Int32) => x ||| y)) te_99_92 (fun _ _ _ _ => Iff.rfl) (fun b24 b24e b24i => ?_)
      unfold InI at b24i
      refine Tx.aload_n hC te_99_93 rfl ?_
      refine Tx.getI hC te_99_94 rfl rfl rfl (fun v25 v25e v25i => ?_)
      unfold InI at v25i
      refine Tx.bits hC (f := (fun (x y : Int32) => x &&& y)) te_99_97 (fun _ _ _ _ => Iff.rfl) (fun b26 b26e b26i => ?_)
      unfold InI at b26i
      exact Tx.ireturn hC te_99_98 rfl (fun hr => show K b26 mem from H _ (win_a hd (by rw [v25e]; exact hf) (v := z8) (by omega) (fun i => Bt_full (by omega) b18e z19e) (by omega) hst (by omega) b20e b23e b24e b26e))
    · replace q17 : ¬ (0 < (z8 : Int)) := q17
      refine Tx.iconst hC te_99_65 rfl ?_
      refine Tx.goto hC (t := 75) te_99_66 (by decide) ?_
      refine Tx.istore hC te_99_75 rfl ?_
      refine Tx.iload hC te_99_77 rfl ?_
      refine Tx.iload hC te_99_79 rfl ?_
      refine Tx.bits hC (f := (fun (x y : Int32) => x <<< (y &&& 31))) te_99_81 (fun _ _ _ _ => Iff.rfl) (fun b27 b27e b27i => ?_)
      unfold InI at b27i
      refine Tx.iload hC te_99_82 rfl ?_
      refine Tx.aload_n hC te_99_84 rfl ?_
      refine Tx.getI hC te_99_85 rfl rfl rfl (fun v28 v28e v28i => ?_)
      unfold InI at v28i
      refine Tx.iload hC te_99_88 rfl ?_
      refine Tx.isubW hC te_99_90 (fun z29 z29i z29e => ?_)
      unfold InI at z29i z29e
      first | replace z29e := z29e (by omega) | clear z29e
      refine Tx.bits hC (f := (fun (x y : Int32) => x >>> (y &&& 31))) te_99_91 (fun _ _ _ _ => Iff.rfl) (fun b30 b30e b30i => ?_)
      unfold InI at b30i
      refine Tx.bits hC (f := (fun (x y : Int32) => x ||| y)) te_99_92 (fun _ _ _ _ => Iff.rfl) (fun b31 b31e b31i => ?_)
      unfold InI at b31i
      refine Tx.aload_n hC te_99_93 rfl ?_
      refine Tx.getI hC te_99_94 rfl rfl rfl (fun v32 v32e v32i => ?_)
      unfold InI at v32i
      refine Tx.bits hC (f := (fun (x y : Int32) => x &&& y)) te_99_97 (fun _ _ _ _ => Iff.rfl) (fun b33 b33e b33i => ?_)
      unfold InI at b33i
      exact Tx.ireturn hC te_99_98 rfl (fun hr => show K b33 mem from H _ (win_0 hd (by rw [v32e]; exact hf) (by omega) (by omega) (by omega) b27e b30e b31e b33e))
  · replace q10 : ¬ ((z8 : Int) < v9) := q10
    refine Tx.aload_n hC te_99_38 rfl ?_
    refine Tx.getI hC te_99_39 rfl rfl rfl (fun v34 v34e v34i => ?_)
    unfold InI at v34i
    exact Tx.ireturn hC te_99_42 rfl (fun hr => show K v34 mem from H _ (win_f hd (by rw [v34e]; exact hf) (by omega)))
end
section
/-! laid by wip/hand/tg.py: the seeker, exactly -/
def OpU (D : Nat → Prop) (Q : Nat → Nat → Prop) (x k : Int) : Prop := ∀ i : Nat, Bt x i ↔ D i ∧ ∀ r : Nat, (r : Int) < k → Q r i
theorem OpU.ini {D : Nat → Prop} {Q : Nat → Nat → Prop} {x : Int} (h : ∀ i : Nat, Bt x i ↔ D i) : OpU D Q x 0 := fun i => by
  rw [h]
  exact ⟨fun q => ⟨q, fun r hr => by omega⟩, fun q => q.1⟩
theorem OpU.skip {D : Nat → Prop} {Q : Nat → Nat → Prop} {x k k' : Int} (h : OpU D Q x k) (hk : 0 ≤ k) (e : k' = k + 1) (q : ∀ i, D i → Q k.toNat i) : OpU D Q x k' := fun i => by
  rw [h i, e]
  refine ⟨fun w => ⟨w.1, fun r hr => ?_⟩, fun w => ⟨w.1, fun r hr => w.2 r (by omega)⟩⟩
  by_cases c : (r : Int) < k
  · exact w.2 r c
  · rw [show r = k.toNat by omega]; exact q i w.1
theorem OpU.and {D : Nat → Prop} {Q : Nat → Nat → Prop} {x k k' t b : Int} (h : OpU D Q x k) (hk : 0 ≤ k) (e : k' = k + 1) (eb : b = ((fun (x y : Int32) => x &&& y) (Int32.ofInt x) (Int32.ofInt t)).toInt) (ht : ∀ i, D i → (Bt t i ↔ Q k.toNat i)) : OpU D Q b k' := fun i => by
  rw [Bt_and eb, h i, e]
  constructor
  · rintro ⟨w, wt⟩
    refine ⟨w.1, fun r hr => ?_⟩
    by_cases c : (r : Int) < k
    · exact w.2 r c
    · rw [show r = k.toNat by omega]; exact (ht i w.1).mp wt
  · rintro ⟨w1, w2⟩
    exact ⟨⟨w1, fun r hr => w2 r (by omega)⟩, (ht i w1).mpr (w2 k.toNat (by omega))⟩
theorem OpU.fin {D : Nat → Prop} {Q : Nat → Nat → Prop} {x k n : Int} (h : OpU D Q x k) (q : n ≤ k ∨ x = 0 ∨ ∀ r i : Nat, k ≤ (r : Int) → (r : Int) < n → D i → Q r i) (hn : k ≤ n ∨ ∀ r i : Nat, n ≤ (r : Int) → (r : Int) < k → D i → Q r i) : OpU D Q x n := fun i => by
  constructor
  · intro w
    have g := (h i).mp w
    refine ⟨g.1, fun r hr => ?_⟩
    by_cases c : (r : Int) < k
    · exact g.2 r c
    · rcases q with q | q | q
      · omega
      · rw [q] at w; exact absurd w Bt_0
      · exact q r i (by omega) hr g.1
  · intro w
    refine (h i).mpr ⟨w.1, fun r hr => ?_⟩
    by_cases c : (r : Int) < n
    · exact w.2 r c
    · rcases hn with hn | hn
      · omega
      · exact hn r i (by omega) hr w.1
def SkM (m : MM) (d : Int) : Prop := SkO m d ∧ (∀ i : Nat, Bt (m 21 2) i ↔ (i : Int) < d) ∧ (∀ o r : Nat, (o : Int) < m 21 0 → r < 4 → 0 < m 27 (4 * o + r) → (r : Int) < d) ∧ (∀ u k i : Nat, u < 3 → 1 ≤ k → k < 4 → Bt (m 28 (4 * u + k)) i → (i : Int) < d) ∧ (∀ o : Nat, o < 8 → Bt (m 21 4) o → 0 ≤ m 22 o ∧ m 22 o < d) ∧ (∀ a b : Nat, (a : Int) < m 21 0 → b < 8 → Bt (m 34 a) b → (-900 ≤ m 30 (8 * a + b) ∧ m 30 (8 * a + b) ≤ 5000) ∧ -900 ≤ m 30 (8 * b + a) ∧ m 30 (8 * b + a) ≤ 5000)
def QUn (m : MM) (d : Int) (o r i : Nat) : Prop := 0 < m 27 (4 * o + r) → ¬ Bt (m 28 (4 * (m 24 o).toNat + (m 25 (m 24 o).toNat - m 27 (4 * o + r) + 1).toNat)) (((i : Int) + r) % d).toNat
def QOp (m : MM) (d : Int) (o r i : Nat) : Prop := Bt (m 21 4) r → (Bt (m 34 o) r → Win d (m 22 r + m 30 (8 * r + o)) (m 22 r - m 30 (8 * o + r)) i) ∧ (¬ Bt (m 34 o) r → Bt (m 35 o) r → (r < o → m 22 r ≤ (i : Int)) ∧ (¬ r < o → (i : Int) ≤ m 22 r))
def OpnB (m : MM) (d : Int) (o i : Nat) : Prop := ((i : Int) < d ∧ ∀ r : Nat, (r : Int) < 4 → QUn m d o r i) ∧ ∀ r : Nat, (r : Int) < m 21 0 → QOp m d o r i
theorem QUn.tr {m : MM} {d k y t bn v : Int} {o i : Nat} (hd : 1 ≤ d ∧ d ≤ 12) (hk : 0 ≤ k) (hi : (i : Int) < d) (hy : y = d - k) (hp : 0 < m 27 (4 * o + k.toNat)) (hv : v = m 28 (4 * (m 24 o).toNat + (m 25 (m 24 o).toNat - m 27 (4 * o + k.toNat) + 1).toNat)) (ht : ∀ i : Nat, Bt t i ↔ (i : Int) < d ∧ Bt v (((i : Int) - y) % d).toNat) (e : bn = ((fun (x y : Int32) => x ^^^ y) (Int32.ofInt t) (Int32.ofInt (-1))).toInt) : Bt bn i ↔ QUn m d o k.toNat i := by
  rw [Bt_not e (by omega), ht]
  have e1 : ((i : Int) - y) % d = ((i : Int) + k) % d := by
    rw [show (i : Int) - y = i + k - d by omega, Int.sub_emod_right]
  unfold QUn
  rw [e1, hv, show ((k.toNat : Nat) : Int) = k by omega]
  exact ⟨fun q _ w => q ⟨hi, w⟩, fun q w => q hp w.2⟩
theorem QOp.skip {m : MM} {d x : Int} {o r i : Nat} (nr : ∀ j : Nat, Bt x j ↔ (Bt (m 34 o) j ∨ Bt (m 35 o) j) ∧ Bt (m 21 4) j) (h : ¬ Bt x r) : QOp m d o r i := fun p => ⟨fun w => absurd ((nr r).mpr ⟨Or.inl w, p⟩) h, fun _ w => absurd ((nr r).mpr ⟨Or.inr w, p⟩) h⟩
theorem QOp.tied {m : MM} {d t : Int} {o r i : Nat} (hp : Bt (m 21 4) r) (ht : Bt (m 34 o) r) (hi : (i : Int) < d) (hr : Bt t i ↔ (i : Int) < d ∧ Win d (m 22 r + m 30 (8 * r + o)) (m 22 r - m 30 (8 * o + r)) i) : Bt t i ↔ QOp m d o r i := by
  rw [hr]
  exact ⟨fun q _ => ⟨fun _ => q.2, fun w => absurd ht w⟩, fun q => ⟨hi, (q hp).1 ht⟩⟩
theorem QOp.twA {m : MM} {d t f v : Int} {o r i : Nat} (hp : Bt (m 21 4) r) (ht : ¬ Bt (m 34 o) r) (hw : Bt (m 35 o) r) (hd : d ≤ 12) (hi : (i : Int) < d) (hf : ∀ i : Nat, Bt f i ↔ (i : Int) < d) (hv : v = m 22 r) (hs : 0 ≤ m 22 r ∧ m 22 r < d) (hro : r < o) (e : t = ((fun (x y : Int32) => x <<< (y &&& 31)) (Int32.ofInt f) (Int32.ofInt v)).toInt) : Bt t i ↔ QOp m d o r i := by
  rw [Bt_shl (by omega) e, hf]
  exact ⟨fun q _ => ⟨fun w => absurd w ht, fun _ _ => ⟨fun _ => by omega, fun z => absurd hro z⟩⟩, fun q => by have := ((q hp).2 ht hw).1 hro; omega⟩
theorem QOp.twB {m : MM} {d t b v : Int} {o r i : Nat} (hp : Bt (m 21 4) r) (ht : ¬ Bt (m 34 o) r) (hw : Bt (m 35 o) r) (hd : d ≤ 12) (hv : v = m 22 r) (hs : 0 ≤ m 22 r ∧ m 22 r < d) (hro : ¬ r < o) (e : b = ((fun (x y : Int32) => x <<< (y &&& 31)) (Int32.ofInt 2) (Int32.ofInt v)).toInt) (e2 : t = b - 1) : Bt t i ↔ QOp m d o r i := by
  rw [Bt_upto (by omega) e e2, hv]
  exact ⟨fun q _ => ⟨fun w => absurd w ht, fun _ _ => ⟨fun z => absurd z hro, fun _ => q⟩⟩, fun q => ((q hp).2 ht hw).2 hro⟩
theorem shl23 : ∀ k, k < 13 → (1 ≤ (Int32.ofInt 2 <<< (Int32.ofInt ((k : Nat) : Int) &&& 31)).toInt ∧ (Int32.ofInt 2 <<< (Int32.ofInt (k : Int) &&& 31)).toInt ≤ 8192) := by decide +kernel
theorem shl2_rg {y b : Int} (e : b = ((fun (x y : Int32) => x <<< (y &&& 31)) (Int32.ofInt 2) (Int32.ofInt y)).toInt) (hy : 0 ≤ y ∧ y < 13) : 1 ≤ b ∧ b ≤ 8192 := by
  have h := shl23 y.toNat (by omega)
  rw [show ((y.toNat : Nat) : Int) = y by omega] at h
  rw [e]
  exact h
theorem f_97e {S : Nat × (Nat → Int32)} {n : Nat} {mem : MM} {K : Int → MM → Prop} {E : Nat → MM → Prop} {d : Int} (hM : SkM mem d) {o : Int} (ho : 0 ≤ o ∧ o < mem 21 0) (H : ∀ r, (∀ i : Nat, Bt r i ↔ OpnB mem d o.toNat i) → K r mem) : CQI (Ex S (n + 3)) 97 [.inr 21, .inl o] mem K E := by
  refine CY.of (k := 4) mt_97 rfl rfl (fun hv => ?_)
  have hC := Ex.mono S (n + 2)
  have ii_o : InI o := hv (.inl o) (by simp)
  unfold InI at ii_o
  clear hv
  have hs0 := hM.1.1
  have hs1 := hM.1.2.1
  have hf := hM.2.1
  have hd := hs1.2
  show Tx (Ex S (n + 2)) S M_97 (kI K E) 0 0 0 [some (.inr 21), some (.inl o), none, none, none, none] [] mem
  have l_104 : ∀ (N : Nat) (x2 x3 x4 x5 : Int), (0 ≤ x5 ∧ x5 ≤ mem 21 0) → (∀ j : Nat, Bt x4 j ↔ (Bt (mem 34 o.toNat) j ∨ Bt (mem 35 o.toNat) j) ∧ Bt (mem 21 4) j) → (OpU (fun i => (i : Int) < d ∧ ∀ r : Nat, (r : Int) < 4 → QUn mem d o.toNat r i) (QOp mem d o.toNat) x2 x5) → ((8 - x5).toNat) < N → Tx (Ex S (n + 2)) S M_97 (kI K E) 0 0 104 [some (.inr 21), some (.inl o), some (.inl x2), some (.inl x3), some (.inl x4), some (.inl x5)] [] mem := by
    intro N
    induction N with
    | zero => intros; omega
    | succ N ih_104 =>
      intro x2 x3 x4 x5 i104_0 i104_1 i104_2 hN_104 
      refine Tx.iload hC te_97_104 rfl ?_
      refine Tx.aload_n hC te_97_106 rfl ?_
      refine Tx.getI hC te_97_107 rfl rfl rfl (fun v1 v1e v1i => ?_)
      unfold InI at v1i
      refine Tx.icmp hC (t := 206) te_97_110 (by decide) (fun q2 => ?_) (fun q2 => ?_)
      · replace q2 : v1 ≤ (x5 : Int) := q2
        refine Tx.iload_n hC te_97_206 rfl ?_
        exact Tx.ireturn hC te_97_207 rfl (fun hr => show K x2 mem from H _ (OpU.fin i104_2 (by first | exact Or.inl (by omega) | exact Or.inr (Or.inl (by omega)) | exact Or.inr (Or.inr (fun r i _ _ _ => QOp.skip i104_1 (by rw [show x4 = 0 by omega]; exact Bt_0)))) (Or.inl (by omega))))
      · replace q2 : ¬ (v1 ≤ (x5 : Int)) := q2
        refine Tx.iload hC te_97_113 rfl ?_
        refine Tx.ifc hC (t := 206) te_97_115 (by decide) (fun q3 => ?_) (fun q3 => ?_)
        · replace q3 : (x4 : Int) = 0 := q3
          refine Tx.iload_n hC te_97_206 rfl ?_
          exact Tx.ireturn hC te_97_207 rfl (fun hr => show K x2 mem from H _ (OpU.fin i104_2 (by first | exact Or.inl (by omega) | exact Or.inr (Or.inl (by omega)) | exact Or.inr (Or.inr (fun r i _ _ _ => QOp.skip i104_1 (by rw [show x4 = 0 by omega]; exact Bt_0)))) (Or.inl (by omega))))
        · replace q3 : ¬ ((x4 : Int) = 0) := q3
          refine Tx.iload_n hC te_97_118 rfl ?_
          refine Tx.ifc hC (t := 206) te_97_119 (by decide) (fun q4 => ?_) (fun q4 => ?_)
          · replace q4 : (x2 : Int) = 0 := q4
            refine Tx.iload_n hC te_97_206 rfl ?_
            exact Tx.ireturn hC te_97_207 rfl (fun hr => show K x2 mem from H _ (OpU.fin i104_2 (by first | exact Or.inl (by omega) | exact Or.inr (Or.inl (by omega)) | exact Or.inr (Or.inr (fun r i _ _ _ => QOp.skip i104_1 (by rw [show x4 = 0 by omega]; exact Bt_0)))) (Or.inl (by omega))))
          · replace q4 : ¬ ((x2 : Int) = 0) := q4
            refine Tx.iload hC te_97_122 rfl ?_
            refine Tx.iconst hC te_97_124 rfl ?_
            refine Tx.iload hC te_97_125 rfl ?_
            refine Tx.bits hC (f := (fun (x y : Int32) => x <<< (y &&& 31))) te_97_127 (fun _ _ _ _ => Iff.rfl) (fun b5 b5e b5i => ?_)
            unfold InI at b5i
            refine Tx.bits hC (f := (fun (x y : Int32) => x &&& y)) te_97_128 (fun _ _ _ _ => Iff.rfl) (fun b6 b6e b6i => ?_)
            unfold InI at b6i
            have t7 := Bt_tst (t := x4) (o := x5) (by omega) (by assumption) b6e
            refine Tx.ifc hC (t := 135) te_97_129 (by decide) (fun q7 => ?_) (fun q7 => ?_)
            · replace q7 : ¬ (b6 : Int) = 0 := q7
              have nb := (i104_1 x5.toNat).mp (t7.mp (by assumption))
              have sl := hM.2.2.2.2.1 x5.toNat (by omega) nb.2
              refine Tx.aload_n hC te_97_135 rfl ?_
              refine Tx.getR hC te_97_136 rfl rfl rfl ?_
              refine Tx.iload_n hC te_97_139 rfl ?_
              refine Tx.iald hC te_97_140 rfl (by omega) (fun v8 v8e v8i => ?_)
              unfold InI at v8i
              refine Tx.iconst hC te_97_141 rfl ?_
              refine Tx.iload hC te_97_142 rfl ?_
              refine Tx.bits hC (f := (fun (x y : Int32) => x <<< (y &&& 31))) te_97_144 (fun _ _ _ _ => Iff.rfl) (fun b9 b9e b9i => ?_)
              unfold InI at b9i
              have n8 := v8e
              refine Tx.bits hC (f := (fun (x y : Int32) => x &&& y)) te_97_145 (fun _ _ _ _ => Iff.rfl) (fun b10 b10e b10i => ?_)
              unfold InI at b10i
              have t11 := Bt_tst (o := x5) (by omega) (by assumption) b10e
              rw [n8] at t11
              refine Tx.ifc hC (t := 162) te_97_146 (by decide) (fun q11 => ?_) (fun q11 => ?_)
              · replace q11 : (b10 : Int) = 0 := q11
                have tn : ¬ Bt (mem 34 o.toNat) x5.toNat := fun z => (t11.mpr z) (by assumption)
                have tw := nb.1.resolve_left tn
                refine Tx.iload hC te_97_162 rfl ?_
                refine Tx.iload_n hC te_97_164 rfl ?_
                refine Tx.icmp hC (t := 186) te_97_165 (by decide) (fun q12 => ?_) (fun q12 => ?_)
                · replace q12 : o ≤ (x5 : Int) := q12
                  refine Tx.iload_n hC te_97_186 rfl ?_
                  refine Tx.iconst hC te_97_187 rfl ?_
                  refine Tx.aload_n hC te_97_188 rfl ?_
                  refine Tx.getR hC te_97_189 rfl rfl rfl ?_
                  refine Tx.iload hC te_97_192 rfl ?_
                  refine Tx.iald hC te_97_194 rfl (by omega) (fun v13 v13e v13i => ?_)
                  unfold InI at v13i
                  have n22 := v13e
                  refine Tx.bits hC (f := (fun (x y : Int32) => x <<< (y &&& 31))) te_97_195 (fun _ _ _ _ => Iff.rfl) (fun b14 b14e b14i => ?_)
                  unfold InI at b14i
                  refine Tx.iconst hC te_97_196 rfl ?_
                  have g97 := shl2_rg b14e (by omega)
                  refine Tx.isubW hC te_97_197 (fun z15 z15i z15e => ?_)
                  unfold InI at z15i z15e
                  first | replace z15e := z15e (by omega) | clear z15e
                  have bq : ∀ i : Nat, (i : Int) < d → (Bt z15 i ↔ QOp mem d o.toNat x5.toNat i) := fun i hi => QOp.twB nb.2 tn tw (by omega) n22 (by omega) (by omega) (by assumption) z15e
                  refine Tx.bits hC (f := (fun (x y : Int32) => x &&& y)) te_97_198 (fun _ _ _ _ => Iff.rfl) (fun b16 b16e b16i => ?_)
                  unfold InI at b16i
                  refine Tx.istore_n hC te_97_199 rfl ?_
                  refine Tx.iincW hC te_97_200 rfl rfl (fun z17 z17i z17e => ?_)
                  unfold InI at z17i z17e
                  first | replace z17e := z17e (by omega) | clear z17e
                  refine Tx.goto hC (t := 104) te_97_203 (by decide) ?_
                  exact ih_104 b16 x3 x4 z17 (by omega) (by first | exact i104_1 | exact (fun j => by rw [Bt_and x4e, nr, n4])) (by first | exact OpU.skip i104_2 (by omega) (by omega) (fun i _ => QOp.skip i104_1 (fun z => (t7.mpr z) (by omega))) | exact OpU.and i104_2 (by omega) (by omega) b16e (fun i hi => bq i hi.1) | exact OpU.ini (fun i => by have g := i15_3 i; rw [show x4 = 4 by omega] at g; exact g)) (by omega)
                · replace q12 : ¬ (o ≤ (x5 : Int)) := q12
                  refine Tx.iload_n hC te_97_168 rfl ?_
                  refine Tx.aload_n hC te_97_169 rfl ?_
                  refine Tx.getI hC te_97_170 rfl rfl rfl (fun v18 v18e v18i => ?_)
                  unfold InI at v18i
                  refine Tx.aload_n hC te_97_173 rfl ?_
                  refine Tx.getR hC te_97_174 rfl rfl rfl ?_
                  refine Tx.iload hC te_97_177 rfl ?_
                  refine Tx.iald hC te_97_179 rfl (by omega) (fun v19 v19e v19i => ?_)
                  unfold InI at v19i
                  have n22 := v19e
                  have n2 := v18e
                  refine Tx.bits hC (f := (fun (x y : Int32) => x <<< (y &&& 31))) te_97_180 (fun _ _ _ _ => Iff.rfl) (fun b20 b20e b20i => ?_)
                  unfold InI at b20i
                  have bq : ∀ i : Nat, (i : Int) < d → (Bt b20 i ↔ QOp mem d o.toNat x5.toNat i) := fun i hi => QOp.twA nb.2 tn tw (by omega) hi (fun i => by rw [n2]; exact hf i) n22 (by omega) (by omega) b20e
                  refine Tx.bits hC (f := (fun (x y : Int32) => x &&& y)) te_97_181 (fun _ _ _ _ => Iff.rfl) (fun b21 b21e b21i => ?_)
                  unfold InI at b21i
                  refine Tx.istore_n hC te_97_182 rfl ?_
                  refine Tx.goto hC (t := 200) te_97_183 (by decide) ?_
                  refine Tx.iincW hC te_97_200 rfl rfl (fun z22 z22i z22e => ?_)
                  unfold InI at z22i z22e
                  first | replace z22e := z22e (by omega) | clear z22e
                  refine Tx.goto hC (t := 104) te_97_203 (by decide) ?_
                  exact ih_104 b21 x3 x4 z22 (by omega) (by first | exact i104_1 | exact (fun j => by rw [Bt_and x4e, nr, n4])) (by first | exact OpU.skip i104_2 (by omega) (by omega) (fun i _ => QOp.skip i104_1 (fun z => (t7.mpr z) (by omega))) | exact OpU.and i104_2 (by omega) (by omega) b21e (fun i hi => bq i hi.1) | exact OpU.ini (fun i => by have g := i15_3 i; rw [show x4 = 4 by omega] at g; exact g)) (by omega)
              · replace q11 : ¬ ((b10 : Int) = 0) := q11
                have tt := t11.mp (by assumption)
                have tr := hM.2.2.2.2.2 o.toNat x5.toNat (by omega) (by omega) tt
                refine Tx.iload_n hC te_97_149 rfl ?_
                refine Tx.aload_n hC te_97_150 rfl ?_
                refine Tx.iload_n hC te_97_151 rfl ?_
                refine Tx.iload hC te_97_152 rfl ?_
                refine Tx.virtI hC te_97_154 mt_99 (args := [.inr 21, .inl o, .inl x5]) (rest := [.inl x2]) (c' := 0) (s' := 0) rfl rfl rfl rfl rfl rfl rfl rfl rfl rfl ?_
                refine f_99e (by omega) (by rw [hs1.1]; exact hf) (by omega) (by omega) (by omega) tr.2 tr.1 (fun r23 r23s r23i => ?_)
                rw [hs1.1] at r23s
                unfold InI at r23i
                have bq : ∀ i : Nat, (i : Int) < d → (Bt r23 i ↔ QOp mem d o.toNat x5.toNat i) := fun i hi => QOp.tied nb.2 tt hi (r23s i)
                refine Tx.bits hC (f := (fun (x y : Int32) => x &&& y)) te_97_157 (fun _ _ _ _ => Iff.rfl) (fun b26 b26e b26i => ?_)
                unfold InI at b26i
                refine Tx.istore_n hC te_97_158 rfl ?_
                refine Tx.goto hC (t := 200) te_97_159 (by decide) ?_
                refine Tx.iincW hC te_97_200 rfl rfl (fun z27 z27i z27e => ?_)
                unfold InI at z27i z27e
                first | replace z27e := z27e (by omega) | clear z27e
                refine Tx.goto hC (t := 104) te_97_203 (by decide) ?_
                exact ih_104 b26 x3 x4 z27 (by omega) (by first | exact i104_1 | exact (fun j => by rw [Bt_and x4e, nr, n4])) (by first | exact OpU.skip i104_2 (by omega) (by omega) (fun i _ => QOp.skip i104_1 (fun z => (t7.mpr z) (by omega))) | exact OpU.and i104_2 (by omega) (by omega) b26e (fun i hi => bq i hi.1) | exact OpU.ini (fun i => by have g := i15_3 i; rw [show x4 = 4 by omega] at g; exact g)) (by omega)
            · replace q7 : ¬ (¬ (b6 : Int) = 0) := q7
              refine Tx.goto hC (t := 200) te_97_132 (by decide) ?_
              refine Tx.iincW hC te_97_200 rfl rfl (fun z28 z28i z28e => ?_)
              unfold InI at z28i z28e
              first | replace z28e := z28e (by omega) | clear z28e
              refine Tx.goto hC (t := 104) te_97_203 (by decide) ?_
              exact ih_104 x2 x3 x4 z28 (by omega) (by first | exact i104_1 | exact (fun j => by rw [Bt_and x4e, nr, n4])) (by first | exact OpU.skip i104_2 (by omega) (by omega) (fun i _ => QOp.skip i104_1 (fun z => (t7.mpr z) (by omega))) | exact OpU.and i104_2 (by omega) (by omega) x2e (fun i hi => bq i hi.1) | exact OpU.ini (fun i => by have g := i15_3 i; rw [show x4 = 4 by omega] at g; exact g)) (by omega)
  have l_15 : ∀ (N : Nat) (x2 x3 x4 : Int), (0 ≤ x4 ∧ x4 ≤ 4) → (x3 = mem 24 (Int.toNat o)) → (0 ≤ x3 ∧ x3 ≤ 2) → (OpU (fun i => (i : Int) < d) (QUn mem d o.toNat) x2 x4) → ((4 - x4).toNat) < N → Tx (Ex S (n + 2)) S M_97 (kI K E) 0 0 15 [some (.inr 21), some (.inl o), some (.inl x2), some (.inl x3), some (.inl x4), none] [] mem := by
    intro N
    induction N with
    | zero => intros; omega
    | succ N ih_15 =>
      intro x2 x3 x4 i15_0 i15_1 i15_2 i15_3 hN_15 
      refine Tx.iload hC te_97_15 rfl ?_
      refine Tx.iconst hC te_97_17 rfl ?_
      refine Tx.icmp hC (t := 81) te_97_18 (by decide) (fun q29 => ?_) (fun q29 => ?_)
      · replace q29 : 4 ≤ (x4 : Int) := q29
        refine Tx.aload_n hC te_97_81 rfl ?_
        refine Tx.getR hC te_97_82 rfl rfl rfl ?_
        refine Tx.iload_n hC te_97_85 rfl ?_
        refine Tx.iald hC te_97_86 rfl (by omega) (fun v30 v30e v30i => ?_)
        unfold InI at v30i
        refine Tx.aload_n hC te_97_87 rfl ?_
        refine Tx.getR hC te_97_88 rfl rfl rfl ?_
        refine Tx.iload_n hC te_97_91 rfl ?_
        refine Tx.iald hC te_97_92 rfl (by omega) (fun v31 v31e v31i => ?_)
        unfold InI at v31i
        have n34 := v30e
        have n35 := v31e
        refine Tx.bits hC (f := (fun (x y : Int32) => x ||| y)) te_97_93 (fun _ _ _ _ => Iff.rfl) (fun b32 b32e b32i => ?_)
        unfold InI at b32i
        refine Tx.aload_n hC te_97_94 rfl ?_
        refine Tx.getI hC te_97_95 rfl rfl rfl (fun v33 v33e v33i => ?_)
        unfold InI at v33i
        have n4 := v33e
        have nr : ∀ j : Nat, Bt b32 j ↔ Bt (mem 34 o.toNat) j ∨ Bt (mem 35 o.toNat) j := fun j => by rw [Bt_or b32e, n34, n35]
        refine Tx.bits hC (f := (fun (x y : Int32) => x &&& y)) te_97_98 (fun _ _ _ _ => Iff.rfl) (fun b34 b34e b34i => ?_)
        unfold InI at b34i
        refine Tx.istore hC te_97_99 rfl ?_
        refine Tx.iconst hC te_97_101 rfl ?_
        refine Tx.istore hC te_97_102 rfl ?_
        exact l_104 _ x2 x3 b34 0 (by omega) (by first | exact i104_1 | exact (fun j => by rw [Bt_and b34e, nr, n4])) (by first | exact OpU.skip i104_2 (by omega) (by omega) (fun i _ => QOp.skip i104_1 (fun z => (t7.mpr z) (by omega))) | exact OpU.and i104_2 (by omega) (by omega) x2e (fun i hi => bq i hi.1) | exact OpU.ini (fun i => by have g := i15_3 i; rw [show x4 = 4 by omega] at g; exact g)) (Nat.lt_succ_self _)
      · replace q29 : ¬ (4 ≤ (x4 : Int)) := q29
        refine Tx.aload_n hC te_97_21 rfl ?_
        refine Tx.getR hC te_97_22 rfl rfl rfl ?_
        refine Tx.iload_n hC te_97_25 rfl ?_
        refine Tx.iconst hC te_97_26 rfl ?_
        refine Tx.imulW hC te_97_27 (fun z35 z35i z35e => ?_)
        unfold InI at z35i z35e
        first | replace z35e := z35e (by omega) | clear z35e
        refine Tx.iload hC te_97_28 rfl ?_
        refine Tx.iaddW hC te_97_30 (fun z36 z36i z36e => ?_)
        unfold InI at z36i z36e
        first | replace z36e := z36e (by omega) | clear z36e
        refine Tx.iald hC te_97_31 rfl (by omega) (fun v37 v37e v37i => ?_)
        unfold InI at v37i
        have v37ez : v37 = mem 27 (4 * o.toNat + x4.toNat) := by rw [v37e, show (Int.toNat z36) = 4 * Int.toNat o + Int.toNat x4 by omega]
        have f38 := hM.1.2.2.2.2 (Int.toNat o) (Int.toNat x4) (by omega) (by omega)
        have f38d := hM.2.2.1 (Int.toNat o) (Int.toNat x4) (by omega) (by omega)
        refine Tx.istore hC te_97_32 rfl ?_
        refine Tx.iload hC te_97_34 rfl ?_
        refine Tx.ifc hC (t := 75) te_97_36 (by decide) (fun q39 => ?_) (fun q39 => ?_)
        · replace q39 : (v37 : Int) ≤ 0 := q39
          refine Tx.iincW hC te_97_75 rfl rfl (fun z40 z40i z40e => ?_)
          unfold InI at z40i z40e
          first | replace z40e := z40e (by omega) | clear z40e
          refine Tx.goto hC (t := 15) te_97_78 (by decide) ?_
          exact Tx.weak (by repeat' (first | exact trivial | exact rfl | constructor)) (ih_15 x2 x3 z40 (by omega) (by omega) (by omega) (by first | exact OpU.skip i15_3 (by omega) (by omega) (fun i _ w => absurd w (by omega)) | exact OpU.and i15_3 (by omega) (by omega) x2e bn | exact OpU.ini (fun i => by rw [show x2 = mem 21 2 by omega]; exact hf i)) (by omega))
        · replace q39 : ¬ ((v37 : Int) ≤ 0) := q39
          refine Tx.iload_n hC te_97_39 rfl ?_
          refine Tx.aload_n hC te_97_40 rfl ?_
          refine Tx.aload_n hC te_97_41 rfl ?_
          refine Tx.getR hC te_97_42 rfl rfl rfl ?_
          refine Tx.iload_n hC te_97_45 rfl ?_
          refine Tx.iconst hC te_97_46 rfl ?_
          refine Tx.imulW hC te_97_47 (fun z41 z41i z41e => ?_)
          unfold InI at z41i z41e
          first | replace z41e := z41e (by omega) | clear z41e
          refine Tx.aload_n hC te_97_48 rfl ?_
          refine Tx.getR hC te_97_49 rfl rfl rfl ?_
          refine Tx.iload_n hC te_97_52 rfl ?_
          refine Tx.iald hC te_97_53 rfl (by omega) (fun v42 v42e v42i => ?_)
          unfold InI at v42i
          have f43 := hM.1.2.2.2.1 (Int.toNat x3) (by omega)
          rw [i15_1] at v42e f43
          refine Tx.iaddW hC te_97_54 (fun z44 z44i z44e => ?_)
          unfold InI at z44i z44e
          first | replace z44e := z44e (by omega) | clear z44e
          refine Tx.iload hC te_97_55 rfl ?_
          refine Tx.isubW hC te_97_57 (fun z45 z45i z45e => ?_)
          unfold InI at z45i z45e
          first | replace z45e := z45e (by omega) | clear z45e
          refine Tx.iconst hC te_97_58 rfl ?_
          refine Tx.iaddW hC te_97_59 (fun z46 z46i z46e => ?_)
          unfold InI at z46i z46e
          first | replace z46e := z46e (by omega) | clear z46e
          refine Tx.iald hC te_97_60 rfl (by omega) (fun v47 v47e v47i => ?_)
          unfold InI at v47i
          refine Tx.aload_n hC te_97_61 rfl ?_
          refine Tx.getI hC te_97_62 rfl rfl rfl (fun v48 v48e v48i => ?_)
          unfold InI at v48i
          refine Tx.iload hC te_97_65 rfl ?_
          refine Tx.isubW hC te_97_67 (fun z49 z49i z49e => ?_)
          unfold InI at z49i z49e
          first | replace z49e := z49e (by omega) | clear z49e
          refine Tx.virtI hC te_97_68 mt_98 (args := [.inr 21, .inl v47, .inl z49]) (rest := [.inl x2]) (c' := 0) (s' := 0) rfl rfl rfl rfl rfl rfl rfl rfl rfl rfl ?_
          have hv : v47 = mem 28 (4 * (mem 24 o.toNat).toNat + (mem 25 (mem 24 o.toNat).toNat - mem 27 (4 * o.toNat + x4.toNat) + 1).toNat) := by
            rw [v47e]
            congr 1
            omega
          refine f_98e (by omega) (by rw [hs1.1]; exact hf) (by rw [hs1.1]; exact fun i h => hM.2.2.2.1 (mem 24 o.toNat).toNat ((mem 25 (mem 24 o.toNat).toNat - mem 27 (4 * o.toNat + x4.toNat) + 1).toNat) i (by omega) (by omega) (by omega) (by rw [← hv]; exact h)) (by omega) (fun r50 r50s r50i => ?_)
          rw [hs1.1] at r50s
          have rs := r50s
          unfold InI at r50i
          refine Tx.iconst hC te_97_71 rfl ?_
          refine Tx.bits hC (f := (fun (x y : Int32) => x ^^^ y)) te_97_72 (fun _ _ _ _ => Iff.rfl) (fun b53 b53e b53i => ?_)
          unfold InI at b53i
          have bn : ∀ i : Nat, (i : Int) < d → (Bt b53 i ↔ QUn mem d o.toNat x4.toNat i) := fun i hi => QUn.tr hd (by omega) hi (by omega) (by omega) hv rs b53e
          refine Tx.bits hC (f := (fun (x y : Int32) => x &&& y)) te_97_73 (fun _ _ _ _ => Iff.rfl) (fun b54 b54e b54i => ?_)
          unfold InI at b54i
          refine Tx.istore_n hC te_97_74 rfl ?_
          refine Tx.iincW hC te_97_75 rfl rfl (fun z55 z55i z55e => ?_)
          unfold InI at z55i z55e
          first | replace z55e := z55e (by omega) | clear z55e
          refine Tx.goto hC (t := 15) te_97_78 (by decide) ?_
          exact Tx.weak (by repeat' (first | exact trivial | exact rfl | constructor)) (ih_15 b54 x3 z55 (by omega) (by omega) (by omega) (by first | exact OpU.skip i15_3 (by omega) (by omega) (fun i _ w => absurd w (by omega)) | exact OpU.and i15_3 (by omega) (by omega) b54e bn | exact OpU.ini (fun i => by rw [show b54 = mem 21 2 by omega]; exact hf i)) (by omega))
  refine Tx.aload_n hC te_97_0 rfl ?_
  refine Tx.getI hC te_97_1 rfl rfl rfl (fun v56 v56e v56i => ?_)
  unfold InI at v56i
  refine Tx.istore_n hC te_97_4 rfl ?_
  refine Tx.aload_n hC te_97_5 rfl ?_
  refine Tx.getR hC te_97_6 rfl rfl rfl ?_
  refine Tx.iload_n hC te_97_9 rfl ?_
  refine Tx.iald hC te_97_10 rfl (by omega) (fun v57 v57e v57i => ?_)
  unfold InI at v57i
  have f58 := hM.1.2.2.1 (Int.toNat o) (by omega)
  refine Tx.istore_n hC te_97_11 rfl ?_
  refine Tx.iconst hC te_97_12 rfl ?_
  refine Tx.istore hC te_97_13 rfl ?_
  exact l_15 _ v56 v57 0 (by omega) (by omega) (by omega) (by first | exact OpU.skip i15_3 (by omega) (by omega) (fun i _ w => absurd w (by omega)) | exact OpU.and i15_3 (by omega) (by omega) v56e bn | exact OpU.ini (fun i => by rw [show v56 = mem 21 2 by omega]; exact hf i)) (Nat.lt_succ_self _)
end
section
/-! align, as sums -/
noncomputable def eIn (Hd : Nat → Prop) (T : Nat → Nat → Int) (s : Nat → Int) (d x : Int) (o i : Nat) : Int := cIf (Hd i) (T i o + (x - s i - T i o) % d) (T i o)
noncomputable def eOu (Hd : Nat → Prop) (T : Nat → Nat → Int) (s : Nat → Int) (d x : Int) (o i : Nat) : Int := cIf (Hd i) (T o i + (s i - x - T o i) % d) (T o i)
def AlC (Ti Hd : Nat → Prop) (T : Nat → Nat → Int) (s : Nat → Int) (d x : Int) (o : Nat) (Φ : (Nat → Int) → Prop) : Prop :=
  (0 < d ∧ d ≤ 12) ∧ (∀ i, Hd i → Ti i) ∧
  (∀ i, Ti i → (-900 ≤ T i o ∧ T i o ≤ 5000) ∧ -900 ≤ T o i ∧ T o i ≤ 5000) ∧
  (∀ i j, Ti i → Hd j → ¬ i = j → (-900 ≤ T i j ∧ T i j ≤ 5000) ∧ -900 ≤ T j i ∧ T j i ≤ 5000) ∧
  (∀ i j, Hd i → Hd j → ¬ i = j → (∃ q, s i + T i j + d * q = s j) ∧ T i j + T j i ≤ 0 ∧ ∀ c, Hd c → ¬ i = c → ¬ c = j → T i c + T c j ≤ T i j) ∧
  (∀ i, Hd i → T i i ≤ 0) ∧
  ∀ τ, Φ τ → (∀ i, Ti i → τ i + T i o ≤ τ o ∧ τ o + T o i ≤ τ i) ∧ (∀ i j, Ti i → Hd j → ¬ i = j → τ i + T i j ≤ τ j ∧ τ j + T j i ≤ τ i) ∧ (∀ i, Hd i → ∃ q, τ i = s i + d * q) ∧ ∃ q, τ o = x + d * q
def AlI (Ti Hd : Nat → Prop) (T : Nat → Nat → Int) (s : Nat → Int) (d x : Int) (o : Nat) (Φ : (Nat → Int) → Prop) (I O : Nat → Int) : Prop :=
  ∀ i, Ti i → (eIn Hd T s d x o i ≤ I i ∧ eOu Hd T s d x o i ≤ O i) ∧ (I i ≤ 20000 ∧ O i ≤ 20000) ∧
    (Hd i → (I i ≤ eIn Hd T s d x o i ∨ ∃ c, Hd c ∧ ¬ c = i ∧ I i ≤ T i c + eIn Hd T s d x o c) ∧ (O i ≤ eOu Hd T s d x o i ∨ ∃ c, Hd c ∧ ¬ c = i ∧ O i ≤ eOu Hd T s d x o c + T c i) ∧ (∃ q, s i + I i + d * q = x) ∧ ∃ q, x + O i + d * q = s i) ∧
    ∀ τ, Φ τ → τ i + I i ≤ τ o ∧ τ o + O i ≤ τ i
def AlD (Hd : Nat → Prop) (T : Nat → Nat → Int) (s : Nat → Int) (d x : Int) (o : Nat) (I O : Nat → Int) (i : Nat) (k : Int) : Prop := ∀ j : Nat, (j : Int) < k → Hd j → ¬ j = i → T i j + eIn Hd T s d x o j ≤ I i ∧ eOu Hd T s d x o j + T j i ≤ O i
section ALN
variable {Ti Hd : Nat → Prop} {T : Nat → Nat → Int} {s : Nat → Int} {d x : Int} {o : Nat} {Φ : (Nat → Int) → Prop} {I O I' O' : Nat → Int}
theorem up_slots {d a b t x y : Int} (hd : 0 < d) (ha : ∃ q, a = x + d * q) (hb : ∃ q, b = y + d * q) (h : a + t ≤ b) : a + (t + (y - x - t) % d) ≤ b ∧ ∃ q, x + (t + (y - x - t) % d) + d * q = y := by
  obtain ⟨p, rfl⟩ := ha
  obtain ⟨r, rfl⟩ := hb
  have e := Int.mul_ediv_add_emod (y - x - t) d
  have r1 := Int.emod_nonneg (y - x - t) (show d ≠ 0 by omega)
  have r2 := Int.emod_lt_of_pos (y - x - t) hd
  refine ⟨?_, (y - x - t) / d, by omega⟩
  -- whole turns are left
  have e2 : d * (r - p + (y - x - t) / d) = d * r - d * p + d * ((y - x - t) / d) := by rw [Int.mul_add, Int.mul_sub]
  have h0 : 0 ≤ r - p + (y - x - t) / d := by
    by_cases w : 0 ≤ r - p + (y - x - t) / d
    · exact w
    · have := Int.mul_le_mul_of_nonneg_left (show r - p + (y - x - t) / d ≤ -1 by omega) (show 0 ≤ d by omega)
      omega
  have := Int.mul_nonneg (show 0 ≤ d by omega) h0
  omega
theorem up_cong {d t x y : Int} : ∃ q, x + (t + (y - x - t) % d) + d * q = y := ⟨(y - x - t) / d, by
  have e := Int.mul_ediv_add_emod (y - x - t) d
  omega⟩
theorem eIn_rg (hC : AlC Ti Hd T s d x o Φ) {i : Nat} (h : Ti i) : (T i o ≤ eIn Hd T s d x o i ∧ eIn Hd T s d x o i ≤ T i o + 11) ∧ T o i ≤ eOu Hd T s d x o i ∧ eOu Hd T s d x o i ≤ T o i + 11 := by
  have hd := hC.1
  have a1 := Int.emod_nonneg (x - s i - T i o) (show d ≠ 0 by omega)
  have a2 := Int.emod_lt_of_pos (x - s i - T i o) hd.1
  have b1 := Int.emod_nonneg (s i - x - T o i) (show d ≠ 0 by omega)
  have b2 := Int.emod_lt_of_pos (s i - x - T o i) hd.1
  unfold eIn eOu
  by_cases w : Hd i
  · rw [cIf.y w, cIf.y w]; omega
  · rw [cIf.n w, cIf.n w]; omega
theorem eIn_n {i : Nat} (h : ¬ Hd i) : eIn Hd T s d x o i = T i o ∧ eOu Hd T s d x o i = T o i := ⟨cIf.n h, cIf.n h⟩
theorem AlI.ini (hC : AlC Ti Hd T s d x o Φ) (h : ∀ i, Ti i → I i = eIn Hd T s d x o i ∧ O i = eOu Hd T s d x o i) : AlI Ti Hd T s d x o Φ I O := by
  intro i hi
  obtain ⟨e1, e2⟩ := h i hi
  have rg := eIn_rg hC hi
  have r2 := hC.2.2.1 i hi
  refine ⟨by omega, by omega, fun w => ⟨Or.inl (by omega), Or.inl (by omega), ?_, ?_⟩, fun τ hτ => ?_⟩
  · rw [e1]
    unfold eIn
    rw [cIf.y w]
    exact up_cong
  · rw [e2]
    unfold eOu
    rw [cIf.y w]
    exact up_cong
  · obtain ⟨f1, -, f3, f4⟩ := hC.2.2.2.2.2.2 τ hτ
    have g := f1 i hi
    rw [e1, e2]
    unfold eIn eOu
    by_cases w : Hd i
    · rw [cIf.y w, cIf.y w]
      exact ⟨(up_slots hC.1.1 (f3 i w) f4 g.1).1, (up_slots hC.1.1 f4 (f3 i w) g.2).1⟩
    · rw [cIf.n w, cIf.n w]
      exact g
theorem AlI.rg (hC : AlC Ti Hd T s d x o Φ) (h : AlI Ti Hd T s d x o Φ I O) {j : Nat} (w : Hd j) : (-900 ≤ I j ∧ I j ≤ 10011) ∧ -900 ≤ O j ∧ O j ≤ 10011 := by
  have tj := hC.2.1 j w
  have a1 := (h j tj).1
  obtain ⟨b1, b2, -, -⟩ := (h j tj).2.2.1 w
  have rg := eIn_rg hC tj
  have r2 := hC.2.2.1 j tj
  constructor
  · refine ⟨by omega, ?_⟩
    rcases b1 with b | ⟨c, c1, c2, c3⟩
    · omega
    · have k := eIn_rg hC (hC.2.1 c c1)
      have k2 := hC.2.2.1 c (hC.2.1 c c1)
      have k3 := hC.2.2.2.1 j c tj c1 (fun z => c2 z.symm)
      omega
  · refine ⟨by omega, ?_⟩
    rcases b2 with b | ⟨c, c1, c2, c3⟩
    · omega
    · have k := eIn_rg hC (hC.2.1 c c1)
      have k2 := hC.2.2.1 c (hC.2.1 c c1)
      have k3 := hC.2.2.2.1 j c tj c1 (fun z => c2 z.symm)
      omega
theorem AlI.upd (hC : AlC Ti Hd T s d x o Φ) (h : AlI Ti Hd T s d x o Φ I O) {i j : Nat} (hi : Ti i) (hj : Hd j) (e1 : I' i = max (I i) (T i j + I j)) (e2 : ∀ c, ¬ c = i → I' c = I c) (e3 : O' i = max (O i) (O j + T j i)) (e4 : ∀ c, ¬ c = i → O' c = O c) : AlI Ti Hd T s d x o Φ I' O' := by
  by_cases ij : i = j
  · subst ij
    have dg := hC.2.2.2.2.2.1 i hj
    have f1 : I' i = I i := by omega
    have f2 : O' i = O i := by omega
    intro c hc
    by_cases q : c = i
    · subst q
      rw [f1, f2]; exact h c hc
    · rw [e2 c q, e4 c q]; exact h c hc
  · intro c hc
    by_cases q : c = i
    · subst q
      have a1 := (h c hc).1
      have a2 := (h c hc).2.1
      have jt := hC.2.1 j hj
      have b1 := (h j jt).1
      have rj := h.rg hC hj
      have rt := hC.2.2.2.1 c j hc hj ij
      rw [e1, e3]
      refine ⟨by omega, by omega, fun w => ?_, fun τ hτ => ?_⟩
      · obtain ⟨c1, c2, c3, c4⟩ := (h c hc).2.2.1 w
        obtain ⟨d1, d2, d3, d4⟩ := (h j jt).2.2.1 hj
        obtain ⟨k1, k2, k3⟩ := hC.2.2.2.2.1 c j w hj ij
        obtain ⟨l1, l2, l3⟩ := hC.2.2.2.2.1 j c hj w (fun z => ij z.symm)
        refine ⟨?_, ?_, cng_max c3 (cng_add k1 d3), cng_max c4 (cng_add d4 l1)⟩
        · by_cases big : T c j + I j ≤ I c
          · rw [Int.max_eq_left big]; exact c1
          · rw [Int.max_eq_right (Int.le_of_lt (Int.not_le.mp big))]
            clear c1 c2 d2
            rcases d1 with d1 | ⟨g, g1, g2, g3⟩
            · exact Or.inr ⟨j, hj, fun z => ij z.symm, by omega⟩
            · by_cases gc : g = c
              · subst gc
                exact Or.inl (by omega)
              · have m := hC.2.2.2.2.1 c g w g1 (fun z => gc z.symm)
                have := m.2.2 j hj ij (fun z => g2 z.symm)
                exact Or.inr ⟨g, g1, gc, by omega⟩
        · by_cases big : O j + T j c ≤ O c
          · rw [Int.max_eq_left big]; exact c2
          · rw [Int.max_eq_right (Int.le_of_lt (Int.not_le.mp big))]
            clear c1 c2 d1
            rcases d2 with d2 | ⟨g, g1, g2, g3⟩
            · exact Or.inr ⟨j, hj, fun z => ij z.symm, by omega⟩
            · by_cases gc : g = c
              · subst gc
                exact Or.inl (by omega)
              · have m := hC.2.2.2.2.1 g c g1 w gc
                have := m.2.2 j hj g2 (fun z => ij z.symm)
                exact Or.inr ⟨g, g1, gc, by omega⟩
      · have g := (h c hc).2.2.2 τ hτ
        have g2 := (h j jt).2.2.2 τ hτ
        have g3 := (hC.2.2.2.2.2.2 τ hτ).2.1 c j hc hj ij
        omega
    · rw [e2 c q, e4 c q]; exact h c hc
theorem AlD.upd (hC : AlC Ti Hd T s d x o Φ) (h : AlI Ti Hd T s d x o Φ I O) {i : Nat} {k k' : Int} (hD : AlD Hd T s d x o I O i k) (hk : 0 ≤ k) (e : k' = k + 1) (e1 : Hd k.toNat → I' i = max (I i) (T i k.toNat + I k.toNat) ∧ O' i = max (O i) (O k.toNat + T k.toNat i)) (e2 : ¬ Hd k.toNat → I' i = I i ∧ O' i = O i) : AlD Hd T s d x o I' O' i k' := by
  intro j hj hh hn
  have up : I i ≤ I' i ∧ O i ≤ O' i := by
    by_cases w : Hd k.toNat
    · have := e1 w; omega
    · have := e2 w; omega
  by_cases c : (j : Int) < k
  · have := hD j c hh hn
    omega
  · have ej : k.toNat = j := by omega
    rw [ej] at e1
    have q := e1 hh
    have := (h j (hC.2.1 j hh)).1
    omega
theorem AlD.cg {i : Nat} {k : Int} (h : AlD Hd T s d x o I O i k) (e1 : I' i = I i) (e2 : O' i = O i) : AlD Hd T s d x o I' O' i k := fun j hj hh hn => by
  rw [e1, e2]; exact h j hj hh hn
theorem AlI.no (h : AlI Ti Hd T s d x o Φ I O) {i : Nat} (hi : Ti i) (q : 0 < I i + O i) : ∀ τ, ¬ Φ τ := fun τ hτ => by
  have := (h i hi).2.2.2 τ hτ
  omega
theorem AlI.cl (hC : AlC Ti Hd T s d x o Φ) (h : AlI Ti Hd T s d x o Φ I O) {n : Int} (hn : ∀ i, Hd i → (i : Int) < n) (hD : ∀ i, Ti i → AlD Hd T s d x o I O i n) {i j : Nat} (hi : Hd i) (hj : Hd j) (ij : ¬ i = j) : T i j + I j ≤ I i ∧ O j + T j i ≤ O i := by
  have ti := hC.2.1 i hi
  have tj := hC.2.1 j hj
  have di := hD i ti j (hn j hj) hj (fun z => ij z.symm)
  obtain ⟨d1, d2, -, -⟩ := (h j tj).2.2.1 hj
  have ai := (h i ti).1
  obtain ⟨k1, k2, k3⟩ := hC.2.2.2.2.1 i j hi hj ij
  constructor
  · rcases d1 with d1 | ⟨g, g1, g2, g3⟩
    · omega
    · by_cases gi : g = i
      · subst gi
        omega
      · have dg := hD i ti g (hn g g1) g1 gi
        have := (hC.2.2.2.2.1 i g hi g1 (fun z => gi z.symm)).2.2 j hj ij (fun z => g2 z.symm)
        omega
  · rcases d2 with d2 | ⟨g, g1, g2, g3⟩
    · omega
    · by_cases gi : g = i
      · subst gi
        omega
      · have dg := hD i ti g (hn g g1) g1 gi
        have := (hC.2.2.2.2.1 g i g1 hi gi).2.2 j hj g2 (fun z => ij z.symm)
        omega
end ALN
end
